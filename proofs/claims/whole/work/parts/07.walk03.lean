/-! X8_find -/
def sX8_find (g : Hg) (a1 : Int32) (a2 : Int32) : Option (Int32) := if (sX1_isFind g a1) = true then (if a2 = nI 0 then ((sX4_cellOfFind g 3 a1).bind fun x_1 => (some x_1)) else (if a2 = nI 1 then ((sX1_age g a1).bind fun x_2 => (some x_2)) else (if a2 = nI 2 then ((sX1_kind g a1).bind fun x_3 => (some x_3)) else (if a2 = nI 3 then ((sX4_stateOfFind g 3 a1).bind fun x_4 => (some x_4)) else (if a2 = nI 4 then ((sX4_holder g 3 a1).bind fun x_5 => (some x_5)) else (some ((-2)))))))) else (some ((-1)))
set_option maxRecDepth 20000 in
set_option maxHeartbeats 1000000 in
theorem kX8_find (g : Hg) (q : Int64) (g2 : Hg) (q2 : Int64) (a1 : Int32) (a2 : Int32) {r : Int32} (hr : sX8_find g a1 a2 = some r) : CtI MX8_find [.ref 0, .int a1, .int a2] (g, q, g2, q2) (fun x h' => x = r ∧ h' = (g, q, g2, q2)) := by
  unfold sX8_find at hr
  refine CtI_L 0 rfl (by decide +kernel) rfl (Nat.le_of_ble_eq_true rfl) ?_
  show Ev _ _ 0 [some (.ref 0), some (.int a1), some (.int a2)] [] _
  refine Ev.aload_n (pc := 0) dX8_find_0 rfl ?_
  refine Ev.get (pc := 1) (C0 := RX8) (T := TX8) (N := 10) (fl_0_1 _ _ _ _) rfl inX8_find (by decide) lkX8_find_19 dX8_find_1 ?_
  refine Ev.iload_n (pc := 4) dX8_find_4 rfl ?_
  refine Ev.cVi (pc := 5) (As := [.int _]) (kX1_isFind _ _ _ _ _) rfl rfl (ob_2 _) gX8_find_X1_isFind hdX1_isFind rfl ⟨rfl, rfl⟩ ⟨Nat.le_of_ble_eq_true rfl, Nat.le_of_ble_eq_true rfl⟩ (Nat.le_of_ble_eq_true rfl) ⟨Nat.le_of_ble_eq_true rfl, Nat.le_of_ble_eq_true rfl⟩ dX8_find_5 ?_
  refine Ev.ifneB (pc := 8) (tgt := 13) dX8_find_8 (by decide) (fun c_1 => ?_) (fun c_1 => ?_)
  · have hr := ifp hr c_1
    refine Ev.iload_n (pc := 13) dX8_find_13 rfl ?_
    by_cases c_2 : a2 = nI 0
    · have hr := ifp hr c_2
      refine Ev.tableK (pc := 14) (tgt := 48) 0 c_2 (by decide) dX8_find_14 (by decide) rfl (by decide) ?_
      refine Ev.aload_n (pc := 48) dX8_find_48 rfl ?_
      refine Ev.get (pc := 49) (C0 := RX8) (T := TX8) (N := 10) (fl_0_2 _ _ _ _) rfl inX8_find (by decide) lkX8_find_28 dX8_find_49 ?_
      refine Ev.iload_n (pc := 52) dX8_find_52 rfl ?_
      obtain ⟨x_1, hx_1, hr⟩ := Option.bind_eq_some_iff.mp hr
      refine Ev.cVi (pc := 53) (As := [.int _]) (kX4_cellOfFind _ _ _ _ (Or.inl rfl) _ hx_1) rfl rfl (ob_3 _) gX8_find_X4_cellOfFind hdX4_cellOfFind rfl ⟨rfl, rfl⟩ ⟨Nat.le_of_ble_eq_true rfl, Nat.le_of_ble_eq_true rfl⟩ (Nat.le_of_ble_eq_true rfl) ⟨Nat.le_of_ble_eq_true rfl, Nat.le_of_ble_eq_true rfl⟩ dX8_find_53 ?_
      cases hr
      exact Ev.iret rfl rfl dX8_find_56 ⟨rfl, rfl⟩
    have hr := ifn hr c_2
    by_cases c_3 : a2 = nI 1
    · have hr := ifp hr c_3
      refine Ev.tableK (pc := 14) (tgt := 57) 1 c_3 (by decide) dX8_find_14 (by decide) rfl (by decide) ?_
      refine Ev.aload_n (pc := 57) dX8_find_57 rfl ?_
      refine Ev.get (pc := 58) (C0 := RX8) (T := TX8) (N := 10) (fl_0_1 _ _ _ _) rfl inX8_find (by decide) lkX8_find_19 dX8_find_58 ?_
      refine Ev.iload_n (pc := 61) dX8_find_61 rfl ?_
      obtain ⟨x_2, hx_2, hr⟩ := Option.bind_eq_some_iff.mp hr
      refine Ev.cVi (pc := 62) (As := [.int _]) (kX1_age _ _ _ _ _ hx_2) rfl rfl (ob_2 _) gX8_find_X1_age hdX1_age rfl ⟨rfl, rfl⟩ ⟨Nat.le_of_ble_eq_true rfl, Nat.le_of_ble_eq_true rfl⟩ (Nat.le_of_ble_eq_true rfl) ⟨Nat.le_of_ble_eq_true rfl, Nat.le_of_ble_eq_true rfl⟩ dX8_find_62 ?_
      cases hr
      exact Ev.iret rfl rfl dX8_find_65 ⟨rfl, rfl⟩
    have hr := ifn hr c_3
    by_cases c_4 : a2 = nI 2
    · have hr := ifp hr c_4
      refine Ev.tableK (pc := 14) (tgt := 66) 2 c_4 (by decide) dX8_find_14 (by decide) rfl (by decide) ?_
      refine Ev.aload_n (pc := 66) dX8_find_66 rfl ?_
      refine Ev.get (pc := 67) (C0 := RX8) (T := TX8) (N := 10) (fl_0_1 _ _ _ _) rfl inX8_find (by decide) lkX8_find_19 dX8_find_67 ?_
      refine Ev.iload_n (pc := 70) dX8_find_70 rfl ?_
      obtain ⟨x_3, hx_3, hr⟩ := Option.bind_eq_some_iff.mp hr
      refine Ev.cVi (pc := 71) (As := [.int _]) (kX1_kind _ _ _ _ _ hx_3) rfl rfl (ob_2 _) gX8_find_X1_kind hdX1_kind rfl ⟨rfl, rfl⟩ ⟨Nat.le_of_ble_eq_true rfl, Nat.le_of_ble_eq_true rfl⟩ (Nat.le_of_ble_eq_true rfl) ⟨Nat.le_of_ble_eq_true rfl, Nat.le_of_ble_eq_true rfl⟩ dX8_find_71 ?_
      cases hr
      exact Ev.iret rfl rfl dX8_find_74 ⟨rfl, rfl⟩
    have hr := ifn hr c_4
    by_cases c_5 : a2 = nI 3
    · have hr := ifp hr c_5
      refine Ev.tableK (pc := 14) (tgt := 75) 3 c_5 (by decide) dX8_find_14 (by decide) rfl (by decide) ?_
      refine Ev.aload_n (pc := 75) dX8_find_75 rfl ?_
      refine Ev.get (pc := 76) (C0 := RX8) (T := TX8) (N := 10) (fl_0_2 _ _ _ _) rfl inX8_find (by decide) lkX8_find_28 dX8_find_76 ?_
      refine Ev.iload_n (pc := 79) dX8_find_79 rfl ?_
      obtain ⟨x_4, hx_4, hr⟩ := Option.bind_eq_some_iff.mp hr
      refine Ev.cVi (pc := 80) (As := [.int _]) (kX4_stateOfFind _ _ _ _ (Or.inl rfl) _ hx_4) rfl rfl (ob_3 _) gX8_find_X4_stateOfFind hdX4_stateOfFind rfl ⟨rfl, rfl⟩ ⟨Nat.le_of_ble_eq_true rfl, Nat.le_of_ble_eq_true rfl⟩ (Nat.le_of_ble_eq_true rfl) ⟨Nat.le_of_ble_eq_true rfl, Nat.le_of_ble_eq_true rfl⟩ dX8_find_80 ?_
      cases hr
      exact Ev.iret rfl rfl dX8_find_83 ⟨rfl, rfl⟩
    have hr := ifn hr c_5
    by_cases c_6 : a2 = nI 4
    · have hr := ifp hr c_6
      refine Ev.tableK (pc := 14) (tgt := 84) 4 c_6 (by decide) dX8_find_14 (by decide) rfl (by decide) ?_
      refine Ev.aload_n (pc := 84) dX8_find_84 rfl ?_
      refine Ev.get (pc := 85) (C0 := RX8) (T := TX8) (N := 10) (fl_0_2 _ _ _ _) rfl inX8_find (by decide) lkX8_find_28 dX8_find_85 ?_
      refine Ev.iload_n (pc := 88) dX8_find_88 rfl ?_
      obtain ⟨x_5, hx_5, hr⟩ := Option.bind_eq_some_iff.mp hr
      refine Ev.cVi (pc := 89) (As := [.int _]) (kX4_holder _ _ _ _ (Or.inl rfl) _ hx_5) rfl rfl (ob_3 _) gX8_find_X4_holder hdX4_holder rfl ⟨rfl, rfl⟩ ⟨Nat.le_of_ble_eq_true rfl, Nat.le_of_ble_eq_true rfl⟩ (Nat.le_of_ble_eq_true rfl) ⟨Nat.le_of_ble_eq_true rfl, Nat.le_of_ble_eq_true rfl⟩ dX8_find_89 ?_
      cases hr
      exact Ev.iret rfl rfl dX8_find_92 ⟨rfl, rfl⟩
    have hr := ifn hr c_6
    refine Ev.tableD (pc := 14) (tgt := 93) 5 (by decide) (fun j hj => by
        have hj2 : j = 0 ∨ j = 1 ∨ j = 2 ∨ j = 3 ∨ j = 4 := by omega
        rcases hj2 with rfl | rfl | rfl | rfl | rfl <;> assumption) rfl dX8_find_14 (by decide) ?_
    refine Ev.bipush (pc := 93) (v := (-2)) dX8_find_93 (by decide) ?_
    cases hr
    exact Ev.iret rfl rfl dX8_find_95 ⟨rfl, rfl⟩
  · have hr := ifn hr (ntr c_1)
    refine Ev.iconst (pc := 11) (v := (-1)) dX8_find_11 (by decide) ?_
    cases hr
    exact Ev.iret rfl rfl dX8_find_12 ⟨rfl, rfl⟩
/-! X8_lark -/
def sX8_lark (g : Hg) (a1 : Int32) (a2 : Int32) : Option (Int32) := if (sX1_isLark g a1) = true then (if a2 = nI 0 then ((sX4_cellOfLark g 3 a1).bind fun x_1 => (some x_1)) else (if a2 = nI 1 then ((sX1_board g a1).bind fun x_2 => (some x_2)) else (if a2 = nI 2 then ((sX4_coins g 3 a1).bind fun x_3 => (some x_3)) else (if a2 = nI 3 then ((sX4_carriedBy g 3 a1).bind fun x_4 => (some x_4)) else (if a2 = nI 4 then (if (sX4_isDrowned g 3 a1) = true then (some (nI 1)) else (some (nI 0))) else (if a2 = nI 5 then (if (sX4_hasWalked g 3 a1) = true then (some (nI 1)) else (some (nI 0))) else (some ((-2))))))))) else (some ((-1)))
set_option maxRecDepth 20000 in
set_option maxHeartbeats 1000000 in
theorem kX8_lark (g : Hg) (q : Int64) (g2 : Hg) (q2 : Int64) (a1 : Int32) (a2 : Int32) {r : Int32} (hr : sX8_lark g a1 a2 = some r) : CtI MX8_lark [.ref 0, .int a1, .int a2] (g, q, g2, q2) (fun x h' => x = r ∧ h' = (g, q, g2, q2)) := by
  unfold sX8_lark at hr
  refine CtI_L 0 rfl (by decide +kernel) rfl (Nat.le_of_ble_eq_true rfl) ?_
  show Ev _ _ 0 [some (.ref 0), some (.int a1), some (.int a2)] [] _
  refine Ev.aload_n (pc := 0) dX8_lark_0 rfl ?_
  refine Ev.get (pc := 1) (C0 := RX8) (T := TX8) (N := 10) (fl_0_1 _ _ _ _) rfl inX8_lark (by decide) lkX8_lark_19 dX8_lark_1 ?_
  refine Ev.iload_n (pc := 4) dX8_lark_4 rfl ?_
  refine Ev.cVi (pc := 5) (As := [.int _]) (kX1_isLark _ _ _ _ _) rfl rfl (ob_2 _) gX8_lark_X1_isLark hdX1_isLark rfl ⟨rfl, rfl⟩ ⟨Nat.le_of_ble_eq_true rfl, Nat.le_of_ble_eq_true rfl⟩ (Nat.le_of_ble_eq_true rfl) ⟨Nat.le_of_ble_eq_true rfl, Nat.le_of_ble_eq_true rfl⟩ dX8_lark_5 ?_
  refine Ev.ifneB (pc := 8) (tgt := 13) dX8_lark_8 (by decide) (fun c_1 => ?_) (fun c_1 => ?_)
  · have hr := ifp hr c_1
    refine Ev.iload_n (pc := 13) dX8_lark_13 rfl ?_
    by_cases c_2 : a2 = nI 0
    · have hr := ifp hr c_2
      refine Ev.tableK (pc := 14) (tgt := 52) 0 c_2 (by decide) dX8_lark_14 (by decide) rfl (by decide) ?_
      refine Ev.aload_n (pc := 52) dX8_lark_52 rfl ?_
      refine Ev.get (pc := 53) (C0 := RX8) (T := TX8) (N := 10) (fl_0_2 _ _ _ _) rfl inX8_lark (by decide) lkX8_lark_28 dX8_lark_53 ?_
      refine Ev.iload_n (pc := 56) dX8_lark_56 rfl ?_
      obtain ⟨x_1, hx_1, hr⟩ := Option.bind_eq_some_iff.mp hr
      refine Ev.cVi (pc := 57) (As := [.int _]) (kX4_cellOfLark _ _ _ _ (Or.inl rfl) _ hx_1) rfl rfl (ob_3 _) gX8_lark_X4_cellOfLark hdX4_cellOfLark rfl ⟨rfl, rfl⟩ ⟨Nat.le_of_ble_eq_true rfl, Nat.le_of_ble_eq_true rfl⟩ (Nat.le_of_ble_eq_true rfl) ⟨Nat.le_of_ble_eq_true rfl, Nat.le_of_ble_eq_true rfl⟩ dX8_lark_57 ?_
      cases hr
      exact Ev.iret rfl rfl dX8_lark_60 ⟨rfl, rfl⟩
    have hr := ifn hr c_2
    by_cases c_3 : a2 = nI 1
    · have hr := ifp hr c_3
      refine Ev.tableK (pc := 14) (tgt := 61) 1 c_3 (by decide) dX8_lark_14 (by decide) rfl (by decide) ?_
      refine Ev.aload_n (pc := 61) dX8_lark_61 rfl ?_
      refine Ev.get (pc := 62) (C0 := RX8) (T := TX8) (N := 10) (fl_0_1 _ _ _ _) rfl inX8_lark (by decide) lkX8_lark_19 dX8_lark_62 ?_
      refine Ev.iload_n (pc := 65) dX8_lark_65 rfl ?_
      obtain ⟨x_2, hx_2, hr⟩ := Option.bind_eq_some_iff.mp hr
      refine Ev.cVi (pc := 66) (As := [.int _]) (kX1_board _ _ _ _ _ hx_2) rfl rfl (ob_2 _) gX8_lark_X1_board hdX1_board rfl ⟨rfl, rfl⟩ ⟨Nat.le_of_ble_eq_true rfl, Nat.le_of_ble_eq_true rfl⟩ (Nat.le_of_ble_eq_true rfl) ⟨Nat.le_of_ble_eq_true rfl, Nat.le_of_ble_eq_true rfl⟩ dX8_lark_66 ?_
      cases hr
      exact Ev.iret rfl rfl dX8_lark_69 ⟨rfl, rfl⟩
    have hr := ifn hr c_3
    by_cases c_4 : a2 = nI 2
    · have hr := ifp hr c_4
      refine Ev.tableK (pc := 14) (tgt := 70) 2 c_4 (by decide) dX8_lark_14 (by decide) rfl (by decide) ?_
      refine Ev.aload_n (pc := 70) dX8_lark_70 rfl ?_
      refine Ev.get (pc := 71) (C0 := RX8) (T := TX8) (N := 10) (fl_0_2 _ _ _ _) rfl inX8_lark (by decide) lkX8_lark_28 dX8_lark_71 ?_
      refine Ev.iload_n (pc := 74) dX8_lark_74 rfl ?_
      obtain ⟨x_3, hx_3, hr⟩ := Option.bind_eq_some_iff.mp hr
      refine Ev.cVi (pc := 75) (As := [.int _]) (kX4_coins _ _ _ _ (Or.inl rfl) _ hx_3) rfl rfl (ob_3 _) gX8_lark_X4_coins hdX4_coins rfl ⟨rfl, rfl⟩ ⟨Nat.le_of_ble_eq_true rfl, Nat.le_of_ble_eq_true rfl⟩ (Nat.le_of_ble_eq_true rfl) ⟨Nat.le_of_ble_eq_true rfl, Nat.le_of_ble_eq_true rfl⟩ dX8_lark_75 ?_
      cases hr
      exact Ev.iret rfl rfl dX8_lark_78 ⟨rfl, rfl⟩
    have hr := ifn hr c_4
    by_cases c_5 : a2 = nI 3
    · have hr := ifp hr c_5
      refine Ev.tableK (pc := 14) (tgt := 79) 3 c_5 (by decide) dX8_lark_14 (by decide) rfl (by decide) ?_
      refine Ev.aload_n (pc := 79) dX8_lark_79 rfl ?_
      refine Ev.get (pc := 80) (C0 := RX8) (T := TX8) (N := 10) (fl_0_2 _ _ _ _) rfl inX8_lark (by decide) lkX8_lark_28 dX8_lark_80 ?_
      refine Ev.iload_n (pc := 83) dX8_lark_83 rfl ?_
      obtain ⟨x_4, hx_4, hr⟩ := Option.bind_eq_some_iff.mp hr
      refine Ev.cVi (pc := 84) (As := [.int _]) (kX4_carriedBy _ _ _ _ (Or.inl rfl) _ hx_4) rfl rfl (ob_3 _) gX8_lark_X4_carriedBy hdX4_carriedBy rfl ⟨rfl, rfl⟩ ⟨Nat.le_of_ble_eq_true rfl, Nat.le_of_ble_eq_true rfl⟩ (Nat.le_of_ble_eq_true rfl) ⟨Nat.le_of_ble_eq_true rfl, Nat.le_of_ble_eq_true rfl⟩ dX8_lark_84 ?_
      cases hr
      exact Ev.iret rfl rfl dX8_lark_87 ⟨rfl, rfl⟩
    have hr := ifn hr c_5
    by_cases c_6 : a2 = nI 4
    · have hr := ifp hr c_6
      refine Ev.tableK (pc := 14) (tgt := 88) 4 c_6 (by decide) dX8_lark_14 (by decide) rfl (by decide) ?_
      refine Ev.aload_n (pc := 88) dX8_lark_88 rfl ?_
      refine Ev.get (pc := 89) (C0 := RX8) (T := TX8) (N := 10) (fl_0_2 _ _ _ _) rfl inX8_lark (by decide) lkX8_lark_28 dX8_lark_89 ?_
      refine Ev.iload_n (pc := 92) dX8_lark_92 rfl ?_
      refine Ev.cVi (pc := 93) (As := [.int _]) (kX4_isDrowned _ _ _ _ (Or.inl rfl) _) rfl rfl (ob_3 _) gX8_lark_X4_isDrowned hdX4_isDrowned rfl ⟨rfl, rfl⟩ ⟨Nat.le_of_ble_eq_true rfl, Nat.le_of_ble_eq_true rfl⟩ (Nat.le_of_ble_eq_true rfl) ⟨Nat.le_of_ble_eq_true rfl, Nat.le_of_ble_eq_true rfl⟩ dX8_lark_93 ?_
      refine Ev.ifeqB (pc := 96) (tgt := 103) dX8_lark_96 (by decide) (fun c_7 => ?_) (fun c_7 => ?_)
      · have hr := ifn hr (ntr c_7)
        refine Ev.iconst (pc := 103) (v := nI 0) dX8_lark_103 (by decide) ?_
        cases hr
        exact Ev.iret rfl rfl dX8_lark_104 ⟨rfl, rfl⟩
      · have hr := ifp hr c_7
        refine Ev.iconst (pc := 99) (v := nI 1) dX8_lark_99 (by decide) ?_
        refine Ev.goto (pc := 100) (tgt := 104) dX8_lark_100 (by decide) ?_
        cases hr
        exact Ev.iret rfl rfl dX8_lark_104 ⟨rfl, rfl⟩
    have hr := ifn hr c_6
    by_cases c_8 : a2 = nI 5
    · have hr := ifp hr c_8
      refine Ev.tableK (pc := 14) (tgt := 105) 5 c_8 (by decide) dX8_lark_14 (by decide) rfl (by decide) ?_
      refine Ev.aload_n (pc := 105) dX8_lark_105 rfl ?_
      refine Ev.get (pc := 106) (C0 := RX8) (T := TX8) (N := 10) (fl_0_2 _ _ _ _) rfl inX8_lark (by decide) lkX8_lark_28 dX8_lark_106 ?_
      refine Ev.iload_n (pc := 109) dX8_lark_109 rfl ?_
      refine Ev.cVi (pc := 110) (As := [.int _]) (kX4_hasWalked _ _ _ _ (Or.inl rfl) _) rfl rfl (ob_3 _) gX8_lark_X4_hasWalked hdX4_hasWalked rfl ⟨rfl, rfl⟩ ⟨Nat.le_of_ble_eq_true rfl, Nat.le_of_ble_eq_true rfl⟩ (Nat.le_of_ble_eq_true rfl) ⟨Nat.le_of_ble_eq_true rfl, Nat.le_of_ble_eq_true rfl⟩ dX8_lark_110 ?_
      refine Ev.ifeqB (pc := 113) (tgt := 120) dX8_lark_113 (by decide) (fun c_9 => ?_) (fun c_9 => ?_)
      · have hr := ifn hr (ntr c_9)
        refine Ev.iconst (pc := 120) (v := nI 0) dX8_lark_120 (by decide) ?_
        cases hr
        exact Ev.iret rfl rfl dX8_lark_121 ⟨rfl, rfl⟩
      · have hr := ifp hr c_9
        refine Ev.iconst (pc := 116) (v := nI 1) dX8_lark_116 (by decide) ?_
        refine Ev.goto (pc := 117) (tgt := 121) dX8_lark_117 (by decide) ?_
        cases hr
        exact Ev.iret rfl rfl dX8_lark_121 ⟨rfl, rfl⟩
    have hr := ifn hr c_8
    refine Ev.tableD (pc := 14) (tgt := 122) 6 (by decide) (fun j hj => by
        have hj2 : j = 0 ∨ j = 1 ∨ j = 2 ∨ j = 3 ∨ j = 4 ∨ j = 5 := by omega
        rcases hj2 with rfl | rfl | rfl | rfl | rfl | rfl <;> assumption) rfl dX8_lark_14 (by decide) ?_
    refine Ev.bipush (pc := 122) (v := (-2)) dX8_lark_122 (by decide) ?_
    cases hr
    exact Ev.iret rfl rfl dX8_lark_124 ⟨rfl, rfl⟩
  · have hr := ifn hr (ntr c_1)
    refine Ev.iconst (pc := 11) (v := (-1)) dX8_lark_11 (by decide) ?_
    cases hr
    exact Ev.iret rfl rfl dX8_lark_12 ⟨rfl, rfl⟩
/-! X8_walk -/
def sX8_walk (g : Hg) (a1 : Int32) (a2 : Int32) : Option (Int32 × Hg) := if (sX1_isLark g a1) = true then (if (sX8_within a2 (nI 1) (nI 4)) = true then ((sX4_canWalk g 3 a1 a2).bind fun x_1 => (if x_1 = true then ((sX0_remember g).bind fun x_2 => ((sX4_tryWalk x_2 3 a1 a2).bind fun x_3 => ((sX4_cellOfLark x_3.2 3 a1).bind fun x_4 => (some (x_4, x_3.2))))) else (some ((-3), g)))) else (some ((-2), g))) else (some ((-1), g))
set_option maxRecDepth 20000 in
set_option maxHeartbeats 1000000 in
theorem kX8_walk (g : Hg) (q : Int64) (g2 : Hg) (q2 : Int64) (a1 : Int32) (a2 : Int32) {r : Int32 × Hg} (hr : sX8_walk g a1 a2 = some r) : CtI MX8_walk [.ref 0, .int a1, .int a2] (g, q, g2, q2) (fun x h' => x = r.1 ∧ h' = (r.2, q, g2, q2)) := by
  unfold sX8_walk at hr
  refine CtI_L 0 rfl (by decide +kernel) rfl (Nat.le_of_ble_eq_true rfl) ?_
  show Ev _ _ 0 [some (.ref 0), some (.int a1), some (.int a2)] [] _
  refine Ev.aload_n (pc := 0) dX8_walk_0 rfl ?_
  refine Ev.get (pc := 1) (C0 := RX8) (T := TX8) (N := 10) (fl_0_1 _ _ _ _) rfl inX8_walk (by decide) lkX8_walk_19 dX8_walk_1 ?_
  refine Ev.iload_n (pc := 4) dX8_walk_4 rfl ?_
  refine Ev.cVi (pc := 5) (As := [.int _]) (kX1_isLark _ _ _ _ _) rfl rfl (ob_2 _) gX8_walk_X1_isLark hdX1_isLark rfl ⟨rfl, rfl⟩ ⟨Nat.le_of_ble_eq_true rfl, Nat.le_of_ble_eq_true rfl⟩ (Nat.le_of_ble_eq_true rfl) ⟨Nat.le_of_ble_eq_true rfl, Nat.le_of_ble_eq_true rfl⟩ dX8_walk_5 ?_
  refine Ev.ifneB (pc := 8) (tgt := 13) dX8_walk_8 (by decide) (fun c_1 => ?_) (fun c_1 => ?_)
  · have hr := ifp hr c_1
    refine Ev.iload_n (pc := 13) dX8_walk_13 rfl ?_
    refine Ev.iconst (pc := 14) (v := nI 1) dX8_walk_14 (by decide) ?_
    refine Ev.iconst (pc := 15) (v := nI 4) dX8_walk_15 (by decide) ?_
    refine Ev.cSi (pc := 16) (As := [.int _, .int _, .int _]) (kX8_within _ _ _ _ _ _ _) rfl gX8_walk_X8_within hdX8_within rfl ⟨rfl, rfl⟩ ⟨Nat.le_of_ble_eq_true rfl, Nat.le_of_ble_eq_true rfl⟩ (Nat.le_of_ble_eq_true rfl) ⟨Nat.le_of_ble_eq_true rfl, Nat.le_of_ble_eq_true rfl⟩ dX8_walk_16 ?_
    refine Ev.ifneB (pc := 19) (tgt := 25) dX8_walk_19 (by decide) (fun c_2 => ?_) (fun c_2 => ?_)
    · have hr := ifp hr c_2
      refine Ev.aload_n (pc := 25) dX8_walk_25 rfl ?_
      refine Ev.get (pc := 26) (C0 := RX8) (T := TX8) (N := 10) (fl_0_2 _ _ _ _) rfl inX8_walk (by decide) lkX8_walk_28 dX8_walk_26 ?_
      refine Ev.iload_n (pc := 29) dX8_walk_29 rfl ?_
      refine Ev.iload_n (pc := 30) dX8_walk_30 rfl ?_
      obtain ⟨x_1, hx_1, hr⟩ := Option.bind_eq_some_iff.mp hr
      refine Ev.cVi (pc := 31) (As := [.int _, .int _]) (kX4_canWalk _ _ _ _ (Or.inl rfl) _ _ hx_1) rfl rfl (ob_3 _) gX8_walk_X4_canWalk hdX4_canWalk rfl ⟨rfl, rfl⟩ ⟨Nat.le_of_ble_eq_true rfl, Nat.le_of_ble_eq_true rfl⟩ (Nat.le_of_ble_eq_true rfl) ⟨Nat.le_of_ble_eq_true rfl, Nat.le_of_ble_eq_true rfl⟩ dX8_walk_31 ?_
      refine Ev.ifneB (pc := 34) (tgt := 40) dX8_walk_34 (by decide) (fun c_3 => ?_) (fun c_3 => ?_)
      · have hr := ifp hr c_3
        refine Ev.aload_n (pc := 40) dX8_walk_40 rfl ?_
        refine Ev.get (pc := 41) (C0 := RX8) (T := TX8) (N := 10) (fl_0_4 _ _ _ _) rfl inX8_walk (by decide) lkX8_walk_38 dX8_walk_41 ?_
        refine Ev.aload_n (pc := 44) dX8_walk_44 rfl ?_
        refine Ev.get (pc := 45) (C0 := RX8) (T := TX8) (N := 10) (fl_0_2 _ _ _ _) rfl inX8_walk (by decide) lkX8_walk_28 dX8_walk_45 ?_
        obtain ⟨x_2, hx_2, hr⟩ := Option.bind_eq_some_iff.mp hr
        refine Ev.cVv (pc := 48) (As := [.ref 3]) (kX0_remember _ _ _ _ hx_2) rfl rfl (ob_5 _) gX8_walk_X0_remember hdX0_remember rfl ⟨rfl, rfl⟩ ⟨Nat.le_of_ble_eq_true rfl, Nat.le_of_ble_eq_true rfl⟩ (Nat.le_of_ble_eq_true rfl) ⟨Nat.le_of_ble_eq_true rfl, Nat.le_of_ble_eq_true rfl⟩ dX8_walk_48 ?_
        refine Ev.aload_n (pc := 51) dX8_walk_51 rfl ?_
        refine Ev.get (pc := 52) (C0 := RX8) (T := TX8) (N := 10) (fl_0_2 _ _ _ _) rfl inX8_walk (by decide) lkX8_walk_28 dX8_walk_52 ?_
        refine Ev.iload_n (pc := 55) dX8_walk_55 rfl ?_
        refine Ev.iload_n (pc := 56) dX8_walk_56 rfl ?_
        obtain ⟨x_3, hx_3, hr⟩ := Option.bind_eq_some_iff.mp hr
        refine Ev.cVi (pc := 57) (As := [.int _, .int _]) (kX4_tryWalk _ _ _ _ (Or.inl rfl) _ _ hx_3) rfl rfl (ob_3 _) gX8_walk_X4_tryWalk hdX4_tryWalk rfl ⟨rfl, rfl⟩ ⟨Nat.le_of_ble_eq_true rfl, Nat.le_of_ble_eq_true rfl⟩ (Nat.le_of_ble_eq_true rfl) ⟨Nat.le_of_ble_eq_true rfl, Nat.le_of_ble_eq_true rfl⟩ dX8_walk_57 ?_
        refine Ev.pop (pc := 60) dX8_walk_60 rfl ?_
        refine Ev.aload_n (pc := 61) dX8_walk_61 rfl ?_
        refine Ev.get (pc := 62) (C0 := RX8) (T := TX8) (N := 10) (fl_0_2 _ _ _ _) rfl inX8_walk (by decide) lkX8_walk_28 dX8_walk_62 ?_
        refine Ev.iload_n (pc := 65) dX8_walk_65 rfl ?_
        obtain ⟨x_4, hx_4, hr⟩ := Option.bind_eq_some_iff.mp hr
        refine Ev.cVi (pc := 66) (As := [.int _]) (kX4_cellOfLark _ _ _ _ (Or.inl rfl) _ hx_4) rfl rfl (ob_3 _) gX8_walk_X4_cellOfLark hdX4_cellOfLark rfl ⟨rfl, rfl⟩ ⟨Nat.le_of_ble_eq_true rfl, Nat.le_of_ble_eq_true rfl⟩ (Nat.le_of_ble_eq_true rfl) ⟨Nat.le_of_ble_eq_true rfl, Nat.le_of_ble_eq_true rfl⟩ dX8_walk_66 ?_
        cases hr
        exact Ev.iret rfl rfl dX8_walk_69 ⟨rfl, rfl⟩
      · have hr := ifn hr (ntr c_3)
        refine Ev.bipush (pc := 37) (v := (-3)) dX8_walk_37 (by decide) ?_
        cases hr
        exact Ev.iret rfl rfl dX8_walk_39 ⟨rfl, rfl⟩
    · have hr := ifn hr (ntr c_2)
      refine Ev.bipush (pc := 22) (v := (-2)) dX8_walk_22 (by decide) ?_
      cases hr
      exact Ev.iret rfl rfl dX8_walk_24 ⟨rfl, rfl⟩
  · have hr := ifn hr (ntr c_1)
    refine Ev.iconst (pc := 11) (v := (-1)) dX8_walk_11 (by decide) ?_
    cases hr
    exact Ev.iret rfl rfl dX8_walk_12 ⟨rfl, rfl⟩
/-! X8_hour -/
def sX8_hour (g : Hg) : Option (Int32 × Hg) := (sX0_remember g).bind fun x_1 => ((sX4_passHour x_1 3).bind fun x_2 => (some (x_2.1, x_2.2)))
set_option maxRecDepth 20000 in
set_option maxHeartbeats 1000000 in
theorem kX8_hour (g : Hg) (q : Int64) (g2 : Hg) (q2 : Int64) {r : Int32 × Hg} (hr : sX8_hour g = some r) : CtI MX8_hour [.ref 0] (g, q, g2, q2) (fun x h' => x = r.1 ∧ h' = (r.2, q, g2, q2)) := by
  unfold sX8_hour at hr
  refine CtI_L 0 rfl (by decide +kernel) rfl (Nat.le_of_ble_eq_true rfl) ?_
  show Ev _ _ 0 [some (.ref 0)] [] _
  refine Ev.aload_n (pc := 0) dX8_hour_0 rfl ?_
  refine Ev.get (pc := 1) (C0 := RX8) (T := TX8) (N := 10) (fl_0_4 _ _ _ _) rfl inX8_hour (by decide) lkX8_hour_38 dX8_hour_1 ?_
  refine Ev.aload_n (pc := 4) dX8_hour_4 rfl ?_
  refine Ev.get (pc := 5) (C0 := RX8) (T := TX8) (N := 10) (fl_0_2 _ _ _ _) rfl inX8_hour (by decide) lkX8_hour_28 dX8_hour_5 ?_
  obtain ⟨x_1, hx_1, hr⟩ := Option.bind_eq_some_iff.mp hr
  refine Ev.cVv (pc := 8) (As := [.ref 3]) (kX0_remember _ _ _ _ hx_1) rfl rfl (ob_5 _) gX8_hour_X0_remember hdX0_remember rfl ⟨rfl, rfl⟩ ⟨Nat.le_of_ble_eq_true rfl, Nat.le_of_ble_eq_true rfl⟩ (Nat.le_of_ble_eq_true rfl) ⟨Nat.le_of_ble_eq_true rfl, Nat.le_of_ble_eq_true rfl⟩ dX8_hour_8 ?_
  refine Ev.aload_n (pc := 11) dX8_hour_11 rfl ?_
  refine Ev.get (pc := 12) (C0 := RX8) (T := TX8) (N := 10) (fl_0_2 _ _ _ _) rfl inX8_hour (by decide) lkX8_hour_28 dX8_hour_12 ?_
  obtain ⟨x_2, hx_2, hr⟩ := Option.bind_eq_some_iff.mp hr
  refine Ev.cVi (pc := 15) (As := []) (kX4_passHour _ _ _ _ (Or.inl rfl) hx_2) rfl rfl (ob_3 _) gX8_hour_X4_passHour hdX4_passHour rfl ⟨rfl, rfl⟩ ⟨Nat.le_of_ble_eq_true rfl, Nat.le_of_ble_eq_true rfl⟩ (Nat.le_of_ble_eq_true rfl) ⟨Nat.le_of_ble_eq_true rfl, Nat.le_of_ble_eq_true rfl⟩ dX8_hour_15 ?_
  cases hr
  exact Ev.iret rfl rfl dX8_hour_18 ⟨rfl, rfl⟩
/-! X8_dig -/
def sX8_dig (g : Hg) (a1 : Int32) (a2 : Int32) : Option (Int32 × Hg) := if (sX1_isLark g a1) = true then (if (sX1_isFind g a2) = true then ((sX4_canDig g 3 a1 a2).bind fun x_1 => (if x_1 = true then ((sX0_remember g).bind fun x_2 => ((sX4_tryDig x_2 3 a1 a2).bind fun x_3 => ((sX4_carriedBy x_3.2 3 a1).bind fun x_4 => (some (sJ6_bitCount_0f7a4 x_4, x_3.2))))) else (some ((-3), g)))) else (some ((-1), g))) else (some ((-1), g))
set_option maxRecDepth 20000 in
set_option maxHeartbeats 1000000 in
theorem kX8_dig (g : Hg) (q : Int64) (g2 : Hg) (q2 : Int64) (a1 : Int32) (a2 : Int32) {r : Int32 × Hg} (hr : sX8_dig g a1 a2 = some r) : CtI MX8_dig [.ref 0, .int a1, .int a2] (g, q, g2, q2) (fun x h' => x = r.1 ∧ h' = (r.2, q, g2, q2)) := by
  unfold sX8_dig at hr
  refine CtI_L 0 rfl (by decide +kernel) rfl (Nat.le_of_ble_eq_true rfl) ?_
  show Ev _ _ 0 [some (.ref 0), some (.int a1), some (.int a2)] [] _
  refine Ev.aload_n (pc := 0) dX8_dig_0 rfl ?_
  refine Ev.get (pc := 1) (C0 := RX8) (T := TX8) (N := 10) (fl_0_1 _ _ _ _) rfl inX8_dig (by decide) lkX8_dig_19 dX8_dig_1 ?_
  refine Ev.iload_n (pc := 4) dX8_dig_4 rfl ?_
  refine Ev.cVi (pc := 5) (As := [.int _]) (kX1_isLark _ _ _ _ _) rfl rfl (ob_2 _) gX8_dig_X1_isLark hdX1_isLark rfl ⟨rfl, rfl⟩ ⟨Nat.le_of_ble_eq_true rfl, Nat.le_of_ble_eq_true rfl⟩ (Nat.le_of_ble_eq_true rfl) ⟨Nat.le_of_ble_eq_true rfl, Nat.le_of_ble_eq_true rfl⟩ dX8_dig_5 ?_
  refine Ev.ifeqB (pc := 8) (tgt := 22) dX8_dig_8 (by decide) (fun c_1 => ?_) (fun c_1 => ?_)
  · have hr := ifn hr (ntr c_1)
    refine Ev.iconst (pc := 22) (v := (-1)) dX8_dig_22 (by decide) ?_
    cases hr
    exact Ev.iret rfl rfl dX8_dig_23 ⟨rfl, rfl⟩
  · have hr := ifp hr c_1
    refine Ev.aload_n (pc := 11) dX8_dig_11 rfl ?_
    refine Ev.get (pc := 12) (C0 := RX8) (T := TX8) (N := 10) (fl_0_1 _ _ _ _) rfl inX8_dig (by decide) lkX8_dig_19 dX8_dig_12 ?_
    refine Ev.iload_n (pc := 15) dX8_dig_15 rfl ?_
    refine Ev.cVi (pc := 16) (As := [.int _]) (kX1_isFind _ _ _ _ _) rfl rfl (ob_2 _) gX8_dig_X1_isFind hdX1_isFind rfl ⟨rfl, rfl⟩ ⟨Nat.le_of_ble_eq_true rfl, Nat.le_of_ble_eq_true rfl⟩ (Nat.le_of_ble_eq_true rfl) ⟨Nat.le_of_ble_eq_true rfl, Nat.le_of_ble_eq_true rfl⟩ dX8_dig_16 ?_
    refine Ev.ifneB (pc := 19) (tgt := 24) dX8_dig_19 (by decide) (fun c_2 => ?_) (fun c_2 => ?_)
    · have hr := ifp hr c_2
      refine Ev.aload_n (pc := 24) dX8_dig_24 rfl ?_
      refine Ev.get (pc := 25) (C0 := RX8) (T := TX8) (N := 10) (fl_0_2 _ _ _ _) rfl inX8_dig (by decide) lkX8_dig_28 dX8_dig_25 ?_
      refine Ev.iload_n (pc := 28) dX8_dig_28 rfl ?_
      refine Ev.iload_n (pc := 29) dX8_dig_29 rfl ?_
      obtain ⟨x_1, hx_1, hr⟩ := Option.bind_eq_some_iff.mp hr
      refine Ev.cVi (pc := 30) (As := [.int _, .int _]) (kX4_canDig _ _ _ _ (Or.inl rfl) _ _ hx_1) rfl rfl (ob_3 _) gX8_dig_X4_canDig hdX4_canDig rfl ⟨rfl, rfl⟩ ⟨Nat.le_of_ble_eq_true rfl, Nat.le_of_ble_eq_true rfl⟩ (Nat.le_of_ble_eq_true rfl) ⟨Nat.le_of_ble_eq_true rfl, Nat.le_of_ble_eq_true rfl⟩ dX8_dig_30 ?_
      refine Ev.ifneB (pc := 33) (tgt := 39) dX8_dig_33 (by decide) (fun c_3 => ?_) (fun c_3 => ?_)
      · have hr := ifp hr c_3
        refine Ev.aload_n (pc := 39) dX8_dig_39 rfl ?_
        refine Ev.get (pc := 40) (C0 := RX8) (T := TX8) (N := 10) (fl_0_4 _ _ _ _) rfl inX8_dig (by decide) lkX8_dig_38 dX8_dig_40 ?_
        refine Ev.aload_n (pc := 43) dX8_dig_43 rfl ?_
        refine Ev.get (pc := 44) (C0 := RX8) (T := TX8) (N := 10) (fl_0_2 _ _ _ _) rfl inX8_dig (by decide) lkX8_dig_28 dX8_dig_44 ?_
        obtain ⟨x_2, hx_2, hr⟩ := Option.bind_eq_some_iff.mp hr
        refine Ev.cVv (pc := 47) (As := [.ref 3]) (kX0_remember _ _ _ _ hx_2) rfl rfl (ob_5 _) gX8_dig_X0_remember hdX0_remember rfl ⟨rfl, rfl⟩ ⟨Nat.le_of_ble_eq_true rfl, Nat.le_of_ble_eq_true rfl⟩ (Nat.le_of_ble_eq_true rfl) ⟨Nat.le_of_ble_eq_true rfl, Nat.le_of_ble_eq_true rfl⟩ dX8_dig_47 ?_
        refine Ev.aload_n (pc := 50) dX8_dig_50 rfl ?_
        refine Ev.get (pc := 51) (C0 := RX8) (T := TX8) (N := 10) (fl_0_2 _ _ _ _) rfl inX8_dig (by decide) lkX8_dig_28 dX8_dig_51 ?_
        refine Ev.iload_n (pc := 54) dX8_dig_54 rfl ?_
        refine Ev.iload_n (pc := 55) dX8_dig_55 rfl ?_
        obtain ⟨x_3, hx_3, hr⟩ := Option.bind_eq_some_iff.mp hr
        refine Ev.cVi (pc := 56) (As := [.int _, .int _]) (kX4_tryDig _ _ _ _ (Or.inl rfl) _ _ hx_3) rfl rfl (ob_3 _) gX8_dig_X4_tryDig hdX4_tryDig rfl ⟨rfl, rfl⟩ ⟨Nat.le_of_ble_eq_true rfl, Nat.le_of_ble_eq_true rfl⟩ (Nat.le_of_ble_eq_true rfl) ⟨Nat.le_of_ble_eq_true rfl, Nat.le_of_ble_eq_true rfl⟩ dX8_dig_56 ?_
        refine Ev.pop (pc := 59) dX8_dig_59 rfl ?_
        refine Ev.aload_n (pc := 60) dX8_dig_60 rfl ?_
        refine Ev.get (pc := 61) (C0 := RX8) (T := TX8) (N := 10) (fl_0_2 _ _ _ _) rfl inX8_dig (by decide) lkX8_dig_28 dX8_dig_61 ?_
        refine Ev.iload_n (pc := 64) dX8_dig_64 rfl ?_
        obtain ⟨x_4, hx_4, hr⟩ := Option.bind_eq_some_iff.mp hr
        refine Ev.cVi (pc := 65) (As := [.int _]) (kX4_carriedBy _ _ _ _ (Or.inl rfl) _ hx_4) rfl rfl (ob_3 _) gX8_dig_X4_carriedBy hdX4_carriedBy rfl ⟨rfl, rfl⟩ ⟨Nat.le_of_ble_eq_true rfl, Nat.le_of_ble_eq_true rfl⟩ (Nat.le_of_ble_eq_true rfl) ⟨Nat.le_of_ble_eq_true rfl, Nat.le_of_ble_eq_true rfl⟩ dX8_dig_65 ?_
        refine Ev.cSi (pc := 68) (As := [.int _]) (kJ6_bitCount_0f7a4 _ _ _ _ _) rfl gX8_dig_J6_bitCount_0f7a4 hdJ6_bitCount_0f7a4 rfl ⟨rfl, rfl⟩ ⟨Nat.le_of_ble_eq_true rfl, Nat.le_of_ble_eq_true rfl⟩ (Nat.le_of_ble_eq_true rfl) ⟨Nat.le_of_ble_eq_true rfl, Nat.le_of_ble_eq_true rfl⟩ dX8_dig_68 ?_
        cases hr
        exact Ev.iret rfl rfl dX8_dig_71 ⟨rfl, rfl⟩
      · have hr := ifn hr (ntr c_3)
        refine Ev.bipush (pc := 36) (v := (-3)) dX8_dig_36 (by decide) ?_
        cases hr
        exact Ev.iret rfl rfl dX8_dig_38 ⟨rfl, rfl⟩
    · have hr := ifn hr (ntr c_2)
      refine Ev.iconst (pc := 22) (v := (-1)) dX8_dig_22 (by decide) ?_
      cases hr
      exact Ev.iret rfl rfl dX8_dig_23 ⟨rfl, rfl⟩
/-! X8_put -/
def sX8_put (g : Hg) (a1 : Int32) : Option (Int32 × Hg) := if (sX1_isLark g a1) = true then ((sX4_carriedBy g 3 a1).bind fun x_1 => (if x_1 = 0 then (some ((-3), g)) else ((sX0_remember g).bind fun x_2 => ((sX4_layDown x_2 3 a1).bind fun x_3 => (some (sJ6_bitCount_0f7a4 x_1, x_3)))))) else (some ((-1), g))
set_option maxRecDepth 20000 in
set_option maxHeartbeats 1000000 in
theorem kX8_put (g : Hg) (q : Int64) (g2 : Hg) (q2 : Int64) (a1 : Int32) {r : Int32 × Hg} (hr : sX8_put g a1 = some r) : CtI MX8_put [.ref 0, .int a1] (g, q, g2, q2) (fun x h' => x = r.1 ∧ h' = (r.2, q, g2, q2)) := by
  unfold sX8_put at hr
  refine CtI_L 1 rfl (by decide +kernel) rfl (Nat.le_of_ble_eq_true rfl) ?_
  show Ev _ _ 0 [some (.ref 0), some (.int a1), none] [] _
  refine Ev.aload_n (pc := 0) dX8_put_0 rfl ?_
  refine Ev.get (pc := 1) (C0 := RX8) (T := TX8) (N := 10) (fl_0_1 _ _ _ _) rfl inX8_put (by decide) lkX8_put_19 dX8_put_1 ?_
  refine Ev.iload_n (pc := 4) dX8_put_4 rfl ?_
  refine Ev.cVi (pc := 5) (As := [.int _]) (kX1_isLark _ _ _ _ _) rfl rfl (ob_2 _) gX8_put_X1_isLark hdX1_isLark rfl ⟨rfl, rfl⟩ ⟨Nat.le_of_ble_eq_true rfl, Nat.le_of_ble_eq_true rfl⟩ (Nat.le_of_ble_eq_true rfl) ⟨Nat.le_of_ble_eq_true rfl, Nat.le_of_ble_eq_true rfl⟩ dX8_put_5 ?_
  refine Ev.ifneB (pc := 8) (tgt := 13) dX8_put_8 (by decide) (fun c_1 => ?_) (fun c_1 => ?_)
  · have hr := ifp hr c_1
    refine Ev.aload_n (pc := 13) dX8_put_13 rfl ?_
    refine Ev.get (pc := 14) (C0 := RX8) (T := TX8) (N := 10) (fl_0_2 _ _ _ _) rfl inX8_put (by decide) lkX8_put_28 dX8_put_14 ?_
    refine Ev.iload_n (pc := 17) dX8_put_17 rfl ?_
    obtain ⟨x_1, hx_1, hr⟩ := Option.bind_eq_some_iff.mp hr
    refine Ev.cVi (pc := 18) (As := [.int _]) (kX4_carriedBy _ _ _ _ (Or.inl rfl) _ hx_1) rfl rfl (ob_3 _) gX8_put_X4_carriedBy hdX4_carriedBy rfl ⟨rfl, rfl⟩ ⟨Nat.le_of_ble_eq_true rfl, Nat.le_of_ble_eq_true rfl⟩ (Nat.le_of_ble_eq_true rfl) ⟨Nat.le_of_ble_eq_true rfl, Nat.le_of_ble_eq_true rfl⟩ dX8_put_18 ?_
    refine Ev.istore_n (pc := 21) dX8_put_21 rfl rfl ?_
    refine Ev.iload_n (pc := 22) dX8_put_22 rfl ?_
    refine Ev.ifne (pc := 23) (tgt := 29) dX8_put_23 (by decide) (fun c_2 => ?_) (fun c_2 => ?_)
    · have hr := ifn hr c_2
      refine Ev.aload_n (pc := 29) dX8_put_29 rfl ?_
      refine Ev.get (pc := 30) (C0 := RX8) (T := TX8) (N := 10) (fl_0_4 _ _ _ _) rfl inX8_put (by decide) lkX8_put_38 dX8_put_30 ?_
      refine Ev.aload_n (pc := 33) dX8_put_33 rfl ?_
      refine Ev.get (pc := 34) (C0 := RX8) (T := TX8) (N := 10) (fl_0_2 _ _ _ _) rfl inX8_put (by decide) lkX8_put_28 dX8_put_34 ?_
      obtain ⟨x_2, hx_2, hr⟩ := Option.bind_eq_some_iff.mp hr
      refine Ev.cVv (pc := 37) (As := [.ref 3]) (kX0_remember _ _ _ _ hx_2) rfl rfl (ob_5 _) gX8_put_X0_remember hdX0_remember rfl ⟨rfl, rfl⟩ ⟨Nat.le_of_ble_eq_true rfl, Nat.le_of_ble_eq_true rfl⟩ (Nat.le_of_ble_eq_true rfl) ⟨Nat.le_of_ble_eq_true rfl, Nat.le_of_ble_eq_true rfl⟩ dX8_put_37 ?_
      refine Ev.aload_n (pc := 40) dX8_put_40 rfl ?_
      refine Ev.get (pc := 41) (C0 := RX8) (T := TX8) (N := 10) (fl_0_2 _ _ _ _) rfl inX8_put (by decide) lkX8_put_28 dX8_put_41 ?_
      refine Ev.iload_n (pc := 44) dX8_put_44 rfl ?_
      obtain ⟨x_3, hx_3, hr⟩ := Option.bind_eq_some_iff.mp hr
      refine Ev.cVv (pc := 45) (As := [.int _]) (kX4_layDown _ _ _ _ (Or.inl rfl) _ hx_3) rfl rfl (ob_3 _) gX8_put_X4_layDown hdX4_layDown rfl ⟨rfl, rfl⟩ ⟨Nat.le_of_ble_eq_true rfl, Nat.le_of_ble_eq_true rfl⟩ (Nat.le_of_ble_eq_true rfl) ⟨Nat.le_of_ble_eq_true rfl, Nat.le_of_ble_eq_true rfl⟩ dX8_put_45 ?_
      refine Ev.iload_n (pc := 48) dX8_put_48 rfl ?_
      refine Ev.cSi (pc := 49) (As := [.int _]) (kJ6_bitCount_0f7a4 _ _ _ _ _) rfl gX8_put_J6_bitCount_0f7a4 hdJ6_bitCount_0f7a4 rfl ⟨rfl, rfl⟩ ⟨Nat.le_of_ble_eq_true rfl, Nat.le_of_ble_eq_true rfl⟩ (Nat.le_of_ble_eq_true rfl) ⟨Nat.le_of_ble_eq_true rfl, Nat.le_of_ble_eq_true rfl⟩ dX8_put_49 ?_
      cases hr
      exact Ev.iret rfl rfl dX8_put_52 ⟨rfl, rfl⟩
    · have hr := ifp hr c_2
      refine Ev.bipush (pc := 26) (v := (-3)) dX8_put_26 (by decide) ?_
      cases hr
      exact Ev.iret rfl rfl dX8_put_28 ⟨rfl, rfl⟩
  · have hr := ifn hr (ntr c_1)
    refine Ev.iconst (pc := 11) (v := (-1)) dX8_put_11 (by decide) ?_
    cases hr
    exact Ev.iret rfl rfl dX8_put_12 ⟨rfl, rfl⟩
/-! X8_sell -/
def sX8_sell (g : Hg) (a1 : Int32) : Option (Int32 × Hg) := if (sX1_isLark g a1) = true then ((sX4_canSell g 3 a1).bind fun x_1 => (if x_1 = true then ((sX0_remember g).bind fun x_2 => ((sX4_trySell x_2 3 a1).bind fun x_3 => ((sX4_coins x_3.2 3 a1).bind fun x_4 => (some (x_4, x_3.2))))) else (some ((-3), g)))) else (some ((-1), g))
set_option maxRecDepth 20000 in
set_option maxHeartbeats 1000000 in
theorem kX8_sell (g : Hg) (q : Int64) (g2 : Hg) (q2 : Int64) (a1 : Int32) {r : Int32 × Hg} (hr : sX8_sell g a1 = some r) : CtI MX8_sell [.ref 0, .int a1] (g, q, g2, q2) (fun x h' => x = r.1 ∧ h' = (r.2, q, g2, q2)) := by
  unfold sX8_sell at hr
  refine CtI_L 0 rfl (by decide +kernel) rfl (Nat.le_of_ble_eq_true rfl) ?_
  show Ev _ _ 0 [some (.ref 0), some (.int a1)] [] _
  refine Ev.aload_n (pc := 0) dX8_sell_0 rfl ?_
  refine Ev.get (pc := 1) (C0 := RX8) (T := TX8) (N := 10) (fl_0_1 _ _ _ _) rfl inX8_sell (by decide) lkX8_sell_19 dX8_sell_1 ?_
  refine Ev.iload_n (pc := 4) dX8_sell_4 rfl ?_
  refine Ev.cVi (pc := 5) (As := [.int _]) (kX1_isLark _ _ _ _ _) rfl rfl (ob_2 _) gX8_sell_X1_isLark hdX1_isLark rfl ⟨rfl, rfl⟩ ⟨Nat.le_of_ble_eq_true rfl, Nat.le_of_ble_eq_true rfl⟩ (Nat.le_of_ble_eq_true rfl) ⟨Nat.le_of_ble_eq_true rfl, Nat.le_of_ble_eq_true rfl⟩ dX8_sell_5 ?_
  refine Ev.ifneB (pc := 8) (tgt := 13) dX8_sell_8 (by decide) (fun c_1 => ?_) (fun c_1 => ?_)
  · have hr := ifp hr c_1
    refine Ev.aload_n (pc := 13) dX8_sell_13 rfl ?_
    refine Ev.get (pc := 14) (C0 := RX8) (T := TX8) (N := 10) (fl_0_2 _ _ _ _) rfl inX8_sell (by decide) lkX8_sell_28 dX8_sell_14 ?_
    refine Ev.iload_n (pc := 17) dX8_sell_17 rfl ?_
    obtain ⟨x_1, hx_1, hr⟩ := Option.bind_eq_some_iff.mp hr
    refine Ev.cVi (pc := 18) (As := [.int _]) (kX4_canSell _ _ _ _ (Or.inl rfl) _ hx_1) rfl rfl (ob_3 _) gX8_sell_X4_canSell hdX4_canSell rfl ⟨rfl, rfl⟩ ⟨Nat.le_of_ble_eq_true rfl, Nat.le_of_ble_eq_true rfl⟩ (Nat.le_of_ble_eq_true rfl) ⟨Nat.le_of_ble_eq_true rfl, Nat.le_of_ble_eq_true rfl⟩ dX8_sell_18 ?_
    refine Ev.ifneB (pc := 21) (tgt := 27) dX8_sell_21 (by decide) (fun c_2 => ?_) (fun c_2 => ?_)
    · have hr := ifp hr c_2
      refine Ev.aload_n (pc := 27) dX8_sell_27 rfl ?_
      refine Ev.get (pc := 28) (C0 := RX8) (T := TX8) (N := 10) (fl_0_4 _ _ _ _) rfl inX8_sell (by decide) lkX8_sell_38 dX8_sell_28 ?_
      refine Ev.aload_n (pc := 31) dX8_sell_31 rfl ?_
      refine Ev.get (pc := 32) (C0 := RX8) (T := TX8) (N := 10) (fl_0_2 _ _ _ _) rfl inX8_sell (by decide) lkX8_sell_28 dX8_sell_32 ?_
      obtain ⟨x_2, hx_2, hr⟩ := Option.bind_eq_some_iff.mp hr
      refine Ev.cVv (pc := 35) (As := [.ref 3]) (kX0_remember _ _ _ _ hx_2) rfl rfl (ob_5 _) gX8_sell_X0_remember hdX0_remember rfl ⟨rfl, rfl⟩ ⟨Nat.le_of_ble_eq_true rfl, Nat.le_of_ble_eq_true rfl⟩ (Nat.le_of_ble_eq_true rfl) ⟨Nat.le_of_ble_eq_true rfl, Nat.le_of_ble_eq_true rfl⟩ dX8_sell_35 ?_
      refine Ev.aload_n (pc := 38) dX8_sell_38 rfl ?_
      refine Ev.get (pc := 39) (C0 := RX8) (T := TX8) (N := 10) (fl_0_2 _ _ _ _) rfl inX8_sell (by decide) lkX8_sell_28 dX8_sell_39 ?_
      refine Ev.iload_n (pc := 42) dX8_sell_42 rfl ?_
      obtain ⟨x_3, hx_3, hr⟩ := Option.bind_eq_some_iff.mp hr
      refine Ev.cVi (pc := 43) (As := [.int _]) (kX4_trySell _ _ _ _ (Or.inl rfl) _ hx_3) rfl rfl (ob_3 _) gX8_sell_X4_trySell hdX4_trySell rfl ⟨rfl, rfl⟩ ⟨Nat.le_of_ble_eq_true rfl, Nat.le_of_ble_eq_true rfl⟩ (Nat.le_of_ble_eq_true rfl) ⟨Nat.le_of_ble_eq_true rfl, Nat.le_of_ble_eq_true rfl⟩ dX8_sell_43 ?_
      refine Ev.pop (pc := 46) dX8_sell_46 rfl ?_
      refine Ev.aload_n (pc := 47) dX8_sell_47 rfl ?_
      refine Ev.get (pc := 48) (C0 := RX8) (T := TX8) (N := 10) (fl_0_2 _ _ _ _) rfl inX8_sell (by decide) lkX8_sell_28 dX8_sell_48 ?_
      refine Ev.iload_n (pc := 51) dX8_sell_51 rfl ?_
      obtain ⟨x_4, hx_4, hr⟩ := Option.bind_eq_some_iff.mp hr
      refine Ev.cVi (pc := 52) (As := [.int _]) (kX4_coins _ _ _ _ (Or.inl rfl) _ hx_4) rfl rfl (ob_3 _) gX8_sell_X4_coins hdX4_coins rfl ⟨rfl, rfl⟩ ⟨Nat.le_of_ble_eq_true rfl, Nat.le_of_ble_eq_true rfl⟩ (Nat.le_of_ble_eq_true rfl) ⟨Nat.le_of_ble_eq_true rfl, Nat.le_of_ble_eq_true rfl⟩ dX8_sell_52 ?_
      cases hr
      exact Ev.iret rfl rfl dX8_sell_55 ⟨rfl, rfl⟩
    · have hr := ifn hr (ntr c_2)
      refine Ev.bipush (pc := 24) (v := (-3)) dX8_sell_24 (by decide) ?_
      cases hr
      exact Ev.iret rfl rfl dX8_sell_26 ⟨rfl, rfl⟩
  · have hr := ifn hr (ntr c_1)
    refine Ev.iconst (pc := 11) (v := (-1)) dX8_sell_11 (by decide) ?_
    cases hr
    exact Ev.iret rfl rfl dX8_sell_12 ⟨rfl, rfl⟩
/-! X8_undo -/
def sX8_undo (g : Hg) : Option (Int32 × Hg) := if (sX0_size g) = 0 then (some ((-3), g)) else ((sX0_takeBack g).bind fun x_1 => (some (sX0_size x_1, x_1)))
set_option maxRecDepth 20000 in
set_option maxHeartbeats 1000000 in
theorem kX8_undo (g : Hg) (q : Int64) (g2 : Hg) (q2 : Int64) {r : Int32 × Hg} (hr : sX8_undo g = some r) : CtI MX8_undo [.ref 0] (g, q, g2, q2) (fun x h' => x = r.1 ∧ h' = (r.2, q, g2, q2)) := by
  unfold sX8_undo at hr
  refine CtI_L 0 rfl (by decide +kernel) rfl (Nat.le_of_ble_eq_true rfl) ?_
  show Ev _ _ 0 [some (.ref 0)] [] _
  refine Ev.aload_n (pc := 0) dX8_undo_0 rfl ?_
  refine Ev.get (pc := 1) (C0 := RX8) (T := TX8) (N := 10) (fl_0_4 _ _ _ _) rfl inX8_undo (by decide) lkX8_undo_38 dX8_undo_1 ?_
  refine Ev.cVi (pc := 4) (As := []) (kX0_size _ _ _ _) rfl rfl (ob_5 _) gX8_undo_X0_size hdX0_size rfl ⟨rfl, rfl⟩ ⟨Nat.le_of_ble_eq_true rfl, Nat.le_of_ble_eq_true rfl⟩ (Nat.le_of_ble_eq_true rfl) ⟨Nat.le_of_ble_eq_true rfl, Nat.le_of_ble_eq_true rfl⟩ dX8_undo_4 ?_
  refine Ev.ifne (pc := 7) (tgt := 13) dX8_undo_7 (by decide) (fun c_1 => ?_) (fun c_1 => ?_)
  · have hr := ifn hr c_1
    refine Ev.aload_n (pc := 13) dX8_undo_13 rfl ?_
    refine Ev.get (pc := 14) (C0 := RX8) (T := TX8) (N := 10) (fl_0_4 _ _ _ _) rfl inX8_undo (by decide) lkX8_undo_38 dX8_undo_14 ?_
    refine Ev.aload_n (pc := 17) dX8_undo_17 rfl ?_
    refine Ev.get (pc := 18) (C0 := RX8) (T := TX8) (N := 10) (fl_0_2 _ _ _ _) rfl inX8_undo (by decide) lkX8_undo_28 dX8_undo_18 ?_
    obtain ⟨x_1, hx_1, hr⟩ := Option.bind_eq_some_iff.mp hr
    refine Ev.cVv (pc := 21) (As := [.ref 3]) (kX0_takeBack _ _ _ _ hx_1) rfl rfl (ob_5 _) gX8_undo_X0_takeBack hdX0_takeBack rfl ⟨rfl, rfl⟩ ⟨Nat.le_of_ble_eq_true rfl, Nat.le_of_ble_eq_true rfl⟩ (Nat.le_of_ble_eq_true rfl) ⟨Nat.le_of_ble_eq_true rfl, Nat.le_of_ble_eq_true rfl⟩ dX8_undo_21 ?_
    refine Ev.aload_n (pc := 24) dX8_undo_24 rfl ?_
    refine Ev.get (pc := 25) (C0 := RX8) (T := TX8) (N := 10) (fl_0_4 _ _ _ _) rfl inX8_undo (by decide) lkX8_undo_38 dX8_undo_25 ?_
    refine Ev.cVi (pc := 28) (As := []) (kX0_size _ _ _ _) rfl rfl (ob_5 _) gX8_undo_X0_size hdX0_size rfl ⟨rfl, rfl⟩ ⟨Nat.le_of_ble_eq_true rfl, Nat.le_of_ble_eq_true rfl⟩ (Nat.le_of_ble_eq_true rfl) ⟨Nat.le_of_ble_eq_true rfl, Nat.le_of_ble_eq_true rfl⟩ dX8_undo_28 ?_
    cases hr
    exact Ev.iret rfl rfl dX8_undo_31 ⟨rfl, rfl⟩
  · have hr := ifp hr c_1
    refine Ev.bipush (pc := 10) (v := (-3)) dX8_undo_10 (by decide) ?_
    cases hr
    exact Ev.iret rfl rfl dX8_undo_12 ⟨rfl, rfl⟩
/-! X8_bared -/
def sX8_bared (g : Hg) (a1 : Int32) : Option (Int32) := if (sX8_within a1 (nI 0) (nI 20)) = true then ((sX1_baredCells g ((sX4_now g 3) + a1)).bind fun x_1 => (some x_1)) else (some ((-2)))
set_option maxRecDepth 20000 in
set_option maxHeartbeats 1000000 in
theorem kX8_bared (g : Hg) (q : Int64) (g2 : Hg) (q2 : Int64) (a1 : Int32) {r : Int32} (hr : sX8_bared g a1 = some r) : CtI MX8_bared [.ref 0, .int a1] (g, q, g2, q2) (fun x h' => x = r ∧ h' = (g, q, g2, q2)) := by
  unfold sX8_bared at hr
  refine CtI_L 0 rfl (by decide +kernel) rfl (Nat.le_of_ble_eq_true rfl) ?_
  show Ev _ _ 0 [some (.ref 0), some (.int a1)] [] _
  refine Ev.iload_n (pc := 0) dX8_bared_0 rfl ?_
  refine Ev.iconst (pc := 1) (v := nI 0) dX8_bared_1 (by decide) ?_
  refine Ev.bipush (pc := 2) (v := nI 20) dX8_bared_2 (by decide) ?_
  refine Ev.cSi (pc := 4) (As := [.int _, .int _, .int _]) (kX8_within _ _ _ _ _ _ _) rfl gX8_bared_X8_within hdX8_within rfl ⟨rfl, rfl⟩ ⟨Nat.le_of_ble_eq_true rfl, Nat.le_of_ble_eq_true rfl⟩ (Nat.le_of_ble_eq_true rfl) ⟨Nat.le_of_ble_eq_true rfl, Nat.le_of_ble_eq_true rfl⟩ dX8_bared_4 ?_
  refine Ev.ifneB (pc := 7) (tgt := 13) dX8_bared_7 (by decide) (fun c_1 => ?_) (fun c_1 => ?_)
  · have hr := ifp hr c_1
    refine Ev.aload_n (pc := 13) dX8_bared_13 rfl ?_
    refine Ev.get (pc := 14) (C0 := RX8) (T := TX8) (N := 10) (fl_0_1 _ _ _ _) rfl inX8_bared (by decide) lkX8_bared_19 dX8_bared_14 ?_
    refine Ev.aload_n (pc := 17) dX8_bared_17 rfl ?_
    refine Ev.get (pc := 18) (C0 := RX8) (T := TX8) (N := 10) (fl_0_2 _ _ _ _) rfl inX8_bared (by decide) lkX8_bared_28 dX8_bared_18 ?_
    refine Ev.cVi (pc := 21) (As := []) (kX4_now _ _ _ _ (Or.inl rfl)) rfl rfl (ob_3 _) gX8_bared_X4_now hdX4_now rfl ⟨rfl, rfl⟩ ⟨Nat.le_of_ble_eq_true rfl, Nat.le_of_ble_eq_true rfl⟩ (Nat.le_of_ble_eq_true rfl) ⟨Nat.le_of_ble_eq_true rfl, Nat.le_of_ble_eq_true rfl⟩ dX8_bared_21 ?_
    refine Ev.iload_n (pc := 24) dX8_bared_24 rfl ?_
    refine Ev.iadd (pc := 25) dX8_bared_25 ?_
    obtain ⟨x_1, hx_1, hr⟩ := Option.bind_eq_some_iff.mp hr
    refine Ev.cVi (pc := 26) (As := [.int _]) (kX1_baredCells _ _ _ _ _ hx_1) rfl rfl (ob_2 _) gX8_bared_X1_baredCells hdX1_baredCells rfl ⟨rfl, rfl⟩ ⟨Nat.le_of_ble_eq_true rfl, Nat.le_of_ble_eq_true rfl⟩ (Nat.le_of_ble_eq_true rfl) ⟨Nat.le_of_ble_eq_true rfl, Nat.le_of_ble_eq_true rfl⟩ dX8_bared_26 ?_
    cases hr
    exact Ev.iret rfl rfl dX8_bared_29 ⟨rfl, rfl⟩
  · have hr := ifn hr (ntr c_1)
    refine Ev.bipush (pc := 10) (v := (-2)) dX8_bared_10 (by decide) ?_
    cases hr
    exact Ev.iret rfl rfl dX8_bared_12 ⟨rfl, rfl⟩
/-! X8_flooded -/
def sX8_flooded_14 (g : Hg) (v1 : Int32) : Nat → Int32 → Option (Int32)
  | 0, _ => none
  | n + 1, v2 => if (nI 20) < v2 then (some ((-9))) else ((sX1_isBared g v1 ((sX4_now g 3) + v2)).bind fun x_1 => (if x_1 = true then (sX8_flooded_14 g v1 n (v2 + (nI 1))) else (some v2)))
set_option maxRecDepth 20000 in
set_option maxHeartbeats 1000000 in
theorem kX8_flooded_14 (g : Hg) (q : Int64) (g2 : Hg) (q2 : Int64)  (v1 : Int32) (r : Int32) : ∀ (n : Nat) (v2 : Int32), sX8_flooded_14 g v1 n v2 = some r → Ev (Xi (fun x h' => x = r ∧ h' = (g, q, g2, q2))) MX8_flooded 14 [some (.ref 0), some (.int v1), some (.int v2)] [] (g, q, g2, q2) := by
  intro n
  induction n with
  | zero => intro _ hr; cases hr
  | succ n ih =>
    intro v2 hr
    rw [sX8_flooded_14] at hr
    refine Ev.iload_n (pc := 14) dX8_flooded_14 rfl ?_
    refine Ev.bipush (pc := 15) (v := nI 20) dX8_flooded_15 (by decide) ?_
    refine Ev.icmpgt (pc := 17) (tgt := 48) dX8_flooded_17 (by decide) (fun c_2 => ?_) (fun c_2 => ?_)
    · have hr := ifp hr c_2
      refine Ev.bipush (pc := 48) (v := (-9)) dX8_flooded_48 (by decide) ?_
      cases hr
      exact Ev.iret rfl rfl dX8_flooded_50 ⟨rfl, rfl⟩
    · have hr := ifn hr c_2
      refine Ev.aload_n (pc := 20) dX8_flooded_20 rfl ?_
      refine Ev.get (pc := 21) (C0 := RX8) (T := TX8) (N := 10) (fl_0_1 _ _ _ _) rfl inX8_flooded (by decide) lkX8_flooded_19 dX8_flooded_21 ?_
      refine Ev.iload_n (pc := 24) dX8_flooded_24 rfl ?_
      refine Ev.aload_n (pc := 25) dX8_flooded_25 rfl ?_
      refine Ev.get (pc := 26) (C0 := RX8) (T := TX8) (N := 10) (fl_0_2 _ _ _ _) rfl inX8_flooded (by decide) lkX8_flooded_28 dX8_flooded_26 ?_
      refine Ev.cVi (pc := 29) (As := []) (kX4_now _ _ _ _ (Or.inl rfl)) rfl rfl (ob_3 _) gX8_flooded_X4_now hdX4_now rfl ⟨rfl, rfl⟩ ⟨Nat.le_of_ble_eq_true rfl, Nat.le_of_ble_eq_true rfl⟩ (Nat.le_of_ble_eq_true rfl) ⟨Nat.le_of_ble_eq_true rfl, Nat.le_of_ble_eq_true rfl⟩ dX8_flooded_29 ?_
      refine Ev.iload_n (pc := 32) dX8_flooded_32 rfl ?_
      refine Ev.iadd (pc := 33) dX8_flooded_33 ?_
      obtain ⟨x_1, hx_1, hr⟩ := Option.bind_eq_some_iff.mp hr
      refine Ev.cVi (pc := 34) (As := [.int _, .int _]) (kX1_isBared _ _ _ _ _ _ hx_1) rfl rfl (ob_2 _) gX8_flooded_X1_isBared hdX1_isBared rfl ⟨rfl, rfl⟩ ⟨Nat.le_of_ble_eq_true rfl, Nat.le_of_ble_eq_true rfl⟩ (Nat.le_of_ble_eq_true rfl) ⟨Nat.le_of_ble_eq_true rfl, Nat.le_of_ble_eq_true rfl⟩ dX8_flooded_34 ?_
      refine Ev.ifneB (pc := 37) (tgt := 42) dX8_flooded_37 (by decide) (fun c_3 => ?_) (fun c_3 => ?_)
      · have hr := ifp hr c_3
        refine Ev.iinc (pc := 42) (v := nI 1) dX8_flooded_42 rfl rfl rfl rfl ?_
        refine Ev.goto (pc := 45) (tgt := 14) dX8_flooded_45 (by decide) ?_
        exact ih _ hr
      · have hr := ifn hr (ntr c_3)
        refine Ev.iload_n (pc := 40) dX8_flooded_40 rfl ?_
        cases hr
        exact Ev.iret rfl rfl dX8_flooded_41 ⟨rfl, rfl⟩
def sX8_flooded (g : Hg) (a1 : Int32) : Option (Int32) := if (sX8_within a1 (nI 0) (nI 11)) = true then (sX8_flooded_14 g a1 100 (nI 0)) else (some ((-1)))
set_option maxRecDepth 20000 in
set_option maxHeartbeats 1000000 in
theorem kX8_flooded (g : Hg) (q : Int64) (g2 : Hg) (q2 : Int64) (a1 : Int32) {r : Int32} (hr : sX8_flooded g a1 = some r) : CtI MX8_flooded [.ref 0, .int a1] (g, q, g2, q2) (fun x h' => x = r ∧ h' = (g, q, g2, q2)) := by
  unfold sX8_flooded at hr
  refine CtI_L 1 rfl (by decide +kernel) rfl (Nat.le_of_ble_eq_true rfl) ?_
  show Ev _ _ 0 [some (.ref 0), some (.int a1), none] [] _
  refine Ev.iload_n (pc := 0) dX8_flooded_0 rfl ?_
  refine Ev.iconst (pc := 1) (v := nI 0) dX8_flooded_1 (by decide) ?_
  refine Ev.bipush (pc := 2) (v := nI 11) dX8_flooded_2 (by decide) ?_
  refine Ev.cSi (pc := 4) (As := [.int _, .int _, .int _]) (kX8_within _ _ _ _ _ _ _) rfl gX8_flooded_X8_within hdX8_within rfl ⟨rfl, rfl⟩ ⟨Nat.le_of_ble_eq_true rfl, Nat.le_of_ble_eq_true rfl⟩ (Nat.le_of_ble_eq_true rfl) ⟨Nat.le_of_ble_eq_true rfl, Nat.le_of_ble_eq_true rfl⟩ dX8_flooded_4 ?_
  refine Ev.ifneB (pc := 7) (tgt := 12) dX8_flooded_7 (by decide) (fun c_1 => ?_) (fun c_1 => ?_)
  · have hr := ifp hr c_1
    refine Ev.iconst (pc := 12) (v := nI 0) dX8_flooded_12 (by decide) ?_
    refine Ev.istore_n (pc := 13) dX8_flooded_13 rfl rfl ?_
    exact kX8_flooded_14 _ _ _ _ _ _ 100 _ hr
  · have hr := ifn hr (ntr c_1)
    refine Ev.iconst (pc := 10) (v := (-1)) dX8_flooded_10 (by decide) ?_
    cases hr
    exact Ev.iret rfl rfl dX8_flooded_11 ⟨rfl, rfl⟩
/-! X8_reach -/
def sX8_reach (g : Hg) (a1 : Int32) (a2 : Int32) : Option (Int32) := if (sX1_isLark g a1) = true then (if (sX8_within a2 (nI 0) (nI 9)) = true then (if (sX4_isDrowned g 3 a1) = true then (some ((-3))) else ((sX3_cellsIn g a1 a2).bind fun x_1 => (some x_1))) else (some ((-2)))) else (some ((-1)))
set_option maxRecDepth 20000 in
set_option maxHeartbeats 1000000 in
theorem kX8_reach (g : Hg) (q : Int64) (g2 : Hg) (q2 : Int64) (a1 : Int32) (a2 : Int32) {r : Int32} (hr : sX8_reach g a1 a2 = some r) : CtI MX8_reach [.ref 0, .int a1, .int a2] (g, q, g2, q2) (fun x h' => x = r ∧ h' = (g, q, g2, q2)) := by
  unfold sX8_reach at hr
  refine CtI_L 0 rfl (by decide +kernel) rfl (Nat.le_of_ble_eq_true rfl) ?_
  show Ev _ _ 0 [some (.ref 0), some (.int a1), some (.int a2)] [] _
  refine Ev.aload_n (pc := 0) dX8_reach_0 rfl ?_
  refine Ev.get (pc := 1) (C0 := RX8) (T := TX8) (N := 10) (fl_0_1 _ _ _ _) rfl inX8_reach (by decide) lkX8_reach_19 dX8_reach_1 ?_
  refine Ev.iload_n (pc := 4) dX8_reach_4 rfl ?_
  refine Ev.cVi (pc := 5) (As := [.int _]) (kX1_isLark _ _ _ _ _) rfl rfl (ob_2 _) gX8_reach_X1_isLark hdX1_isLark rfl ⟨rfl, rfl⟩ ⟨Nat.le_of_ble_eq_true rfl, Nat.le_of_ble_eq_true rfl⟩ (Nat.le_of_ble_eq_true rfl) ⟨Nat.le_of_ble_eq_true rfl, Nat.le_of_ble_eq_true rfl⟩ dX8_reach_5 ?_
  refine Ev.ifneB (pc := 8) (tgt := 13) dX8_reach_8 (by decide) (fun c_1 => ?_) (fun c_1 => ?_)
  · have hr := ifp hr c_1
    refine Ev.iload_n (pc := 13) dX8_reach_13 rfl ?_
    refine Ev.iconst (pc := 14) (v := nI 0) dX8_reach_14 (by decide) ?_
    refine Ev.bipush (pc := 15) (v := nI 9) dX8_reach_15 (by decide) ?_
    refine Ev.cSi (pc := 17) (As := [.int _, .int _, .int _]) (kX8_within _ _ _ _ _ _ _) rfl gX8_reach_X8_within hdX8_within rfl ⟨rfl, rfl⟩ ⟨Nat.le_of_ble_eq_true rfl, Nat.le_of_ble_eq_true rfl⟩ (Nat.le_of_ble_eq_true rfl) ⟨Nat.le_of_ble_eq_true rfl, Nat.le_of_ble_eq_true rfl⟩ dX8_reach_17 ?_
    refine Ev.ifneB (pc := 20) (tgt := 26) dX8_reach_20 (by decide) (fun c_2 => ?_) (fun c_2 => ?_)
    · have hr := ifp hr c_2
      refine Ev.aload_n (pc := 26) dX8_reach_26 rfl ?_
      refine Ev.get (pc := 27) (C0 := RX8) (T := TX8) (N := 10) (fl_0_2 _ _ _ _) rfl inX8_reach (by decide) lkX8_reach_28 dX8_reach_27 ?_
      refine Ev.iload_n (pc := 30) dX8_reach_30 rfl ?_
      refine Ev.cVi (pc := 31) (As := [.int _]) (kX4_isDrowned _ _ _ _ (Or.inl rfl) _) rfl rfl (ob_3 _) gX8_reach_X4_isDrowned hdX4_isDrowned rfl ⟨rfl, rfl⟩ ⟨Nat.le_of_ble_eq_true rfl, Nat.le_of_ble_eq_true rfl⟩ (Nat.le_of_ble_eq_true rfl) ⟨Nat.le_of_ble_eq_true rfl, Nat.le_of_ble_eq_true rfl⟩ dX8_reach_31 ?_
      refine Ev.ifeqB (pc := 34) (tgt := 42) dX8_reach_34 (by decide) (fun c_3 => ?_) (fun c_3 => ?_)
      · have hr := ifn hr (ntr c_3)
        refine Ev.aload_n (pc := 42) dX8_reach_42 rfl ?_
        refine Ev.get (pc := 43) (C0 := RX8) (T := TX8) (N := 10) (fl_0_7 _ _ _ _) rfl inX8_reach (by decide) lkX8_reach_61 dX8_reach_43 ?_
        refine Ev.iload_n (pc := 46) dX8_reach_46 rfl ?_
        refine Ev.iload_n (pc := 47) dX8_reach_47 rfl ?_
        obtain ⟨x_1, hx_1, hr⟩ := Option.bind_eq_some_iff.mp hr
        refine Ev.cVi (pc := 48) (As := [.int _, .int _]) (kX3_cellsIn _ _ _ _ _ _ hx_1) rfl rfl (ob_8 _) gX8_reach_X3_cellsIn hdX3_cellsIn rfl ⟨rfl, rfl⟩ ⟨Nat.le_of_ble_eq_true rfl, Nat.le_of_ble_eq_true rfl⟩ (Nat.le_of_ble_eq_true rfl) ⟨Nat.le_of_ble_eq_true rfl, Nat.le_of_ble_eq_true rfl⟩ dX8_reach_48 ?_
        cases hr
        exact Ev.iret rfl rfl dX8_reach_51 ⟨rfl, rfl⟩
      · have hr := ifp hr c_3
        refine Ev.bipush (pc := 37) (v := (-3)) dX8_reach_37 (by decide) ?_
        refine Ev.goto (pc := 39) (tgt := 51) dX8_reach_39 (by decide) ?_
        cases hr
        exact Ev.iret rfl rfl dX8_reach_51 ⟨rfl, rfl⟩
    · have hr := ifn hr (ntr c_2)
      refine Ev.bipush (pc := 23) (v := (-2)) dX8_reach_23 (by decide) ?_
      cases hr
      exact Ev.iret rfl rfl dX8_reach_25 ⟨rfl, rfl⟩
  · have hr := ifn hr (ntr c_1)
    refine Ev.iconst (pc := 11) (v := (-1)) dX8_reach_11 (by decide) ?_
    cases hr
    exact Ev.iret rfl rfl dX8_reach_12 ⟨rfl, rfl⟩
/-! X8_home -/
def sX8_home (g : Hg) (a1 : Int32) : Option (Int32) := if (sX1_isLark g a1) = true then (if (sX4_isDrowned g 3 a1) = true then (some ((-3))) else ((sX3_hoursHome g a1).bind fun x_1 => (some x_1))) else (some ((-1)))
set_option maxRecDepth 20000 in
set_option maxHeartbeats 1000000 in
theorem kX8_home (g : Hg) (q : Int64) (g2 : Hg) (q2 : Int64) (a1 : Int32) {r : Int32} (hr : sX8_home g a1 = some r) : CtI MX8_home [.ref 0, .int a1] (g, q, g2, q2) (fun x h' => x = r ∧ h' = (g, q, g2, q2)) := by
  unfold sX8_home at hr
  refine CtI_L 0 rfl (by decide +kernel) rfl (Nat.le_of_ble_eq_true rfl) ?_
  show Ev _ _ 0 [some (.ref 0), some (.int a1)] [] _
  refine Ev.aload_n (pc := 0) dX8_home_0 rfl ?_
  refine Ev.get (pc := 1) (C0 := RX8) (T := TX8) (N := 10) (fl_0_1 _ _ _ _) rfl inX8_home (by decide) lkX8_home_19 dX8_home_1 ?_
  refine Ev.iload_n (pc := 4) dX8_home_4 rfl ?_
  refine Ev.cVi (pc := 5) (As := [.int _]) (kX1_isLark _ _ _ _ _) rfl rfl (ob_2 _) gX8_home_X1_isLark hdX1_isLark rfl ⟨rfl, rfl⟩ ⟨Nat.le_of_ble_eq_true rfl, Nat.le_of_ble_eq_true rfl⟩ (Nat.le_of_ble_eq_true rfl) ⟨Nat.le_of_ble_eq_true rfl, Nat.le_of_ble_eq_true rfl⟩ dX8_home_5 ?_
  refine Ev.ifneB (pc := 8) (tgt := 13) dX8_home_8 (by decide) (fun c_1 => ?_) (fun c_1 => ?_)
  · have hr := ifp hr c_1
    refine Ev.aload_n (pc := 13) dX8_home_13 rfl ?_
    refine Ev.get (pc := 14) (C0 := RX8) (T := TX8) (N := 10) (fl_0_2 _ _ _ _) rfl inX8_home (by decide) lkX8_home_28 dX8_home_14 ?_
    refine Ev.iload_n (pc := 17) dX8_home_17 rfl ?_
    refine Ev.cVi (pc := 18) (As := [.int _]) (kX4_isDrowned _ _ _ _ (Or.inl rfl) _) rfl rfl (ob_3 _) gX8_home_X4_isDrowned hdX4_isDrowned rfl ⟨rfl, rfl⟩ ⟨Nat.le_of_ble_eq_true rfl, Nat.le_of_ble_eq_true rfl⟩ (Nat.le_of_ble_eq_true rfl) ⟨Nat.le_of_ble_eq_true rfl, Nat.le_of_ble_eq_true rfl⟩ dX8_home_18 ?_
    refine Ev.ifeqB (pc := 21) (tgt := 29) dX8_home_21 (by decide) (fun c_2 => ?_) (fun c_2 => ?_)
    · have hr := ifn hr (ntr c_2)
      refine Ev.aload_n (pc := 29) dX8_home_29 rfl ?_
      refine Ev.get (pc := 30) (C0 := RX8) (T := TX8) (N := 10) (fl_0_7 _ _ _ _) rfl inX8_home (by decide) lkX8_home_61 dX8_home_30 ?_
      refine Ev.iload_n (pc := 33) dX8_home_33 rfl ?_
      obtain ⟨x_1, hx_1, hr⟩ := Option.bind_eq_some_iff.mp hr
      refine Ev.cVi (pc := 34) (As := [.int _]) (kX3_hoursHome _ _ _ _ _ hx_1) rfl rfl (ob_8 _) gX8_home_X3_hoursHome hdX3_hoursHome rfl ⟨rfl, rfl⟩ ⟨Nat.le_of_ble_eq_true rfl, Nat.le_of_ble_eq_true rfl⟩ (Nat.le_of_ble_eq_true rfl) ⟨Nat.le_of_ble_eq_true rfl, Nat.le_of_ble_eq_true rfl⟩ dX8_home_34 ?_
      cases hr
      exact Ev.iret rfl rfl dX8_home_37 ⟨rfl, rfl⟩
    · have hr := ifp hr c_2
      refine Ev.bipush (pc := 24) (v := (-3)) dX8_home_24 (by decide) ?_
      refine Ev.goto (pc := 26) (tgt := 37) dX8_home_26 (by decide) ?_
      cases hr
      exact Ev.iret rfl rfl dX8_home_37 ⟨rfl, rfl⟩
  · have hr := ifn hr (ntr c_1)
    refine Ev.iconst (pc := 11) (v := (-1)) dX8_home_11 (by decide) ?_
    cases hr
    exact Ev.iret rfl rfl dX8_home_12 ⟨rfl, rfl⟩
/-! X8_gets -/
def sX8_gets (g : Hg) (a1 : Int32) (a2 : Int32) (a3 : Int32) : Option (Int32 × Hg) := if (sX1_isLark g a1) = true then (if (sX8_within a2 (nI 1) (nI 9)) = true then (if (sX8_within a3 (nI 0) (nI 1)) = true then (if (sX4_isDrowned g 3 a1) = true then (some ((-3), g)) else ((sX3_bestFind g a1 a2).bind fun x_1 => (if x_1.1 = ((-9)) then (some (x_1.1, x_1.2)) else (if a3 = 0 then (some (x_1.1, x_1.2)) else ((sX3_worthToGet x_1.2 x_1.1).bind fun x_2 => (some (x_2, x_1.2))))))) else (some ((-2), g))) else (some ((-2), g))) else (some ((-1), g))
set_option maxRecDepth 20000 in
set_option maxHeartbeats 1000000 in
theorem kX8_gets (g : Hg) (q : Int64) (g2 : Hg) (q2 : Int64) (a1 : Int32) (a2 : Int32) (a3 : Int32) {r : Int32 × Hg} (hr : sX8_gets g a1 a2 a3 = some r) : CtI MX8_gets [.ref 0, .int a1, .int a2, .int a3] (g, q, g2, q2) (fun x h' => x = r.1 ∧ h' = (r.2, q, g2, q2)) := by
  unfold sX8_gets at hr
  refine CtI_L 1 rfl (by decide +kernel) rfl (Nat.le_of_ble_eq_true rfl) ?_
  show Ev _ _ 0 [some (.ref 0), some (.int a1), some (.int a2), some (.int a3), none] [] _
  refine Ev.aload_n (pc := 0) dX8_gets_0 rfl ?_
  refine Ev.get (pc := 1) (C0 := RX8) (T := TX8) (N := 10) (fl_0_1 _ _ _ _) rfl inX8_gets (by decide) lkX8_gets_19 dX8_gets_1 ?_
  refine Ev.iload_n (pc := 4) dX8_gets_4 rfl ?_
  refine Ev.cVi (pc := 5) (As := [.int _]) (kX1_isLark _ _ _ _ _) rfl rfl (ob_2 _) gX8_gets_X1_isLark hdX1_isLark rfl ⟨rfl, rfl⟩ ⟨Nat.le_of_ble_eq_true rfl, Nat.le_of_ble_eq_true rfl⟩ (Nat.le_of_ble_eq_true rfl) ⟨Nat.le_of_ble_eq_true rfl, Nat.le_of_ble_eq_true rfl⟩ dX8_gets_5 ?_
  refine Ev.ifneB (pc := 8) (tgt := 13) dX8_gets_8 (by decide) (fun c_1 => ?_) (fun c_1 => ?_)
  · have hr := ifp hr c_1
    refine Ev.iload_n (pc := 13) dX8_gets_13 rfl ?_
    refine Ev.iconst (pc := 14) (v := nI 1) dX8_gets_14 (by decide) ?_
    refine Ev.bipush (pc := 15) (v := nI 9) dX8_gets_15 (by decide) ?_
    refine Ev.cSi (pc := 17) (As := [.int _, .int _, .int _]) (kX8_within _ _ _ _ _ _ _) rfl gX8_gets_X8_within hdX8_within rfl ⟨rfl, rfl⟩ ⟨Nat.le_of_ble_eq_true rfl, Nat.le_of_ble_eq_true rfl⟩ (Nat.le_of_ble_eq_true rfl) ⟨Nat.le_of_ble_eq_true rfl, Nat.le_of_ble_eq_true rfl⟩ dX8_gets_17 ?_
    refine Ev.ifeqB (pc := 20) (tgt := 32) dX8_gets_20 (by decide) (fun c_2 => ?_) (fun c_2 => ?_)
    · have hr := ifn hr (ntr c_2)
      refine Ev.bipush (pc := 32) (v := (-2)) dX8_gets_32 (by decide) ?_
      cases hr
      exact Ev.iret rfl rfl dX8_gets_34 ⟨rfl, rfl⟩
    · have hr := ifp hr c_2
      refine Ev.iload_n (pc := 23) dX8_gets_23 rfl ?_
      refine Ev.iconst (pc := 24) (v := nI 0) dX8_gets_24 (by decide) ?_
      refine Ev.iconst (pc := 25) (v := nI 1) dX8_gets_25 (by decide) ?_
      refine Ev.cSi (pc := 26) (As := [.int _, .int _, .int _]) (kX8_within _ _ _ _ _ _ _) rfl gX8_gets_X8_within hdX8_within rfl ⟨rfl, rfl⟩ ⟨Nat.le_of_ble_eq_true rfl, Nat.le_of_ble_eq_true rfl⟩ (Nat.le_of_ble_eq_true rfl) ⟨Nat.le_of_ble_eq_true rfl, Nat.le_of_ble_eq_true rfl⟩ dX8_gets_26 ?_
      refine Ev.ifneB (pc := 29) (tgt := 35) dX8_gets_29 (by decide) (fun c_3 => ?_) (fun c_3 => ?_)
      · have hr := ifp hr c_3
        refine Ev.aload_n (pc := 35) dX8_gets_35 rfl ?_
        refine Ev.get (pc := 36) (C0 := RX8) (T := TX8) (N := 10) (fl_0_2 _ _ _ _) rfl inX8_gets (by decide) lkX8_gets_28 dX8_gets_36 ?_
        refine Ev.iload_n (pc := 39) dX8_gets_39 rfl ?_
        refine Ev.cVi (pc := 40) (As := [.int _]) (kX4_isDrowned _ _ _ _ (Or.inl rfl) _) rfl rfl (ob_3 _) gX8_gets_X4_isDrowned hdX4_isDrowned rfl ⟨rfl, rfl⟩ ⟨Nat.le_of_ble_eq_true rfl, Nat.le_of_ble_eq_true rfl⟩ (Nat.le_of_ble_eq_true rfl) ⟨Nat.le_of_ble_eq_true rfl, Nat.le_of_ble_eq_true rfl⟩ dX8_gets_40 ?_
        refine Ev.ifeqB (pc := 43) (tgt := 49) dX8_gets_43 (by decide) (fun c_4 => ?_) (fun c_4 => ?_)
        · have hr := ifn hr (ntr c_4)
          refine Ev.aload_n (pc := 49) dX8_gets_49 rfl ?_
          refine Ev.get (pc := 50) (C0 := RX8) (T := TX8) (N := 10) (fl_0_7 _ _ _ _) rfl inX8_gets (by decide) lkX8_gets_61 dX8_gets_50 ?_
          refine Ev.iload_n (pc := 53) dX8_gets_53 rfl ?_
          refine Ev.iload_n (pc := 54) dX8_gets_54 rfl ?_
          obtain ⟨x_1, hx_1, hr⟩ := Option.bind_eq_some_iff.mp hr
          refine Ev.cVi (pc := 55) (As := [.int _, .int _]) (kX3_bestFind _ _ _ _ _ _ hx_1) rfl rfl (ob_8 _) gX8_gets_X3_bestFind hdX3_bestFind rfl ⟨rfl, rfl⟩ ⟨Nat.le_of_ble_eq_true rfl, Nat.le_of_ble_eq_true rfl⟩ (Nat.le_of_ble_eq_true rfl) ⟨Nat.le_of_ble_eq_true rfl, Nat.le_of_ble_eq_true rfl⟩ dX8_gets_55 ?_
          refine Ev.istore (pc := 58) dX8_gets_58 rfl rfl ?_
          refine Ev.iload (pc := 60) dX8_gets_60 rfl ?_
          refine Ev.bipush (pc := 62) (v := (-9)) dX8_gets_62 (by decide) ?_
          refine Ev.icmpeq (pc := 64) (tgt := 71) dX8_gets_64 (by decide) (fun c_5 => ?_) (fun c_5 => ?_)
          · have hr := ifp hr c_5
            refine Ev.iload (pc := 71) dX8_gets_71 rfl ?_
            refine Ev.goto (pc := 73) (tgt := 85) dX8_gets_73 (by decide) ?_
            cases hr
            exact Ev.iret rfl rfl dX8_gets_85 ⟨rfl, rfl⟩
          · have hr := ifn hr c_5
            refine Ev.iload_n (pc := 67) dX8_gets_67 rfl ?_
            refine Ev.ifne (pc := 68) (tgt := 76) dX8_gets_68 (by decide) (fun c_6 => ?_) (fun c_6 => ?_)
            · have hr := ifn hr c_6
              refine Ev.aload_n (pc := 76) dX8_gets_76 rfl ?_
              refine Ev.get (pc := 77) (C0 := RX8) (T := TX8) (N := 10) (fl_0_7 _ _ _ _) rfl inX8_gets (by decide) lkX8_gets_61 dX8_gets_77 ?_
              refine Ev.iload (pc := 80) dX8_gets_80 rfl ?_
              obtain ⟨x_2, hx_2, hr⟩ := Option.bind_eq_some_iff.mp hr
              refine Ev.cVi (pc := 82) (As := [.int _]) (kX3_worthToGet _ _ _ _ _ hx_2) rfl rfl (ob_8 _) gX8_gets_X3_worthToGet hdX3_worthToGet rfl ⟨rfl, rfl⟩ ⟨Nat.le_of_ble_eq_true rfl, Nat.le_of_ble_eq_true rfl⟩ (Nat.le_of_ble_eq_true rfl) ⟨Nat.le_of_ble_eq_true rfl, Nat.le_of_ble_eq_true rfl⟩ dX8_gets_82 ?_
              cases hr
              exact Ev.iret rfl rfl dX8_gets_85 ⟨rfl, rfl⟩
            · have hr := ifp hr c_6
              refine Ev.iload (pc := 71) dX8_gets_71 rfl ?_
              refine Ev.goto (pc := 73) (tgt := 85) dX8_gets_73 (by decide) ?_
              cases hr
              exact Ev.iret rfl rfl dX8_gets_85 ⟨rfl, rfl⟩
        · have hr := ifp hr c_4
          refine Ev.bipush (pc := 46) (v := (-3)) dX8_gets_46 (by decide) ?_
          cases hr
          exact Ev.iret rfl rfl dX8_gets_48 ⟨rfl, rfl⟩
      · have hr := ifn hr (ntr c_3)
        refine Ev.bipush (pc := 32) (v := (-2)) dX8_gets_32 (by decide) ?_
        cases hr
        exact Ev.iret rfl rfl dX8_gets_34 ⟨rfl, rfl⟩
  · have hr := ifn hr (ntr c_1)
    refine Ev.iconst (pc := 11) (v := (-1)) dX8_gets_11 (by decide) ?_
    cases hr
    exact Ev.iret rfl rfl dX8_gets_12 ⟨rfl, rfl⟩
/-! X8_thousands -/
def sX8_thousands_4 (v0 : Int32) : Nat → Int64 → Int32 → Option (Int64)
  | 0, _, _ => none
  | n + 1, v1, v3 => if v0 ≤ v3 then (some v1) else (sX8_thousands_4 v0 n (v1 * ((1000 : Int64))) (v3 + (nI 1)))
set_option maxRecDepth 20000 in
set_option maxHeartbeats 1000000 in
theorem kX8_thousands_4 (g : Hg) (q : Int64) (g2 : Hg) (q2 : Int64)  (v0 : Int32) (r : Int64) : ∀ (n : Nat) (v1 : Int64) (v3 : Int32), sX8_thousands_4 v0 n v1 v3 = some r → Ev (Xl (fun x h' => x = r ∧ h' = (g, q, g2, q2))) MX8_thousands 4 [some (.int v0), some (.long v1), none, some (.int v3)] [] (g, q, g2, q2) := by
  intro n
  induction n with
  | zero => intro _ _ hr; cases hr
  | succ n ih =>
    intro v1 v3 hr
    rw [sX8_thousands_4] at hr
    refine Ev.iload_n (pc := 4) dX8_thousands_4 rfl ?_
    refine Ev.iload_n (pc := 5) dX8_thousands_5 rfl ?_
    refine Ev.icmpge (pc := 6) (tgt := 21) dX8_thousands_6 (by decide) (fun c_1 => ?_) (fun c_1 => ?_)
    · have hr := ifp hr c_1
      refine Ev.lload_n (pc := 21) dX8_thousands_21 rfl ?_
      cases hr
      exact Ev.lret rfl dX8_thousands_22 ⟨rfl, rfl⟩
    · have hr := ifn hr c_1
      refine Ev.lload_n (pc := 9) dX8_thousands_9 rfl ?_
      refine Ev.ldc2 (pc := 10) (v := 1000) (by decide +kernel) dX8_thousands_10 ?_
      refine Ev.lmul (pc := 13) dX8_thousands_13 ?_
      refine Ev.lstore_n (pc := 14) dX8_thousands_14 rfl rfl ?_
      refine Ev.iinc (pc := 15) (v := nI 1) dX8_thousands_15 rfl rfl rfl rfl ?_
      refine Ev.goto (pc := 18) (tgt := 4) dX8_thousands_18 (by decide) ?_
      exact ih _ _ hr
def sX8_thousands (a1 : Int32) : Option (Int64) := sX8_thousands_4 a1 100 (lN 1) (nI 0)
set_option maxRecDepth 20000 in
set_option maxHeartbeats 1000000 in
theorem kX8_thousands (g : Hg) (q : Int64) (g2 : Hg) (q2 : Int64) (a1 : Int32) {r : Int64} (hr : sX8_thousands a1 = some r) : CtL MX8_thousands [.int a1] (g, q, g2, q2) (fun x h' => x = r ∧ h' = (g, q, g2, q2)) := by
  unfold sX8_thousands at hr
  refine CtL_L 3 rfl (by decide +kernel) rfl (Nat.le_of_ble_eq_true rfl) ?_
  show Ev _ _ 0 [some (.int a1), none, none, none] [] _
  refine Ev.lconst (pc := 0) (v := lN 1) dX8_thousands_0 rfl ?_
  refine Ev.lstore_n (pc := 1) dX8_thousands_1 rfl rfl ?_
  refine Ev.iconst (pc := 2) (v := nI 0) dX8_thousands_2 (by decide) ?_
  refine Ev.istore_n (pc := 3) dX8_thousands_3 rfl rfl ?_
  exact kX8_thousands_4 _ _ _ _ _ _ 100 _ _ hr
/-! X8_isSo -/
def sX8_isSo (g : Hg) (a1 : Int32) (a2 : Int32) (a3 : Int32) : Option (Bool × Hg) := if a1 = nI 0 then (if a2 = 0 then (if a3 = 0 then ((sX4_passHour g 4).bind fun x_1 => (some (true, x_1.2))) else (some (false, g))) else (some (false, g))) else (if a1 = nI 1 then ((sX4_tryWalk g 4 a2 a3).bind fun x_2 => (some (x_2.1, x_2.2))) else (if a1 = nI 2 then ((sX4_tryDig g 4 a2 a3).bind fun x_3 => (some (x_3.1, x_3.2))) else (if a1 = nI 3 then (if a2 = 0 then ((sX4_trySell g 4 a3).bind fun x_4 => (if x_4.1 = true then (some (true, x_4.2)) else (some (false, x_4.2)))) else (some (false, g))) else (if a1 = nI 4 then (if (sX1_isLark g a2) = true then ((sX4_coins g 4 a2).bind fun x_5 => (if x_5 < a3 then (some (false, g)) else (some (true, g)))) else (some (false, g))) else (if a1 = nI 5 then (if a2 = 0 then (if (sX1_isLark g a3) = true then (if (sX4_isDrowned g 4 a3) = true then (some (false, g)) else (some (true, g))) else (some (false, g))) else (some (false, g))) else (some (false, g)))))))
set_option maxRecDepth 20000 in
set_option maxHeartbeats 1000000 in
theorem kX8_isSo (g : Hg) (q : Int64) (g2 : Hg) (q2 : Int64) (a1 : Int32) (a2 : Int32) (a3 : Int32) {r : Bool × Hg} (hr : sX8_isSo g a1 a2 a3 = some r) : CtI MX8_isSo [.ref 0, .int a1, .int a2, .int a3] (g, q, g2, q2) (fun x h' => x = bI r.1 ∧ h' = (r.2, q, g2, q2)) := by
  unfold sX8_isSo at hr
  refine CtI_L 0 rfl (by decide +kernel) rfl (Nat.le_of_ble_eq_true rfl) ?_
  show Ev _ _ 0 [some (.ref 0), some (.int a1), some (.int a2), some (.int a3)] [] _
  refine Ev.iload_n (pc := 0) dX8_isSo_0 rfl ?_
  by_cases c_1 : a1 = nI 0
  · have hr := ifp hr c_1
    refine Ev.tableK (pc := 1) (tgt := 40) 0 c_1 (by decide) dX8_isSo_1 (by decide) rfl (by decide) ?_
    refine Ev.iload_n (pc := 40) dX8_isSo_40 rfl ?_
    refine Ev.ifne (pc := 41) (tgt := 48) dX8_isSo_41 (by decide) (fun c_2 => ?_) (fun c_2 => ?_)
    · have hr := ifn hr c_2
      refine Ev.iconst (pc := 48) (v := nI 0) dX8_isSo_48 (by decide) ?_
      cases hr
      exact Ev.iret rfl rfl dX8_isSo_49 ⟨rfl, rfl⟩
    · have hr := ifp hr c_2
      refine Ev.iload_n (pc := 44) dX8_isSo_44 rfl ?_
      refine Ev.ifeq (pc := 45) (tgt := 50) dX8_isSo_45 (by decide) (fun c_3 => ?_) (fun c_3 => ?_)
      · have hr := ifp hr c_3
        refine Ev.aload_n (pc := 50) dX8_isSo_50 rfl ?_
        refine Ev.get (pc := 51) (C0 := RX8) (T := TX8) (N := 10) (fl_0_3 _ _ _ _) rfl inX8_isSo (by decide) lkX8_isSo_32 dX8_isSo_51 ?_
        obtain ⟨x_1, hx_1, hr⟩ := Option.bind_eq_some_iff.mp hr
        refine Ev.cVi (pc := 54) (As := []) (kX4_passHour _ _ _ _ (Or.inr rfl) hx_1) rfl rfl (ob_4 _) gX8_isSo_X4_passHour hdX4_passHour rfl ⟨rfl, rfl⟩ ⟨Nat.le_of_ble_eq_true rfl, Nat.le_of_ble_eq_true rfl⟩ (Nat.le_of_ble_eq_true rfl) ⟨Nat.le_of_ble_eq_true rfl, Nat.le_of_ble_eq_true rfl⟩ dX8_isSo_54 ?_
        refine Ev.pop (pc := 57) dX8_isSo_57 rfl ?_
        refine Ev.iconst (pc := 58) (v := nI 1) dX8_isSo_58 (by decide) ?_
        cases hr
        exact Ev.iret rfl rfl dX8_isSo_59 ⟨rfl, rfl⟩
      · have hr := ifn hr c_3
        refine Ev.iconst (pc := 48) (v := nI 0) dX8_isSo_48 (by decide) ?_
        cases hr
        exact Ev.iret rfl rfl dX8_isSo_49 ⟨rfl, rfl⟩
  have hr := ifn hr c_1
  by_cases c_4 : a1 = nI 1
  · have hr := ifp hr c_4
    refine Ev.tableK (pc := 1) (tgt := 60) 1 c_4 (by decide) dX8_isSo_1 (by decide) rfl (by decide) ?_
    refine Ev.aload_n (pc := 60) dX8_isSo_60 rfl ?_
    refine Ev.get (pc := 61) (C0 := RX8) (T := TX8) (N := 10) (fl_0_3 _ _ _ _) rfl inX8_isSo (by decide) lkX8_isSo_32 dX8_isSo_61 ?_
    refine Ev.iload_n (pc := 64) dX8_isSo_64 rfl ?_
    refine Ev.iload_n (pc := 65) dX8_isSo_65 rfl ?_
    obtain ⟨x_2, hx_2, hr⟩ := Option.bind_eq_some_iff.mp hr
    refine Ev.cVi (pc := 66) (As := [.int _, .int _]) (kX4_tryWalk _ _ _ _ (Or.inr rfl) _ _ hx_2) rfl rfl (ob_4 _) gX8_isSo_X4_tryWalk hdX4_tryWalk rfl ⟨rfl, rfl⟩ ⟨Nat.le_of_ble_eq_true rfl, Nat.le_of_ble_eq_true rfl⟩ (Nat.le_of_ble_eq_true rfl) ⟨Nat.le_of_ble_eq_true rfl, Nat.le_of_ble_eq_true rfl⟩ dX8_isSo_66 ?_
    cases hr
    exact Ev.iret rfl (bI_nar _) dX8_isSo_69 ⟨rfl, rfl⟩
  have hr := ifn hr c_4
  by_cases c_5 : a1 = nI 2
  · have hr := ifp hr c_5
    refine Ev.tableK (pc := 1) (tgt := 70) 2 c_5 (by decide) dX8_isSo_1 (by decide) rfl (by decide) ?_
    refine Ev.aload_n (pc := 70) dX8_isSo_70 rfl ?_
    refine Ev.get (pc := 71) (C0 := RX8) (T := TX8) (N := 10) (fl_0_3 _ _ _ _) rfl inX8_isSo (by decide) lkX8_isSo_32 dX8_isSo_71 ?_
    refine Ev.iload_n (pc := 74) dX8_isSo_74 rfl ?_
    refine Ev.iload_n (pc := 75) dX8_isSo_75 rfl ?_
    obtain ⟨x_3, hx_3, hr⟩ := Option.bind_eq_some_iff.mp hr
    refine Ev.cVi (pc := 76) (As := [.int _, .int _]) (kX4_tryDig _ _ _ _ (Or.inr rfl) _ _ hx_3) rfl rfl (ob_4 _) gX8_isSo_X4_tryDig hdX4_tryDig rfl ⟨rfl, rfl⟩ ⟨Nat.le_of_ble_eq_true rfl, Nat.le_of_ble_eq_true rfl⟩ (Nat.le_of_ble_eq_true rfl) ⟨Nat.le_of_ble_eq_true rfl, Nat.le_of_ble_eq_true rfl⟩ dX8_isSo_76 ?_
    cases hr
    exact Ev.iret rfl (bI_nar _) dX8_isSo_79 ⟨rfl, rfl⟩
  have hr := ifn hr c_5
  by_cases c_6 : a1 = nI 3
  · have hr := ifp hr c_6
    refine Ev.tableK (pc := 1) (tgt := 80) 3 c_6 (by decide) dX8_isSo_1 (by decide) rfl (by decide) ?_
    refine Ev.iload_n (pc := 80) dX8_isSo_80 rfl ?_
    refine Ev.ifne (pc := 81) (tgt := 99) dX8_isSo_81 (by decide) (fun c_7 => ?_) (fun c_7 => ?_)
    · have hr := ifn hr c_7
      refine Ev.iconst (pc := 99) (v := nI 0) dX8_isSo_99 (by decide) ?_
      cases hr
      exact Ev.iret rfl rfl dX8_isSo_100 ⟨rfl, rfl⟩
    · have hr := ifp hr c_7
      refine Ev.aload_n (pc := 84) dX8_isSo_84 rfl ?_
      refine Ev.get (pc := 85) (C0 := RX8) (T := TX8) (N := 10) (fl_0_3 _ _ _ _) rfl inX8_isSo (by decide) lkX8_isSo_32 dX8_isSo_85 ?_
      refine Ev.iload_n (pc := 88) dX8_isSo_88 rfl ?_
      obtain ⟨x_4, hx_4, hr⟩ := Option.bind_eq_some_iff.mp hr
      refine Ev.cVi (pc := 89) (As := [.int _]) (kX4_trySell _ _ _ _ (Or.inr rfl) _ hx_4) rfl rfl (ob_4 _) gX8_isSo_X4_trySell hdX4_trySell rfl ⟨rfl, rfl⟩ ⟨Nat.le_of_ble_eq_true rfl, Nat.le_of_ble_eq_true rfl⟩ (Nat.le_of_ble_eq_true rfl) ⟨Nat.le_of_ble_eq_true rfl, Nat.le_of_ble_eq_true rfl⟩ dX8_isSo_89 ?_
      refine Ev.ifeqB (pc := 92) (tgt := 99) dX8_isSo_92 (by decide) (fun c_8 => ?_) (fun c_8 => ?_)
      · have hr := ifn hr (ntr c_8)
        refine Ev.iconst (pc := 99) (v := nI 0) dX8_isSo_99 (by decide) ?_
        cases hr
        exact Ev.iret rfl rfl dX8_isSo_100 ⟨rfl, rfl⟩
      · have hr := ifp hr c_8
        refine Ev.iconst (pc := 95) (v := nI 1) dX8_isSo_95 (by decide) ?_
        refine Ev.goto (pc := 96) (tgt := 100) dX8_isSo_96 (by decide) ?_
        cases hr
        exact Ev.iret rfl rfl dX8_isSo_100 ⟨rfl, rfl⟩
  have hr := ifn hr c_6
  by_cases c_9 : a1 = nI 4
  · have hr := ifp hr c_9
    refine Ev.tableK (pc := 1) (tgt := 101) 4 c_9 (by decide) dX8_isSo_1 (by decide) rfl (by decide) ?_
    refine Ev.aload_n (pc := 101) dX8_isSo_101 rfl ?_
    refine Ev.get (pc := 102) (C0 := RX8) (T := TX8) (N := 10) (fl_0_1 _ _ _ _) rfl inX8_isSo (by decide) lkX8_isSo_19 dX8_isSo_102 ?_
    refine Ev.iload_n (pc := 105) dX8_isSo_105 rfl ?_
    refine Ev.cVi (pc := 106) (As := [.int _]) (kX1_isLark _ _ _ _ _) rfl rfl (ob_2 _) gX8_isSo_X1_isLark hdX1_isLark rfl ⟨rfl, rfl⟩ ⟨Nat.le_of_ble_eq_true rfl, Nat.le_of_ble_eq_true rfl⟩ (Nat.le_of_ble_eq_true rfl) ⟨Nat.le_of_ble_eq_true rfl, Nat.le_of_ble_eq_true rfl⟩ dX8_isSo_106 ?_
    refine Ev.ifeqB (pc := 109) (tgt := 128) dX8_isSo_109 (by decide) (fun c_10 => ?_) (fun c_10 => ?_)
    · have hr := ifn hr (ntr c_10)
      refine Ev.iconst (pc := 128) (v := nI 0) dX8_isSo_128 (by decide) ?_
      cases hr
      exact Ev.iret rfl rfl dX8_isSo_129 ⟨rfl, rfl⟩
    · have hr := ifp hr c_10
      refine Ev.aload_n (pc := 112) dX8_isSo_112 rfl ?_
      refine Ev.get (pc := 113) (C0 := RX8) (T := TX8) (N := 10) (fl_0_3 _ _ _ _) rfl inX8_isSo (by decide) lkX8_isSo_32 dX8_isSo_113 ?_
      refine Ev.iload_n (pc := 116) dX8_isSo_116 rfl ?_
      obtain ⟨x_5, hx_5, hr⟩ := Option.bind_eq_some_iff.mp hr
      refine Ev.cVi (pc := 117) (As := [.int _]) (kX4_coins _ _ _ _ (Or.inr rfl) _ hx_5) rfl rfl (ob_4 _) gX8_isSo_X4_coins hdX4_coins rfl ⟨rfl, rfl⟩ ⟨Nat.le_of_ble_eq_true rfl, Nat.le_of_ble_eq_true rfl⟩ (Nat.le_of_ble_eq_true rfl) ⟨Nat.le_of_ble_eq_true rfl, Nat.le_of_ble_eq_true rfl⟩ dX8_isSo_117 ?_
      refine Ev.iload_n (pc := 120) dX8_isSo_120 rfl ?_
      refine Ev.icmplt (pc := 121) (tgt := 128) dX8_isSo_121 (by decide) (fun c_11 => ?_) (fun c_11 => ?_)
      · have hr := ifp hr c_11
        refine Ev.iconst (pc := 128) (v := nI 0) dX8_isSo_128 (by decide) ?_
        cases hr
        exact Ev.iret rfl rfl dX8_isSo_129 ⟨rfl, rfl⟩
      · have hr := ifn hr c_11
        refine Ev.iconst (pc := 124) (v := nI 1) dX8_isSo_124 (by decide) ?_
        refine Ev.goto (pc := 125) (tgt := 129) dX8_isSo_125 (by decide) ?_
        cases hr
        exact Ev.iret rfl rfl dX8_isSo_129 ⟨rfl, rfl⟩
  have hr := ifn hr c_9
  by_cases c_12 : a1 = nI 5
  · have hr := ifp hr c_12
    refine Ev.tableK (pc := 1) (tgt := 130) 5 c_12 (by decide) dX8_isSo_1 (by decide) rfl (by decide) ?_
    refine Ev.iload_n (pc := 130) dX8_isSo_130 rfl ?_
    refine Ev.ifne (pc := 131) (tgt := 160) dX8_isSo_131 (by decide) (fun c_13 => ?_) (fun c_13 => ?_)
    · have hr := ifn hr c_13
      refine Ev.iconst (pc := 160) (v := nI 0) dX8_isSo_160 (by decide) ?_
      cases hr
      exact Ev.iret rfl rfl dX8_isSo_161 ⟨rfl, rfl⟩
    · have hr := ifp hr c_13
      refine Ev.aload_n (pc := 134) dX8_isSo_134 rfl ?_
      refine Ev.get (pc := 135) (C0 := RX8) (T := TX8) (N := 10) (fl_0_1 _ _ _ _) rfl inX8_isSo (by decide) lkX8_isSo_19 dX8_isSo_135 ?_
      refine Ev.iload_n (pc := 138) dX8_isSo_138 rfl ?_
      refine Ev.cVi (pc := 139) (As := [.int _]) (kX1_isLark _ _ _ _ _) rfl rfl (ob_2 _) gX8_isSo_X1_isLark hdX1_isLark rfl ⟨rfl, rfl⟩ ⟨Nat.le_of_ble_eq_true rfl, Nat.le_of_ble_eq_true rfl⟩ (Nat.le_of_ble_eq_true rfl) ⟨Nat.le_of_ble_eq_true rfl, Nat.le_of_ble_eq_true rfl⟩ dX8_isSo_139 ?_
      refine Ev.ifeqB (pc := 142) (tgt := 160) dX8_isSo_142 (by decide) (fun c_14 => ?_) (fun c_14 => ?_)
      · have hr := ifn hr (ntr c_14)
        refine Ev.iconst (pc := 160) (v := nI 0) dX8_isSo_160 (by decide) ?_
        cases hr
        exact Ev.iret rfl rfl dX8_isSo_161 ⟨rfl, rfl⟩
      · have hr := ifp hr c_14
        refine Ev.aload_n (pc := 145) dX8_isSo_145 rfl ?_
        refine Ev.get (pc := 146) (C0 := RX8) (T := TX8) (N := 10) (fl_0_3 _ _ _ _) rfl inX8_isSo (by decide) lkX8_isSo_32 dX8_isSo_146 ?_
        refine Ev.iload_n (pc := 149) dX8_isSo_149 rfl ?_
        refine Ev.cVi (pc := 150) (As := [.int _]) (kX4_isDrowned _ _ _ _ (Or.inr rfl) _) rfl rfl (ob_4 _) gX8_isSo_X4_isDrowned hdX4_isDrowned rfl ⟨rfl, rfl⟩ ⟨Nat.le_of_ble_eq_true rfl, Nat.le_of_ble_eq_true rfl⟩ (Nat.le_of_ble_eq_true rfl) ⟨Nat.le_of_ble_eq_true rfl, Nat.le_of_ble_eq_true rfl⟩ dX8_isSo_150 ?_
        refine Ev.ifneB (pc := 153) (tgt := 160) dX8_isSo_153 (by decide) (fun c_15 => ?_) (fun c_15 => ?_)
        · have hr := ifp hr c_15
          refine Ev.iconst (pc := 160) (v := nI 0) dX8_isSo_160 (by decide) ?_
          cases hr
          exact Ev.iret rfl rfl dX8_isSo_161 ⟨rfl, rfl⟩
        · have hr := ifn hr (ntr c_15)
          refine Ev.iconst (pc := 156) (v := nI 1) dX8_isSo_156 (by decide) ?_
          refine Ev.goto (pc := 157) (tgt := 161) dX8_isSo_157 (by decide) ?_
          cases hr
          exact Ev.iret rfl rfl dX8_isSo_161 ⟨rfl, rfl⟩
  have hr := ifn hr c_12
  refine Ev.tableD (pc := 1) (tgt := 162) 6 (by decide) (fun j hj => by
      have hj2 : j = 0 ∨ j = 1 ∨ j = 2 ∨ j = 3 ∨ j = 4 ∨ j = 5 := by omega
      rcases hj2 with rfl | rfl | rfl | rfl | rfl | rfl <;> assumption) rfl dX8_isSo_1 (by decide) ?_
  refine Ev.iconst (pc := 162) (v := nI 0) dX8_isSo_162 (by decide) ?_
  cases hr
  exact Ev.iret rfl rfl dX8_isSo_163 ⟨rfl, rfl⟩
/-! X8_judge -/
def sX8_judge_49 (v1 : Int32) (v2 : Int64) : Nat → Hg → Int64 → Int32 → Option (Int32 × Hg)
  | 0, _, _, _ => none
  | n + 1, g, v4, v6 => if v1 ≤ v6 then (some ((-9), g)) else (if (lg_cmp v4 (lN 0)) ≤ 0 then (some ((-9), g)) else (if nzL v4 = true then ((sX8_isSo g ((Int64.toInt32 ((v2 / v4) - (v2 / v4) / ((1000 : Int64)) * ((1000 : Int64)))) / (nI 100)) (((Int64.toInt32 ((v2 / v4) - (v2 / v4) / ((1000 : Int64)) * ((1000 : Int64)))) / (nI 10)) - ((Int64.toInt32 ((v2 / v4) - (v2 / v4) / ((1000 : Int64)) * ((1000 : Int64)))) / (nI 10)) / (nI 10) * (nI 10)) ((Int64.toInt32 ((v2 / v4) - (v2 / v4) / ((1000 : Int64)) * ((1000 : Int64)))) - (Int64.toInt32 ((v2 / v4) - (v2 / v4) / ((1000 : Int64)) * ((1000 : Int64)))) / (nI 10) * (nI 10))).bind fun x_4 => (if x_4.1 = true then (sX8_judge_49 v1 v2 n x_4.2 (v4 / ((1000 : Int64))) (v6 + (nI 1))) else (some (v6, x_4.2)))) else none))
set_option maxRecDepth 20000 in
set_option maxHeartbeats 1000000 in
theorem kX8_judge_49 (q : Int64) (g2 : Hg) (q2 : Int64)  (v1 : Int32) (v2 : Int64) (r : Int32 × Hg) : ∀ (n : Nat) (g : Hg) (v4 : Int64) (v6 : Int32), sX8_judge_49 v1 v2 n g v4 v6 = some r → Ev (Xi (fun x h' => x = r.1 ∧ h' = (r.2, q, g2, q2))) MX8_judge 49 [some (.ref 0), some (.int v1), some (.long v2), none, some (.long v4), none, some (.int v6), none] [] (g, q, g2, q2) := by
  intro n
  induction n with
  | zero => intro _ _ _ hr; cases hr
  | succ n ih =>
    intro g v4 v6 hr
    rw [sX8_judge_49] at hr
    refine Ev.iload (pc := 49) dX8_judge_49 rfl ?_
    refine Ev.iload_n (pc := 51) dX8_judge_51 rfl ?_
    refine Ev.icmpge (pc := 52) (tgt := 115) dX8_judge_52 (by decide) (fun c_4 => ?_) (fun c_4 => ?_)
    · have hr := ifp hr c_4
      refine Ev.bipush (pc := 115) (v := (-9)) dX8_judge_115 (by decide) ?_
      cases hr
      exact Ev.iret rfl rfl dX8_judge_117 ⟨rfl, rfl⟩
    · have hr := ifn hr c_4
      refine Ev.lload (pc := 55) dX8_judge_55 rfl ?_
      refine Ev.lconst (pc := 57) (v := lN 0) dX8_judge_57 rfl ?_
      refine Ev.lcmp (pc := 58) dX8_judge_58 ?_
      refine Ev.ifle (pc := 59) (tgt := 115) dX8_judge_59 (by decide) (fun c_5 => ?_) (fun c_5 => ?_)
      · have hr := ifp hr c_5
        refine Ev.bipush (pc := 115) (v := (-9)) dX8_judge_115 (by decide) ?_
        cases hr
        exact Ev.iret rfl rfl dX8_judge_117 ⟨rfl, rfl⟩
      · have hr := ifn hr c_5
        refine Ev.lload_n (pc := 62) dX8_judge_62 rfl ?_
        refine Ev.lload (pc := 63) dX8_judge_63 rfl ?_
        obtain ⟨c_6, hr⟩ := ckB hr
        refine Ev.ldiv (pc := 65) dX8_judge_65 (nzL_ne c_6) ?_
        refine Ev.ldc2 (pc := 66) (v := 1000) (by decide +kernel) dX8_judge_66 ?_
        refine Ev.lrem (pc := 69) dX8_judge_69 (by decide) ?_
        refine Ev.l2i (pc := 70) dX8_judge_70 ?_
        refine Ev.istore (pc := 71) dX8_judge_71 rfl rfl ?_
        refine Ev.aload_n (pc := 73) dX8_judge_73 rfl ?_
        refine Ev.iload (pc := 74) dX8_judge_74 rfl ?_
        refine Ev.bipush (pc := 76) (v := nI 100) dX8_judge_76 (by decide) ?_
        refine Ev.idiv (pc := 78) dX8_judge_78 (by decide) ?_
        refine Ev.iload (pc := 79) dX8_judge_79 rfl ?_
        refine Ev.bipush (pc := 81) (v := nI 10) dX8_judge_81 (by decide) ?_
        refine Ev.idiv (pc := 83) dX8_judge_83 (by decide) ?_
        refine Ev.bipush (pc := 84) (v := nI 10) dX8_judge_84 (by decide) ?_
        refine Ev.irem (pc := 86) dX8_judge_86 (by decide) ?_
        refine Ev.iload (pc := 87) dX8_judge_87 rfl ?_
        refine Ev.bipush (pc := 89) (v := nI 10) dX8_judge_89 (by decide) ?_
        refine Ev.irem (pc := 91) dX8_judge_91 (by decide) ?_
        obtain ⟨x_4, hx_4, hr⟩ := Option.bind_eq_some_iff.mp hr
        refine Ev.cVi (pc := 92) (As := [.int _, .int _, .int _]) (kX8_isSo _ _ _ _ _ _ _ hx_4) rfl rfl (ob_0 _) gX8_judge_X8_isSo hdX8_isSo rfl ⟨rfl, rfl⟩ ⟨Nat.le_of_ble_eq_true rfl, Nat.le_of_ble_eq_true rfl⟩ (Nat.le_of_ble_eq_true rfl) ⟨Nat.le_of_ble_eq_true rfl, Nat.le_of_ble_eq_true rfl⟩ dX8_judge_92 ?_
        refine Ev.ifneB (pc := 95) (tgt := 101) dX8_judge_95 (by decide) (fun c_7 => ?_) (fun c_7 => ?_)
        · have hr := ifp hr c_7
          refine Ev.lload (pc := 101) dX8_judge_101 rfl ?_
          refine Ev.ldc2 (pc := 103) (v := 1000) (by decide +kernel) dX8_judge_103 ?_
          refine Ev.ldiv (pc := 106) dX8_judge_106 (by decide) ?_
          refine Ev.lstore (pc := 107) dX8_judge_107 rfl rfl ?_
          refine Ev.iinc (pc := 109) (v := nI 1) dX8_judge_109 rfl rfl rfl rfl ?_
          refine Ev.goto (pc := 112) (tgt := 49) dX8_judge_112 (by decide) ?_
          refine Ev_drop 7 ?_
          exact ih _ _ _ hr
        · have hr := ifn hr (ntr c_7)
          refine Ev.iload (pc := 98) dX8_judge_98 rfl ?_
          cases hr
          exact Ev.iret rfl rfl dX8_judge_100 ⟨rfl, rfl⟩
def sX8_judge (g : Hg) (a1 : Int32) (a2 : Int64) : Option (Int32 × Hg) := if (sX8_within a1 (nI 1) (nI 4)) = true then (if (lg_cmp a2 (lN 0)) < 0 then (some ((-2), g)) else ((sX8_thousands a1).bind fun x_1 => (if (lg_cmp a2 x_1) < 0 then ((sX4_copyFrom g).bind fun x_2 => ((sX8_thousands (a1 - (nI 1))).bind fun x_3 => (sX8_judge_49 a1 a2 100 x_2 x_3 (nI 0)))) else (some ((-2), g))))) else (some ((-2), g))
set_option maxRecDepth 20000 in
set_option maxHeartbeats 1000000 in
theorem kX8_judge (g : Hg) (q : Int64) (g2 : Hg) (q2 : Int64) (a1 : Int32) (a2 : Int64) {r : Int32 × Hg} (hr : sX8_judge g a1 a2 = some r) : CtI MX8_judge [.ref 0, .int a1, .long a2] (g, q, g2, q2) (fun x h' => x = r.1 ∧ h' = (r.2, q, g2, q2)) := by
  unfold sX8_judge at hr
  refine CtI_L 4 rfl (by decide +kernel) rfl (Nat.le_of_ble_eq_true rfl) ?_
  show Ev _ _ 0 [some (.ref 0), some (.int a1), some (.long a2), none, none, none, none, none] [] _
  refine Ev.iload_n (pc := 0) dX8_judge_0 rfl ?_
  refine Ev.iconst (pc := 1) (v := nI 1) dX8_judge_1 (by decide) ?_
  refine Ev.iconst (pc := 2) (v := nI 4) dX8_judge_2 (by decide) ?_
  refine Ev.cSi (pc := 3) (As := [.int _, .int _, .int _]) (kX8_within _ _ _ _ _ _ _) rfl gX8_judge_X8_within hdX8_within rfl ⟨rfl, rfl⟩ ⟨Nat.le_of_ble_eq_true rfl, Nat.le_of_ble_eq_true rfl⟩ (Nat.le_of_ble_eq_true rfl) ⟨Nat.le_of_ble_eq_true rfl, Nat.le_of_ble_eq_true rfl⟩ dX8_judge_3 ?_
  refine Ev.ifeqB (pc := 6) (tgt := 24) dX8_judge_6 (by decide) (fun c_1 => ?_) (fun c_1 => ?_)
  · have hr := ifn hr (ntr c_1)
    refine Ev.bipush (pc := 24) (v := (-2)) dX8_judge_24 (by decide) ?_
    cases hr
    exact Ev.iret rfl rfl dX8_judge_26 ⟨rfl, rfl⟩
  · have hr := ifp hr c_1
    refine Ev.lload_n (pc := 9) dX8_judge_9 rfl ?_
    refine Ev.lconst (pc := 10) (v := lN 0) dX8_judge_10 rfl ?_
    refine Ev.lcmp (pc := 11) dX8_judge_11 ?_
    refine Ev.iflt (pc := 12) (tgt := 24) dX8_judge_12 (by decide) (fun c_2 => ?_) (fun c_2 => ?_)
    · have hr := ifp hr c_2
      refine Ev.bipush (pc := 24) (v := (-2)) dX8_judge_24 (by decide) ?_
      cases hr
      exact Ev.iret rfl rfl dX8_judge_26 ⟨rfl, rfl⟩
    · have hr := ifn hr c_2
      refine Ev.lload_n (pc := 15) dX8_judge_15 rfl ?_
      refine Ev.iload_n (pc := 16) dX8_judge_16 rfl ?_
      obtain ⟨x_1, hx_1, hr⟩ := Option.bind_eq_some_iff.mp hr
      refine Ev.cSl (pc := 17) (As := [.int _]) (kX8_thousands _ _ _ _ _ hx_1) rfl gX8_judge_X8_thousands hdX8_thousands rfl ⟨rfl, rfl⟩ ⟨Nat.le_of_ble_eq_true rfl, Nat.le_of_ble_eq_true rfl⟩ (Nat.le_of_ble_eq_true rfl) ⟨Nat.le_of_ble_eq_true rfl, Nat.le_of_ble_eq_true rfl⟩ dX8_judge_17 ?_
      refine Ev.lcmp (pc := 20) dX8_judge_20 ?_
      refine Ev.iflt (pc := 21) (tgt := 27) dX8_judge_21 (by decide) (fun c_3 => ?_) (fun c_3 => ?_)
      · have hr := ifp hr c_3
        refine Ev.aload_n (pc := 27) dX8_judge_27 rfl ?_
        refine Ev.get (pc := 28) (C0 := RX8) (T := TX8) (N := 10) (fl_0_3 _ _ _ _) rfl inX8_judge (by decide) lkX8_judge_32 dX8_judge_28 ?_
        refine Ev.aload_n (pc := 31) dX8_judge_31 rfl ?_
        refine Ev.get (pc := 32) (C0 := RX8) (T := TX8) (N := 10) (fl_0_2 _ _ _ _) rfl inX8_judge (by decide) lkX8_judge_28 dX8_judge_32 ?_
        obtain ⟨x_2, hx_2, hr⟩ := Option.bind_eq_some_iff.mp hr
        refine Ev.cVv (pc := 35) (As := [.ref 3]) (kX4_copyFrom _ _ _ _ hx_2) rfl rfl (ob_4 _) gX8_judge_X4_copyFrom hdX4_copyFrom rfl ⟨rfl, rfl⟩ ⟨Nat.le_of_ble_eq_true rfl, Nat.le_of_ble_eq_true rfl⟩ (Nat.le_of_ble_eq_true rfl) ⟨Nat.le_of_ble_eq_true rfl, Nat.le_of_ble_eq_true rfl⟩ dX8_judge_35 ?_
        refine Ev.iload_n (pc := 38) dX8_judge_38 rfl ?_
        refine Ev.iconst (pc := 39) (v := nI 1) dX8_judge_39 (by decide) ?_
        refine Ev.isub (pc := 40) dX8_judge_40 ?_
        obtain ⟨x_3, hx_3, hr⟩ := Option.bind_eq_some_iff.mp hr
        refine Ev.cSl (pc := 41) (As := [.int _]) (kX8_thousands _ _ _ _ _ hx_3) rfl gX8_judge_X8_thousands hdX8_thousands rfl ⟨rfl, rfl⟩ ⟨Nat.le_of_ble_eq_true rfl, Nat.le_of_ble_eq_true rfl⟩ (Nat.le_of_ble_eq_true rfl) ⟨Nat.le_of_ble_eq_true rfl, Nat.le_of_ble_eq_true rfl⟩ dX8_judge_41 ?_
        refine Ev.lstore (pc := 44) dX8_judge_44 rfl rfl ?_
        refine Ev.iconst (pc := 46) (v := nI 0) dX8_judge_46 (by decide) ?_
        refine Ev.istore (pc := 47) dX8_judge_47 rfl rfl ?_
        exact kX8_judge_49 _ _ _ _ _ _ 100 _ _ _ hr
      · have hr := ifn hr c_3
        refine Ev.bipush (pc := 24) (v := (-2)) dX8_judge_24 (by decide) ?_
        cases hr
        exact Ev.iret rfl rfl dX8_judge_26 ⟨rfl, rfl⟩
/-! X8_see -/
def sX8_see (g : Hg) (a1 : Int32) (a2 : Int32) (a3 : Int32) : Option (Int32 × Hg) := if (sX8_within a1 (nI 0) (nI 11)) = true then (if (sX8_within a2 (nI 0) (nI 9)) = true then (if (sX8_within a3 (nI 0) (nI 1)) = true then (if a3 = (nI 1) then ((sX5_add g a1 a2 (nI 1)).bind fun x_2 => (if x_2.1 = true then (some (sX5_size x_2.2, x_2.2)) else (some ((-4), x_2.2)))) else ((sX5_add g a1 a2 (nI 0)).bind fun x_1 => (if x_1.1 = true then (some (sX5_size x_1.2, x_1.2)) else (some ((-4), x_1.2))))) else (some ((-2), g))) else (some ((-2), g))) else (some ((-1), g))
set_option maxRecDepth 20000 in
set_option maxHeartbeats 1000000 in
theorem kX8_see (g : Hg) (q : Int64) (g2 : Hg) (q2 : Int64) (a1 : Int32) (a2 : Int32) (a3 : Int32) {r : Int32 × Hg} (hr : sX8_see g a1 a2 a3 = some r) : CtI MX8_see [.ref 0, .int a1, .int a2, .int a3] (g, q, g2, q2) (fun x h' => x = r.1 ∧ h' = (r.2, q, g2, q2)) := by
  unfold sX8_see at hr
  refine CtI_L 0 rfl (by decide +kernel) rfl (Nat.le_of_ble_eq_true rfl) ?_
  show Ev _ _ 0 [some (.ref 0), some (.int a1), some (.int a2), some (.int a3)] [] _
  refine Ev.iload_n (pc := 0) dX8_see_0 rfl ?_
  refine Ev.iconst (pc := 1) (v := nI 0) dX8_see_1 (by decide) ?_
  refine Ev.bipush (pc := 2) (v := nI 11) dX8_see_2 (by decide) ?_
  refine Ev.cSi (pc := 4) (As := [.int _, .int _, .int _]) (kX8_within _ _ _ _ _ _ _) rfl gX8_see_X8_within hdX8_within rfl ⟨rfl, rfl⟩ ⟨Nat.le_of_ble_eq_true rfl, Nat.le_of_ble_eq_true rfl⟩ (Nat.le_of_ble_eq_true rfl) ⟨Nat.le_of_ble_eq_true rfl, Nat.le_of_ble_eq_true rfl⟩ dX8_see_4 ?_
  refine Ev.ifneB (pc := 7) (tgt := 12) dX8_see_7 (by decide) (fun c_1 => ?_) (fun c_1 => ?_)
  · have hr := ifp hr c_1
    refine Ev.iload_n (pc := 12) dX8_see_12 rfl ?_
    refine Ev.iconst (pc := 13) (v := nI 0) dX8_see_13 (by decide) ?_
    refine Ev.bipush (pc := 14) (v := nI 9) dX8_see_14 (by decide) ?_
    refine Ev.cSi (pc := 16) (As := [.int _, .int _, .int _]) (kX8_within _ _ _ _ _ _ _) rfl gX8_see_X8_within hdX8_within rfl ⟨rfl, rfl⟩ ⟨Nat.le_of_ble_eq_true rfl, Nat.le_of_ble_eq_true rfl⟩ (Nat.le_of_ble_eq_true rfl) ⟨Nat.le_of_ble_eq_true rfl, Nat.le_of_ble_eq_true rfl⟩ dX8_see_16 ?_
    refine Ev.ifeqB (pc := 19) (tgt := 31) dX8_see_19 (by decide) (fun c_2 => ?_) (fun c_2 => ?_)
    · have hr := ifn hr (ntr c_2)
      refine Ev.bipush (pc := 31) (v := (-2)) dX8_see_31 (by decide) ?_
      cases hr
      exact Ev.iret rfl rfl dX8_see_33 ⟨rfl, rfl⟩
    · have hr := ifp hr c_2
      refine Ev.iload_n (pc := 22) dX8_see_22 rfl ?_
      refine Ev.iconst (pc := 23) (v := nI 0) dX8_see_23 (by decide) ?_
      refine Ev.iconst (pc := 24) (v := nI 1) dX8_see_24 (by decide) ?_
      refine Ev.cSi (pc := 25) (As := [.int _, .int _, .int _]) (kX8_within _ _ _ _ _ _ _) rfl gX8_see_X8_within hdX8_within rfl ⟨rfl, rfl⟩ ⟨Nat.le_of_ble_eq_true rfl, Nat.le_of_ble_eq_true rfl⟩ (Nat.le_of_ble_eq_true rfl) ⟨Nat.le_of_ble_eq_true rfl, Nat.le_of_ble_eq_true rfl⟩ dX8_see_25 ?_
      refine Ev.ifneB (pc := 28) (tgt := 34) dX8_see_28 (by decide) (fun c_3 => ?_) (fun c_3 => ?_)
      · have hr := ifp hr c_3
        refine Ev.aload_n (pc := 34) dX8_see_34 rfl ?_
        refine Ev.get (pc := 35) (C0 := RX8) (T := TX8) (N := 10) (fl_0_6 _ _ _ _) rfl inX8_see (by decide) lkX8_see_52 dX8_see_35 ?_
        refine Ev.iload_n (pc := 38) dX8_see_38 rfl ?_
        refine Ev.iload_n (pc := 39) dX8_see_39 rfl ?_
        refine Ev.iload_n (pc := 40) dX8_see_40 rfl ?_
        refine Ev.iconst (pc := 41) (v := nI 1) dX8_see_41 (by decide) ?_
        refine Ev.icmpne (pc := 42) (tgt := 49) dX8_see_42 (by decide) (fun c_4 => ?_) (fun c_4 => ?_)
        · have hr := ifn hr c_4
          refine Ev.iconst (pc := 49) (v := nI 0) dX8_see_49 (by decide) ?_
          obtain ⟨x_1, hx_1, hr⟩ := Option.bind_eq_some_iff.mp hr
          refine Ev.cVi (pc := 50) (As := [.int _, .int _, .int _]) (kX5_add _ _ _ _ _ _ _ hx_1) rfl rfl (ob_7 _) gX8_see_X5_add hdX5_add rfl ⟨rfl, rfl⟩ ⟨Nat.le_of_ble_eq_true rfl, Nat.le_of_ble_eq_true rfl⟩ (Nat.le_of_ble_eq_true rfl) ⟨Nat.le_of_ble_eq_true rfl, Nat.le_of_ble_eq_true rfl⟩ dX8_see_50 ?_
          refine Ev.ifeqB (pc := 53) (tgt := 66) dX8_see_53 (by decide) (fun c_5 => ?_) (fun c_5 => ?_)
          · have hr := ifn hr (ntr c_5)
            refine Ev.bipush (pc := 66) (v := (-4)) dX8_see_66 (by decide) ?_
            cases hr
            exact Ev.iret rfl rfl dX8_see_68 ⟨rfl, rfl⟩
          · have hr := ifp hr c_5
            refine Ev.aload_n (pc := 56) dX8_see_56 rfl ?_
            refine Ev.get (pc := 57) (C0 := RX8) (T := TX8) (N := 10) (fl_0_6 _ _ _ _) rfl inX8_see (by decide) lkX8_see_52 dX8_see_57 ?_
            refine Ev.cVi (pc := 60) (As := []) (kX5_size _ _ _ _) rfl rfl (ob_7 _) gX8_see_X5_size hdX5_size rfl ⟨rfl, rfl⟩ ⟨Nat.le_of_ble_eq_true rfl, Nat.le_of_ble_eq_true rfl⟩ (Nat.le_of_ble_eq_true rfl) ⟨Nat.le_of_ble_eq_true rfl, Nat.le_of_ble_eq_true rfl⟩ dX8_see_60 ?_
            refine Ev.goto (pc := 63) (tgt := 68) dX8_see_63 (by decide) ?_
            cases hr
            exact Ev.iret rfl rfl dX8_see_68 ⟨rfl, rfl⟩
        · have hr := ifp hr c_4
          refine Ev.iconst (pc := 45) (v := nI 1) dX8_see_45 (by decide) ?_
          refine Ev.goto (pc := 46) (tgt := 50) dX8_see_46 (by decide) ?_
          obtain ⟨x_2, hx_2, hr⟩ := Option.bind_eq_some_iff.mp hr
          refine Ev.cVi (pc := 50) (As := [.int _, .int _, .int _]) (kX5_add _ _ _ _ _ _ _ hx_2) rfl rfl (ob_7 _) gX8_see_X5_add hdX5_add rfl ⟨rfl, rfl⟩ ⟨Nat.le_of_ble_eq_true rfl, Nat.le_of_ble_eq_true rfl⟩ (Nat.le_of_ble_eq_true rfl) ⟨Nat.le_of_ble_eq_true rfl, Nat.le_of_ble_eq_true rfl⟩ dX8_see_50 ?_
          refine Ev.ifeqB (pc := 53) (tgt := 66) dX8_see_53 (by decide) (fun c_6 => ?_) (fun c_6 => ?_)
          · have hr := ifn hr (ntr c_6)
            refine Ev.bipush (pc := 66) (v := (-4)) dX8_see_66 (by decide) ?_
            cases hr
            exact Ev.iret rfl rfl dX8_see_68 ⟨rfl, rfl⟩
          · have hr := ifp hr c_6
            refine Ev.aload_n (pc := 56) dX8_see_56 rfl ?_
            refine Ev.get (pc := 57) (C0 := RX8) (T := TX8) (N := 10) (fl_0_6 _ _ _ _) rfl inX8_see (by decide) lkX8_see_52 dX8_see_57 ?_
            refine Ev.cVi (pc := 60) (As := []) (kX5_size _ _ _ _) rfl rfl (ob_7 _) gX8_see_X5_size hdX5_size rfl ⟨rfl, rfl⟩ ⟨Nat.le_of_ble_eq_true rfl, Nat.le_of_ble_eq_true rfl⟩ (Nat.le_of_ble_eq_true rfl) ⟨Nat.le_of_ble_eq_true rfl, Nat.le_of_ble_eq_true rfl⟩ dX8_see_60 ?_
            refine Ev.goto (pc := 63) (tgt := 68) dX8_see_63 (by decide) ?_
            cases hr
            exact Ev.iret rfl rfl dX8_see_68 ⟨rfl, rfl⟩
      · have hr := ifn hr (ntr c_3)
        refine Ev.bipush (pc := 31) (v := (-2)) dX8_see_31 (by decide) ?_
        cases hr
        exact Ev.iret rfl rfl dX8_see_33 ⟨rfl, rfl⟩
  · have hr := ifn hr (ntr c_1)
    refine Ev.iconst (pc := 10) (v := (-1)) dX8_see_10 (by decide) ?_
    cases hr
    exact Ev.iret rfl rfl dX8_see_11 ⟨rfl, rfl⟩
/-! X8_unsee -/
def sX8_unsee (g : Hg) : Int32 × Hg := (sX5_size g, sX5_clear g)
set_option maxRecDepth 20000 in
set_option maxHeartbeats 1000000 in
theorem kX8_unsee (g : Hg) (q : Int64) (g2 : Hg) (q2 : Int64) : CtI MX8_unsee [.ref 0] (g, q, g2, q2) (fun x h' => x = (sX8_unsee g).1 ∧ h' = ((sX8_unsee g).2, q, g2, q2)) := by
  generalize hr : sX8_unsee g = r
  unfold sX8_unsee at hr
  refine CtI_L 1 rfl (by decide +kernel) rfl (Nat.le_of_ble_eq_true rfl) ?_
  show Ev _ _ 0 [some (.ref 0), none] [] _
  refine Ev.aload_n (pc := 0) dX8_unsee_0 rfl ?_
  refine Ev.get (pc := 1) (C0 := RX8) (T := TX8) (N := 10) (fl_0_6 _ _ _ _) rfl inX8_unsee (by decide) lkX8_unsee_52 dX8_unsee_1 ?_
  refine Ev.cVi (pc := 4) (As := []) (kX5_size _ _ _ _) rfl rfl (ob_7 _) gX8_unsee_X5_size hdX5_size rfl ⟨rfl, rfl⟩ ⟨Nat.le_of_ble_eq_true rfl, Nat.le_of_ble_eq_true rfl⟩ (Nat.le_of_ble_eq_true rfl) ⟨Nat.le_of_ble_eq_true rfl, Nat.le_of_ble_eq_true rfl⟩ dX8_unsee_4 ?_
  refine Ev.istore_n (pc := 7) dX8_unsee_7 rfl rfl ?_
  refine Ev.aload_n (pc := 8) dX8_unsee_8 rfl ?_
  refine Ev.get (pc := 9) (C0 := RX8) (T := TX8) (N := 10) (fl_0_6 _ _ _ _) rfl inX8_unsee (by decide) lkX8_unsee_52 dX8_unsee_9 ?_
  refine Ev.cVv (pc := 12) (As := []) (kX5_clear _ _ _ _) rfl rfl (ob_7 _) gX8_unsee_X5_clear hdX5_clear rfl ⟨rfl, rfl⟩ ⟨Nat.le_of_ble_eq_true rfl, Nat.le_of_ble_eq_true rfl⟩ (Nat.le_of_ble_eq_true rfl) ⟨Nat.le_of_ble_eq_true rfl, Nat.le_of_ble_eq_true rfl⟩ dX8_unsee_12 ?_
  refine Ev.iload_n (pc := 15) dX8_unsee_15 rfl ?_
  subst hr
  exact Ev.iret rfl rfl dX8_unsee_16 ⟨rfl, rfl⟩
/-! X8_phases -/
def sX8_phases_4 (g : Hg) : Nat → Int32 → Int32 → Option (Int32)
  | 0, _, _ => none
  | n + 1, v1, v2 => if (if (nI 1) < (sX1_tideCount g) then (sX1_tideCount g) else (nI 1)) ≤ v2 then (some v1) else ((sX5_fitHour g v2).bind fun x_1 => (if x_1 = true then (sX8_phases_4 g n (v1 ||| (sX8_bit v2)) (v2 + (nI 1))) else (sX8_phases_4 g n v1 (v2 + (nI 1)))))
set_option maxRecDepth 20000 in
set_option maxHeartbeats 1000000 in
theorem kX8_phases_4 (g : Hg) (q : Int64) (g2 : Hg) (q2 : Int64)   (r : Int32) : ∀ (n : Nat) (v1 : Int32) (v2 : Int32), sX8_phases_4 g n v1 v2 = some r → Ev (Xi (fun x h' => x = r ∧ h' = (g, q, g2, q2))) MX8_phases 4 [some (.ref 0), some (.int v1), some (.int v2)] [] (g, q, g2, q2) := by
  intro n
  induction n with
  | zero => intro _ _ hr; cases hr
  | succ n ih =>
    intro v1 v2 hr
    rw [sX8_phases_4] at hr
    refine Ev.iload_n (pc := 4) dX8_phases_4 rfl ?_
    refine Ev.iconst (pc := 5) (v := nI 1) dX8_phases_5 (by decide) ?_
    refine Ev.aload_n (pc := 6) dX8_phases_6 rfl ?_
    refine Ev.get (pc := 7) (C0 := RX8) (T := TX8) (N := 10) (fl_0_1 _ _ _ _) rfl inX8_phases (by decide) lkX8_phases_19 dX8_phases_7 ?_
    refine Ev.cVi (pc := 10) (As := []) (kX1_tideCount _ _ _ _) rfl rfl (ob_2 _) gX8_phases_X1_tideCount hdX1_tideCount rfl ⟨rfl, rfl⟩ ⟨Nat.le_of_ble_eq_true rfl, Nat.le_of_ble_eq_true rfl⟩ (Nat.le_of_ble_eq_true rfl) ⟨Nat.le_of_ble_eq_true rfl, Nat.le_of_ble_eq_true rfl⟩ dX8_phases_10 ?_
    refine Ev.mmax (pc := 13) (by decide +kernel) (by decide +kernel) (by decide +kernel) (by decide +kernel) (by decide) (Nat.le_of_ble_eq_true rfl) ⟨Nat.le_of_ble_eq_true rfl, Nat.le_of_ble_eq_true rfl⟩ dX8_phases_13 ?_
    refine Ev.icmpge (pc := 16) (tgt := 47) dX8_phases_16 (by decide) (fun c_1 => ?_) (fun c_1 => ?_)
    · have hr := ifp hr c_1
      refine Ev.iload_n (pc := 47) dX8_phases_47 rfl ?_
      cases hr
      exact Ev.iret rfl rfl dX8_phases_48 ⟨rfl, rfl⟩
    · have hr := ifn hr c_1
      refine Ev.aload_n (pc := 19) dX8_phases_19 rfl ?_
      refine Ev.get (pc := 20) (C0 := RX8) (T := TX8) (N := 10) (fl_0_6 _ _ _ _) rfl inX8_phases (by decide) lkX8_phases_52 dX8_phases_20 ?_
      refine Ev.iload_n (pc := 23) dX8_phases_23 rfl ?_
      refine Ev.aload_n (pc := 24) dX8_phases_24 rfl ?_
      refine Ev.get (pc := 25) (C0 := RX8) (T := TX8) (N := 10) (fl_0_1 _ _ _ _) rfl inX8_phases (by decide) lkX8_phases_19 dX8_phases_25 ?_
      obtain ⟨x_1, hx_1, hr⟩ := Option.bind_eq_some_iff.mp hr
      refine Ev.cVi (pc := 28) (As := [.int _, .ref 2]) (kX5_fitHour _ _ _ _ _ hx_1) rfl rfl (ob_7 _) gX8_phases_X5_fitHour hdX5_fitHour rfl ⟨rfl, rfl⟩ ⟨Nat.le_of_ble_eq_true rfl, Nat.le_of_ble_eq_true rfl⟩ (Nat.le_of_ble_eq_true rfl) ⟨Nat.le_of_ble_eq_true rfl, Nat.le_of_ble_eq_true rfl⟩ dX8_phases_28 ?_
      refine Ev.ifeqB (pc := 31) (tgt := 41) dX8_phases_31 (by decide) (fun c_2 => ?_) (fun c_2 => ?_)
      · have hr := ifn hr (ntr c_2)
        refine Ev.iinc (pc := 41) (v := nI 1) dX8_phases_41 rfl rfl rfl rfl ?_
        refine Ev.goto (pc := 44) (tgt := 4) dX8_phases_44 (by decide) ?_
        exact ih _ _ hr
      · have hr := ifp hr c_2
        refine Ev.iload_n (pc := 34) dX8_phases_34 rfl ?_
        refine Ev.iload_n (pc := 35) dX8_phases_35 rfl ?_
        refine Ev.cSi (pc := 36) (As := [.int _]) (kX8_bit _ _ _ _ _) rfl gX8_phases_X8_bit hdX8_bit rfl ⟨rfl, rfl⟩ ⟨Nat.le_of_ble_eq_true rfl, Nat.le_of_ble_eq_true rfl⟩ (Nat.le_of_ble_eq_true rfl) ⟨Nat.le_of_ble_eq_true rfl, Nat.le_of_ble_eq_true rfl⟩ dX8_phases_36 ?_
        refine Ev.ior (pc := 39) dX8_phases_39 ?_
        refine Ev.istore_n (pc := 40) dX8_phases_40 rfl rfl ?_
        refine Ev.iinc (pc := 41) (v := nI 1) dX8_phases_41 rfl rfl rfl rfl ?_
        refine Ev.goto (pc := 44) (tgt := 4) dX8_phases_44 (by decide) ?_
        exact ih _ _ hr
def sX8_phases (g : Hg) : Option (Int32) := sX8_phases_4 g 100 (nI 0) (nI 0)
set_option maxRecDepth 20000 in
set_option maxHeartbeats 1000000 in
theorem kX8_phases (g : Hg) (q : Int64) (g2 : Hg) (q2 : Int64) {r : Int32} (hr : sX8_phases g = some r) : CtI MX8_phases [.ref 0] (g, q, g2, q2) (fun x h' => x = r ∧ h' = (g, q, g2, q2)) := by
  unfold sX8_phases at hr
  refine CtI_L 2 rfl (by decide +kernel) rfl (Nat.le_of_ble_eq_true rfl) ?_
  show Ev _ _ 0 [some (.ref 0), none, none] [] _
  refine Ev.iconst (pc := 0) (v := nI 0) dX8_phases_0 (by decide) ?_
  refine Ev.istore_n (pc := 1) dX8_phases_1 rfl rfl ?_
  refine Ev.iconst (pc := 2) (v := nI 0) dX8_phases_2 (by decide) ?_
  refine Ev.istore_n (pc := 3) dX8_phases_3 rfl rfl ?_
  exact kX8_phases_4 _ _ _ _  _ 100 _ _ hr
/-! X8_greatestDivisor -/
def sX8_greatestDivisor_7 (v0 : Int32) (v1 : Int32) : Nat → Int32 → Int32 → Int32 → Option (Int32)
  | 0, _, _, _ => none
  | n + 1, v2, v3, v4 => if (nI 64) ≤ v4 then (some v2) else (if v3 = 0 then (some v2) else (if nz v3 = true then (sX8_greatestDivisor_7 v0 v1 n v3 (v2 - v2 / v3 * v3) (v4 + (nI 1))) else none))
set_option maxRecDepth 20000 in
set_option maxHeartbeats 1000000 in
theorem kX8_greatestDivisor_7 (g : Hg) (q : Int64) (g2 : Hg) (q2 : Int64)  (v0 : Int32) (v1 : Int32) (r : Int32) : ∀ (n : Nat) (v2 : Int32) (v3 : Int32) (v4 : Int32), sX8_greatestDivisor_7 v0 v1 n v2 v3 v4 = some r → Ev (Xi (fun x h' => x = r ∧ h' = (g, q, g2, q2))) MX8_greatestDivisor 7 [some (.int v0), some (.int v1), some (.int v2), some (.int v3), some (.int v4), none] [] (g, q, g2, q2) := by
  intro n
  induction n with
  | zero => intro _ _ _ hr; cases hr
  | succ n ih =>
    intro v2 v3 v4 hr
    rw [sX8_greatestDivisor_7] at hr
    refine Ev.iload (pc := 7) dX8_greatestDivisor_7 rfl ?_
    refine Ev.bipush (pc := 9) (v := nI 64) dX8_greatestDivisor_9 (by decide) ?_
    refine Ev.icmpge (pc := 11) (tgt := 34) dX8_greatestDivisor_11 (by decide) (fun c_1 => ?_) (fun c_1 => ?_)
    · have hr := ifp hr c_1
      refine Ev.iload_n (pc := 34) dX8_greatestDivisor_34 rfl ?_
      cases hr
      exact Ev.iret rfl rfl dX8_greatestDivisor_35 ⟨rfl, rfl⟩
    · have hr := ifn hr c_1
      refine Ev.iload_n (pc := 14) dX8_greatestDivisor_14 rfl ?_
      refine Ev.ifeq (pc := 15) (tgt := 34) dX8_greatestDivisor_15 (by decide) (fun c_2 => ?_) (fun c_2 => ?_)
      · have hr := ifp hr c_2
        refine Ev.iload_n (pc := 34) dX8_greatestDivisor_34 rfl ?_
        cases hr
        exact Ev.iret rfl rfl dX8_greatestDivisor_35 ⟨rfl, rfl⟩
      · have hr := ifn hr c_2
        refine Ev.iload_n (pc := 18) dX8_greatestDivisor_18 rfl ?_
        refine Ev.iload_n (pc := 19) dX8_greatestDivisor_19 rfl ?_
        obtain ⟨c_3, hr⟩ := ckB hr
        refine Ev.irem (pc := 20) dX8_greatestDivisor_20 (nz_ne c_3) ?_
        refine Ev.istore (pc := 21) dX8_greatestDivisor_21 rfl rfl ?_
        refine Ev.iload_n (pc := 23) dX8_greatestDivisor_23 rfl ?_
        refine Ev.istore_n (pc := 24) dX8_greatestDivisor_24 rfl rfl ?_
        refine Ev.iload (pc := 25) dX8_greatestDivisor_25 rfl ?_
        refine Ev.istore_n (pc := 27) dX8_greatestDivisor_27 rfl rfl ?_
        refine Ev.iinc (pc := 28) (v := nI 1) dX8_greatestDivisor_28 rfl rfl rfl rfl ?_
        refine Ev.goto (pc := 31) (tgt := 7) dX8_greatestDivisor_31 (by decide) ?_
        refine Ev_drop 5 ?_
        exact ih _ _ _ hr
def sX8_greatestDivisor (a1 : Int32) (a2 : Int32) : Option (Int32) := sX8_greatestDivisor_7 a1 a2 100 a1 a2 (nI 0)
set_option maxRecDepth 20000 in
set_option maxHeartbeats 1000000 in
theorem kX8_greatestDivisor (g : Hg) (q : Int64) (g2 : Hg) (q2 : Int64) (a1 : Int32) (a2 : Int32) {r : Int32} (hr : sX8_greatestDivisor a1 a2 = some r) : CtI MX8_greatestDivisor [.int a1, .int a2] (g, q, g2, q2) (fun x h' => x = r ∧ h' = (g, q, g2, q2)) := by
  unfold sX8_greatestDivisor at hr
  refine CtI_L 4 rfl (by decide +kernel) rfl (Nat.le_of_ble_eq_true rfl) ?_
  show Ev _ _ 0 [some (.int a1), some (.int a2), none, none, none, none] [] _
  refine Ev.iload_n (pc := 0) dX8_greatestDivisor_0 rfl ?_
  refine Ev.istore_n (pc := 1) dX8_greatestDivisor_1 rfl rfl ?_
  refine Ev.iload_n (pc := 2) dX8_greatestDivisor_2 rfl ?_
  refine Ev.istore_n (pc := 3) dX8_greatestDivisor_3 rfl rfl ?_
  refine Ev.iconst (pc := 4) (v := nI 0) dX8_greatestDivisor_4 (by decide) ?_
  refine Ev.istore (pc := 5) dX8_greatestDivisor_5 rfl rfl ?_
  exact kX8_greatestDivisor_7 _ _ _ _ _ _ _ 100 _ _ _ hr
/-! X8_partOfFraction -/
def sX8_partOfFraction (a1 : Int32) (a2 : Int32) (a3 : Int32) : Option (Int32) := (sX8_greatestDivisor a1 a2).bind fun x_1 => (if (nI 1) ≤ x_1 then (if a3 = 0 then (if nz x_1 = true then (some (a2 / x_1)) else none) else (if nz x_1 = true then (some (a1 / x_1)) else none)) else (some (nI 0)))
set_option maxRecDepth 20000 in
set_option maxHeartbeats 1000000 in
theorem kX8_partOfFraction (g : Hg) (q : Int64) (g2 : Hg) (q2 : Int64) (a1 : Int32) (a2 : Int32) (a3 : Int32) {r : Int32} (hr : sX8_partOfFraction a1 a2 a3 = some r) : CtI MX8_partOfFraction [.int a1, .int a2, .int a3] (g, q, g2, q2) (fun x h' => x = r ∧ h' = (g, q, g2, q2)) := by
  unfold sX8_partOfFraction at hr
  refine CtI_L 1 rfl (by decide +kernel) rfl (Nat.le_of_ble_eq_true rfl) ?_
  show Ev _ _ 0 [some (.int a1), some (.int a2), some (.int a3), none] [] _
  refine Ev.iload_n (pc := 0) dX8_partOfFraction_0 rfl ?_
  refine Ev.iload_n (pc := 1) dX8_partOfFraction_1 rfl ?_
  obtain ⟨x_1, hx_1, hr⟩ := Option.bind_eq_some_iff.mp hr
  refine Ev.cSi (pc := 2) (As := [.int _, .int _]) (kX8_greatestDivisor _ _ _ _ _ _ hx_1) rfl gX8_partOfFraction_X8_greatestDivisor hdX8_greatestDivisor rfl ⟨rfl, rfl⟩ ⟨Nat.le_of_ble_eq_true rfl, Nat.le_of_ble_eq_true rfl⟩ (Nat.le_of_ble_eq_true rfl) ⟨Nat.le_of_ble_eq_true rfl, Nat.le_of_ble_eq_true rfl⟩ dX8_partOfFraction_2 ?_
  refine Ev.istore_n (pc := 5) dX8_partOfFraction_5 rfl rfl ?_
  refine Ev.iload_n (pc := 6) dX8_partOfFraction_6 rfl ?_
  refine Ev.iconst (pc := 7) (v := nI 1) dX8_partOfFraction_7 (by decide) ?_
  refine Ev.icmpge (pc := 8) (tgt := 13) dX8_partOfFraction_8 (by decide) (fun c_1 => ?_) (fun c_1 => ?_)
  · have hr := ifp hr c_1
    refine Ev.iload_n (pc := 13) dX8_partOfFraction_13 rfl ?_
    refine Ev.ifeq (pc := 14) (tgt := 21) dX8_partOfFraction_14 (by decide) (fun c_2 => ?_) (fun c_2 => ?_)
    · have hr := ifp hr c_2
      refine Ev.iload_n (pc := 21) dX8_partOfFraction_21 rfl ?_
      refine Ev.iload_n (pc := 22) dX8_partOfFraction_22 rfl ?_
      obtain ⟨c_3, hr⟩ := ckB hr
      refine Ev.idiv (pc := 23) dX8_partOfFraction_23 (nz_ne c_3) ?_
      cases hr
      exact Ev.iret rfl rfl dX8_partOfFraction_24 ⟨rfl, rfl⟩
    · have hr := ifn hr c_2
      refine Ev.iload_n (pc := 17) dX8_partOfFraction_17 rfl ?_
      refine Ev.goto (pc := 18) (tgt := 22) dX8_partOfFraction_18 (by decide) ?_
      refine Ev.iload_n (pc := 22) dX8_partOfFraction_22 rfl ?_
      obtain ⟨c_4, hr⟩ := ckB hr
      refine Ev.idiv (pc := 23) dX8_partOfFraction_23 (nz_ne c_4) ?_
      cases hr
      exact Ev.iret rfl rfl dX8_partOfFraction_24 ⟨rfl, rfl⟩
  · have hr := ifn hr c_1
    refine Ev.iconst (pc := 11) (v := nI 0) dX8_partOfFraction_11 (by decide) ?_
    cases hr
    exact Ev.iret rfl rfl dX8_partOfFraction_12 ⟨rfl, rfl⟩
/-! X8_share -/
def sX8_share (g : Hg) (a1 : Int32) (a2 : Int32) : Option (Int32 × Hg) := if (sX1_isLark g a1) = true then ((sX3_shareInTwelfths g a1).bind fun x_1 => ((sX8_partOfFraction x_1.1 (nI 12) a2).bind fun x_2 => (some (x_2, x_1.2)))) else (some ((-1), g))
set_option maxRecDepth 20000 in
set_option maxHeartbeats 1000000 in
theorem kX8_share (g : Hg) (q : Int64) (g2 : Hg) (q2 : Int64) (a1 : Int32) (a2 : Int32) {r : Int32 × Hg} (hr : sX8_share g a1 a2 = some r) : CtI MX8_share [.ref 0, .int a1, .int a2] (g, q, g2, q2) (fun x h' => x = r.1 ∧ h' = (r.2, q, g2, q2)) := by
  unfold sX8_share at hr
  refine CtI_L 0 rfl (by decide +kernel) rfl (Nat.le_of_ble_eq_true rfl) ?_
  show Ev _ _ 0 [some (.ref 0), some (.int a1), some (.int a2)] [] _
  refine Ev.aload_n (pc := 0) dX8_share_0 rfl ?_
  refine Ev.get (pc := 1) (C0 := RX8) (T := TX8) (N := 10) (fl_0_1 _ _ _ _) rfl inX8_share (by decide) lkX8_share_19 dX8_share_1 ?_
  refine Ev.iload_n (pc := 4) dX8_share_4 rfl ?_
  refine Ev.cVi (pc := 5) (As := [.int _]) (kX1_isLark _ _ _ _ _) rfl rfl (ob_2 _) gX8_share_X1_isLark hdX1_isLark rfl ⟨rfl, rfl⟩ ⟨Nat.le_of_ble_eq_true rfl, Nat.le_of_ble_eq_true rfl⟩ (Nat.le_of_ble_eq_true rfl) ⟨Nat.le_of_ble_eq_true rfl, Nat.le_of_ble_eq_true rfl⟩ dX8_share_5 ?_
  refine Ev.ifneB (pc := 8) (tgt := 13) dX8_share_8 (by decide) (fun c_1 => ?_) (fun c_1 => ?_)
  · have hr := ifp hr c_1
    refine Ev.aload_n (pc := 13) dX8_share_13 rfl ?_
    refine Ev.get (pc := 14) (C0 := RX8) (T := TX8) (N := 10) (fl_0_7 _ _ _ _) rfl inX8_share (by decide) lkX8_share_61 dX8_share_14 ?_
    refine Ev.iload_n (pc := 17) dX8_share_17 rfl ?_
    obtain ⟨x_1, hx_1, hr⟩ := Option.bind_eq_some_iff.mp hr
    refine Ev.cVi (pc := 18) (As := [.int _]) (kX3_shareInTwelfths _ _ _ _ _ hx_1) rfl rfl (ob_8 _) gX8_share_X3_shareInTwelfths hdX3_shareInTwelfths rfl ⟨rfl, rfl⟩ ⟨Nat.le_of_ble_eq_true rfl, Nat.le_of_ble_eq_true rfl⟩ (Nat.le_of_ble_eq_true rfl) ⟨Nat.le_of_ble_eq_true rfl, Nat.le_of_ble_eq_true rfl⟩ dX8_share_18 ?_
    refine Ev.bipush (pc := 21) (v := nI 12) dX8_share_21 (by decide) ?_
    refine Ev.iload_n (pc := 23) dX8_share_23 rfl ?_
    obtain ⟨x_2, hx_2, hr⟩ := Option.bind_eq_some_iff.mp hr
    refine Ev.cSi (pc := 24) (As := [.int _, .int _, .int _]) (kX8_partOfFraction _ _ _ _ _ _ _ hx_2) rfl gX8_share_X8_partOfFraction hdX8_partOfFraction rfl ⟨rfl, rfl⟩ ⟨Nat.le_of_ble_eq_true rfl, Nat.le_of_ble_eq_true rfl⟩ (Nat.le_of_ble_eq_true rfl) ⟨Nat.le_of_ble_eq_true rfl, Nat.le_of_ble_eq_true rfl⟩ dX8_share_24 ?_
    cases hr
    exact Ev.iret rfl rfl dX8_share_27 ⟨rfl, rfl⟩
  · have hr := ifn hr (ntr c_1)
    refine Ev.iconst (pc := 11) (v := (-1)) dX8_share_11 (by decide) ?_
    cases hr
    exact Ev.iret rfl rfl dX8_share_12 ⟨rfl, rfl⟩
/-! X8_rests -/
def sX8_rests (g : Hg) (a1 : Int32) (a2 : Int32) (a3 : Int32) : Option (Int32 × Hg) := if (sX1_isLark g a1) = true then (if (sX1_isLark g a2) = true then (if a1 = a2 then (some ((-2), g)) else (if (sX8_within a3 (nI 0) (nI 1)) = true then (if (sX4_isDrowned g 3 a1) = true then (some ((-3), g)) else (if (sX4_isDrowned g 3 a2) = true then (some ((-3), g)) else ((sX2_playAll g a1 a2).bind fun x_1 => (if a3 = 0 then ((sX2_restCount x_1).bind fun x_3 => (some (x_3, x_1))) else ((sX2_firstRest x_1).bind fun x_2 => (some (x_2, x_1))))))) else (some ((-2), g)))) else (some ((-1), g))) else (some ((-1), g))
set_option maxRecDepth 20000 in
set_option maxHeartbeats 1000000 in
theorem kX8_rests (g : Hg) (q : Int64) (g2 : Hg) (q2 : Int64) (a1 : Int32) (a2 : Int32) (a3 : Int32) {r : Int32 × Hg} (hr : sX8_rests g a1 a2 a3 = some r) : CtI MX8_rests [.ref 0, .int a1, .int a2, .int a3] (g, q, g2, q2) (fun x h' => x = r.1 ∧ h' = (r.2, q, g2, q2)) := by
  unfold sX8_rests at hr
  refine CtI_L 0 rfl (by decide +kernel) rfl (Nat.le_of_ble_eq_true rfl) ?_
  show Ev _ _ 0 [some (.ref 0), some (.int a1), some (.int a2), some (.int a3)] [] _
  refine Ev.aload_n (pc := 0) dX8_rests_0 rfl ?_
  refine Ev.get (pc := 1) (C0 := RX8) (T := TX8) (N := 10) (fl_0_1 _ _ _ _) rfl inX8_rests (by decide) lkX8_rests_19 dX8_rests_1 ?_
  refine Ev.iload_n (pc := 4) dX8_rests_4 rfl ?_
  refine Ev.cVi (pc := 5) (As := [.int _]) (kX1_isLark _ _ _ _ _) rfl rfl (ob_2 _) gX8_rests_X1_isLark hdX1_isLark rfl ⟨rfl, rfl⟩ ⟨Nat.le_of_ble_eq_true rfl, Nat.le_of_ble_eq_true rfl⟩ (Nat.le_of_ble_eq_true rfl) ⟨Nat.le_of_ble_eq_true rfl, Nat.le_of_ble_eq_true rfl⟩ dX8_rests_5 ?_
  refine Ev.ifeqB (pc := 8) (tgt := 22) dX8_rests_8 (by decide) (fun c_1 => ?_) (fun c_1 => ?_)
  · have hr := ifn hr (ntr c_1)
    refine Ev.iconst (pc := 22) (v := (-1)) dX8_rests_22 (by decide) ?_
    cases hr
    exact Ev.iret rfl rfl dX8_rests_23 ⟨rfl, rfl⟩
  · have hr := ifp hr c_1
    refine Ev.aload_n (pc := 11) dX8_rests_11 rfl ?_
    refine Ev.get (pc := 12) (C0 := RX8) (T := TX8) (N := 10) (fl_0_1 _ _ _ _) rfl inX8_rests (by decide) lkX8_rests_19 dX8_rests_12 ?_
    refine Ev.iload_n (pc := 15) dX8_rests_15 rfl ?_
    refine Ev.cVi (pc := 16) (As := [.int _]) (kX1_isLark _ _ _ _ _) rfl rfl (ob_2 _) gX8_rests_X1_isLark hdX1_isLark rfl ⟨rfl, rfl⟩ ⟨Nat.le_of_ble_eq_true rfl, Nat.le_of_ble_eq_true rfl⟩ (Nat.le_of_ble_eq_true rfl) ⟨Nat.le_of_ble_eq_true rfl, Nat.le_of_ble_eq_true rfl⟩ dX8_rests_16 ?_
    refine Ev.ifneB (pc := 19) (tgt := 24) dX8_rests_19 (by decide) (fun c_2 => ?_) (fun c_2 => ?_)
    · have hr := ifp hr c_2
      refine Ev.iload_n (pc := 24) dX8_rests_24 rfl ?_
      refine Ev.iload_n (pc := 25) dX8_rests_25 rfl ?_
      refine Ev.icmpeq (pc := 26) (tgt := 38) dX8_rests_26 (by decide) (fun c_3 => ?_) (fun c_3 => ?_)
      · have hr := ifp hr c_3
        refine Ev.bipush (pc := 38) (v := (-2)) dX8_rests_38 (by decide) ?_
        cases hr
        exact Ev.iret rfl rfl dX8_rests_40 ⟨rfl, rfl⟩
      · have hr := ifn hr c_3
        refine Ev.iload_n (pc := 29) dX8_rests_29 rfl ?_
        refine Ev.iconst (pc := 30) (v := nI 0) dX8_rests_30 (by decide) ?_
        refine Ev.iconst (pc := 31) (v := nI 1) dX8_rests_31 (by decide) ?_
        refine Ev.cSi (pc := 32) (As := [.int _, .int _, .int _]) (kX8_within _ _ _ _ _ _ _) rfl gX8_rests_X8_within hdX8_within rfl ⟨rfl, rfl⟩ ⟨Nat.le_of_ble_eq_true rfl, Nat.le_of_ble_eq_true rfl⟩ (Nat.le_of_ble_eq_true rfl) ⟨Nat.le_of_ble_eq_true rfl, Nat.le_of_ble_eq_true rfl⟩ dX8_rests_32 ?_
        refine Ev.ifneB (pc := 35) (tgt := 41) dX8_rests_35 (by decide) (fun c_4 => ?_) (fun c_4 => ?_)
        · have hr := ifp hr c_4
          refine Ev.aload_n (pc := 41) dX8_rests_41 rfl ?_
          refine Ev.get (pc := 42) (C0 := RX8) (T := TX8) (N := 10) (fl_0_2 _ _ _ _) rfl inX8_rests (by decide) lkX8_rests_28 dX8_rests_42 ?_
          refine Ev.iload_n (pc := 45) dX8_rests_45 rfl ?_
          refine Ev.cVi (pc := 46) (As := [.int _]) (kX4_isDrowned _ _ _ _ (Or.inl rfl) _) rfl rfl (ob_3 _) gX8_rests_X4_isDrowned hdX4_isDrowned rfl ⟨rfl, rfl⟩ ⟨Nat.le_of_ble_eq_true rfl, Nat.le_of_ble_eq_true rfl⟩ (Nat.le_of_ble_eq_true rfl) ⟨Nat.le_of_ble_eq_true rfl, Nat.le_of_ble_eq_true rfl⟩ dX8_rests_46 ?_
          refine Ev.ifneB (pc := 49) (tgt := 63) dX8_rests_49 (by decide) (fun c_5 => ?_) (fun c_5 => ?_)
          · have hr := ifp hr c_5
            refine Ev.bipush (pc := 63) (v := (-3)) dX8_rests_63 (by decide) ?_
            cases hr
            exact Ev.iret rfl rfl dX8_rests_65 ⟨rfl, rfl⟩
          · have hr := ifn hr (ntr c_5)
            refine Ev.aload_n (pc := 52) dX8_rests_52 rfl ?_
            refine Ev.get (pc := 53) (C0 := RX8) (T := TX8) (N := 10) (fl_0_2 _ _ _ _) rfl inX8_rests (by decide) lkX8_rests_28 dX8_rests_53 ?_
            refine Ev.iload_n (pc := 56) dX8_rests_56 rfl ?_
            refine Ev.cVi (pc := 57) (As := [.int _]) (kX4_isDrowned _ _ _ _ (Or.inl rfl) _) rfl rfl (ob_3 _) gX8_rests_X4_isDrowned hdX4_isDrowned rfl ⟨rfl, rfl⟩ ⟨Nat.le_of_ble_eq_true rfl, Nat.le_of_ble_eq_true rfl⟩ (Nat.le_of_ble_eq_true rfl) ⟨Nat.le_of_ble_eq_true rfl, Nat.le_of_ble_eq_true rfl⟩ dX8_rests_57 ?_
            refine Ev.ifeqB (pc := 60) (tgt := 66) dX8_rests_60 (by decide) (fun c_6 => ?_) (fun c_6 => ?_)
            · have hr := ifn hr (ntr c_6)
              refine Ev.aload_n (pc := 66) dX8_rests_66 rfl ?_
              refine Ev.get (pc := 67) (C0 := RX8) (T := TX8) (N := 10) (fl_0_8 _ _ _ _) rfl inX8_rests (by decide) lkX8_rests_70 dX8_rests_67 ?_
              refine Ev.iload_n (pc := 70) dX8_rests_70 rfl ?_
              refine Ev.iload_n (pc := 71) dX8_rests_71 rfl ?_
              obtain ⟨x_1, hx_1, hr⟩ := Option.bind_eq_some_iff.mp hr
              refine Ev.cVv (pc := 72) (As := [.int _, .int _]) (kX2_playAll _ _ _ _ _ _ hx_1) rfl rfl (ob_9 _) gX8_rests_X2_playAll hdX2_playAll rfl ⟨rfl, rfl⟩ ⟨Nat.le_of_ble_eq_true rfl, Nat.le_of_ble_eq_true rfl⟩ (Nat.le_of_ble_eq_true rfl) ⟨Nat.le_of_ble_eq_true rfl, Nat.le_of_ble_eq_true rfl⟩ dX8_rests_72 ?_
              refine Ev.iload_n (pc := 75) dX8_rests_75 rfl ?_
              refine Ev.ifne (pc := 76) (tgt := 89) dX8_rests_76 (by decide) (fun c_7 => ?_) (fun c_7 => ?_)
              · have hr := ifn hr c_7
                refine Ev.aload_n (pc := 89) dX8_rests_89 rfl ?_
                refine Ev.get (pc := 90) (C0 := RX8) (T := TX8) (N := 10) (fl_0_8 _ _ _ _) rfl inX8_rests (by decide) lkX8_rests_70 dX8_rests_90 ?_
                obtain ⟨x_2, hx_2, hr⟩ := Option.bind_eq_some_iff.mp hr
                refine Ev.cVi (pc := 93) (As := []) (kX2_firstRest _ _ _ _ hx_2) rfl rfl (ob_9 _) gX8_rests_X2_firstRest hdX2_firstRest rfl ⟨rfl, rfl⟩ ⟨Nat.le_of_ble_eq_true rfl, Nat.le_of_ble_eq_true rfl⟩ (Nat.le_of_ble_eq_true rfl) ⟨Nat.le_of_ble_eq_true rfl, Nat.le_of_ble_eq_true rfl⟩ dX8_rests_93 ?_
                cases hr
                exact Ev.iret rfl rfl dX8_rests_96 ⟨rfl, rfl⟩
              · have hr := ifp hr c_7
                refine Ev.aload_n (pc := 79) dX8_rests_79 rfl ?_
                refine Ev.get (pc := 80) (C0 := RX8) (T := TX8) (N := 10) (fl_0_8 _ _ _ _) rfl inX8_rests (by decide) lkX8_rests_70 dX8_rests_80 ?_
                obtain ⟨x_3, hx_3, hr⟩ := Option.bind_eq_some_iff.mp hr
                refine Ev.cVi (pc := 83) (As := []) (kX2_restCount _ _ _ _ hx_3) rfl rfl (ob_9 _) gX8_rests_X2_restCount hdX2_restCount rfl ⟨rfl, rfl⟩ ⟨Nat.le_of_ble_eq_true rfl, Nat.le_of_ble_eq_true rfl⟩ (Nat.le_of_ble_eq_true rfl) ⟨Nat.le_of_ble_eq_true rfl, Nat.le_of_ble_eq_true rfl⟩ dX8_rests_83 ?_
                refine Ev.goto (pc := 86) (tgt := 96) dX8_rests_86 (by decide) ?_
                cases hr
                exact Ev.iret rfl rfl dX8_rests_96 ⟨rfl, rfl⟩
            · have hr := ifp hr c_6
              refine Ev.bipush (pc := 63) (v := (-3)) dX8_rests_63 (by decide) ?_
              cases hr
              exact Ev.iret rfl rfl dX8_rests_65 ⟨rfl, rfl⟩
        · have hr := ifn hr (ntr c_4)
          refine Ev.bipush (pc := 38) (v := (-2)) dX8_rests_38 (by decide) ?_
          cases hr
          exact Ev.iret rfl rfl dX8_rests_40 ⟨rfl, rfl⟩
    · have hr := ifn hr (ntr c_2)
      refine Ev.iconst (pc := 22) (v := (-1)) dX8_rests_22 (by decide) ?_
      cases hr
      exact Ev.iret rfl rfl dX8_rests_23 ⟨rfl, rfl⟩
/-! X8_storms -/
def sX8_storms_59 (g : Hg) (v1 : Int32) (v2 : Int32) (v3 : Int32) (v4 : Int32) : Nat → Int32 → Int32 → Int32 → Option (Int32)
  | 0, _, _, _ => none
  | n + 1, v5, v6, v7 => if v2 < v7 then ((sX8_partOfFraction v5 v6 v4).bind fun x_1 => (some x_1)) else ((sX3_tenthsToStand g v1 v7 v3).bind fun x_2 => (sX8_storms_59 g v1 v2 v3 v4 n (v5 * x_2) (v6 * (nI 10)) (v7 + (nI 1))))
set_option maxRecDepth 20000 in
set_option maxHeartbeats 1000000 in
theorem kX8_storms_59 (g : Hg) (q : Int64) (g2 : Hg) (q2 : Int64)  (v1 : Int32) (v2 : Int32) (v3 : Int32) (v4 : Int32) (r : Int32) : ∀ (n : Nat) (v5 : Int32) (v6 : Int32) (v7 : Int32), sX8_storms_59 g v1 v2 v3 v4 n v5 v6 v7 = some r → Ev (Xi (fun x h' => x = r ∧ h' = (g, q, g2, q2))) MX8_storms 59 [some (.ref 0), some (.int v1), some (.int v2), some (.int v3), some (.int v4), some (.int v5), some (.int v6), some (.int v7)] [] (g, q, g2, q2) := by
  intro n
  induction n with
  | zero => intro _ _ _ hr; cases hr
  | succ n ih =>
    intro v5 v6 v7 hr
    rw [sX8_storms_59] at hr
    refine Ev.iload (pc := 59) dX8_storms_59 rfl ?_
    refine Ev.iload_n (pc := 61) dX8_storms_61 rfl ?_
    refine Ev.icmpgt (pc := 62) (tgt := 94) dX8_storms_62 (by decide) (fun c_5 => ?_) (fun c_5 => ?_)
    · have hr := ifp hr c_5
      refine Ev.iload (pc := 94) dX8_storms_94 rfl ?_
      refine Ev.iload (pc := 96) dX8_storms_96 rfl ?_
      refine Ev.iload (pc := 98) dX8_storms_98 rfl ?_
      obtain ⟨x_1, hx_1, hr⟩ := Option.bind_eq_some_iff.mp hr
      refine Ev.cSi (pc := 100) (As := [.int _, .int _, .int _]) (kX8_partOfFraction _ _ _ _ _ _ _ hx_1) rfl gX8_storms_X8_partOfFraction hdX8_partOfFraction rfl ⟨rfl, rfl⟩ ⟨Nat.le_of_ble_eq_true rfl, Nat.le_of_ble_eq_true rfl⟩ (Nat.le_of_ble_eq_true rfl) ⟨Nat.le_of_ble_eq_true rfl, Nat.le_of_ble_eq_true rfl⟩ dX8_storms_100 ?_
      cases hr
      exact Ev.iret rfl rfl dX8_storms_103 ⟨rfl, rfl⟩
    · have hr := ifn hr c_5
      refine Ev.iload (pc := 65) dX8_storms_65 rfl ?_
      refine Ev.aload_n (pc := 67) dX8_storms_67 rfl ?_
      refine Ev.get (pc := 68) (C0 := RX8) (T := TX8) (N := 10) (fl_0_7 _ _ _ _) rfl inX8_storms (by decide) lkX8_storms_61 dX8_storms_68 ?_
      refine Ev.iload_n (pc := 71) dX8_storms_71 rfl ?_
      refine Ev.iload (pc := 72) dX8_storms_72 rfl ?_
      refine Ev.iload_n (pc := 74) dX8_storms_74 rfl ?_
      obtain ⟨x_2, hx_2, hr⟩ := Option.bind_eq_some_iff.mp hr
      refine Ev.cVi (pc := 75) (As := [.int _, .int _, .int _]) (kX3_tenthsToStand _ _ _ _ _ _ _ hx_2) rfl rfl (ob_8 _) gX8_storms_X3_tenthsToStand hdX3_tenthsToStand rfl ⟨rfl, rfl⟩ ⟨Nat.le_of_ble_eq_true rfl, Nat.le_of_ble_eq_true rfl⟩ (Nat.le_of_ble_eq_true rfl) ⟨Nat.le_of_ble_eq_true rfl, Nat.le_of_ble_eq_true rfl⟩ dX8_storms_75 ?_
      refine Ev.imul (pc := 78) dX8_storms_78 ?_
      refine Ev.istore (pc := 79) dX8_storms_79 rfl rfl ?_
      refine Ev.iload (pc := 81) dX8_storms_81 rfl ?_
      refine Ev.bipush (pc := 83) (v := nI 10) dX8_storms_83 (by decide) ?_
      refine Ev.imul (pc := 85) dX8_storms_85 ?_
      refine Ev.istore (pc := 86) dX8_storms_86 rfl rfl ?_
      refine Ev.iinc (pc := 88) (v := nI 1) dX8_storms_88 rfl rfl rfl rfl ?_
      refine Ev.goto (pc := 91) (tgt := 59) dX8_storms_91 (by decide) ?_
      exact ih _ _ _ hr
def sX8_storms (g : Hg) (a1 : Int32) (a2 : Int32) (a3 : Int32) (a4 : Int32) : Option (Int32) := if (sX1_isLark g a1) = true then (if (sX8_within a2 (nI 1) (nI 6)) = true then (if (sX8_within a3 (nI 0) (nI 10)) = true then (if (sX4_isDrowned g 3 a1) = true then (some ((-3))) else (sX8_storms_59 g a1 a2 a3 a4 100 (nI 1) (nI 1) (nI 1))) else (some ((-2)))) else (some ((-2)))) else (some ((-1)))
set_option maxRecDepth 20000 in
set_option maxHeartbeats 1000000 in
theorem kX8_storms (g : Hg) (q : Int64) (g2 : Hg) (q2 : Int64) (a1 : Int32) (a2 : Int32) (a3 : Int32) (a4 : Int32) {r : Int32} (hr : sX8_storms g a1 a2 a3 a4 = some r) : CtI MX8_storms [.ref 0, .int a1, .int a2, .int a3, .int a4] (g, q, g2, q2) (fun x h' => x = r ∧ h' = (g, q, g2, q2)) := by
  unfold sX8_storms at hr
  refine CtI_L 3 rfl (by decide +kernel) rfl (Nat.le_of_ble_eq_true rfl) ?_
  show Ev _ _ 0 [some (.ref 0), some (.int a1), some (.int a2), some (.int a3), some (.int a4), none, none, none] [] _
  refine Ev.aload_n (pc := 0) dX8_storms_0 rfl ?_
  refine Ev.get (pc := 1) (C0 := RX8) (T := TX8) (N := 10) (fl_0_1 _ _ _ _) rfl inX8_storms (by decide) lkX8_storms_19 dX8_storms_1 ?_
  refine Ev.iload_n (pc := 4) dX8_storms_4 rfl ?_
  refine Ev.cVi (pc := 5) (As := [.int _]) (kX1_isLark _ _ _ _ _) rfl rfl (ob_2 _) gX8_storms_X1_isLark hdX1_isLark rfl ⟨rfl, rfl⟩ ⟨Nat.le_of_ble_eq_true rfl, Nat.le_of_ble_eq_true rfl⟩ (Nat.le_of_ble_eq_true rfl) ⟨Nat.le_of_ble_eq_true rfl, Nat.le_of_ble_eq_true rfl⟩ dX8_storms_5 ?_
  refine Ev.ifneB (pc := 8) (tgt := 13) dX8_storms_8 (by decide) (fun c_1 => ?_) (fun c_1 => ?_)
  · have hr := ifp hr c_1
    refine Ev.iload_n (pc := 13) dX8_storms_13 rfl ?_
    refine Ev.iconst (pc := 14) (v := nI 1) dX8_storms_14 (by decide) ?_
    refine Ev.bipush (pc := 15) (v := nI 6) dX8_storms_15 (by decide) ?_
    refine Ev.cSi (pc := 17) (As := [.int _, .int _, .int _]) (kX8_within _ _ _ _ _ _ _) rfl gX8_storms_X8_within hdX8_within rfl ⟨rfl, rfl⟩ ⟨Nat.le_of_ble_eq_true rfl, Nat.le_of_ble_eq_true rfl⟩ (Nat.le_of_ble_eq_true rfl) ⟨Nat.le_of_ble_eq_true rfl, Nat.le_of_ble_eq_true rfl⟩ dX8_storms_17 ?_
    refine Ev.ifeqB (pc := 20) (tgt := 33) dX8_storms_20 (by decide) (fun c_2 => ?_) (fun c_2 => ?_)
    · have hr := ifn hr (ntr c_2)
      refine Ev.bipush (pc := 33) (v := (-2)) dX8_storms_33 (by decide) ?_
      cases hr
      exact Ev.iret rfl rfl dX8_storms_35 ⟨rfl, rfl⟩
    · have hr := ifp hr c_2
      refine Ev.iload_n (pc := 23) dX8_storms_23 rfl ?_
      refine Ev.iconst (pc := 24) (v := nI 0) dX8_storms_24 (by decide) ?_
      refine Ev.bipush (pc := 25) (v := nI 10) dX8_storms_25 (by decide) ?_
      refine Ev.cSi (pc := 27) (As := [.int _, .int _, .int _]) (kX8_within _ _ _ _ _ _ _) rfl gX8_storms_X8_within hdX8_within rfl ⟨rfl, rfl⟩ ⟨Nat.le_of_ble_eq_true rfl, Nat.le_of_ble_eq_true rfl⟩ (Nat.le_of_ble_eq_true rfl) ⟨Nat.le_of_ble_eq_true rfl, Nat.le_of_ble_eq_true rfl⟩ dX8_storms_27 ?_
      refine Ev.ifneB (pc := 30) (tgt := 36) dX8_storms_30 (by decide) (fun c_3 => ?_) (fun c_3 => ?_)
      · have hr := ifp hr c_3
        refine Ev.aload_n (pc := 36) dX8_storms_36 rfl ?_
        refine Ev.get (pc := 37) (C0 := RX8) (T := TX8) (N := 10) (fl_0_2 _ _ _ _) rfl inX8_storms (by decide) lkX8_storms_28 dX8_storms_37 ?_
        refine Ev.iload_n (pc := 40) dX8_storms_40 rfl ?_
        refine Ev.cVi (pc := 41) (As := [.int _]) (kX4_isDrowned _ _ _ _ (Or.inl rfl) _) rfl rfl (ob_3 _) gX8_storms_X4_isDrowned hdX4_isDrowned rfl ⟨rfl, rfl⟩ ⟨Nat.le_of_ble_eq_true rfl, Nat.le_of_ble_eq_true rfl⟩ (Nat.le_of_ble_eq_true rfl) ⟨Nat.le_of_ble_eq_true rfl, Nat.le_of_ble_eq_true rfl⟩ dX8_storms_41 ?_
        refine Ev.ifeqB (pc := 44) (tgt := 50) dX8_storms_44 (by decide) (fun c_4 => ?_) (fun c_4 => ?_)
        · have hr := ifn hr (ntr c_4)
          refine Ev.iconst (pc := 50) (v := nI 1) dX8_storms_50 (by decide) ?_
          refine Ev.istore (pc := 51) dX8_storms_51 rfl rfl ?_
          refine Ev.iconst (pc := 53) (v := nI 1) dX8_storms_53 (by decide) ?_
          refine Ev.istore (pc := 54) dX8_storms_54 rfl rfl ?_
          refine Ev.iconst (pc := 56) (v := nI 1) dX8_storms_56 (by decide) ?_
          refine Ev.istore (pc := 57) dX8_storms_57 rfl rfl ?_
          exact kX8_storms_59 _ _ _ _ _ _ _ _ _ 100 _ _ _ hr
        · have hr := ifp hr c_4
          refine Ev.bipush (pc := 47) (v := (-3)) dX8_storms_47 (by decide) ?_
          cases hr
          exact Ev.iret rfl rfl dX8_storms_49 ⟨rfl, rfl⟩
      · have hr := ifn hr (ntr c_3)
        refine Ev.bipush (pc := 33) (v := (-2)) dX8_storms_33 (by decide) ?_
        cases hr
        exact Ev.iret rfl rfl dX8_storms_35 ⟨rfl, rfl⟩
  · have hr := ifn hr (ntr c_1)
    refine Ev.iconst (pc := 11) (v := (-1)) dX8_storms_11 (by decide) ?_
    cases hr
    exact Ev.iret rfl rfl dX8_storms_12 ⟨rfl, rfl⟩
/-! X8_seed -/
def sX8_seed (g : Hg) (q : Int64) (a1 : Int64) : Int64 × Hg × Int64 := (q, g, a1)
set_option maxRecDepth 20000 in
set_option maxHeartbeats 1000000 in
theorem kX8_seed (g : Hg) (q : Int64) (g2 : Hg) (q2 : Int64) (a1 : Int64) : CtL MX8_seed [.ref 0, .long a1] (g, q, g2, q2) (fun x h' => x = (sX8_seed g q a1).1 ∧ h' = ((sX8_seed g q a1).2.1, (sX8_seed g q a1).2.2, g2, q2)) := by
  generalize hr : sX8_seed g q a1 = r
  unfold sX8_seed at hr
  refine CtL_L 2 rfl (by decide +kernel) rfl (Nat.le_of_ble_eq_true rfl) ?_
  show Ev _ _ 0 [some (.ref 0), some (.long a1), none, none, none] [] _
  refine Ev.aload_n (pc := 0) dX8_seed_0 rfl ?_
  refine Ev.get (pc := 1) (C0 := RX8) (T := TX8) (N := 10) (fl_0_9 _ _ _ _) rfl inX8_seed (by decide) lkX8_seed_74 dX8_seed_1 ?_
  refine Ev.lstore_n (pc := 4) dX8_seed_4 rfl rfl ?_
  refine Ev.aload_n (pc := 5) dX8_seed_5 rfl ?_
  refine Ev.lload_n (pc := 6) dX8_seed_6 rfl ?_
  refine Ev.put (pc := 7) (C0 := RX8) (T := TX8) (N := 10) (ty := .long) (pu_0_9 _ _ _ _ _) rfl inX8_seed tyX8_ok nmX8 (by decide) lkX8_seed_74 rfl (by decide +kernel) (fun _ => rfl) (fun _ => rfl) dX8_seed_7 ?_
  refine Ev.lload_n (pc := 10) dX8_seed_10 rfl ?_
  subst hr
  exact Ev.lret rfl dX8_seed_11 ⟨rfl, rfl⟩
/-! X8_doByChance -/
def sX8_doByChance (g : Hg) (a1 : Int32) : Option (Hg) := if (nI 16) ≤ a1 then (if (nI 20) ≤ a1 then ((sX4_passHour g 4).bind fun x_1 => (some x_1.2)) else ((sX4_digLeast g 4 (a1 - (nI 16))).bind fun x_2 => (some x_2))) else ((sX4_tryWalk g 4 (a1 / (nI 4)) ((a1 - a1 / (nI 4) * (nI 4)) + (nI 1))).bind fun x_3 => (some x_3.2))
set_option maxRecDepth 20000 in
set_option maxHeartbeats 1000000 in
theorem kX8_doByChance (g : Hg) (q : Int64) (g2 : Hg) (q2 : Int64) (a1 : Int32) {r : Hg} (hr : sX8_doByChance g a1 = some r) : CtV MX8_doByChance [.ref 0, .int a1] (g, q, g2, q2) (fun h' => h' = (r, q, g2, q2)) := by
  unfold sX8_doByChance at hr
  refine CtV_L 0 rfl (by decide +kernel) rfl (Nat.le_of_ble_eq_true rfl) ?_
  show Ev _ _ 0 [some (.ref 0), some (.int a1)] [] _
  refine Ev.iload_n (pc := 0) dX8_doByChance_0 rfl ?_
  refine Ev.bipush (pc := 1) (v := nI 16) dX8_doByChance_1 (by decide) ?_
  refine Ev.icmpge (pc := 3) (tgt := 25) dX8_doByChance_3 (by decide) (fun c_1 => ?_) (fun c_1 => ?_)
  · have hr := ifp hr c_1
    refine Ev.iload_n (pc := 25) dX8_doByChance_25 rfl ?_
    refine Ev.bipush (pc := 26) (v := nI 20) dX8_doByChance_26 (by decide) ?_
    refine Ev.icmpge (pc := 28) (tgt := 45) dX8_doByChance_28 (by decide) (fun c_2 => ?_) (fun c_2 => ?_)
    · have hr := ifp hr c_2
      refine Ev.aload_n (pc := 45) dX8_doByChance_45 rfl ?_
      refine Ev.get (pc := 46) (C0 := RX8) (T := TX8) (N := 10) (fl_0_3 _ _ _ _) rfl inX8_doByChance (by decide) lkX8_doByChance_32 dX8_doByChance_46 ?_
      obtain ⟨x_1, hx_1, hr⟩ := Option.bind_eq_some_iff.mp hr
      refine Ev.cVi (pc := 49) (As := []) (kX4_passHour _ _ _ _ (Or.inr rfl) hx_1) rfl rfl (ob_4 _) gX8_doByChance_X4_passHour hdX4_passHour rfl ⟨rfl, rfl⟩ ⟨Nat.le_of_ble_eq_true rfl, Nat.le_of_ble_eq_true rfl⟩ (Nat.le_of_ble_eq_true rfl) ⟨Nat.le_of_ble_eq_true rfl, Nat.le_of_ble_eq_true rfl⟩ dX8_doByChance_49 ?_
      refine Ev.pop (pc := 52) dX8_doByChance_52 rfl ?_
      cases hr
      exact Ev.vret rfl dX8_doByChance_53 rfl
    · have hr := ifn hr c_2
      refine Ev.aload_n (pc := 31) dX8_doByChance_31 rfl ?_
      refine Ev.get (pc := 32) (C0 := RX8) (T := TX8) (N := 10) (fl_0_3 _ _ _ _) rfl inX8_doByChance (by decide) lkX8_doByChance_32 dX8_doByChance_32 ?_
      refine Ev.iload_n (pc := 35) dX8_doByChance_35 rfl ?_
      refine Ev.bipush (pc := 36) (v := nI 16) dX8_doByChance_36 (by decide) ?_
      refine Ev.isub (pc := 38) dX8_doByChance_38 ?_
      obtain ⟨x_2, hx_2, hr⟩ := Option.bind_eq_some_iff.mp hr
      refine Ev.cVv (pc := 39) (As := [.int _]) (kX4_digLeast _ _ _ _ (Or.inr rfl) _ hx_2) rfl rfl (ob_4 _) gX8_doByChance_X4_digLeast hdX4_digLeast rfl ⟨rfl, rfl⟩ ⟨Nat.le_of_ble_eq_true rfl, Nat.le_of_ble_eq_true rfl⟩ (Nat.le_of_ble_eq_true rfl) ⟨Nat.le_of_ble_eq_true rfl, Nat.le_of_ble_eq_true rfl⟩ dX8_doByChance_39 ?_
      refine Ev.goto (pc := 42) (tgt := 53) dX8_doByChance_42 (by decide) ?_
      cases hr
      exact Ev.vret rfl dX8_doByChance_53 rfl
  · have hr := ifn hr c_1
    refine Ev.aload_n (pc := 6) dX8_doByChance_6 rfl ?_
    refine Ev.get (pc := 7) (C0 := RX8) (T := TX8) (N := 10) (fl_0_3 _ _ _ _) rfl inX8_doByChance (by decide) lkX8_doByChance_32 dX8_doByChance_7 ?_
    refine Ev.iload_n (pc := 10) dX8_doByChance_10 rfl ?_
    refine Ev.iconst (pc := 11) (v := nI 4) dX8_doByChance_11 (by decide) ?_
    refine Ev.idiv (pc := 12) dX8_doByChance_12 (by decide) ?_
    refine Ev.iload_n (pc := 13) dX8_doByChance_13 rfl ?_
    refine Ev.iconst (pc := 14) (v := nI 4) dX8_doByChance_14 (by decide) ?_
    refine Ev.irem (pc := 15) dX8_doByChance_15 (by decide) ?_
    refine Ev.iconst (pc := 16) (v := nI 1) dX8_doByChance_16 (by decide) ?_
    refine Ev.iadd (pc := 17) dX8_doByChance_17 ?_
    obtain ⟨x_3, hx_3, hr⟩ := Option.bind_eq_some_iff.mp hr
    refine Ev.cVi (pc := 18) (As := [.int _, .int _]) (kX4_tryWalk _ _ _ _ (Or.inr rfl) _ _ hx_3) rfl rfl (ob_4 _) gX8_doByChance_X4_tryWalk hdX4_tryWalk rfl ⟨rfl, rfl⟩ ⟨Nat.le_of_ble_eq_true rfl, Nat.le_of_ble_eq_true rfl⟩ (Nat.le_of_ble_eq_true rfl) ⟨Nat.le_of_ble_eq_true rfl, Nat.le_of_ble_eq_true rfl⟩ dX8_doByChance_18 ?_
    refine Ev.pop (pc := 21) dX8_doByChance_21 rfl ?_
    refine Ev.goto (pc := 22) (tgt := 53) dX8_doByChance_22 (by decide) ?_
    cases hr
    exact Ev.vret rfl dX8_doByChance_53 rfl
