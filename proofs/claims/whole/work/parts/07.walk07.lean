/-! X9_flooded -/
def sX9_flooded_11 (g2 : Hg) (v1 : Int32) : Nat → Int32 → Option (Int32)
  | 0, _ => none
  | n + 1, v2 => if (nI 21) ≤ v2 then (some ((-9))) else ((sX9_isBare g2 v1 ((g2 35 (Int32.toNatClampNeg (nI 30))) + v2)).bind fun x_1 => (if x_1 = true then (sX9_flooded_11 g2 v1 n (v2 + (nI 1))) else (some v2)))
set_option maxRecDepth 20000 in
set_option maxHeartbeats 1000000 in
theorem kX9_flooded_11 (g : Hg) (q : Int64) (g2 : Hg) (q2 : Int64)  (v1 : Int32) (r : Int32) : ∀ (n : Nat) (v2 : Int32), sX9_flooded_11 g2 v1 n v2 = some r → Ev (Xi (fun x h' => x = r ∧ h' = (g, q, g2, q2))) MX9_flooded 11 [some (.ref 29), some (.int v1), some (.int v2)] [] (g, q, g2, q2) := by
  intro n
  induction n with
  | zero => intro _ hr; cases hr
  | succ n ih =>
    intro v2 hr
    rw [sX9_flooded_11] at hr
    refine Ev.iload_n (pc := 11) dX9_flooded_11 rfl ?_
    refine Ev.bipush (pc := 12) (v := nI 21) dX9_flooded_12 (by decide) ?_
    refine Ev.icmpge (pc := 14) (tgt := 42) dX9_flooded_14 (by decide) (fun c_2 => ?_) (fun c_2 => ?_)
    · have hr := ifp hr c_2
      refine Ev.bipush (pc := 42) (v := (-9)) dX9_flooded_42 (by decide) ?_
      cases hr
      exact Ev.iret rfl rfl dX9_flooded_44 ⟨rfl, rfl⟩
    · have hr := ifn hr c_2
      refine Ev.aload_n (pc := 17) dX9_flooded_17 rfl ?_
      refine Ev.iload_n (pc := 18) dX9_flooded_18 rfl ?_
      refine Ev.aload_n (pc := 19) dX9_flooded_19 rfl ?_
      refine Ev.get (pc := 20) (C0 := RX9) (T := TX9) (N := 31) (fl_29_8 _ _ _ _) rfl inX9_flooded (by decide) lkX9_flooded_25 dX9_flooded_20 ?_
      refine Ev.bipush (pc := 23) (v := nI 30) dX9_flooded_23 (by decide) ?_
      refine Ev.iald (pc := 25) (ar_35 _ _ _ _) (vp_in_nI (n := 30) (N := 62) (by decide) (by decide)) dX9_flooded_25 ?_
      refine Ev.iload_n (pc := 26) dX9_flooded_26 rfl ?_
      refine Ev.iadd (pc := 27) dX9_flooded_27 ?_
      obtain ⟨x_1, hx_1, hr⟩ := Option.bind_eq_some_iff.mp hr
      refine Ev.cVi (pc := 28) (As := [.int _, .int _]) (kX9_isBare _ _ _ _ _ _ hx_1) rfl rfl (ob_29 _) gX9_flooded_X9_isBare hdX9_isBare rfl ⟨rfl, rfl⟩ ⟨Nat.le_of_ble_eq_true rfl, Nat.le_of_ble_eq_true rfl⟩ (Nat.le_of_ble_eq_true rfl) ⟨Nat.le_of_ble_eq_true rfl, Nat.le_of_ble_eq_true rfl⟩ dX9_flooded_28 ?_
      refine Ev.ifneB (pc := 31) (tgt := 36) dX9_flooded_31 (by decide) (fun c_3 => ?_) (fun c_3 => ?_)
      · have hr := ifp hr c_3
        refine Ev.iinc (pc := 36) (v := nI 1) dX9_flooded_36 rfl rfl rfl rfl ?_
        refine Ev.goto (pc := 39) (tgt := 11) dX9_flooded_39 (by decide) ?_
        exact ih _ hr
      · have hr := ifn hr (ntr c_3)
        refine Ev.iload_n (pc := 34) dX9_flooded_34 rfl ?_
        cases hr
        exact Ev.iret rfl rfl dX9_flooded_35 ⟨rfl, rfl⟩
def sX9_flooded (g2 : Hg) (a1 : Int32) : Option (Int32) := if (sX9_isCell a1) = true then (sX9_flooded_11 g2 a1 100 (nI 0)) else (some ((-1)))
set_option maxRecDepth 20000 in
set_option maxHeartbeats 1000000 in
theorem kX9_flooded (g : Hg) (q : Int64) (g2 : Hg) (q2 : Int64) (a1 : Int32) {r : Int32} (hr : sX9_flooded g2 a1 = some r) : CtI MX9_flooded [.ref 29, .int a1] (g, q, g2, q2) (fun x h' => x = r ∧ h' = (g, q, g2, q2)) := by
  unfold sX9_flooded at hr
  refine CtI_L 1 rfl (by decide +kernel) rfl (Nat.le_of_ble_eq_true rfl) ?_
  show Ev _ _ 0 [some (.ref 29), some (.int a1), none] [] _
  refine Ev.iload_n (pc := 0) dX9_flooded_0 rfl ?_
  refine Ev.cSi (pc := 1) (As := [.int _]) (kX9_isCell _ _ _ _ _) rfl gX9_flooded_X9_isCell hdX9_isCell rfl ⟨rfl, rfl⟩ ⟨Nat.le_of_ble_eq_true rfl, Nat.le_of_ble_eq_true rfl⟩ (Nat.le_of_ble_eq_true rfl) ⟨Nat.le_of_ble_eq_true rfl, Nat.le_of_ble_eq_true rfl⟩ dX9_flooded_1 ?_
  refine Ev.ifneB (pc := 4) (tgt := 9) dX9_flooded_4 (by decide) (fun c_1 => ?_) (fun c_1 => ?_)
  · have hr := ifp hr c_1
    refine Ev.iconst (pc := 9) (v := nI 0) dX9_flooded_9 (by decide) ?_
    refine Ev.istore_n (pc := 10) dX9_flooded_10 rfl rfl ?_
    exact kX9_flooded_11 _ _ _ _ _ _ 100 _ hr
  · have hr := ifn hr (ntr c_1)
    refine Ev.iconst (pc := 7) (v := (-1)) dX9_flooded_7 (by decide) ?_
    cases hr
    exact Ev.iret rfl rfl dX9_flooded_8 ⟨rfl, rfl⟩
/-! X9_onward -/
def sX9_onward_16 (g2 : Hg) (v1 : Int32) (v2 : Int32) (v3 : Int32) (v4 : Int32) (v6 : Int32) : Nat → Int32 → Int32 → Option (Int32 × Int32)
  | 0, _, _ => none
  | n + 1, v5, v7 => if v4 = 0 then (if (nI 1) ≤ v7 then (some (v5, v7)) else (if (sX9_has v2 v6) = true then (if (sX9_goneTo v6 v7) = ((-9)) then (sX9_onward_16 g2 v1 v2 v3 v4 v6 n (v5 ||| (nI 0)) (v7 + (nI 1))) else (if v7 = 0 then ((sX9_stands g2 v1 (sX9_goneTo v6 v7) (v3 + (nI 1))).bind fun x_1 => (if x_1 = true then (sX9_onward_16 g2 v1 v2 v3 v4 v6 n (v5 ||| ((nI 1) <<< ((sX9_goneTo v6 v7) &&& 31))) (v7 + (nI 1))) else (sX9_onward_16 g2 v1 v2 v3 v4 v6 n (v5 ||| (nI 0)) (v7 + (nI 1))))) else ((sX9_stands g2 v1 (sX9_goneTo v6 v7) v3).bind fun x_2 => (if x_2 = true then ((sX9_stands g2 v1 (sX9_goneTo v6 v7) (v3 + (nI 1))).bind fun x_3 => (if x_3 = true then (sX9_onward_16 g2 v1 v2 v3 v4 v6 n (v5 ||| ((nI 1) <<< ((sX9_goneTo v6 v7) &&& 31))) (v7 + (nI 1))) else (sX9_onward_16 g2 v1 v2 v3 v4 v6 n (v5 ||| (nI 0)) (v7 + (nI 1))))) else (sX9_onward_16 g2 v1 v2 v3 v4 v6 n (v5 ||| (nI 0)) (v7 + (nI 1))))))) else (sX9_onward_16 g2 v1 v2 v3 v4 v6 n (v5 ||| (nI 0)) (v7 + (nI 1))))) else (if (nI 5) ≤ v7 then (some (v5, v7)) else (if (sX9_has v2 v6) = true then (if (sX9_goneTo v6 v7) = ((-9)) then (sX9_onward_16 g2 v1 v2 v3 v4 v6 n (v5 ||| (nI 0)) (v7 + (nI 1))) else (if v7 = 0 then ((sX9_stands g2 v1 (sX9_goneTo v6 v7) (v3 + (nI 1))).bind fun x_4 => (if x_4 = true then (sX9_onward_16 g2 v1 v2 v3 v4 v6 n (v5 ||| ((nI 1) <<< ((sX9_goneTo v6 v7) &&& 31))) (v7 + (nI 1))) else (sX9_onward_16 g2 v1 v2 v3 v4 v6 n (v5 ||| (nI 0)) (v7 + (nI 1))))) else ((sX9_stands g2 v1 (sX9_goneTo v6 v7) v3).bind fun x_5 => (if x_5 = true then ((sX9_stands g2 v1 (sX9_goneTo v6 v7) (v3 + (nI 1))).bind fun x_6 => (if x_6 = true then (sX9_onward_16 g2 v1 v2 v3 v4 v6 n (v5 ||| ((nI 1) <<< ((sX9_goneTo v6 v7) &&& 31))) (v7 + (nI 1))) else (sX9_onward_16 g2 v1 v2 v3 v4 v6 n (v5 ||| (nI 0)) (v7 + (nI 1))))) else (sX9_onward_16 g2 v1 v2 v3 v4 v6 n (v5 ||| (nI 0)) (v7 + (nI 1))))))) else (sX9_onward_16 g2 v1 v2 v3 v4 v6 n (v5 ||| (nI 0)) (v7 + (nI 1)))))
set_option maxRecDepth 20000 in
set_option maxHeartbeats 1000000 in
theorem kX9_onward_16 (g : Hg) (q : Int64) (g2 : Hg) (q2 : Int64) (v1 : Int32) (v2 : Int32) (v3 : Int32) (v4 : Int32) (v6 : Int32) (P : Int32 → Hp → Prop) (r : Int32 × Int32) : ∀ (n : Nat) (v5 : Int32) (v7 : Int32), sX9_onward_16 g2 v1 v2 v3 v4 v6 n v5 v7 = some r → Ev (Xi P) MX9_onward 121 [some (.ref 29), some (.int v1), some (.int v2), some (.int v3), some (.int v4), some (.int r.1), some (.int v6), some (.int r.2), none, none] [] (g, q, g2, q2) → Ev (Xi P) MX9_onward 16 [some (.ref 29), some (.int v1), some (.int v2), some (.int v3), some (.int v4), some (.int v5), some (.int v6), some (.int v7), none, none] [] (g, q, g2, q2) := by
  intro n
  induction n with
  | zero => intro _ _ hr hk; cases hr
  | succ n ih =>
    intro v5 v7 hr hk
    rw [sX9_onward_16] at hr
    refine Ev.iload (pc := 16) dX9_onward_16 rfl ?_
    refine Ev.iload (pc := 18) dX9_onward_18 rfl ?_
    refine Ev.ifeq (pc := 20) (tgt := 27) dX9_onward_20 (by decide) (fun c_2 => ?_) (fun c_2 => ?_)
    · have hr := ifp hr c_2
      refine Ev.iconst (pc := 27) (v := nI 1) dX9_onward_27 (by decide) ?_
      refine Ev.icmpge (pc := 28) (tgt := 121) dX9_onward_28 (by decide) (fun c_3 => ?_) (fun c_3 => ?_)
      · have hr := ifp hr c_3
        cases hr
        exact hk
      · have hr := ifn hr c_3
        refine Ev.iload_n (pc := 31) dX9_onward_31 rfl ?_
        refine Ev.iload (pc := 32) dX9_onward_32 rfl ?_
        refine Ev.cSi (pc := 34) (As := [.int _, .int _]) (kX9_has _ _ _ _ _ _) rfl gX9_onward_X9_has hdX9_has rfl ⟨rfl, rfl⟩ ⟨Nat.le_of_ble_eq_true rfl, Nat.le_of_ble_eq_true rfl⟩ (Nat.le_of_ble_eq_true rfl) ⟨Nat.le_of_ble_eq_true rfl, Nat.le_of_ble_eq_true rfl⟩ dX9_onward_34 ?_
        refine Ev.ifeqB (pc := 37) (tgt := 50) dX9_onward_37 (by decide) (fun c_4 => ?_) (fun c_4 => ?_)
        · have hr := ifn hr (ntr c_4)
          refine Ev.bipush (pc := 50) (v := (-9)) dX9_onward_50 (by decide) ?_
          refine Ev.istore (pc := 52) dX9_onward_52 rfl rfl ?_
          refine Ev.iload (pc := 54) dX9_onward_54 rfl ?_
          refine Ev.bipush (pc := 56) (v := (-9)) dX9_onward_56 (by decide) ?_
          refine Ev.icmpeq (pc := 58) (tgt := 94) dX9_onward_58 (by decide) (fun c_5 => ?_) (fun c_5 => ?_)
          · refine Ev.iconst (pc := 94) (v := nI 0) dX9_onward_94 (by decide) ?_
            refine Ev.istore (pc := 95) dX9_onward_95 rfl rfl ?_
            refine Ev.iload (pc := 97) dX9_onward_97 rfl ?_
            refine Ev.iload (pc := 99) dX9_onward_99 rfl ?_
            refine Ev.ifeq (pc := 101) (tgt := 111) dX9_onward_101 (by decide) (fun c_6 => ?_) (fun c_6 => ?_)
            · refine Ev.iconst (pc := 111) (v := nI 0) dX9_onward_111 (by decide) ?_
              refine Ev.ior (pc := 112) dX9_onward_112 ?_
              refine Ev.istore (pc := 113) dX9_onward_113 rfl rfl ?_
              refine Ev.iinc (pc := 115) (v := nI 1) dX9_onward_115 rfl rfl rfl rfl ?_
              refine Ev.goto (pc := 118) (tgt := 16) dX9_onward_118 (by decide) ?_
              refine Ev_drop 8 ?_
              refine Ev_drop 9 ?_
              exact ih _ _ hr hk
            · exact absurd c_6 (by decide)
          · exact absurd c_5 (by decide)
        · have hr := ifp hr c_4
          refine Ev.iload (pc := 40) dX9_onward_40 rfl ?_
          refine Ev.iload (pc := 42) dX9_onward_42 rfl ?_
          refine Ev.cSi (pc := 44) (As := [.int _, .int _]) (kX9_goneTo _ _ _ _ _ _) rfl gX9_onward_X9_goneTo hdX9_goneTo rfl ⟨rfl, rfl⟩ ⟨Nat.le_of_ble_eq_true rfl, Nat.le_of_ble_eq_true rfl⟩ (Nat.le_of_ble_eq_true rfl) ⟨Nat.le_of_ble_eq_true rfl, Nat.le_of_ble_eq_true rfl⟩ dX9_onward_44 ?_
          refine Ev.goto (pc := 47) (tgt := 52) dX9_onward_47 (by decide) ?_
          refine Ev.istore (pc := 52) dX9_onward_52 rfl rfl ?_
          refine Ev.iload (pc := 54) dX9_onward_54 rfl ?_
          refine Ev.bipush (pc := 56) (v := (-9)) dX9_onward_56 (by decide) ?_
          refine Ev.icmpeq (pc := 58) (tgt := 94) dX9_onward_58 (by decide) (fun c_7 => ?_) (fun c_7 => ?_)
          · have hr := ifp hr c_7
            refine Ev.iconst (pc := 94) (v := nI 0) dX9_onward_94 (by decide) ?_
            refine Ev.istore (pc := 95) dX9_onward_95 rfl rfl ?_
            refine Ev.iload (pc := 97) dX9_onward_97 rfl ?_
            refine Ev.iload (pc := 99) dX9_onward_99 rfl ?_
            refine Ev.ifeq (pc := 101) (tgt := 111) dX9_onward_101 (by decide) (fun c_8 => ?_) (fun c_8 => ?_)
            · refine Ev.iconst (pc := 111) (v := nI 0) dX9_onward_111 (by decide) ?_
              refine Ev.ior (pc := 112) dX9_onward_112 ?_
              refine Ev.istore (pc := 113) dX9_onward_113 rfl rfl ?_
              refine Ev.iinc (pc := 115) (v := nI 1) dX9_onward_115 rfl rfl rfl rfl ?_
              refine Ev.goto (pc := 118) (tgt := 16) dX9_onward_118 (by decide) ?_
              refine Ev_drop 8 ?_
              refine Ev_drop 9 ?_
              exact ih _ _ hr hk
            · exact absurd c_8 (by decide)
          · have hr := ifn hr c_7
            refine Ev.iload (pc := 61) dX9_onward_61 rfl ?_
            refine Ev.ifeq (pc := 63) (tgt := 77) dX9_onward_63 (by decide) (fun c_9 => ?_) (fun c_9 => ?_)
            · have hr := ifp hr c_9
              refine Ev.aload_n (pc := 77) dX9_onward_77 rfl ?_
              refine Ev.iload_n (pc := 78) dX9_onward_78 rfl ?_
              refine Ev.iload (pc := 79) dX9_onward_79 rfl ?_
              refine Ev.iload_n (pc := 81) dX9_onward_81 rfl ?_
              refine Ev.iconst (pc := 82) (v := nI 1) dX9_onward_82 (by decide) ?_
              refine Ev.iadd (pc := 83) dX9_onward_83 ?_
              obtain ⟨x_1, hx_1, hr⟩ := Option.bind_eq_some_iff.mp hr
              refine Ev.cVi (pc := 84) (As := [.int _, .int _, .int _]) (kX9_stands _ _ _ _ _ _ _ hx_1) rfl rfl (ob_29 _) gX9_onward_X9_stands hdX9_stands rfl ⟨rfl, rfl⟩ ⟨Nat.le_of_ble_eq_true rfl, Nat.le_of_ble_eq_true rfl⟩ (Nat.le_of_ble_eq_true rfl) ⟨Nat.le_of_ble_eq_true rfl, Nat.le_of_ble_eq_true rfl⟩ dX9_onward_84 ?_
              refine Ev.ifeqB (pc := 87) (tgt := 94) dX9_onward_87 (by decide) (fun c_10 => ?_) (fun c_10 => ?_)
              · have hr := ifn hr (ntr c_10)
                refine Ev.iconst (pc := 94) (v := nI 0) dX9_onward_94 (by decide) ?_
                refine Ev.istore (pc := 95) dX9_onward_95 rfl rfl ?_
                refine Ev.iload (pc := 97) dX9_onward_97 rfl ?_
                refine Ev.iload (pc := 99) dX9_onward_99 rfl ?_
                refine Ev.ifeq (pc := 101) (tgt := 111) dX9_onward_101 (by decide) (fun c_11 => ?_) (fun c_11 => ?_)
                · refine Ev.iconst (pc := 111) (v := nI 0) dX9_onward_111 (by decide) ?_
                  refine Ev.ior (pc := 112) dX9_onward_112 ?_
                  refine Ev.istore (pc := 113) dX9_onward_113 rfl rfl ?_
                  refine Ev.iinc (pc := 115) (v := nI 1) dX9_onward_115 rfl rfl rfl rfl ?_
                  refine Ev.goto (pc := 118) (tgt := 16) dX9_onward_118 (by decide) ?_
                  refine Ev_drop 8 ?_
                  refine Ev_drop 9 ?_
                  exact ih _ _ hr hk
                · exact absurd c_11 (by decide)
              · have hr := ifp hr c_10
                refine Ev.iconst (pc := 90) (v := nI 1) dX9_onward_90 (by decide) ?_
                refine Ev.goto (pc := 91) (tgt := 95) dX9_onward_91 (by decide) ?_
                refine Ev.istore (pc := 95) dX9_onward_95 rfl rfl ?_
                refine Ev.iload (pc := 97) dX9_onward_97 rfl ?_
                refine Ev.iload (pc := 99) dX9_onward_99 rfl ?_
                refine Ev.ifeq (pc := 101) (tgt := 111) dX9_onward_101 (by decide) (fun c_12 => ?_) (fun c_12 => ?_)
                · exact absurd c_12 (by decide)
                · refine Ev.iconst (pc := 104) (v := nI 1) dX9_onward_104 (by decide) ?_
                  refine Ev.iload (pc := 105) dX9_onward_105 rfl ?_
                  refine Ev.ishl (pc := 107) dX9_onward_107 ?_
                  refine Ev.goto (pc := 108) (tgt := 112) dX9_onward_108 (by decide) ?_
                  refine Ev.ior (pc := 112) dX9_onward_112 ?_
                  refine Ev.istore (pc := 113) dX9_onward_113 rfl rfl ?_
                  refine Ev.iinc (pc := 115) (v := nI 1) dX9_onward_115 rfl rfl rfl rfl ?_
                  refine Ev.goto (pc := 118) (tgt := 16) dX9_onward_118 (by decide) ?_
                  refine Ev_drop 8 ?_
                  refine Ev_drop 9 ?_
                  exact ih _ _ hr hk
            · have hr := ifn hr c_9
              refine Ev.aload_n (pc := 66) dX9_onward_66 rfl ?_
              refine Ev.iload_n (pc := 67) dX9_onward_67 rfl ?_
              refine Ev.iload (pc := 68) dX9_onward_68 rfl ?_
              refine Ev.iload_n (pc := 70) dX9_onward_70 rfl ?_
              obtain ⟨x_2, hx_2, hr⟩ := Option.bind_eq_some_iff.mp hr
              refine Ev.cVi (pc := 71) (As := [.int _, .int _, .int _]) (kX9_stands _ _ _ _ _ _ _ hx_2) rfl rfl (ob_29 _) gX9_onward_X9_stands hdX9_stands rfl ⟨rfl, rfl⟩ ⟨Nat.le_of_ble_eq_true rfl, Nat.le_of_ble_eq_true rfl⟩ (Nat.le_of_ble_eq_true rfl) ⟨Nat.le_of_ble_eq_true rfl, Nat.le_of_ble_eq_true rfl⟩ dX9_onward_71 ?_
              refine Ev.ifeqB (pc := 74) (tgt := 94) dX9_onward_74 (by decide) (fun c_13 => ?_) (fun c_13 => ?_)
              · have hr := ifn hr (ntr c_13)
                refine Ev.iconst (pc := 94) (v := nI 0) dX9_onward_94 (by decide) ?_
                refine Ev.istore (pc := 95) dX9_onward_95 rfl rfl ?_
                refine Ev.iload (pc := 97) dX9_onward_97 rfl ?_
                refine Ev.iload (pc := 99) dX9_onward_99 rfl ?_
                refine Ev.ifeq (pc := 101) (tgt := 111) dX9_onward_101 (by decide) (fun c_14 => ?_) (fun c_14 => ?_)
                · refine Ev.iconst (pc := 111) (v := nI 0) dX9_onward_111 (by decide) ?_
                  refine Ev.ior (pc := 112) dX9_onward_112 ?_
                  refine Ev.istore (pc := 113) dX9_onward_113 rfl rfl ?_
                  refine Ev.iinc (pc := 115) (v := nI 1) dX9_onward_115 rfl rfl rfl rfl ?_
                  refine Ev.goto (pc := 118) (tgt := 16) dX9_onward_118 (by decide) ?_
                  refine Ev_drop 8 ?_
                  refine Ev_drop 9 ?_
                  exact ih _ _ hr hk
                · exact absurd c_14 (by decide)
              · have hr := ifp hr c_13
                refine Ev.aload_n (pc := 77) dX9_onward_77 rfl ?_
                refine Ev.iload_n (pc := 78) dX9_onward_78 rfl ?_
                refine Ev.iload (pc := 79) dX9_onward_79 rfl ?_
                refine Ev.iload_n (pc := 81) dX9_onward_81 rfl ?_
                refine Ev.iconst (pc := 82) (v := nI 1) dX9_onward_82 (by decide) ?_
                refine Ev.iadd (pc := 83) dX9_onward_83 ?_
                obtain ⟨x_3, hx_3, hr⟩ := Option.bind_eq_some_iff.mp hr
                refine Ev.cVi (pc := 84) (As := [.int _, .int _, .int _]) (kX9_stands _ _ _ _ _ _ _ hx_3) rfl rfl (ob_29 _) gX9_onward_X9_stands hdX9_stands rfl ⟨rfl, rfl⟩ ⟨Nat.le_of_ble_eq_true rfl, Nat.le_of_ble_eq_true rfl⟩ (Nat.le_of_ble_eq_true rfl) ⟨Nat.le_of_ble_eq_true rfl, Nat.le_of_ble_eq_true rfl⟩ dX9_onward_84 ?_
                refine Ev.ifeqB (pc := 87) (tgt := 94) dX9_onward_87 (by decide) (fun c_15 => ?_) (fun c_15 => ?_)
                · have hr := ifn hr (ntr c_15)
                  refine Ev.iconst (pc := 94) (v := nI 0) dX9_onward_94 (by decide) ?_
                  refine Ev.istore (pc := 95) dX9_onward_95 rfl rfl ?_
                  refine Ev.iload (pc := 97) dX9_onward_97 rfl ?_
                  refine Ev.iload (pc := 99) dX9_onward_99 rfl ?_
                  refine Ev.ifeq (pc := 101) (tgt := 111) dX9_onward_101 (by decide) (fun c_16 => ?_) (fun c_16 => ?_)
                  · refine Ev.iconst (pc := 111) (v := nI 0) dX9_onward_111 (by decide) ?_
                    refine Ev.ior (pc := 112) dX9_onward_112 ?_
                    refine Ev.istore (pc := 113) dX9_onward_113 rfl rfl ?_
                    refine Ev.iinc (pc := 115) (v := nI 1) dX9_onward_115 rfl rfl rfl rfl ?_
                    refine Ev.goto (pc := 118) (tgt := 16) dX9_onward_118 (by decide) ?_
                    refine Ev_drop 8 ?_
                    refine Ev_drop 9 ?_
                    exact ih _ _ hr hk
                  · exact absurd c_16 (by decide)
                · have hr := ifp hr c_15
                  refine Ev.iconst (pc := 90) (v := nI 1) dX9_onward_90 (by decide) ?_
                  refine Ev.goto (pc := 91) (tgt := 95) dX9_onward_91 (by decide) ?_
                  refine Ev.istore (pc := 95) dX9_onward_95 rfl rfl ?_
                  refine Ev.iload (pc := 97) dX9_onward_97 rfl ?_
                  refine Ev.iload (pc := 99) dX9_onward_99 rfl ?_
                  refine Ev.ifeq (pc := 101) (tgt := 111) dX9_onward_101 (by decide) (fun c_17 => ?_) (fun c_17 => ?_)
                  · exact absurd c_17 (by decide)
                  · refine Ev.iconst (pc := 104) (v := nI 1) dX9_onward_104 (by decide) ?_
                    refine Ev.iload (pc := 105) dX9_onward_105 rfl ?_
                    refine Ev.ishl (pc := 107) dX9_onward_107 ?_
                    refine Ev.goto (pc := 108) (tgt := 112) dX9_onward_108 (by decide) ?_
                    refine Ev.ior (pc := 112) dX9_onward_112 ?_
                    refine Ev.istore (pc := 113) dX9_onward_113 rfl rfl ?_
                    refine Ev.iinc (pc := 115) (v := nI 1) dX9_onward_115 rfl rfl rfl rfl ?_
                    refine Ev.goto (pc := 118) (tgt := 16) dX9_onward_118 (by decide) ?_
                    refine Ev_drop 8 ?_
                    refine Ev_drop 9 ?_
                    exact ih _ _ hr hk
    · have hr := ifn hr c_2
      refine Ev.iconst (pc := 23) (v := nI 5) dX9_onward_23 (by decide) ?_
      refine Ev.goto (pc := 24) (tgt := 28) dX9_onward_24 (by decide) ?_
      refine Ev.icmpge (pc := 28) (tgt := 121) dX9_onward_28 (by decide) (fun c_18 => ?_) (fun c_18 => ?_)
      · have hr := ifp hr c_18
        cases hr
        exact hk
      · have hr := ifn hr c_18
        refine Ev.iload_n (pc := 31) dX9_onward_31 rfl ?_
        refine Ev.iload (pc := 32) dX9_onward_32 rfl ?_
        refine Ev.cSi (pc := 34) (As := [.int _, .int _]) (kX9_has _ _ _ _ _ _) rfl gX9_onward_X9_has hdX9_has rfl ⟨rfl, rfl⟩ ⟨Nat.le_of_ble_eq_true rfl, Nat.le_of_ble_eq_true rfl⟩ (Nat.le_of_ble_eq_true rfl) ⟨Nat.le_of_ble_eq_true rfl, Nat.le_of_ble_eq_true rfl⟩ dX9_onward_34 ?_
        refine Ev.ifeqB (pc := 37) (tgt := 50) dX9_onward_37 (by decide) (fun c_19 => ?_) (fun c_19 => ?_)
        · have hr := ifn hr (ntr c_19)
          refine Ev.bipush (pc := 50) (v := (-9)) dX9_onward_50 (by decide) ?_
          refine Ev.istore (pc := 52) dX9_onward_52 rfl rfl ?_
          refine Ev.iload (pc := 54) dX9_onward_54 rfl ?_
          refine Ev.bipush (pc := 56) (v := (-9)) dX9_onward_56 (by decide) ?_
          refine Ev.icmpeq (pc := 58) (tgt := 94) dX9_onward_58 (by decide) (fun c_20 => ?_) (fun c_20 => ?_)
          · refine Ev.iconst (pc := 94) (v := nI 0) dX9_onward_94 (by decide) ?_
            refine Ev.istore (pc := 95) dX9_onward_95 rfl rfl ?_
            refine Ev.iload (pc := 97) dX9_onward_97 rfl ?_
            refine Ev.iload (pc := 99) dX9_onward_99 rfl ?_
            refine Ev.ifeq (pc := 101) (tgt := 111) dX9_onward_101 (by decide) (fun c_21 => ?_) (fun c_21 => ?_)
            · refine Ev.iconst (pc := 111) (v := nI 0) dX9_onward_111 (by decide) ?_
              refine Ev.ior (pc := 112) dX9_onward_112 ?_
              refine Ev.istore (pc := 113) dX9_onward_113 rfl rfl ?_
              refine Ev.iinc (pc := 115) (v := nI 1) dX9_onward_115 rfl rfl rfl rfl ?_
              refine Ev.goto (pc := 118) (tgt := 16) dX9_onward_118 (by decide) ?_
              refine Ev_drop 8 ?_
              refine Ev_drop 9 ?_
              exact ih _ _ hr hk
            · exact absurd c_21 (by decide)
          · exact absurd c_20 (by decide)
        · have hr := ifp hr c_19
          refine Ev.iload (pc := 40) dX9_onward_40 rfl ?_
          refine Ev.iload (pc := 42) dX9_onward_42 rfl ?_
          refine Ev.cSi (pc := 44) (As := [.int _, .int _]) (kX9_goneTo _ _ _ _ _ _) rfl gX9_onward_X9_goneTo hdX9_goneTo rfl ⟨rfl, rfl⟩ ⟨Nat.le_of_ble_eq_true rfl, Nat.le_of_ble_eq_true rfl⟩ (Nat.le_of_ble_eq_true rfl) ⟨Nat.le_of_ble_eq_true rfl, Nat.le_of_ble_eq_true rfl⟩ dX9_onward_44 ?_
          refine Ev.goto (pc := 47) (tgt := 52) dX9_onward_47 (by decide) ?_
          refine Ev.istore (pc := 52) dX9_onward_52 rfl rfl ?_
          refine Ev.iload (pc := 54) dX9_onward_54 rfl ?_
          refine Ev.bipush (pc := 56) (v := (-9)) dX9_onward_56 (by decide) ?_
          refine Ev.icmpeq (pc := 58) (tgt := 94) dX9_onward_58 (by decide) (fun c_22 => ?_) (fun c_22 => ?_)
          · have hr := ifp hr c_22
            refine Ev.iconst (pc := 94) (v := nI 0) dX9_onward_94 (by decide) ?_
            refine Ev.istore (pc := 95) dX9_onward_95 rfl rfl ?_
            refine Ev.iload (pc := 97) dX9_onward_97 rfl ?_
            refine Ev.iload (pc := 99) dX9_onward_99 rfl ?_
            refine Ev.ifeq (pc := 101) (tgt := 111) dX9_onward_101 (by decide) (fun c_23 => ?_) (fun c_23 => ?_)
            · refine Ev.iconst (pc := 111) (v := nI 0) dX9_onward_111 (by decide) ?_
              refine Ev.ior (pc := 112) dX9_onward_112 ?_
              refine Ev.istore (pc := 113) dX9_onward_113 rfl rfl ?_
              refine Ev.iinc (pc := 115) (v := nI 1) dX9_onward_115 rfl rfl rfl rfl ?_
              refine Ev.goto (pc := 118) (tgt := 16) dX9_onward_118 (by decide) ?_
              refine Ev_drop 8 ?_
              refine Ev_drop 9 ?_
              exact ih _ _ hr hk
            · exact absurd c_23 (by decide)
          · have hr := ifn hr c_22
            refine Ev.iload (pc := 61) dX9_onward_61 rfl ?_
            refine Ev.ifeq (pc := 63) (tgt := 77) dX9_onward_63 (by decide) (fun c_24 => ?_) (fun c_24 => ?_)
            · have hr := ifp hr c_24
              refine Ev.aload_n (pc := 77) dX9_onward_77 rfl ?_
              refine Ev.iload_n (pc := 78) dX9_onward_78 rfl ?_
              refine Ev.iload (pc := 79) dX9_onward_79 rfl ?_
              refine Ev.iload_n (pc := 81) dX9_onward_81 rfl ?_
              refine Ev.iconst (pc := 82) (v := nI 1) dX9_onward_82 (by decide) ?_
              refine Ev.iadd (pc := 83) dX9_onward_83 ?_
              obtain ⟨x_4, hx_4, hr⟩ := Option.bind_eq_some_iff.mp hr
              refine Ev.cVi (pc := 84) (As := [.int _, .int _, .int _]) (kX9_stands _ _ _ _ _ _ _ hx_4) rfl rfl (ob_29 _) gX9_onward_X9_stands hdX9_stands rfl ⟨rfl, rfl⟩ ⟨Nat.le_of_ble_eq_true rfl, Nat.le_of_ble_eq_true rfl⟩ (Nat.le_of_ble_eq_true rfl) ⟨Nat.le_of_ble_eq_true rfl, Nat.le_of_ble_eq_true rfl⟩ dX9_onward_84 ?_
              refine Ev.ifeqB (pc := 87) (tgt := 94) dX9_onward_87 (by decide) (fun c_25 => ?_) (fun c_25 => ?_)
              · have hr := ifn hr (ntr c_25)
                refine Ev.iconst (pc := 94) (v := nI 0) dX9_onward_94 (by decide) ?_
                refine Ev.istore (pc := 95) dX9_onward_95 rfl rfl ?_
                refine Ev.iload (pc := 97) dX9_onward_97 rfl ?_
                refine Ev.iload (pc := 99) dX9_onward_99 rfl ?_
                refine Ev.ifeq (pc := 101) (tgt := 111) dX9_onward_101 (by decide) (fun c_26 => ?_) (fun c_26 => ?_)
                · refine Ev.iconst (pc := 111) (v := nI 0) dX9_onward_111 (by decide) ?_
                  refine Ev.ior (pc := 112) dX9_onward_112 ?_
                  refine Ev.istore (pc := 113) dX9_onward_113 rfl rfl ?_
                  refine Ev.iinc (pc := 115) (v := nI 1) dX9_onward_115 rfl rfl rfl rfl ?_
                  refine Ev.goto (pc := 118) (tgt := 16) dX9_onward_118 (by decide) ?_
                  refine Ev_drop 8 ?_
                  refine Ev_drop 9 ?_
                  exact ih _ _ hr hk
                · exact absurd c_26 (by decide)
              · have hr := ifp hr c_25
                refine Ev.iconst (pc := 90) (v := nI 1) dX9_onward_90 (by decide) ?_
                refine Ev.goto (pc := 91) (tgt := 95) dX9_onward_91 (by decide) ?_
                refine Ev.istore (pc := 95) dX9_onward_95 rfl rfl ?_
                refine Ev.iload (pc := 97) dX9_onward_97 rfl ?_
                refine Ev.iload (pc := 99) dX9_onward_99 rfl ?_
                refine Ev.ifeq (pc := 101) (tgt := 111) dX9_onward_101 (by decide) (fun c_27 => ?_) (fun c_27 => ?_)
                · exact absurd c_27 (by decide)
                · refine Ev.iconst (pc := 104) (v := nI 1) dX9_onward_104 (by decide) ?_
                  refine Ev.iload (pc := 105) dX9_onward_105 rfl ?_
                  refine Ev.ishl (pc := 107) dX9_onward_107 ?_
                  refine Ev.goto (pc := 108) (tgt := 112) dX9_onward_108 (by decide) ?_
                  refine Ev.ior (pc := 112) dX9_onward_112 ?_
                  refine Ev.istore (pc := 113) dX9_onward_113 rfl rfl ?_
                  refine Ev.iinc (pc := 115) (v := nI 1) dX9_onward_115 rfl rfl rfl rfl ?_
                  refine Ev.goto (pc := 118) (tgt := 16) dX9_onward_118 (by decide) ?_
                  refine Ev_drop 8 ?_
                  refine Ev_drop 9 ?_
                  exact ih _ _ hr hk
            · have hr := ifn hr c_24
              refine Ev.aload_n (pc := 66) dX9_onward_66 rfl ?_
              refine Ev.iload_n (pc := 67) dX9_onward_67 rfl ?_
              refine Ev.iload (pc := 68) dX9_onward_68 rfl ?_
              refine Ev.iload_n (pc := 70) dX9_onward_70 rfl ?_
              obtain ⟨x_5, hx_5, hr⟩ := Option.bind_eq_some_iff.mp hr
              refine Ev.cVi (pc := 71) (As := [.int _, .int _, .int _]) (kX9_stands _ _ _ _ _ _ _ hx_5) rfl rfl (ob_29 _) gX9_onward_X9_stands hdX9_stands rfl ⟨rfl, rfl⟩ ⟨Nat.le_of_ble_eq_true rfl, Nat.le_of_ble_eq_true rfl⟩ (Nat.le_of_ble_eq_true rfl) ⟨Nat.le_of_ble_eq_true rfl, Nat.le_of_ble_eq_true rfl⟩ dX9_onward_71 ?_
              refine Ev.ifeqB (pc := 74) (tgt := 94) dX9_onward_74 (by decide) (fun c_28 => ?_) (fun c_28 => ?_)
              · have hr := ifn hr (ntr c_28)
                refine Ev.iconst (pc := 94) (v := nI 0) dX9_onward_94 (by decide) ?_
                refine Ev.istore (pc := 95) dX9_onward_95 rfl rfl ?_
                refine Ev.iload (pc := 97) dX9_onward_97 rfl ?_
                refine Ev.iload (pc := 99) dX9_onward_99 rfl ?_
                refine Ev.ifeq (pc := 101) (tgt := 111) dX9_onward_101 (by decide) (fun c_29 => ?_) (fun c_29 => ?_)
                · refine Ev.iconst (pc := 111) (v := nI 0) dX9_onward_111 (by decide) ?_
                  refine Ev.ior (pc := 112) dX9_onward_112 ?_
                  refine Ev.istore (pc := 113) dX9_onward_113 rfl rfl ?_
                  refine Ev.iinc (pc := 115) (v := nI 1) dX9_onward_115 rfl rfl rfl rfl ?_
                  refine Ev.goto (pc := 118) (tgt := 16) dX9_onward_118 (by decide) ?_
                  refine Ev_drop 8 ?_
                  refine Ev_drop 9 ?_
                  exact ih _ _ hr hk
                · exact absurd c_29 (by decide)
              · have hr := ifp hr c_28
                refine Ev.aload_n (pc := 77) dX9_onward_77 rfl ?_
                refine Ev.iload_n (pc := 78) dX9_onward_78 rfl ?_
                refine Ev.iload (pc := 79) dX9_onward_79 rfl ?_
                refine Ev.iload_n (pc := 81) dX9_onward_81 rfl ?_
                refine Ev.iconst (pc := 82) (v := nI 1) dX9_onward_82 (by decide) ?_
                refine Ev.iadd (pc := 83) dX9_onward_83 ?_
                obtain ⟨x_6, hx_6, hr⟩ := Option.bind_eq_some_iff.mp hr
                refine Ev.cVi (pc := 84) (As := [.int _, .int _, .int _]) (kX9_stands _ _ _ _ _ _ _ hx_6) rfl rfl (ob_29 _) gX9_onward_X9_stands hdX9_stands rfl ⟨rfl, rfl⟩ ⟨Nat.le_of_ble_eq_true rfl, Nat.le_of_ble_eq_true rfl⟩ (Nat.le_of_ble_eq_true rfl) ⟨Nat.le_of_ble_eq_true rfl, Nat.le_of_ble_eq_true rfl⟩ dX9_onward_84 ?_
                refine Ev.ifeqB (pc := 87) (tgt := 94) dX9_onward_87 (by decide) (fun c_30 => ?_) (fun c_30 => ?_)
                · have hr := ifn hr (ntr c_30)
                  refine Ev.iconst (pc := 94) (v := nI 0) dX9_onward_94 (by decide) ?_
                  refine Ev.istore (pc := 95) dX9_onward_95 rfl rfl ?_
                  refine Ev.iload (pc := 97) dX9_onward_97 rfl ?_
                  refine Ev.iload (pc := 99) dX9_onward_99 rfl ?_
                  refine Ev.ifeq (pc := 101) (tgt := 111) dX9_onward_101 (by decide) (fun c_31 => ?_) (fun c_31 => ?_)
                  · refine Ev.iconst (pc := 111) (v := nI 0) dX9_onward_111 (by decide) ?_
                    refine Ev.ior (pc := 112) dX9_onward_112 ?_
                    refine Ev.istore (pc := 113) dX9_onward_113 rfl rfl ?_
                    refine Ev.iinc (pc := 115) (v := nI 1) dX9_onward_115 rfl rfl rfl rfl ?_
                    refine Ev.goto (pc := 118) (tgt := 16) dX9_onward_118 (by decide) ?_
                    refine Ev_drop 8 ?_
                    refine Ev_drop 9 ?_
                    exact ih _ _ hr hk
                  · exact absurd c_31 (by decide)
                · have hr := ifp hr c_30
                  refine Ev.iconst (pc := 90) (v := nI 1) dX9_onward_90 (by decide) ?_
                  refine Ev.goto (pc := 91) (tgt := 95) dX9_onward_91 (by decide) ?_
                  refine Ev.istore (pc := 95) dX9_onward_95 rfl rfl ?_
                  refine Ev.iload (pc := 97) dX9_onward_97 rfl ?_
                  refine Ev.iload (pc := 99) dX9_onward_99 rfl ?_
                  refine Ev.ifeq (pc := 101) (tgt := 111) dX9_onward_101 (by decide) (fun c_32 => ?_) (fun c_32 => ?_)
                  · exact absurd c_32 (by decide)
                  · refine Ev.iconst (pc := 104) (v := nI 1) dX9_onward_104 (by decide) ?_
                    refine Ev.iload (pc := 105) dX9_onward_105 rfl ?_
                    refine Ev.ishl (pc := 107) dX9_onward_107 ?_
                    refine Ev.goto (pc := 108) (tgt := 112) dX9_onward_108 (by decide) ?_
                    refine Ev.ior (pc := 112) dX9_onward_112 ?_
                    refine Ev.istore (pc := 113) dX9_onward_113 rfl rfl ?_
                    refine Ev.iinc (pc := 115) (v := nI 1) dX9_onward_115 rfl rfl rfl rfl ?_
                    refine Ev.goto (pc := 118) (tgt := 16) dX9_onward_118 (by decide) ?_
                    refine Ev_drop 8 ?_
                    refine Ev_drop 9 ?_
                    exact ih _ _ hr hk
def sX9_onward_6 (g2 : Hg) (v1 : Int32) (v2 : Int32) (v3 : Int32) (v4 : Int32) : Nat → Int32 → Int32 → Option (Int32)
  | 0, _, _ => none
  | n + 1, v5, v6 => if (nI 12) ≤ v6 then (some v5) else ((sX9_onward_16 g2 v1 v2 v3 v4 v6 100 v5 (nI 0)).bind fun x_7 => (sX9_onward_6 g2 v1 v2 v3 v4 n x_7.1 (v6 + (nI 1))))
set_option maxRecDepth 20000 in
set_option maxHeartbeats 1000000 in
theorem kX9_onward_6 (g : Hg) (q : Int64) (g2 : Hg) (q2 : Int64)  (v1 : Int32) (v2 : Int32) (v3 : Int32) (v4 : Int32) (r : Int32) : ∀ (n : Nat) (v5 : Int32) (v6 : Int32), sX9_onward_6 g2 v1 v2 v3 v4 n v5 v6 = some r → Ev (Xi (fun x h' => x = r ∧ h' = (g, q, g2, q2))) MX9_onward 6 [some (.ref 29), some (.int v1), some (.int v2), some (.int v3), some (.int v4), some (.int v5), some (.int v6), none, none, none] [] (g, q, g2, q2) := by
  intro n
  induction n with
  | zero => intro _ _ hr; cases hr
  | succ n ih =>
    intro v5 v6 hr
    rw [sX9_onward_6] at hr
    refine Ev.iload (pc := 6) dX9_onward_6 rfl ?_
    refine Ev.bipush (pc := 8) (v := nI 12) dX9_onward_8 (by decide) ?_
    refine Ev.icmpge (pc := 10) (tgt := 127) dX9_onward_10 (by decide) (fun c_1 => ?_) (fun c_1 => ?_)
    · have hr := ifp hr c_1
      refine Ev.iload (pc := 127) dX9_onward_127 rfl ?_
      cases hr
      exact Ev.iret rfl rfl dX9_onward_129 ⟨rfl, rfl⟩
    · have hr := ifn hr c_1
      refine Ev.iconst (pc := 13) (v := nI 0) dX9_onward_13 (by decide) ?_
      refine Ev.istore (pc := 14) dX9_onward_14 rfl rfl ?_
      obtain ⟨x_7, hx_7, hr⟩ := Option.bind_eq_some_iff.mp hr
      refine kX9_onward_16 _ _ _ _ _ _ _ _ _ _ _ 100 _ _ hx_7 ?_
      refine Ev.iinc (pc := 121) (v := nI 1) dX9_onward_121 rfl rfl rfl rfl ?_
      refine Ev.goto (pc := 124) (tgt := 6) dX9_onward_124 (by decide) ?_
      refine Ev_drop 7 ?_
      exact ih _ _ hr
def sX9_onward (g2 : Hg) (a1 : Int32) (a2 : Int32) (a3 : Int32) (a4 : Int32) : Option (Int32) := sX9_onward_6 g2 a1 a2 a3 a4 100 (nI 0) (nI 0)
set_option maxRecDepth 20000 in
set_option maxHeartbeats 1000000 in
theorem kX9_onward (g : Hg) (q : Int64) (g2 : Hg) (q2 : Int64) (a1 : Int32) (a2 : Int32) (a3 : Int32) (a4 : Int32) {r : Int32} (hr : sX9_onward g2 a1 a2 a3 a4 = some r) : CtI MX9_onward [.ref 29, .int a1, .int a2, .int a3, .int a4] (g, q, g2, q2) (fun x h' => x = r ∧ h' = (g, q, g2, q2)) := by
  unfold sX9_onward at hr
  refine CtI_L 5 rfl (by decide +kernel) rfl (Nat.le_of_ble_eq_true rfl) ?_
  show Ev _ _ 0 [some (.ref 29), some (.int a1), some (.int a2), some (.int a3), some (.int a4), none, none, none, none, none] [] _
  refine Ev.iconst (pc := 0) (v := nI 0) dX9_onward_0 (by decide) ?_
  refine Ev.istore (pc := 1) dX9_onward_1 rfl rfl ?_
  refine Ev.iconst (pc := 3) (v := nI 0) dX9_onward_3 (by decide) ?_
  refine Ev.istore (pc := 4) dX9_onward_4 rfl rfl ?_
  exact kX9_onward_6 _ _ _ _ _ _ _ _ _ 100 _ _ hr
/-! X9_reachFrom -/
def sX9_reachFrom_6 (g2 : Hg) (v1 : Int32) (v2 : Int32) (v3 : Int32) (v4 : Int32) : Nat → Int32 → Int32 → Option (Int32)
  | 0, _, _ => none
  | n + 1, v5, v6 => if (v3 + v4) ≤ v6 then (some v5) else (if 0 < v6 then ((sX9_onward g2 v1 v5 ((g2 35 (Int32.toNatClampNeg (nI 30))) + v6) (nI 1)).bind fun x_1 => (sX9_reachFrom_6 g2 v1 v2 v3 v4 n x_1 (v6 + (nI 1)))) else (if (sX9_has (g2 35 (Int32.toNatClampNeg (nI 29))) v1) = true then ((sX9_onward g2 v1 v5 ((g2 35 (Int32.toNatClampNeg (nI 30))) + v6) (nI 0)).bind fun x_2 => (sX9_reachFrom_6 g2 v1 v2 v3 v4 n x_2 (v6 + (nI 1)))) else ((sX9_onward g2 v1 v5 ((g2 35 (Int32.toNatClampNeg (nI 30))) + v6) (nI 1)).bind fun x_3 => (sX9_reachFrom_6 g2 v1 v2 v3 v4 n x_3 (v6 + (nI 1))))))
set_option maxRecDepth 20000 in
set_option maxHeartbeats 1000000 in
theorem kX9_reachFrom_6 (g : Hg) (q : Int64) (g2 : Hg) (q2 : Int64)  (v1 : Int32) (v2 : Int32) (v3 : Int32) (v4 : Int32) (r : Int32) : ∀ (n : Nat) (v5 : Int32) (v6 : Int32), sX9_reachFrom_6 g2 v1 v2 v3 v4 n v5 v6 = some r → Ev (Xi (fun x h' => x = r ∧ h' = (g, q, g2, q2))) MX9_reachFrom 6 [some (.ref 29), some (.int v1), some (.int v2), some (.int v3), some (.int v4), some (.int v5), some (.int v6)] [] (g, q, g2, q2) := by
  intro n
  induction n with
  | zero => intro _ _ hr; cases hr
  | succ n ih =>
    intro v5 v6 hr
    rw [sX9_reachFrom_6] at hr
    refine Ev.iload (pc := 6) dX9_reachFrom_6 rfl ?_
    refine Ev.iload_n (pc := 8) dX9_reachFrom_8 rfl ?_
    refine Ev.iload (pc := 9) dX9_reachFrom_9 rfl ?_
    refine Ev.iadd (pc := 11) dX9_reachFrom_11 ?_
    refine Ev.icmpge (pc := 12) (tgt := 64) dX9_reachFrom_12 (by decide) (fun c_1 => ?_) (fun c_1 => ?_)
    · have hr := ifp hr c_1
      refine Ev.iload (pc := 64) dX9_reachFrom_64 rfl ?_
      cases hr
      exact Ev.iret rfl rfl dX9_reachFrom_66 ⟨rfl, rfl⟩
    · have hr := ifn hr c_1
      refine Ev.aload_n (pc := 15) dX9_reachFrom_15 rfl ?_
      refine Ev.iload_n (pc := 16) dX9_reachFrom_16 rfl ?_
      refine Ev.iload (pc := 17) dX9_reachFrom_17 rfl ?_
      refine Ev.aload_n (pc := 19) dX9_reachFrom_19 rfl ?_
      refine Ev.get (pc := 20) (C0 := RX9) (T := TX9) (N := 31) (fl_29_8 _ _ _ _) rfl inX9_reachFrom (by decide) lkX9_reachFrom_25 dX9_reachFrom_20 ?_
      refine Ev.bipush (pc := 23) (v := nI 30) dX9_reachFrom_23 (by decide) ?_
      refine Ev.iald (pc := 25) (ar_35 _ _ _ _) (vp_in_nI (n := 30) (N := 62) (by decide) (by decide)) dX9_reachFrom_25 ?_
      refine Ev.iload (pc := 26) dX9_reachFrom_26 rfl ?_
      refine Ev.iadd (pc := 28) dX9_reachFrom_28 ?_
      refine Ev.iload (pc := 29) dX9_reachFrom_29 rfl ?_
      refine Ev.ifgt (pc := 31) (tgt := 48) dX9_reachFrom_31 (by decide) (fun c_2 => ?_) (fun c_2 => ?_)
      · have hr := ifp hr c_2
        refine Ev.iconst (pc := 48) (v := nI 1) dX9_reachFrom_48 (by decide) ?_
        refine Ev.goto (pc := 49) (tgt := 53) dX9_reachFrom_49 (by decide) ?_
        obtain ⟨x_1, hx_1, hr⟩ := Option.bind_eq_some_iff.mp hr
        refine Ev.cVi (pc := 53) (As := [.int _, .int _, .int _, .int _]) (kX9_onward _ _ _ _ _ _ _ _ hx_1) rfl rfl (ob_29 _) gX9_reachFrom_X9_onward hdX9_onward rfl ⟨rfl, rfl⟩ ⟨Nat.le_of_ble_eq_true rfl, Nat.le_of_ble_eq_true rfl⟩ (Nat.le_of_ble_eq_true rfl) ⟨Nat.le_of_ble_eq_true rfl, Nat.le_of_ble_eq_true rfl⟩ dX9_reachFrom_53 ?_
        refine Ev.istore (pc := 56) dX9_reachFrom_56 rfl rfl ?_
        refine Ev.iinc (pc := 58) (v := nI 1) dX9_reachFrom_58 rfl rfl rfl rfl ?_
        refine Ev.goto (pc := 61) (tgt := 6) dX9_reachFrom_61 (by decide) ?_
        exact ih _ _ hr
      · have hr := ifn hr c_2
        refine Ev.aload_n (pc := 34) dX9_reachFrom_34 rfl ?_
        refine Ev.get (pc := 35) (C0 := RX9) (T := TX9) (N := 31) (fl_29_8 _ _ _ _) rfl inX9_reachFrom (by decide) lkX9_reachFrom_25 dX9_reachFrom_35 ?_
        refine Ev.bipush (pc := 38) (v := nI 29) dX9_reachFrom_38 (by decide) ?_
        refine Ev.iald (pc := 40) (ar_35 _ _ _ _) (vp_in_nI (n := 29) (N := 62) (by decide) (by decide)) dX9_reachFrom_40 ?_
        refine Ev.iload_n (pc := 41) dX9_reachFrom_41 rfl ?_
        refine Ev.cSi (pc := 42) (As := [.int _, .int _]) (kX9_has _ _ _ _ _ _) rfl gX9_reachFrom_X9_has hdX9_has rfl ⟨rfl, rfl⟩ ⟨Nat.le_of_ble_eq_true rfl, Nat.le_of_ble_eq_true rfl⟩ (Nat.le_of_ble_eq_true rfl) ⟨Nat.le_of_ble_eq_true rfl, Nat.le_of_ble_eq_true rfl⟩ dX9_reachFrom_42 ?_
        refine Ev.ifneB (pc := 45) (tgt := 52) dX9_reachFrom_45 (by decide) (fun c_3 => ?_) (fun c_3 => ?_)
        · have hr := ifp hr c_3
          refine Ev.iconst (pc := 52) (v := nI 0) dX9_reachFrom_52 (by decide) ?_
          obtain ⟨x_2, hx_2, hr⟩ := Option.bind_eq_some_iff.mp hr
          refine Ev.cVi (pc := 53) (As := [.int _, .int _, .int _, .int _]) (kX9_onward _ _ _ _ _ _ _ _ hx_2) rfl rfl (ob_29 _) gX9_reachFrom_X9_onward hdX9_onward rfl ⟨rfl, rfl⟩ ⟨Nat.le_of_ble_eq_true rfl, Nat.le_of_ble_eq_true rfl⟩ (Nat.le_of_ble_eq_true rfl) ⟨Nat.le_of_ble_eq_true rfl, Nat.le_of_ble_eq_true rfl⟩ dX9_reachFrom_53 ?_
          refine Ev.istore (pc := 56) dX9_reachFrom_56 rfl rfl ?_
          refine Ev.iinc (pc := 58) (v := nI 1) dX9_reachFrom_58 rfl rfl rfl rfl ?_
          refine Ev.goto (pc := 61) (tgt := 6) dX9_reachFrom_61 (by decide) ?_
          exact ih _ _ hr
        · have hr := ifn hr (ntr c_3)
          refine Ev.iconst (pc := 48) (v := nI 1) dX9_reachFrom_48 (by decide) ?_
          refine Ev.goto (pc := 49) (tgt := 53) dX9_reachFrom_49 (by decide) ?_
          obtain ⟨x_3, hx_3, hr⟩ := Option.bind_eq_some_iff.mp hr
          refine Ev.cVi (pc := 53) (As := [.int _, .int _, .int _, .int _]) (kX9_onward _ _ _ _ _ _ _ _ hx_3) rfl rfl (ob_29 _) gX9_reachFrom_X9_onward hdX9_onward rfl ⟨rfl, rfl⟩ ⟨Nat.le_of_ble_eq_true rfl, Nat.le_of_ble_eq_true rfl⟩ (Nat.le_of_ble_eq_true rfl) ⟨Nat.le_of_ble_eq_true rfl, Nat.le_of_ble_eq_true rfl⟩ dX9_reachFrom_53 ?_
          refine Ev.istore (pc := 56) dX9_reachFrom_56 rfl rfl ?_
          refine Ev.iinc (pc := 58) (v := nI 1) dX9_reachFrom_58 rfl rfl rfl rfl ?_
          refine Ev.goto (pc := 61) (tgt := 6) dX9_reachFrom_61 (by decide) ?_
          exact ih _ _ hr
def sX9_reachFrom (g2 : Hg) (a1 : Int32) (a2 : Int32) (a3 : Int32) (a4 : Int32) : Option (Int32) := sX9_reachFrom_6 g2 a1 a2 a3 a4 100 a2 a3
set_option maxRecDepth 20000 in
set_option maxHeartbeats 1000000 in
theorem kX9_reachFrom (g : Hg) (q : Int64) (g2 : Hg) (q2 : Int64) (a1 : Int32) (a2 : Int32) (a3 : Int32) (a4 : Int32) {r : Int32} (hr : sX9_reachFrom g2 a1 a2 a3 a4 = some r) : CtI MX9_reachFrom [.ref 29, .int a1, .int a2, .int a3, .int a4] (g, q, g2, q2) (fun x h' => x = r ∧ h' = (g, q, g2, q2)) := by
  unfold sX9_reachFrom at hr
  refine CtI_L 2 rfl (by decide +kernel) rfl (Nat.le_of_ble_eq_true rfl) ?_
  show Ev _ _ 0 [some (.ref 29), some (.int a1), some (.int a2), some (.int a3), some (.int a4), none, none] [] _
  refine Ev.iload_n (pc := 0) dX9_reachFrom_0 rfl ?_
  refine Ev.istore (pc := 1) dX9_reachFrom_1 rfl rfl ?_
  refine Ev.iload_n (pc := 3) dX9_reachFrom_3 rfl ?_
  refine Ev.istore (pc := 4) dX9_reachFrom_4 rfl rfl ?_
  exact kX9_reachFrom_6 _ _ _ _ _ _ _ _ _ 100 _ _ hr
/-! X9_reach -/
def sX9_reach (g2 : Hg) (a1 : Int32) (a2 : Int32) : Option (Int32) := if (sX9_isLark g2 a1) = true then (if (sX9_in (Int32.toInt64 a2) (lN 0) ((9 : Int64))) = true then (if (sX9_has (g2 35 (Int32.toNatClampNeg (nI 28))) a1) = true then (some ((-3))) else (if inb a1 62 = true then ((sX9_reachFrom g2 a1 ((nI 1) <<< ((g2 35 (Int32.toNatClampNeg a1)) &&& 31)) (nI 0) a2).bind fun x_1 => (some x_1)) else none)) else (some ((-2)))) else (some ((-1)))
set_option maxRecDepth 20000 in
set_option maxHeartbeats 1000000 in
theorem kX9_reach (g : Hg) (q : Int64) (g2 : Hg) (q2 : Int64) (a1 : Int32) (a2 : Int32) {r : Int32} (hr : sX9_reach g2 a1 a2 = some r) : CtI MX9_reach [.ref 29, .int a1, .int a2] (g, q, g2, q2) (fun x h' => x = r ∧ h' = (g, q, g2, q2)) := by
  unfold sX9_reach at hr
  refine CtI_L 0 rfl (by decide +kernel) rfl (Nat.le_of_ble_eq_true rfl) ?_
  show Ev _ _ 0 [some (.ref 29), some (.int a1), some (.int a2)] [] _
  refine Ev.aload_n (pc := 0) dX9_reach_0 rfl ?_
  refine Ev.iload_n (pc := 1) dX9_reach_1 rfl ?_
  refine Ev.cVi (pc := 2) (As := [.int _]) (kX9_isLark _ _ _ _ _) rfl rfl (ob_29 _) gX9_reach_X9_isLark hdX9_isLark rfl ⟨rfl, rfl⟩ ⟨Nat.le_of_ble_eq_true rfl, Nat.le_of_ble_eq_true rfl⟩ (Nat.le_of_ble_eq_true rfl) ⟨Nat.le_of_ble_eq_true rfl, Nat.le_of_ble_eq_true rfl⟩ dX9_reach_2 ?_
  refine Ev.ifneB (pc := 5) (tgt := 10) dX9_reach_5 (by decide) (fun c_1 => ?_) (fun c_1 => ?_)
  · have hr := ifp hr c_1
    refine Ev.iload_n (pc := 10) dX9_reach_10 rfl ?_
    refine Ev.i2l (pc := 11) dX9_reach_11 ?_
    refine Ev.lconst (pc := 12) (v := lN 0) dX9_reach_12 rfl ?_
    refine Ev.ldc2 (pc := 13) (v := 9) (by decide +kernel) dX9_reach_13 ?_
    refine Ev.cSi (pc := 16) (As := [.long _, .long _, .long _]) (kX9_in _ _ _ _ _ _ _) rfl gX9_reach_X9_in hdX9_in rfl ⟨rfl, rfl⟩ ⟨Nat.le_of_ble_eq_true rfl, Nat.le_of_ble_eq_true rfl⟩ (Nat.le_of_ble_eq_true rfl) ⟨Nat.le_of_ble_eq_true rfl, Nat.le_of_ble_eq_true rfl⟩ dX9_reach_16 ?_
    refine Ev.ifneB (pc := 19) (tgt := 25) dX9_reach_19 (by decide) (fun c_2 => ?_) (fun c_2 => ?_)
    · have hr := ifp hr c_2
      refine Ev.aload_n (pc := 25) dX9_reach_25 rfl ?_
      refine Ev.get (pc := 26) (C0 := RX9) (T := TX9) (N := 31) (fl_29_8 _ _ _ _) rfl inX9_reach (by decide) lkX9_reach_25 dX9_reach_26 ?_
      refine Ev.bipush (pc := 29) (v := nI 28) dX9_reach_29 (by decide) ?_
      refine Ev.iald (pc := 31) (ar_35 _ _ _ _) (vp_in_nI (n := 28) (N := 62) (by decide) (by decide)) dX9_reach_31 ?_
      refine Ev.iload_n (pc := 32) dX9_reach_32 rfl ?_
      refine Ev.cSi (pc := 33) (As := [.int _, .int _]) (kX9_has _ _ _ _ _ _) rfl gX9_reach_X9_has hdX9_has rfl ⟨rfl, rfl⟩ ⟨Nat.le_of_ble_eq_true rfl, Nat.le_of_ble_eq_true rfl⟩ (Nat.le_of_ble_eq_true rfl) ⟨Nat.le_of_ble_eq_true rfl, Nat.le_of_ble_eq_true rfl⟩ dX9_reach_33 ?_
      refine Ev.ifeqB (pc := 36) (tgt := 44) dX9_reach_36 (by decide) (fun c_3 => ?_) (fun c_3 => ?_)
      · have hr := ifn hr (ntr c_3)
        refine Ev.aload_n (pc := 44) dX9_reach_44 rfl ?_
        refine Ev.iload_n (pc := 45) dX9_reach_45 rfl ?_
        refine Ev.iconst (pc := 46) (v := nI 1) dX9_reach_46 (by decide) ?_
        refine Ev.aload_n (pc := 47) dX9_reach_47 rfl ?_
        refine Ev.get (pc := 48) (C0 := RX9) (T := TX9) (N := 31) (fl_29_8 _ _ _ _) rfl inX9_reach (by decide) lkX9_reach_25 dX9_reach_48 ?_
        refine Ev.iload_n (pc := 51) dX9_reach_51 rfl ?_
        obtain ⟨c_4, hr⟩ := ckB hr
        refine Ev.iald (pc := 52) (ar_35 _ _ _ _) (inb_in c_4) dX9_reach_52 ?_
        refine Ev.ishl (pc := 53) dX9_reach_53 ?_
        refine Ev.iconst (pc := 54) (v := nI 0) dX9_reach_54 (by decide) ?_
        refine Ev.iload_n (pc := 55) dX9_reach_55 rfl ?_
        obtain ⟨x_1, hx_1, hr⟩ := Option.bind_eq_some_iff.mp hr
        refine Ev.cVi (pc := 56) (As := [.int _, .int _, .int _, .int _]) (kX9_reachFrom _ _ _ _ _ _ _ _ hx_1) rfl rfl (ob_29 _) gX9_reach_X9_reachFrom hdX9_reachFrom rfl ⟨rfl, rfl⟩ ⟨Nat.le_of_ble_eq_true rfl, Nat.le_of_ble_eq_true rfl⟩ (Nat.le_of_ble_eq_true rfl) ⟨Nat.le_of_ble_eq_true rfl, Nat.le_of_ble_eq_true rfl⟩ dX9_reach_56 ?_
        cases hr
        exact Ev.iret rfl rfl dX9_reach_59 ⟨rfl, rfl⟩
      · have hr := ifp hr c_3
        refine Ev.bipush (pc := 39) (v := (-3)) dX9_reach_39 (by decide) ?_
        refine Ev.goto (pc := 41) (tgt := 59) dX9_reach_41 (by decide) ?_
        cases hr
        exact Ev.iret rfl rfl dX9_reach_59 ⟨rfl, rfl⟩
    · have hr := ifn hr (ntr c_2)
      refine Ev.bipush (pc := 22) (v := (-2)) dX9_reach_22 (by decide) ?_
      cases hr
      exact Ev.iret rfl rfl dX9_reach_24 ⟨rfl, rfl⟩
  · have hr := ifn hr (ntr c_1)
    refine Ev.iconst (pc := 8) (v := (-1)) dX9_reach_8 (by decide) ?_
    cases hr
    exact Ev.iret rfl rfl dX9_reach_9 ⟨rfl, rfl⟩
/-! X9_home -/
def sX9_home_38 (g2 : Hg) (v1 : Int32) : Nat → Int32 → Int32 → Option (Int32)
  | 0, _, _ => none
  | n + 1, v2, v3 => if (nI 21) ≤ v3 then (some ((-9))) else (if (v2 &&& (nI 15)) = 0 then (if 0 < v3 then ((sX9_onward g2 v1 v2 ((g2 35 (Int32.toNatClampNeg (nI 30))) + v3) (nI 1)).bind fun x_1 => (sX9_home_38 g2 v1 n x_1 (v3 + (nI 1)))) else (if (sX9_has (g2 35 (Int32.toNatClampNeg (nI 29))) v1) = true then ((sX9_onward g2 v1 v2 ((g2 35 (Int32.toNatClampNeg (nI 30))) + v3) (nI 0)).bind fun x_2 => (sX9_home_38 g2 v1 n x_2 (v3 + (nI 1)))) else ((sX9_onward g2 v1 v2 ((g2 35 (Int32.toNatClampNeg (nI 30))) + v3) (nI 1)).bind fun x_3 => (sX9_home_38 g2 v1 n x_3 (v3 + (nI 1)))))) else (some v3))
set_option maxRecDepth 20000 in
set_option maxHeartbeats 1000000 in
theorem kX9_home_38 (g : Hg) (q : Int64) (g2 : Hg) (q2 : Int64)  (v1 : Int32) (r : Int32) : ∀ (n : Nat) (v2 : Int32) (v3 : Int32), sX9_home_38 g2 v1 n v2 v3 = some r → Ev (Xi (fun x h' => x = r ∧ h' = (g, q, g2, q2))) MX9_home 38 [some (.ref 29), some (.int v1), some (.int v2), some (.int v3)] [] (g, q, g2, q2) := by
  intro n
  induction n with
  | zero => intro _ _ hr; cases hr
  | succ n ih =>
    intro v2 v3 hr
    rw [sX9_home_38] at hr
    refine Ev.iload_n (pc := 38) dX9_home_38 rfl ?_
    refine Ev.bipush (pc := 39) (v := nI 21) dX9_home_39 (by decide) ?_
    refine Ev.icmpge (pc := 41) (tgt := 98) dX9_home_41 (by decide) (fun c_4 => ?_) (fun c_4 => ?_)
    · have hr := ifp hr c_4
      refine Ev.bipush (pc := 98) (v := (-9)) dX9_home_98 (by decide) ?_
      cases hr
      exact Ev.iret rfl rfl dX9_home_100 ⟨rfl, rfl⟩
    · have hr := ifn hr c_4
      refine Ev.iload_n (pc := 44) dX9_home_44 rfl ?_
      refine Ev.bipush (pc := 45) (v := nI 15) dX9_home_45 (by decide) ?_
      refine Ev.iand (pc := 47) dX9_home_47 ?_
      refine Ev.ifeq (pc := 48) (tgt := 53) dX9_home_48 (by decide) (fun c_5 => ?_) (fun c_5 => ?_)
      · have hr := ifp hr c_5
        refine Ev.aload_n (pc := 53) dX9_home_53 rfl ?_
        refine Ev.iload_n (pc := 54) dX9_home_54 rfl ?_
        refine Ev.iload_n (pc := 55) dX9_home_55 rfl ?_
        refine Ev.aload_n (pc := 56) dX9_home_56 rfl ?_
        refine Ev.get (pc := 57) (C0 := RX9) (T := TX9) (N := 31) (fl_29_8 _ _ _ _) rfl inX9_home (by decide) lkX9_home_25 dX9_home_57 ?_
        refine Ev.bipush (pc := 60) (v := nI 30) dX9_home_60 (by decide) ?_
        refine Ev.iald (pc := 62) (ar_35 _ _ _ _) (vp_in_nI (n := 30) (N := 62) (by decide) (by decide)) dX9_home_62 ?_
        refine Ev.iload_n (pc := 63) dX9_home_63 rfl ?_
        refine Ev.iadd (pc := 64) dX9_home_64 ?_
        refine Ev.iload_n (pc := 65) dX9_home_65 rfl ?_
        refine Ev.ifgt (pc := 66) (tgt := 83) dX9_home_66 (by decide) (fun c_6 => ?_) (fun c_6 => ?_)
        · have hr := ifp hr c_6
          refine Ev.iconst (pc := 83) (v := nI 1) dX9_home_83 (by decide) ?_
          refine Ev.goto (pc := 84) (tgt := 88) dX9_home_84 (by decide) ?_
          obtain ⟨x_1, hx_1, hr⟩ := Option.bind_eq_some_iff.mp hr
          refine Ev.cVi (pc := 88) (As := [.int _, .int _, .int _, .int _]) (kX9_onward _ _ _ _ _ _ _ _ hx_1) rfl rfl (ob_29 _) gX9_home_X9_onward hdX9_onward rfl ⟨rfl, rfl⟩ ⟨Nat.le_of_ble_eq_true rfl, Nat.le_of_ble_eq_true rfl⟩ (Nat.le_of_ble_eq_true rfl) ⟨Nat.le_of_ble_eq_true rfl, Nat.le_of_ble_eq_true rfl⟩ dX9_home_88 ?_
          refine Ev.istore_n (pc := 91) dX9_home_91 rfl rfl ?_
          refine Ev.iinc (pc := 92) (v := nI 1) dX9_home_92 rfl rfl rfl rfl ?_
          refine Ev.goto (pc := 95) (tgt := 38) dX9_home_95 (by decide) ?_
          exact ih _ _ hr
        · have hr := ifn hr c_6
          refine Ev.aload_n (pc := 69) dX9_home_69 rfl ?_
          refine Ev.get (pc := 70) (C0 := RX9) (T := TX9) (N := 31) (fl_29_8 _ _ _ _) rfl inX9_home (by decide) lkX9_home_25 dX9_home_70 ?_
          refine Ev.bipush (pc := 73) (v := nI 29) dX9_home_73 (by decide) ?_
          refine Ev.iald (pc := 75) (ar_35 _ _ _ _) (vp_in_nI (n := 29) (N := 62) (by decide) (by decide)) dX9_home_75 ?_
          refine Ev.iload_n (pc := 76) dX9_home_76 rfl ?_
          refine Ev.cSi (pc := 77) (As := [.int _, .int _]) (kX9_has _ _ _ _ _ _) rfl gX9_home_X9_has hdX9_has rfl ⟨rfl, rfl⟩ ⟨Nat.le_of_ble_eq_true rfl, Nat.le_of_ble_eq_true rfl⟩ (Nat.le_of_ble_eq_true rfl) ⟨Nat.le_of_ble_eq_true rfl, Nat.le_of_ble_eq_true rfl⟩ dX9_home_77 ?_
          refine Ev.ifneB (pc := 80) (tgt := 87) dX9_home_80 (by decide) (fun c_7 => ?_) (fun c_7 => ?_)
          · have hr := ifp hr c_7
            refine Ev.iconst (pc := 87) (v := nI 0) dX9_home_87 (by decide) ?_
            obtain ⟨x_2, hx_2, hr⟩ := Option.bind_eq_some_iff.mp hr
            refine Ev.cVi (pc := 88) (As := [.int _, .int _, .int _, .int _]) (kX9_onward _ _ _ _ _ _ _ _ hx_2) rfl rfl (ob_29 _) gX9_home_X9_onward hdX9_onward rfl ⟨rfl, rfl⟩ ⟨Nat.le_of_ble_eq_true rfl, Nat.le_of_ble_eq_true rfl⟩ (Nat.le_of_ble_eq_true rfl) ⟨Nat.le_of_ble_eq_true rfl, Nat.le_of_ble_eq_true rfl⟩ dX9_home_88 ?_
            refine Ev.istore_n (pc := 91) dX9_home_91 rfl rfl ?_
            refine Ev.iinc (pc := 92) (v := nI 1) dX9_home_92 rfl rfl rfl rfl ?_
            refine Ev.goto (pc := 95) (tgt := 38) dX9_home_95 (by decide) ?_
            exact ih _ _ hr
          · have hr := ifn hr (ntr c_7)
            refine Ev.iconst (pc := 83) (v := nI 1) dX9_home_83 (by decide) ?_
            refine Ev.goto (pc := 84) (tgt := 88) dX9_home_84 (by decide) ?_
            obtain ⟨x_3, hx_3, hr⟩ := Option.bind_eq_some_iff.mp hr
            refine Ev.cVi (pc := 88) (As := [.int _, .int _, .int _, .int _]) (kX9_onward _ _ _ _ _ _ _ _ hx_3) rfl rfl (ob_29 _) gX9_home_X9_onward hdX9_onward rfl ⟨rfl, rfl⟩ ⟨Nat.le_of_ble_eq_true rfl, Nat.le_of_ble_eq_true rfl⟩ (Nat.le_of_ble_eq_true rfl) ⟨Nat.le_of_ble_eq_true rfl, Nat.le_of_ble_eq_true rfl⟩ dX9_home_88 ?_
            refine Ev.istore_n (pc := 91) dX9_home_91 rfl rfl ?_
            refine Ev.iinc (pc := 92) (v := nI 1) dX9_home_92 rfl rfl rfl rfl ?_
            refine Ev.goto (pc := 95) (tgt := 38) dX9_home_95 (by decide) ?_
            exact ih _ _ hr
      · have hr := ifn hr c_5
        refine Ev.iload_n (pc := 51) dX9_home_51 rfl ?_
        cases hr
        exact Ev.iret rfl rfl dX9_home_52 ⟨rfl, rfl⟩
def sX9_home (g2 : Hg) (a1 : Int32) : Option (Int32) := if (sX9_isLark g2 a1) = true then (if (sX9_has (g2 35 (Int32.toNatClampNeg (nI 28))) a1) = true then (some ((-3))) else (if inb a1 62 = true then (sX9_home_38 g2 a1 100 ((nI 1) <<< ((g2 35 (Int32.toNatClampNeg a1)) &&& 31)) (nI 0)) else none)) else (some ((-1)))
set_option maxRecDepth 20000 in
set_option maxHeartbeats 1000000 in
theorem kX9_home (g : Hg) (q : Int64) (g2 : Hg) (q2 : Int64) (a1 : Int32) {r : Int32} (hr : sX9_home g2 a1 = some r) : CtI MX9_home [.ref 29, .int a1] (g, q, g2, q2) (fun x h' => x = r ∧ h' = (g, q, g2, q2)) := by
  unfold sX9_home at hr
  refine CtI_L 2 rfl (by decide +kernel) rfl (Nat.le_of_ble_eq_true rfl) ?_
  show Ev _ _ 0 [some (.ref 29), some (.int a1), none, none] [] _
  refine Ev.aload_n (pc := 0) dX9_home_0 rfl ?_
  refine Ev.iload_n (pc := 1) dX9_home_1 rfl ?_
  refine Ev.cVi (pc := 2) (As := [.int _]) (kX9_isLark _ _ _ _ _) rfl rfl (ob_29 _) gX9_home_X9_isLark hdX9_isLark rfl ⟨rfl, rfl⟩ ⟨Nat.le_of_ble_eq_true rfl, Nat.le_of_ble_eq_true rfl⟩ (Nat.le_of_ble_eq_true rfl) ⟨Nat.le_of_ble_eq_true rfl, Nat.le_of_ble_eq_true rfl⟩ dX9_home_2 ?_
  refine Ev.ifneB (pc := 5) (tgt := 10) dX9_home_5 (by decide) (fun c_1 => ?_) (fun c_1 => ?_)
  · have hr := ifp hr c_1
    refine Ev.aload_n (pc := 10) dX9_home_10 rfl ?_
    refine Ev.get (pc := 11) (C0 := RX9) (T := TX9) (N := 31) (fl_29_8 _ _ _ _) rfl inX9_home (by decide) lkX9_home_25 dX9_home_11 ?_
    refine Ev.bipush (pc := 14) (v := nI 28) dX9_home_14 (by decide) ?_
    refine Ev.iald (pc := 16) (ar_35 _ _ _ _) (vp_in_nI (n := 28) (N := 62) (by decide) (by decide)) dX9_home_16 ?_
    refine Ev.iload_n (pc := 17) dX9_home_17 rfl ?_
    refine Ev.cSi (pc := 18) (As := [.int _, .int _]) (kX9_has _ _ _ _ _ _) rfl gX9_home_X9_has hdX9_has rfl ⟨rfl, rfl⟩ ⟨Nat.le_of_ble_eq_true rfl, Nat.le_of_ble_eq_true rfl⟩ (Nat.le_of_ble_eq_true rfl) ⟨Nat.le_of_ble_eq_true rfl, Nat.le_of_ble_eq_true rfl⟩ dX9_home_18 ?_
    refine Ev.ifeqB (pc := 21) (tgt := 27) dX9_home_21 (by decide) (fun c_2 => ?_) (fun c_2 => ?_)
    · have hr := ifn hr (ntr c_2)
      refine Ev.iconst (pc := 27) (v := nI 1) dX9_home_27 (by decide) ?_
      refine Ev.aload_n (pc := 28) dX9_home_28 rfl ?_
      refine Ev.get (pc := 29) (C0 := RX9) (T := TX9) (N := 31) (fl_29_8 _ _ _ _) rfl inX9_home (by decide) lkX9_home_25 dX9_home_29 ?_
      refine Ev.iload_n (pc := 32) dX9_home_32 rfl ?_
      obtain ⟨c_3, hr⟩ := ckB hr
      refine Ev.iald (pc := 33) (ar_35 _ _ _ _) (inb_in c_3) dX9_home_33 ?_
      refine Ev.ishl (pc := 34) dX9_home_34 ?_
      refine Ev.istore_n (pc := 35) dX9_home_35 rfl rfl ?_
      refine Ev.iconst (pc := 36) (v := nI 0) dX9_home_36 (by decide) ?_
      refine Ev.istore_n (pc := 37) dX9_home_37 rfl rfl ?_
      exact kX9_home_38 _ _ _ _ _ _ 100 _ _ hr
    · have hr := ifp hr c_2
      refine Ev.bipush (pc := 24) (v := (-3)) dX9_home_24 (by decide) ?_
      cases hr
      exact Ev.iret rfl rfl dX9_home_26 ⟨rfl, rfl⟩
  · have hr := ifn hr (ntr c_1)
    refine Ev.iconst (pc := 8) (v := (-1)) dX9_home_8 (by decide) ?_
    cases hr
    exact Ev.iret rfl rfl dX9_home_9 ⟨rfl, rfl⟩
/-! X9_comesHome -/
def sX9_comesHome_8 (g2 : Hg) (v1 : Int32) (v2 : Int32) (v3 : Int32) (v4 : Int32) : Nat → Int32 → Int32 → Option (Bool)
  | 0, _, _ => none
  | n + 1, v5, v6 => if v4 < v6 then (some false) else (if (v5 &&& (nI 15)) = 0 then (if 0 < v6 then ((sX9_onward g2 v1 v5 ((g2 35 (Int32.toNatClampNeg (nI 30))) + v6) (nI 1)).bind fun x_1 => (sX9_comesHome_8 g2 v1 v2 v3 v4 n x_1 (v6 + (nI 1)))) else (if (sX9_has (g2 35 (Int32.toNatClampNeg (nI 29))) v1) = true then ((sX9_onward g2 v1 v5 ((g2 35 (Int32.toNatClampNeg (nI 30))) + v6) (nI 0)).bind fun x_2 => (sX9_comesHome_8 g2 v1 v2 v3 v4 n x_2 (v6 + (nI 1)))) else ((sX9_onward g2 v1 v5 ((g2 35 (Int32.toNatClampNeg (nI 30))) + v6) (nI 1)).bind fun x_3 => (sX9_comesHome_8 g2 v1 v2 v3 v4 n x_3 (v6 + (nI 1)))))) else (some true))
set_option maxRecDepth 20000 in
set_option maxHeartbeats 1000000 in
theorem kX9_comesHome_8 (g : Hg) (q : Int64) (g2 : Hg) (q2 : Int64)  (v1 : Int32) (v2 : Int32) (v3 : Int32) (v4 : Int32) (r : Bool) : ∀ (n : Nat) (v5 : Int32) (v6 : Int32), sX9_comesHome_8 g2 v1 v2 v3 v4 n v5 v6 = some r → Ev (Xi (fun x h' => x = bI r ∧ h' = (g, q, g2, q2))) MX9_comesHome 8 [some (.ref 29), some (.int v1), some (.int v2), some (.int v3), some (.int v4), some (.int v5), some (.int v6)] [] (g, q, g2, q2) := by
  intro n
  induction n with
  | zero => intro _ _ hr; cases hr
  | succ n ih =>
    intro v5 v6 hr
    rw [sX9_comesHome_8] at hr
    refine Ev.iload (pc := 8) dX9_comesHome_8 rfl ?_
    refine Ev.iload (pc := 10) dX9_comesHome_10 rfl ?_
    refine Ev.icmpgt (pc := 12) (tgt := 74) dX9_comesHome_12 (by decide) (fun c_1 => ?_) (fun c_1 => ?_)
    · have hr := ifp hr c_1
      refine Ev.iconst (pc := 74) (v := nI 0) dX9_comesHome_74 (by decide) ?_
      cases hr
      exact Ev.iret rfl rfl dX9_comesHome_75 ⟨rfl, rfl⟩
    · have hr := ifn hr c_1
      refine Ev.iload (pc := 15) dX9_comesHome_15 rfl ?_
      refine Ev.bipush (pc := 17) (v := nI 15) dX9_comesHome_17 (by decide) ?_
      refine Ev.iand (pc := 19) dX9_comesHome_19 ?_
      refine Ev.ifeq (pc := 20) (tgt := 25) dX9_comesHome_20 (by decide) (fun c_2 => ?_) (fun c_2 => ?_)
      · have hr := ifp hr c_2
        refine Ev.aload_n (pc := 25) dX9_comesHome_25 rfl ?_
        refine Ev.iload_n (pc := 26) dX9_comesHome_26 rfl ?_
        refine Ev.iload (pc := 27) dX9_comesHome_27 rfl ?_
        refine Ev.aload_n (pc := 29) dX9_comesHome_29 rfl ?_
        refine Ev.get (pc := 30) (C0 := RX9) (T := TX9) (N := 31) (fl_29_8 _ _ _ _) rfl inX9_comesHome (by decide) lkX9_comesHome_25 dX9_comesHome_30 ?_
        refine Ev.bipush (pc := 33) (v := nI 30) dX9_comesHome_33 (by decide) ?_
        refine Ev.iald (pc := 35) (ar_35 _ _ _ _) (vp_in_nI (n := 30) (N := 62) (by decide) (by decide)) dX9_comesHome_35 ?_
        refine Ev.iload (pc := 36) dX9_comesHome_36 rfl ?_
        refine Ev.iadd (pc := 38) dX9_comesHome_38 ?_
        refine Ev.iload (pc := 39) dX9_comesHome_39 rfl ?_
        refine Ev.ifgt (pc := 41) (tgt := 58) dX9_comesHome_41 (by decide) (fun c_3 => ?_) (fun c_3 => ?_)
        · have hr := ifp hr c_3
          refine Ev.iconst (pc := 58) (v := nI 1) dX9_comesHome_58 (by decide) ?_
          refine Ev.goto (pc := 59) (tgt := 63) dX9_comesHome_59 (by decide) ?_
          obtain ⟨x_1, hx_1, hr⟩ := Option.bind_eq_some_iff.mp hr
          refine Ev.cVi (pc := 63) (As := [.int _, .int _, .int _, .int _]) (kX9_onward _ _ _ _ _ _ _ _ hx_1) rfl rfl (ob_29 _) gX9_comesHome_X9_onward hdX9_onward rfl ⟨rfl, rfl⟩ ⟨Nat.le_of_ble_eq_true rfl, Nat.le_of_ble_eq_true rfl⟩ (Nat.le_of_ble_eq_true rfl) ⟨Nat.le_of_ble_eq_true rfl, Nat.le_of_ble_eq_true rfl⟩ dX9_comesHome_63 ?_
          refine Ev.istore (pc := 66) dX9_comesHome_66 rfl rfl ?_
          refine Ev.iinc (pc := 68) (v := nI 1) dX9_comesHome_68 rfl rfl rfl rfl ?_
          refine Ev.goto (pc := 71) (tgt := 8) dX9_comesHome_71 (by decide) ?_
          exact ih _ _ hr
        · have hr := ifn hr c_3
          refine Ev.aload_n (pc := 44) dX9_comesHome_44 rfl ?_
          refine Ev.get (pc := 45) (C0 := RX9) (T := TX9) (N := 31) (fl_29_8 _ _ _ _) rfl inX9_comesHome (by decide) lkX9_comesHome_25 dX9_comesHome_45 ?_
          refine Ev.bipush (pc := 48) (v := nI 29) dX9_comesHome_48 (by decide) ?_
          refine Ev.iald (pc := 50) (ar_35 _ _ _ _) (vp_in_nI (n := 29) (N := 62) (by decide) (by decide)) dX9_comesHome_50 ?_
          refine Ev.iload_n (pc := 51) dX9_comesHome_51 rfl ?_
          refine Ev.cSi (pc := 52) (As := [.int _, .int _]) (kX9_has _ _ _ _ _ _) rfl gX9_comesHome_X9_has hdX9_has rfl ⟨rfl, rfl⟩ ⟨Nat.le_of_ble_eq_true rfl, Nat.le_of_ble_eq_true rfl⟩ (Nat.le_of_ble_eq_true rfl) ⟨Nat.le_of_ble_eq_true rfl, Nat.le_of_ble_eq_true rfl⟩ dX9_comesHome_52 ?_
          refine Ev.ifneB (pc := 55) (tgt := 62) dX9_comesHome_55 (by decide) (fun c_4 => ?_) (fun c_4 => ?_)
          · have hr := ifp hr c_4
            refine Ev.iconst (pc := 62) (v := nI 0) dX9_comesHome_62 (by decide) ?_
            obtain ⟨x_2, hx_2, hr⟩ := Option.bind_eq_some_iff.mp hr
            refine Ev.cVi (pc := 63) (As := [.int _, .int _, .int _, .int _]) (kX9_onward _ _ _ _ _ _ _ _ hx_2) rfl rfl (ob_29 _) gX9_comesHome_X9_onward hdX9_onward rfl ⟨rfl, rfl⟩ ⟨Nat.le_of_ble_eq_true rfl, Nat.le_of_ble_eq_true rfl⟩ (Nat.le_of_ble_eq_true rfl) ⟨Nat.le_of_ble_eq_true rfl, Nat.le_of_ble_eq_true rfl⟩ dX9_comesHome_63 ?_
            refine Ev.istore (pc := 66) dX9_comesHome_66 rfl rfl ?_
            refine Ev.iinc (pc := 68) (v := nI 1) dX9_comesHome_68 rfl rfl rfl rfl ?_
            refine Ev.goto (pc := 71) (tgt := 8) dX9_comesHome_71 (by decide) ?_
            exact ih _ _ hr
          · have hr := ifn hr (ntr c_4)
            refine Ev.iconst (pc := 58) (v := nI 1) dX9_comesHome_58 (by decide) ?_
            refine Ev.goto (pc := 59) (tgt := 63) dX9_comesHome_59 (by decide) ?_
            obtain ⟨x_3, hx_3, hr⟩ := Option.bind_eq_some_iff.mp hr
            refine Ev.cVi (pc := 63) (As := [.int _, .int _, .int _, .int _]) (kX9_onward _ _ _ _ _ _ _ _ hx_3) rfl rfl (ob_29 _) gX9_comesHome_X9_onward hdX9_onward rfl ⟨rfl, rfl⟩ ⟨Nat.le_of_ble_eq_true rfl, Nat.le_of_ble_eq_true rfl⟩ (Nat.le_of_ble_eq_true rfl) ⟨Nat.le_of_ble_eq_true rfl, Nat.le_of_ble_eq_true rfl⟩ dX9_comesHome_63 ?_
            refine Ev.istore (pc := 66) dX9_comesHome_66 rfl rfl ?_
            refine Ev.iinc (pc := 68) (v := nI 1) dX9_comesHome_68 rfl rfl rfl rfl ?_
            refine Ev.goto (pc := 71) (tgt := 8) dX9_comesHome_71 (by decide) ?_
            exact ih _ _ hr
      · have hr := ifn hr c_2
        refine Ev.iconst (pc := 23) (v := nI 1) dX9_comesHome_23 (by decide) ?_
        cases hr
        exact Ev.iret rfl rfl dX9_comesHome_24 ⟨rfl, rfl⟩
def sX9_comesHome (g2 : Hg) (a1 : Int32) (a2 : Int32) (a3 : Int32) (a4 : Int32) : Option (Bool) := sX9_comesHome_8 g2 a1 a2 a3 a4 100 ((nI 1) <<< (a2 &&& 31)) a3
set_option maxRecDepth 20000 in
set_option maxHeartbeats 1000000 in
theorem kX9_comesHome (g : Hg) (q : Int64) (g2 : Hg) (q2 : Int64) (a1 : Int32) (a2 : Int32) (a3 : Int32) (a4 : Int32) {r : Bool} (hr : sX9_comesHome g2 a1 a2 a3 a4 = some r) : CtI MX9_comesHome [.ref 29, .int a1, .int a2, .int a3, .int a4] (g, q, g2, q2) (fun x h' => x = bI r ∧ h' = (g, q, g2, q2)) := by
  unfold sX9_comesHome at hr
  refine CtI_L 2 rfl (by decide +kernel) rfl (Nat.le_of_ble_eq_true rfl) ?_
  show Ev _ _ 0 [some (.ref 29), some (.int a1), some (.int a2), some (.int a3), some (.int a4), none, none] [] _
  refine Ev.iconst (pc := 0) (v := nI 1) dX9_comesHome_0 (by decide) ?_
  refine Ev.iload_n (pc := 1) dX9_comesHome_1 rfl ?_
  refine Ev.ishl (pc := 2) dX9_comesHome_2 ?_
  refine Ev.istore (pc := 3) dX9_comesHome_3 rfl rfl ?_
  refine Ev.iload_n (pc := 5) dX9_comesHome_5 rfl ?_
  refine Ev.istore (pc := 6) dX9_comesHome_6 rfl rfl ?_
  exact kX9_comesHome_8 _ _ _ _ _ _ _ _ _ 100 _ _ hr
/-! X9_mayGet -/
def sX9_mayGet_13 (g2 : Hg) (v1 : Int32) (v2 : Int32) (v3 : Int32) : Nat → Int32 → Int32 → Option (Bool)
  | 0, _, _ => none
  | n + 1, v4, v5 => if v3 < v5 then (some false) else (if (sX9_has v4 v2) = true then ((sX9_isBare g2 v2 ((g2 35 (Int32.toNatClampNeg (nI 30))) + v5)).bind fun x_4 => (if x_4 = true then ((sX9_comesHome g2 v1 v2 v5 v3).bind fun x_8 => (if x_8 = true then (some true) else (if 0 < v5 then ((sX9_onward g2 v1 v4 ((g2 35 (Int32.toNatClampNeg (nI 30))) + v5) (nI 1)).bind fun x_9 => (sX9_mayGet_13 g2 v1 v2 v3 n x_9 (v5 + (nI 1)))) else (if (sX9_has (g2 35 (Int32.toNatClampNeg (nI 29))) v1) = true then ((sX9_onward g2 v1 v4 ((g2 35 (Int32.toNatClampNeg (nI 30))) + v5) (nI 0)).bind fun x_10 => (sX9_mayGet_13 g2 v1 v2 v3 n x_10 (v5 + (nI 1)))) else ((sX9_onward g2 v1 v4 ((g2 35 (Int32.toNatClampNeg (nI 30))) + v5) (nI 1)).bind fun x_11 => (sX9_mayGet_13 g2 v1 v2 v3 n x_11 (v5 + (nI 1)))))))) else (if 0 < v5 then ((sX9_onward g2 v1 v4 ((g2 35 (Int32.toNatClampNeg (nI 30))) + v5) (nI 1)).bind fun x_5 => (sX9_mayGet_13 g2 v1 v2 v3 n x_5 (v5 + (nI 1)))) else (if (sX9_has (g2 35 (Int32.toNatClampNeg (nI 29))) v1) = true then ((sX9_onward g2 v1 v4 ((g2 35 (Int32.toNatClampNeg (nI 30))) + v5) (nI 0)).bind fun x_6 => (sX9_mayGet_13 g2 v1 v2 v3 n x_6 (v5 + (nI 1)))) else ((sX9_onward g2 v1 v4 ((g2 35 (Int32.toNatClampNeg (nI 30))) + v5) (nI 1)).bind fun x_7 => (sX9_mayGet_13 g2 v1 v2 v3 n x_7 (v5 + (nI 1)))))))) else (if 0 < v5 then ((sX9_onward g2 v1 v4 ((g2 35 (Int32.toNatClampNeg (nI 30))) + v5) (nI 1)).bind fun x_1 => (sX9_mayGet_13 g2 v1 v2 v3 n x_1 (v5 + (nI 1)))) else (if (sX9_has (g2 35 (Int32.toNatClampNeg (nI 29))) v1) = true then ((sX9_onward g2 v1 v4 ((g2 35 (Int32.toNatClampNeg (nI 30))) + v5) (nI 0)).bind fun x_2 => (sX9_mayGet_13 g2 v1 v2 v3 n x_2 (v5 + (nI 1)))) else ((sX9_onward g2 v1 v4 ((g2 35 (Int32.toNatClampNeg (nI 30))) + v5) (nI 1)).bind fun x_3 => (sX9_mayGet_13 g2 v1 v2 v3 n x_3 (v5 + (nI 1)))))))
set_option maxRecDepth 20000 in
set_option maxHeartbeats 1000000 in
theorem kX9_mayGet_13 (g : Hg) (q : Int64) (g2 : Hg) (q2 : Int64)  (v1 : Int32) (v2 : Int32) (v3 : Int32) (r : Bool) : ∀ (n : Nat) (v4 : Int32) (v5 : Int32), sX9_mayGet_13 g2 v1 v2 v3 n v4 v5 = some r → Ev (Xi (fun x h' => x = bI r ∧ h' = (g, q, g2, q2))) MX9_mayGet 13 [some (.ref 29), some (.int v1), some (.int v2), some (.int v3), some (.int v4), some (.int v5)] [] (g, q, g2, q2) := by
  intro n
  induction n with
  | zero => intro _ _ hr; cases hr
  | succ n ih =>
    intro v4 v5 hr
    rw [sX9_mayGet_13] at hr
    refine Ev.iload (pc := 13) dX9_mayGet_13 rfl ?_
    refine Ev.iload_n (pc := 15) dX9_mayGet_15 rfl ?_
    refine Ev.icmpgt (pc := 16) (tgt := 109) dX9_mayGet_16 (by decide) (fun c_2 => ?_) (fun c_2 => ?_)
    · have hr := ifp hr c_2
      refine Ev.iconst (pc := 109) (v := nI 0) dX9_mayGet_109 (by decide) ?_
      cases hr
      exact Ev.iret rfl rfl dX9_mayGet_110 ⟨rfl, rfl⟩
    · have hr := ifn hr c_2
      refine Ev.iload (pc := 19) dX9_mayGet_19 rfl ?_
      refine Ev.iload_n (pc := 21) dX9_mayGet_21 rfl ?_
      refine Ev.cSi (pc := 22) (As := [.int _, .int _]) (kX9_has _ _ _ _ _ _) rfl gX9_mayGet_X9_has hdX9_has rfl ⟨rfl, rfl⟩ ⟨Nat.le_of_ble_eq_true rfl, Nat.le_of_ble_eq_true rfl⟩ (Nat.le_of_ble_eq_true rfl) ⟨Nat.le_of_ble_eq_true rfl, Nat.le_of_ble_eq_true rfl⟩ dX9_mayGet_22 ?_
      refine Ev.ifeqB (pc := 25) (tgt := 60) dX9_mayGet_25 (by decide) (fun c_3 => ?_) (fun c_3 => ?_)
      · have hr := ifn hr (ntr c_3)
        refine Ev.aload_n (pc := 60) dX9_mayGet_60 rfl ?_
        refine Ev.iload_n (pc := 61) dX9_mayGet_61 rfl ?_
        refine Ev.iload (pc := 62) dX9_mayGet_62 rfl ?_
        refine Ev.aload_n (pc := 64) dX9_mayGet_64 rfl ?_
        refine Ev.get (pc := 65) (C0 := RX9) (T := TX9) (N := 31) (fl_29_8 _ _ _ _) rfl inX9_mayGet (by decide) lkX9_mayGet_25 dX9_mayGet_65 ?_
        refine Ev.bipush (pc := 68) (v := nI 30) dX9_mayGet_68 (by decide) ?_
        refine Ev.iald (pc := 70) (ar_35 _ _ _ _) (vp_in_nI (n := 30) (N := 62) (by decide) (by decide)) dX9_mayGet_70 ?_
        refine Ev.iload (pc := 71) dX9_mayGet_71 rfl ?_
        refine Ev.iadd (pc := 73) dX9_mayGet_73 ?_
        refine Ev.iload (pc := 74) dX9_mayGet_74 rfl ?_
        refine Ev.ifgt (pc := 76) (tgt := 93) dX9_mayGet_76 (by decide) (fun c_4 => ?_) (fun c_4 => ?_)
        · have hr := ifp hr c_4
          refine Ev.iconst (pc := 93) (v := nI 1) dX9_mayGet_93 (by decide) ?_
          refine Ev.goto (pc := 94) (tgt := 98) dX9_mayGet_94 (by decide) ?_
          obtain ⟨x_1, hx_1, hr⟩ := Option.bind_eq_some_iff.mp hr
          refine Ev.cVi (pc := 98) (As := [.int _, .int _, .int _, .int _]) (kX9_onward _ _ _ _ _ _ _ _ hx_1) rfl rfl (ob_29 _) gX9_mayGet_X9_onward hdX9_onward rfl ⟨rfl, rfl⟩ ⟨Nat.le_of_ble_eq_true rfl, Nat.le_of_ble_eq_true rfl⟩ (Nat.le_of_ble_eq_true rfl) ⟨Nat.le_of_ble_eq_true rfl, Nat.le_of_ble_eq_true rfl⟩ dX9_mayGet_98 ?_
          refine Ev.istore (pc := 101) dX9_mayGet_101 rfl rfl ?_
          refine Ev.iinc (pc := 103) (v := nI 1) dX9_mayGet_103 rfl rfl rfl rfl ?_
          refine Ev.goto (pc := 106) (tgt := 13) dX9_mayGet_106 (by decide) ?_
          exact ih _ _ hr
        · have hr := ifn hr c_4
          refine Ev.aload_n (pc := 79) dX9_mayGet_79 rfl ?_
          refine Ev.get (pc := 80) (C0 := RX9) (T := TX9) (N := 31) (fl_29_8 _ _ _ _) rfl inX9_mayGet (by decide) lkX9_mayGet_25 dX9_mayGet_80 ?_
          refine Ev.bipush (pc := 83) (v := nI 29) dX9_mayGet_83 (by decide) ?_
          refine Ev.iald (pc := 85) (ar_35 _ _ _ _) (vp_in_nI (n := 29) (N := 62) (by decide) (by decide)) dX9_mayGet_85 ?_
          refine Ev.iload_n (pc := 86) dX9_mayGet_86 rfl ?_
          refine Ev.cSi (pc := 87) (As := [.int _, .int _]) (kX9_has _ _ _ _ _ _) rfl gX9_mayGet_X9_has hdX9_has rfl ⟨rfl, rfl⟩ ⟨Nat.le_of_ble_eq_true rfl, Nat.le_of_ble_eq_true rfl⟩ (Nat.le_of_ble_eq_true rfl) ⟨Nat.le_of_ble_eq_true rfl, Nat.le_of_ble_eq_true rfl⟩ dX9_mayGet_87 ?_
          refine Ev.ifneB (pc := 90) (tgt := 97) dX9_mayGet_90 (by decide) (fun c_5 => ?_) (fun c_5 => ?_)
          · have hr := ifp hr c_5
            refine Ev.iconst (pc := 97) (v := nI 0) dX9_mayGet_97 (by decide) ?_
            obtain ⟨x_2, hx_2, hr⟩ := Option.bind_eq_some_iff.mp hr
            refine Ev.cVi (pc := 98) (As := [.int _, .int _, .int _, .int _]) (kX9_onward _ _ _ _ _ _ _ _ hx_2) rfl rfl (ob_29 _) gX9_mayGet_X9_onward hdX9_onward rfl ⟨rfl, rfl⟩ ⟨Nat.le_of_ble_eq_true rfl, Nat.le_of_ble_eq_true rfl⟩ (Nat.le_of_ble_eq_true rfl) ⟨Nat.le_of_ble_eq_true rfl, Nat.le_of_ble_eq_true rfl⟩ dX9_mayGet_98 ?_
            refine Ev.istore (pc := 101) dX9_mayGet_101 rfl rfl ?_
            refine Ev.iinc (pc := 103) (v := nI 1) dX9_mayGet_103 rfl rfl rfl rfl ?_
            refine Ev.goto (pc := 106) (tgt := 13) dX9_mayGet_106 (by decide) ?_
            exact ih _ _ hr
          · have hr := ifn hr (ntr c_5)
            refine Ev.iconst (pc := 93) (v := nI 1) dX9_mayGet_93 (by decide) ?_
            refine Ev.goto (pc := 94) (tgt := 98) dX9_mayGet_94 (by decide) ?_
            obtain ⟨x_3, hx_3, hr⟩ := Option.bind_eq_some_iff.mp hr
            refine Ev.cVi (pc := 98) (As := [.int _, .int _, .int _, .int _]) (kX9_onward _ _ _ _ _ _ _ _ hx_3) rfl rfl (ob_29 _) gX9_mayGet_X9_onward hdX9_onward rfl ⟨rfl, rfl⟩ ⟨Nat.le_of_ble_eq_true rfl, Nat.le_of_ble_eq_true rfl⟩ (Nat.le_of_ble_eq_true rfl) ⟨Nat.le_of_ble_eq_true rfl, Nat.le_of_ble_eq_true rfl⟩ dX9_mayGet_98 ?_
            refine Ev.istore (pc := 101) dX9_mayGet_101 rfl rfl ?_
            refine Ev.iinc (pc := 103) (v := nI 1) dX9_mayGet_103 rfl rfl rfl rfl ?_
            refine Ev.goto (pc := 106) (tgt := 13) dX9_mayGet_106 (by decide) ?_
            exact ih _ _ hr
      · have hr := ifp hr c_3
        refine Ev.aload_n (pc := 28) dX9_mayGet_28 rfl ?_
        refine Ev.iload_n (pc := 29) dX9_mayGet_29 rfl ?_
        refine Ev.aload_n (pc := 30) dX9_mayGet_30 rfl ?_
        refine Ev.get (pc := 31) (C0 := RX9) (T := TX9) (N := 31) (fl_29_8 _ _ _ _) rfl inX9_mayGet (by decide) lkX9_mayGet_25 dX9_mayGet_31 ?_
        refine Ev.bipush (pc := 34) (v := nI 30) dX9_mayGet_34 (by decide) ?_
        refine Ev.iald (pc := 36) (ar_35 _ _ _ _) (vp_in_nI (n := 30) (N := 62) (by decide) (by decide)) dX9_mayGet_36 ?_
        refine Ev.iload (pc := 37) dX9_mayGet_37 rfl ?_
        refine Ev.iadd (pc := 39) dX9_mayGet_39 ?_
        obtain ⟨x_4, hx_4, hr⟩ := Option.bind_eq_some_iff.mp hr
        refine Ev.cVi (pc := 40) (As := [.int _, .int _]) (kX9_isBare _ _ _ _ _ _ hx_4) rfl rfl (ob_29 _) gX9_mayGet_X9_isBare hdX9_isBare rfl ⟨rfl, rfl⟩ ⟨Nat.le_of_ble_eq_true rfl, Nat.le_of_ble_eq_true rfl⟩ (Nat.le_of_ble_eq_true rfl) ⟨Nat.le_of_ble_eq_true rfl, Nat.le_of_ble_eq_true rfl⟩ dX9_mayGet_40 ?_
        refine Ev.ifeqB (pc := 43) (tgt := 60) dX9_mayGet_43 (by decide) (fun c_6 => ?_) (fun c_6 => ?_)
        · have hr := ifn hr (ntr c_6)
          refine Ev.aload_n (pc := 60) dX9_mayGet_60 rfl ?_
          refine Ev.iload_n (pc := 61) dX9_mayGet_61 rfl ?_
          refine Ev.iload (pc := 62) dX9_mayGet_62 rfl ?_
          refine Ev.aload_n (pc := 64) dX9_mayGet_64 rfl ?_
          refine Ev.get (pc := 65) (C0 := RX9) (T := TX9) (N := 31) (fl_29_8 _ _ _ _) rfl inX9_mayGet (by decide) lkX9_mayGet_25 dX9_mayGet_65 ?_
          refine Ev.bipush (pc := 68) (v := nI 30) dX9_mayGet_68 (by decide) ?_
          refine Ev.iald (pc := 70) (ar_35 _ _ _ _) (vp_in_nI (n := 30) (N := 62) (by decide) (by decide)) dX9_mayGet_70 ?_
          refine Ev.iload (pc := 71) dX9_mayGet_71 rfl ?_
          refine Ev.iadd (pc := 73) dX9_mayGet_73 ?_
          refine Ev.iload (pc := 74) dX9_mayGet_74 rfl ?_
          refine Ev.ifgt (pc := 76) (tgt := 93) dX9_mayGet_76 (by decide) (fun c_7 => ?_) (fun c_7 => ?_)
          · have hr := ifp hr c_7
            refine Ev.iconst (pc := 93) (v := nI 1) dX9_mayGet_93 (by decide) ?_
            refine Ev.goto (pc := 94) (tgt := 98) dX9_mayGet_94 (by decide) ?_
            obtain ⟨x_5, hx_5, hr⟩ := Option.bind_eq_some_iff.mp hr
            refine Ev.cVi (pc := 98) (As := [.int _, .int _, .int _, .int _]) (kX9_onward _ _ _ _ _ _ _ _ hx_5) rfl rfl (ob_29 _) gX9_mayGet_X9_onward hdX9_onward rfl ⟨rfl, rfl⟩ ⟨Nat.le_of_ble_eq_true rfl, Nat.le_of_ble_eq_true rfl⟩ (Nat.le_of_ble_eq_true rfl) ⟨Nat.le_of_ble_eq_true rfl, Nat.le_of_ble_eq_true rfl⟩ dX9_mayGet_98 ?_
            refine Ev.istore (pc := 101) dX9_mayGet_101 rfl rfl ?_
            refine Ev.iinc (pc := 103) (v := nI 1) dX9_mayGet_103 rfl rfl rfl rfl ?_
            refine Ev.goto (pc := 106) (tgt := 13) dX9_mayGet_106 (by decide) ?_
            exact ih _ _ hr
          · have hr := ifn hr c_7
            refine Ev.aload_n (pc := 79) dX9_mayGet_79 rfl ?_
            refine Ev.get (pc := 80) (C0 := RX9) (T := TX9) (N := 31) (fl_29_8 _ _ _ _) rfl inX9_mayGet (by decide) lkX9_mayGet_25 dX9_mayGet_80 ?_
            refine Ev.bipush (pc := 83) (v := nI 29) dX9_mayGet_83 (by decide) ?_
            refine Ev.iald (pc := 85) (ar_35 _ _ _ _) (vp_in_nI (n := 29) (N := 62) (by decide) (by decide)) dX9_mayGet_85 ?_
            refine Ev.iload_n (pc := 86) dX9_mayGet_86 rfl ?_
            refine Ev.cSi (pc := 87) (As := [.int _, .int _]) (kX9_has _ _ _ _ _ _) rfl gX9_mayGet_X9_has hdX9_has rfl ⟨rfl, rfl⟩ ⟨Nat.le_of_ble_eq_true rfl, Nat.le_of_ble_eq_true rfl⟩ (Nat.le_of_ble_eq_true rfl) ⟨Nat.le_of_ble_eq_true rfl, Nat.le_of_ble_eq_true rfl⟩ dX9_mayGet_87 ?_
            refine Ev.ifneB (pc := 90) (tgt := 97) dX9_mayGet_90 (by decide) (fun c_8 => ?_) (fun c_8 => ?_)
            · have hr := ifp hr c_8
              refine Ev.iconst (pc := 97) (v := nI 0) dX9_mayGet_97 (by decide) ?_
              obtain ⟨x_6, hx_6, hr⟩ := Option.bind_eq_some_iff.mp hr
              refine Ev.cVi (pc := 98) (As := [.int _, .int _, .int _, .int _]) (kX9_onward _ _ _ _ _ _ _ _ hx_6) rfl rfl (ob_29 _) gX9_mayGet_X9_onward hdX9_onward rfl ⟨rfl, rfl⟩ ⟨Nat.le_of_ble_eq_true rfl, Nat.le_of_ble_eq_true rfl⟩ (Nat.le_of_ble_eq_true rfl) ⟨Nat.le_of_ble_eq_true rfl, Nat.le_of_ble_eq_true rfl⟩ dX9_mayGet_98 ?_
              refine Ev.istore (pc := 101) dX9_mayGet_101 rfl rfl ?_
              refine Ev.iinc (pc := 103) (v := nI 1) dX9_mayGet_103 rfl rfl rfl rfl ?_
              refine Ev.goto (pc := 106) (tgt := 13) dX9_mayGet_106 (by decide) ?_
              exact ih _ _ hr
            · have hr := ifn hr (ntr c_8)
              refine Ev.iconst (pc := 93) (v := nI 1) dX9_mayGet_93 (by decide) ?_
              refine Ev.goto (pc := 94) (tgt := 98) dX9_mayGet_94 (by decide) ?_
              obtain ⟨x_7, hx_7, hr⟩ := Option.bind_eq_some_iff.mp hr
              refine Ev.cVi (pc := 98) (As := [.int _, .int _, .int _, .int _]) (kX9_onward _ _ _ _ _ _ _ _ hx_7) rfl rfl (ob_29 _) gX9_mayGet_X9_onward hdX9_onward rfl ⟨rfl, rfl⟩ ⟨Nat.le_of_ble_eq_true rfl, Nat.le_of_ble_eq_true rfl⟩ (Nat.le_of_ble_eq_true rfl) ⟨Nat.le_of_ble_eq_true rfl, Nat.le_of_ble_eq_true rfl⟩ dX9_mayGet_98 ?_
              refine Ev.istore (pc := 101) dX9_mayGet_101 rfl rfl ?_
              refine Ev.iinc (pc := 103) (v := nI 1) dX9_mayGet_103 rfl rfl rfl rfl ?_
              refine Ev.goto (pc := 106) (tgt := 13) dX9_mayGet_106 (by decide) ?_
              exact ih _ _ hr
        · have hr := ifp hr c_6
          refine Ev.aload_n (pc := 46) dX9_mayGet_46 rfl ?_
          refine Ev.iload_n (pc := 47) dX9_mayGet_47 rfl ?_
          refine Ev.iload_n (pc := 48) dX9_mayGet_48 rfl ?_
          refine Ev.iload (pc := 49) dX9_mayGet_49 rfl ?_
          refine Ev.iload_n (pc := 51) dX9_mayGet_51 rfl ?_
          obtain ⟨x_8, hx_8, hr⟩ := Option.bind_eq_some_iff.mp hr
          refine Ev.cVi (pc := 52) (As := [.int _, .int _, .int _, .int _]) (kX9_comesHome _ _ _ _ _ _ _ _ hx_8) rfl rfl (ob_29 _) gX9_mayGet_X9_comesHome hdX9_comesHome rfl ⟨rfl, rfl⟩ ⟨Nat.le_of_ble_eq_true rfl, Nat.le_of_ble_eq_true rfl⟩ (Nat.le_of_ble_eq_true rfl) ⟨Nat.le_of_ble_eq_true rfl, Nat.le_of_ble_eq_true rfl⟩ dX9_mayGet_52 ?_
          refine Ev.ifeqB (pc := 55) (tgt := 60) dX9_mayGet_55 (by decide) (fun c_9 => ?_) (fun c_9 => ?_)
          · have hr := ifn hr (ntr c_9)
            refine Ev.aload_n (pc := 60) dX9_mayGet_60 rfl ?_
            refine Ev.iload_n (pc := 61) dX9_mayGet_61 rfl ?_
            refine Ev.iload (pc := 62) dX9_mayGet_62 rfl ?_
            refine Ev.aload_n (pc := 64) dX9_mayGet_64 rfl ?_
            refine Ev.get (pc := 65) (C0 := RX9) (T := TX9) (N := 31) (fl_29_8 _ _ _ _) rfl inX9_mayGet (by decide) lkX9_mayGet_25 dX9_mayGet_65 ?_
            refine Ev.bipush (pc := 68) (v := nI 30) dX9_mayGet_68 (by decide) ?_
            refine Ev.iald (pc := 70) (ar_35 _ _ _ _) (vp_in_nI (n := 30) (N := 62) (by decide) (by decide)) dX9_mayGet_70 ?_
            refine Ev.iload (pc := 71) dX9_mayGet_71 rfl ?_
            refine Ev.iadd (pc := 73) dX9_mayGet_73 ?_
            refine Ev.iload (pc := 74) dX9_mayGet_74 rfl ?_
            refine Ev.ifgt (pc := 76) (tgt := 93) dX9_mayGet_76 (by decide) (fun c_10 => ?_) (fun c_10 => ?_)
            · have hr := ifp hr c_10
              refine Ev.iconst (pc := 93) (v := nI 1) dX9_mayGet_93 (by decide) ?_
              refine Ev.goto (pc := 94) (tgt := 98) dX9_mayGet_94 (by decide) ?_
              obtain ⟨x_9, hx_9, hr⟩ := Option.bind_eq_some_iff.mp hr
              refine Ev.cVi (pc := 98) (As := [.int _, .int _, .int _, .int _]) (kX9_onward _ _ _ _ _ _ _ _ hx_9) rfl rfl (ob_29 _) gX9_mayGet_X9_onward hdX9_onward rfl ⟨rfl, rfl⟩ ⟨Nat.le_of_ble_eq_true rfl, Nat.le_of_ble_eq_true rfl⟩ (Nat.le_of_ble_eq_true rfl) ⟨Nat.le_of_ble_eq_true rfl, Nat.le_of_ble_eq_true rfl⟩ dX9_mayGet_98 ?_
              refine Ev.istore (pc := 101) dX9_mayGet_101 rfl rfl ?_
              refine Ev.iinc (pc := 103) (v := nI 1) dX9_mayGet_103 rfl rfl rfl rfl ?_
              refine Ev.goto (pc := 106) (tgt := 13) dX9_mayGet_106 (by decide) ?_
              exact ih _ _ hr
            · have hr := ifn hr c_10
              refine Ev.aload_n (pc := 79) dX9_mayGet_79 rfl ?_
              refine Ev.get (pc := 80) (C0 := RX9) (T := TX9) (N := 31) (fl_29_8 _ _ _ _) rfl inX9_mayGet (by decide) lkX9_mayGet_25 dX9_mayGet_80 ?_
              refine Ev.bipush (pc := 83) (v := nI 29) dX9_mayGet_83 (by decide) ?_
              refine Ev.iald (pc := 85) (ar_35 _ _ _ _) (vp_in_nI (n := 29) (N := 62) (by decide) (by decide)) dX9_mayGet_85 ?_
              refine Ev.iload_n (pc := 86) dX9_mayGet_86 rfl ?_
              refine Ev.cSi (pc := 87) (As := [.int _, .int _]) (kX9_has _ _ _ _ _ _) rfl gX9_mayGet_X9_has hdX9_has rfl ⟨rfl, rfl⟩ ⟨Nat.le_of_ble_eq_true rfl, Nat.le_of_ble_eq_true rfl⟩ (Nat.le_of_ble_eq_true rfl) ⟨Nat.le_of_ble_eq_true rfl, Nat.le_of_ble_eq_true rfl⟩ dX9_mayGet_87 ?_
              refine Ev.ifneB (pc := 90) (tgt := 97) dX9_mayGet_90 (by decide) (fun c_11 => ?_) (fun c_11 => ?_)
              · have hr := ifp hr c_11
                refine Ev.iconst (pc := 97) (v := nI 0) dX9_mayGet_97 (by decide) ?_
                obtain ⟨x_10, hx_10, hr⟩ := Option.bind_eq_some_iff.mp hr
                refine Ev.cVi (pc := 98) (As := [.int _, .int _, .int _, .int _]) (kX9_onward _ _ _ _ _ _ _ _ hx_10) rfl rfl (ob_29 _) gX9_mayGet_X9_onward hdX9_onward rfl ⟨rfl, rfl⟩ ⟨Nat.le_of_ble_eq_true rfl, Nat.le_of_ble_eq_true rfl⟩ (Nat.le_of_ble_eq_true rfl) ⟨Nat.le_of_ble_eq_true rfl, Nat.le_of_ble_eq_true rfl⟩ dX9_mayGet_98 ?_
                refine Ev.istore (pc := 101) dX9_mayGet_101 rfl rfl ?_
                refine Ev.iinc (pc := 103) (v := nI 1) dX9_mayGet_103 rfl rfl rfl rfl ?_
                refine Ev.goto (pc := 106) (tgt := 13) dX9_mayGet_106 (by decide) ?_
                exact ih _ _ hr
              · have hr := ifn hr (ntr c_11)
                refine Ev.iconst (pc := 93) (v := nI 1) dX9_mayGet_93 (by decide) ?_
                refine Ev.goto (pc := 94) (tgt := 98) dX9_mayGet_94 (by decide) ?_
                obtain ⟨x_11, hx_11, hr⟩ := Option.bind_eq_some_iff.mp hr
                refine Ev.cVi (pc := 98) (As := [.int _, .int _, .int _, .int _]) (kX9_onward _ _ _ _ _ _ _ _ hx_11) rfl rfl (ob_29 _) gX9_mayGet_X9_onward hdX9_onward rfl ⟨rfl, rfl⟩ ⟨Nat.le_of_ble_eq_true rfl, Nat.le_of_ble_eq_true rfl⟩ (Nat.le_of_ble_eq_true rfl) ⟨Nat.le_of_ble_eq_true rfl, Nat.le_of_ble_eq_true rfl⟩ dX9_mayGet_98 ?_
                refine Ev.istore (pc := 101) dX9_mayGet_101 rfl rfl ?_
                refine Ev.iinc (pc := 103) (v := nI 1) dX9_mayGet_103 rfl rfl rfl rfl ?_
                refine Ev.goto (pc := 106) (tgt := 13) dX9_mayGet_106 (by decide) ?_
                exact ih _ _ hr
          · have hr := ifp hr c_9
            refine Ev.iconst (pc := 58) (v := nI 1) dX9_mayGet_58 (by decide) ?_
            cases hr
            exact Ev.iret rfl rfl dX9_mayGet_59 ⟨rfl, rfl⟩
def sX9_mayGet (g2 : Hg) (a1 : Int32) (a2 : Int32) (a3 : Int32) : Option (Bool) := if inb a1 62 = true then (sX9_mayGet_13 g2 a1 a2 a3 100 ((nI 1) <<< ((g2 35 (Int32.toNatClampNeg a1)) &&& 31)) (nI 0)) else none
set_option maxRecDepth 20000 in
set_option maxHeartbeats 1000000 in
theorem kX9_mayGet (g : Hg) (q : Int64) (g2 : Hg) (q2 : Int64) (a1 : Int32) (a2 : Int32) (a3 : Int32) {r : Bool} (hr : sX9_mayGet g2 a1 a2 a3 = some r) : CtI MX9_mayGet [.ref 29, .int a1, .int a2, .int a3] (g, q, g2, q2) (fun x h' => x = bI r ∧ h' = (g, q, g2, q2)) := by
  unfold sX9_mayGet at hr
  refine CtI_L 2 rfl (by decide +kernel) rfl (Nat.le_of_ble_eq_true rfl) ?_
  show Ev _ _ 0 [some (.ref 29), some (.int a1), some (.int a2), some (.int a3), none, none] [] _
  refine Ev.iconst (pc := 0) (v := nI 1) dX9_mayGet_0 (by decide) ?_
  refine Ev.aload_n (pc := 1) dX9_mayGet_1 rfl ?_
  refine Ev.get (pc := 2) (C0 := RX9) (T := TX9) (N := 31) (fl_29_8 _ _ _ _) rfl inX9_mayGet (by decide) lkX9_mayGet_25 dX9_mayGet_2 ?_
  refine Ev.iload_n (pc := 5) dX9_mayGet_5 rfl ?_
  obtain ⟨c_1, hr⟩ := ckB hr
  refine Ev.iald (pc := 6) (ar_35 _ _ _ _) (inb_in c_1) dX9_mayGet_6 ?_
  refine Ev.ishl (pc := 7) dX9_mayGet_7 ?_
  refine Ev.istore (pc := 8) dX9_mayGet_8 rfl rfl ?_
  refine Ev.iconst (pc := 10) (v := nI 0) dX9_mayGet_10 (by decide) ?_
  refine Ev.istore (pc := 11) dX9_mayGet_11 rfl rfl ?_
  exact kX9_mayGet_13 _ _ _ _ _ _ _ _ 100 _ _ hr
/-! X9_getsOf -/
def sX9_getsOf_5 (g2 : Hg) (v1 : Int32) (v2 : Int32) : Nat → Int32 → Int32 → Option (Int32)
  | 0, _, _ => none
  | n + 1, v3, v4 => if (g2 29 1) ≤ v4 then (some v3) else (if inb ((nI 13) + v4) 62 = true then (if (g2 35 (Int32.toNatClampNeg ((nI 13) + v4))) = 0 then (if (sX9_has (g2 35 (Int32.toNatClampNeg (nI 28))) v1) = true then (sX9_getsOf_5 g2 v1 v2 n (v3 ||| (nI 0)) (v4 + (nI 1))) else (if inb ((nI 8) + v4) 62 = true then ((sX9_mayGet g2 v1 (g2 35 (Int32.toNatClampNeg ((nI 8) + v4))) v2).bind fun x_1 => (if x_1 = true then (sX9_getsOf_5 g2 v1 v2 n (v3 ||| ((nI 1) <<< (v4 &&& 31))) (v4 + (nI 1))) else (sX9_getsOf_5 g2 v1 v2 n (v3 ||| (nI 0)) (v4 + (nI 1))))) else none)) else (sX9_getsOf_5 g2 v1 v2 n (v3 ||| (nI 0)) (v4 + (nI 1)))) else none)
set_option maxRecDepth 20000 in
set_option maxHeartbeats 1000000 in
theorem kX9_getsOf_5 (g : Hg) (q : Int64) (g2 : Hg) (q2 : Int64)  (v1 : Int32) (v2 : Int32) (r : Int32) : ∀ (n : Nat) (v3 : Int32) (v4 : Int32), sX9_getsOf_5 g2 v1 v2 n v3 v4 = some r → Ev (Xi (fun x h' => x = r ∧ h' = (g, q, g2, q2))) MX9_getsOf 5 [some (.ref 29), some (.int v1), some (.int v2), some (.int v3), some (.int v4)] [] (g, q, g2, q2) := by
  intro n
  induction n with
  | zero => intro _ _ hr; cases hr
  | succ n ih =>
    intro v3 v4 hr
    rw [sX9_getsOf_5] at hr
    refine Ev.iload (pc := 5) dX9_getsOf_5 rfl ?_
    refine Ev.aload_n (pc := 7) dX9_getsOf_7 rfl ?_
    refine Ev.get (pc := 8) (C0 := RX9) (T := TX9) (N := 31) (fl_29_1 _ _ _ _) rfl inX9_getsOf (by decide) lkX9_getsOf_105 dX9_getsOf_8 ?_
    refine Ev.icmpge (pc := 11) (tgt := 77) dX9_getsOf_11 (by decide) (fun c_1 => ?_) (fun c_1 => ?_)
    · have hr := ifp hr c_1
      refine Ev.iload_n (pc := 77) dX9_getsOf_77 rfl ?_
      cases hr
      exact Ev.iret rfl rfl dX9_getsOf_78 ⟨rfl, rfl⟩
    · have hr := ifn hr c_1
      refine Ev.iload_n (pc := 14) dX9_getsOf_14 rfl ?_
      refine Ev.aload_n (pc := 15) dX9_getsOf_15 rfl ?_
      refine Ev.get (pc := 16) (C0 := RX9) (T := TX9) (N := 31) (fl_29_8 _ _ _ _) rfl inX9_getsOf (by decide) lkX9_getsOf_25 dX9_getsOf_16 ?_
      refine Ev.bipush (pc := 19) (v := nI 13) dX9_getsOf_19 (by decide) ?_
      refine Ev.iload (pc := 21) dX9_getsOf_21 rfl ?_
      refine Ev.iadd (pc := 23) dX9_getsOf_23 ?_
      obtain ⟨c_2, hr⟩ := ckB hr
      refine Ev.iald (pc := 24) (ar_35 _ _ _ _) (inb_in c_2) dX9_getsOf_24 ?_
      refine Ev.ifne (pc := 25) (tgt := 68) dX9_getsOf_25 (by decide) (fun c_3 => ?_) (fun c_3 => ?_)
      · have hr := ifn hr c_3
        refine Ev.iconst (pc := 68) (v := nI 0) dX9_getsOf_68 (by decide) ?_
        refine Ev.ior (pc := 69) dX9_getsOf_69 ?_
        refine Ev.istore_n (pc := 70) dX9_getsOf_70 rfl rfl ?_
        refine Ev.iinc (pc := 71) (v := nI 1) dX9_getsOf_71 rfl rfl rfl rfl ?_
        refine Ev.goto (pc := 74) (tgt := 5) dX9_getsOf_74 (by decide) ?_
        exact ih _ _ hr
      · have hr := ifp hr c_3
        refine Ev.aload_n (pc := 28) dX9_getsOf_28 rfl ?_
        refine Ev.get (pc := 29) (C0 := RX9) (T := TX9) (N := 31) (fl_29_8 _ _ _ _) rfl inX9_getsOf (by decide) lkX9_getsOf_25 dX9_getsOf_29 ?_
        refine Ev.bipush (pc := 32) (v := nI 28) dX9_getsOf_32 (by decide) ?_
        refine Ev.iald (pc := 34) (ar_35 _ _ _ _) (vp_in_nI (n := 28) (N := 62) (by decide) (by decide)) dX9_getsOf_34 ?_
        refine Ev.iload_n (pc := 35) dX9_getsOf_35 rfl ?_
        refine Ev.cSi (pc := 36) (As := [.int _, .int _]) (kX9_has _ _ _ _ _ _) rfl gX9_getsOf_X9_has hdX9_has rfl ⟨rfl, rfl⟩ ⟨Nat.le_of_ble_eq_true rfl, Nat.le_of_ble_eq_true rfl⟩ (Nat.le_of_ble_eq_true rfl) ⟨Nat.le_of_ble_eq_true rfl, Nat.le_of_ble_eq_true rfl⟩ dX9_getsOf_36 ?_
        refine Ev.ifneB (pc := 39) (tgt := 68) dX9_getsOf_39 (by decide) (fun c_4 => ?_) (fun c_4 => ?_)
        · have hr := ifp hr c_4
          refine Ev.iconst (pc := 68) (v := nI 0) dX9_getsOf_68 (by decide) ?_
          refine Ev.ior (pc := 69) dX9_getsOf_69 ?_
          refine Ev.istore_n (pc := 70) dX9_getsOf_70 rfl rfl ?_
          refine Ev.iinc (pc := 71) (v := nI 1) dX9_getsOf_71 rfl rfl rfl rfl ?_
          refine Ev.goto (pc := 74) (tgt := 5) dX9_getsOf_74 (by decide) ?_
          exact ih _ _ hr
        · have hr := ifn hr (ntr c_4)
          refine Ev.aload_n (pc := 42) dX9_getsOf_42 rfl ?_
          refine Ev.iload_n (pc := 43) dX9_getsOf_43 rfl ?_
          refine Ev.aload_n (pc := 44) dX9_getsOf_44 rfl ?_
          refine Ev.get (pc := 45) (C0 := RX9) (T := TX9) (N := 31) (fl_29_8 _ _ _ _) rfl inX9_getsOf (by decide) lkX9_getsOf_25 dX9_getsOf_45 ?_
          refine Ev.bipush (pc := 48) (v := nI 8) dX9_getsOf_48 (by decide) ?_
          refine Ev.iload (pc := 50) dX9_getsOf_50 rfl ?_
          refine Ev.iadd (pc := 52) dX9_getsOf_52 ?_
          obtain ⟨c_5, hr⟩ := ckB hr
          refine Ev.iald (pc := 53) (ar_35 _ _ _ _) (inb_in c_5) dX9_getsOf_53 ?_
          refine Ev.iload_n (pc := 54) dX9_getsOf_54 rfl ?_
          obtain ⟨x_1, hx_1, hr⟩ := Option.bind_eq_some_iff.mp hr
          refine Ev.cVi (pc := 55) (As := [.int _, .int _, .int _]) (kX9_mayGet _ _ _ _ _ _ _ hx_1) rfl rfl (ob_29 _) gX9_getsOf_X9_mayGet hdX9_mayGet rfl ⟨rfl, rfl⟩ ⟨Nat.le_of_ble_eq_true rfl, Nat.le_of_ble_eq_true rfl⟩ (Nat.le_of_ble_eq_true rfl) ⟨Nat.le_of_ble_eq_true rfl, Nat.le_of_ble_eq_true rfl⟩ dX9_getsOf_55 ?_
          refine Ev.ifeqB (pc := 58) (tgt := 68) dX9_getsOf_58 (by decide) (fun c_6 => ?_) (fun c_6 => ?_)
          · have hr := ifn hr (ntr c_6)
            refine Ev.iconst (pc := 68) (v := nI 0) dX9_getsOf_68 (by decide) ?_
            refine Ev.ior (pc := 69) dX9_getsOf_69 ?_
            refine Ev.istore_n (pc := 70) dX9_getsOf_70 rfl rfl ?_
            refine Ev.iinc (pc := 71) (v := nI 1) dX9_getsOf_71 rfl rfl rfl rfl ?_
            refine Ev.goto (pc := 74) (tgt := 5) dX9_getsOf_74 (by decide) ?_
            exact ih _ _ hr
          · have hr := ifp hr c_6
            refine Ev.iconst (pc := 61) (v := nI 1) dX9_getsOf_61 (by decide) ?_
            refine Ev.iload (pc := 62) dX9_getsOf_62 rfl ?_
            refine Ev.ishl (pc := 64) dX9_getsOf_64 ?_
            refine Ev.goto (pc := 65) (tgt := 69) dX9_getsOf_65 (by decide) ?_
            refine Ev.ior (pc := 69) dX9_getsOf_69 ?_
            refine Ev.istore_n (pc := 70) dX9_getsOf_70 rfl rfl ?_
            refine Ev.iinc (pc := 71) (v := nI 1) dX9_getsOf_71 rfl rfl rfl rfl ?_
            refine Ev.goto (pc := 74) (tgt := 5) dX9_getsOf_74 (by decide) ?_
            exact ih _ _ hr
def sX9_getsOf (g2 : Hg) (a1 : Int32) (a2 : Int32) : Option (Int32) := sX9_getsOf_5 g2 a1 a2 100 (nI 0) (nI 0)
set_option maxRecDepth 20000 in
set_option maxHeartbeats 1000000 in
theorem kX9_getsOf (g : Hg) (q : Int64) (g2 : Hg) (q2 : Int64) (a1 : Int32) (a2 : Int32) {r : Int32} (hr : sX9_getsOf g2 a1 a2 = some r) : CtI MX9_getsOf [.ref 29, .int a1, .int a2] (g, q, g2, q2) (fun x h' => x = r ∧ h' = (g, q, g2, q2)) := by
  unfold sX9_getsOf at hr
  refine CtI_L 2 rfl (by decide +kernel) rfl (Nat.le_of_ble_eq_true rfl) ?_
  show Ev _ _ 0 [some (.ref 29), some (.int a1), some (.int a2), none, none] [] _
  refine Ev.iconst (pc := 0) (v := nI 0) dX9_getsOf_0 (by decide) ?_
  refine Ev.istore_n (pc := 1) dX9_getsOf_1 rfl rfl ?_
  refine Ev.iconst (pc := 2) (v := nI 0) dX9_getsOf_2 (by decide) ?_
  refine Ev.istore (pc := 3) dX9_getsOf_3 rfl rfl ?_
  exact kX9_getsOf_5 _ _ _ _ _ _ _ 100 _ _ hr
/-! X9_gets -/
def sX9_gets_71 (g2 : Hg) (v1 : Int32) (v2 : Int32) (v3 : Int32) (v4 : Int32) : Nat → Int32 → Int32 → Int32 → Option (Int32)
  | 0, _, _, _ => none
  | n + 1, v5, v6, v7 => if (g2 29 1) ≤ v7 then (if v3 = 0 then (some v5) else (some v6)) else (if inb v7 5 = true then (if inb v7 5 = true then (if inb ((nI 8) + v7) 62 = true then (if (nI 4) ≤ (g2 35 (Int32.toNatClampNeg ((nI 8) + v7))) then (if (sX9_has v4 v7) = true then (if (sX9_priceOf (g2 33 (Int32.toNatClampNeg v7)) (g2 32 (Int32.toNatClampNeg v7)) (nI 0)) ≤ v6 then (if (sX9_has v4 v7) = true then (if (sX9_priceOf (g2 33 (Int32.toNatClampNeg v7)) (g2 32 (Int32.toNatClampNeg v7)) (nI 0)) ≤ v6 then (sX9_gets_71 g2 v1 v2 v3 v4 n v5 v6 (v7 + (nI 1))) else (sX9_gets_71 g2 v1 v2 v3 v4 n v5 (sX9_priceOf (g2 33 (Int32.toNatClampNeg v7)) (g2 32 (Int32.toNatClampNeg v7)) (nI 0)) (v7 + (nI 1)))) else (sX9_gets_71 g2 v1 v2 v3 v4 n v5 v6 (v7 + (nI 1)))) else (if (sX9_has v4 v7) = true then (if (sX9_priceOf (g2 33 (Int32.toNatClampNeg v7)) (g2 32 (Int32.toNatClampNeg v7)) (nI 0)) ≤ v6 then (sX9_gets_71 g2 v1 v2 v3 v4 n v7 v6 (v7 + (nI 1))) else (sX9_gets_71 g2 v1 v2 v3 v4 n v7 (sX9_priceOf (g2 33 (Int32.toNatClampNeg v7)) (g2 32 (Int32.toNatClampNeg v7)) (nI 0)) (v7 + (nI 1)))) else (sX9_gets_71 g2 v1 v2 v3 v4 n v7 v6 (v7 + (nI 1))))) else (if (sX9_has v4 v7) = true then (if (sX9_priceOf (g2 33 (Int32.toNatClampNeg v7)) (g2 32 (Int32.toNatClampNeg v7)) (nI 0)) ≤ v6 then (sX9_gets_71 g2 v1 v2 v3 v4 n v5 v6 (v7 + (nI 1))) else (sX9_gets_71 g2 v1 v2 v3 v4 n v5 (sX9_priceOf (g2 33 (Int32.toNatClampNeg v7)) (g2 32 (Int32.toNatClampNeg v7)) (nI 0)) (v7 + (nI 1)))) else (sX9_gets_71 g2 v1 v2 v3 v4 n v5 v6 (v7 + (nI 1))))) else (if (sX9_has v4 v7) = true then (if (sX9_priceOf (g2 33 (Int32.toNatClampNeg v7)) (g2 32 (Int32.toNatClampNeg v7)) (nI 1)) ≤ v6 then (if (sX9_has v4 v7) = true then (if (sX9_priceOf (g2 33 (Int32.toNatClampNeg v7)) (g2 32 (Int32.toNatClampNeg v7)) (nI 1)) ≤ v6 then (sX9_gets_71 g2 v1 v2 v3 v4 n v5 v6 (v7 + (nI 1))) else (sX9_gets_71 g2 v1 v2 v3 v4 n v5 (sX9_priceOf (g2 33 (Int32.toNatClampNeg v7)) (g2 32 (Int32.toNatClampNeg v7)) (nI 1)) (v7 + (nI 1)))) else (sX9_gets_71 g2 v1 v2 v3 v4 n v5 v6 (v7 + (nI 1)))) else (if (sX9_has v4 v7) = true then (if (sX9_priceOf (g2 33 (Int32.toNatClampNeg v7)) (g2 32 (Int32.toNatClampNeg v7)) (nI 1)) ≤ v6 then (sX9_gets_71 g2 v1 v2 v3 v4 n v7 v6 (v7 + (nI 1))) else (sX9_gets_71 g2 v1 v2 v3 v4 n v7 (sX9_priceOf (g2 33 (Int32.toNatClampNeg v7)) (g2 32 (Int32.toNatClampNeg v7)) (nI 1)) (v7 + (nI 1)))) else (sX9_gets_71 g2 v1 v2 v3 v4 n v7 v6 (v7 + (nI 1))))) else (if (sX9_has v4 v7) = true then (if (sX9_priceOf (g2 33 (Int32.toNatClampNeg v7)) (g2 32 (Int32.toNatClampNeg v7)) (nI 1)) ≤ v6 then (sX9_gets_71 g2 v1 v2 v3 v4 n v5 v6 (v7 + (nI 1))) else (sX9_gets_71 g2 v1 v2 v3 v4 n v5 (sX9_priceOf (g2 33 (Int32.toNatClampNeg v7)) (g2 32 (Int32.toNatClampNeg v7)) (nI 1)) (v7 + (nI 1)))) else (sX9_gets_71 g2 v1 v2 v3 v4 n v5 v6 (v7 + (nI 1)))))) else none) else none) else none)
set_option maxRecDepth 20000 in
set_option maxHeartbeats 1000000 in
theorem kX9_gets_71 (g : Hg) (q : Int64) (g2 : Hg) (q2 : Int64)  (v1 : Int32) (v2 : Int32) (v3 : Int32) (v4 : Int32) (r : Int32) : ∀ (n : Nat) (v5 : Int32) (v6 : Int32) (v7 : Int32), sX9_gets_71 g2 v1 v2 v3 v4 n v5 v6 v7 = some r → Ev (Xi (fun x h' => x = r ∧ h' = (g, q, g2, q2))) MX9_gets 71 [some (.ref 29), some (.int v1), some (.int v2), some (.int v3), some (.int v4), some (.int v5), some (.int v6), some (.int v7), none] [] (g, q, g2, q2) := by
  intro n
  induction n with
  | zero => intro _ _ _ hr; cases hr
  | succ n ih =>
    intro v5 v6 v7 hr
    rw [sX9_gets_71] at hr
    refine Ev.iload (pc := 71) dX9_gets_71 rfl ?_
    refine Ev.aload_n (pc := 73) dX9_gets_73 rfl ?_
    refine Ev.get (pc := 74) (C0 := RX9) (T := TX9) (N := 31) (fl_29_1 _ _ _ _) rfl inX9_gets (by decide) lkX9_gets_105 dX9_gets_74 ?_
    refine Ev.icmpge (pc := 77) (tgt := 176) dX9_gets_77 (by decide) (fun c_5 => ?_) (fun c_5 => ?_)
    · have hr := ifp hr c_5
      refine Ev.iload_n (pc := 176) dX9_gets_176 rfl ?_
      refine Ev.ifne (pc := 177) (tgt := 185) dX9_gets_177 (by decide) (fun c_6 => ?_) (fun c_6 => ?_)
      · have hr := ifn hr c_6
        refine Ev.iload (pc := 185) dX9_gets_185 rfl ?_
        cases hr
        exact Ev.iret rfl rfl dX9_gets_187 ⟨rfl, rfl⟩
      · have hr := ifp hr c_6
        refine Ev.iload (pc := 180) dX9_gets_180 rfl ?_
        refine Ev.goto (pc := 182) (tgt := 187) dX9_gets_182 (by decide) ?_
        cases hr
        exact Ev.iret rfl rfl dX9_gets_187 ⟨rfl, rfl⟩
    · have hr := ifn hr c_5
      refine Ev.aload_n (pc := 80) dX9_gets_80 rfl ?_
      refine Ev.get (pc := 81) (C0 := RX9) (T := TX9) (N := 31) (fl_29_6 _ _ _ _) rfl inX9_gets (by decide) lkX9_gets_19 dX9_gets_81 ?_
      refine Ev.iload (pc := 84) dX9_gets_84 rfl ?_
      obtain ⟨c_7, hr⟩ := ckB hr
      refine Ev.iald (pc := 86) (ar_33 _ _ _ _) (inb_in c_7) dX9_gets_86 ?_
      refine Ev.aload_n (pc := 87) dX9_gets_87 rfl ?_
      refine Ev.get (pc := 88) (C0 := RX9) (T := TX9) (N := 31) (fl_29_5 _ _ _ _) rfl inX9_gets (by decide) lkX9_gets_16 dX9_gets_88 ?_
      refine Ev.iload (pc := 91) dX9_gets_91 rfl ?_
      obtain ⟨c_8, hr⟩ := ckB hr
      refine Ev.iald (pc := 93) (ar_32 _ _ _ _) (inb_in c_8) dX9_gets_93 ?_
      refine Ev.aload_n (pc := 94) dX9_gets_94 rfl ?_
      refine Ev.get (pc := 95) (C0 := RX9) (T := TX9) (N := 31) (fl_29_8 _ _ _ _) rfl inX9_gets (by decide) lkX9_gets_25 dX9_gets_95 ?_
      refine Ev.bipush (pc := 98) (v := nI 8) dX9_gets_98 (by decide) ?_
      refine Ev.iload (pc := 100) dX9_gets_100 rfl ?_
      refine Ev.iadd (pc := 102) dX9_gets_102 ?_
      obtain ⟨c_9, hr⟩ := ckB hr
      refine Ev.iald (pc := 103) (ar_35 _ _ _ _) (inb_in c_9) dX9_gets_103 ?_
      refine Ev.iconst (pc := 104) (v := nI 4) dX9_gets_104 (by decide) ?_
      refine Ev.icmpge (pc := 105) (tgt := 112) dX9_gets_105 (by decide) (fun c_10 => ?_) (fun c_10 => ?_)
      · have hr := ifp hr c_10
        refine Ev.iconst (pc := 112) (v := nI 0) dX9_gets_112 (by decide) ?_
        refine Ev.cSi (pc := 113) (As := [.int _, .int _, .int _]) (kX9_priceOf _ _ _ _ _ _ _) rfl gX9_gets_X9_priceOf hdX9_priceOf rfl ⟨rfl, rfl⟩ ⟨Nat.le_of_ble_eq_true rfl, Nat.le_of_ble_eq_true rfl⟩ (Nat.le_of_ble_eq_true rfl) ⟨Nat.le_of_ble_eq_true rfl, Nat.le_of_ble_eq_true rfl⟩ dX9_gets_113 ?_
        refine Ev.istore (pc := 116) dX9_gets_116 rfl rfl ?_
        refine Ev.iload (pc := 118) dX9_gets_118 rfl ?_
        refine Ev.iload (pc := 120) dX9_gets_120 rfl ?_
        refine Ev.cSi (pc := 122) (As := [.int _, .int _]) (kX9_has _ _ _ _ _ _) rfl gX9_gets_X9_has hdX9_has rfl ⟨rfl, rfl⟩ ⟨Nat.le_of_ble_eq_true rfl, Nat.le_of_ble_eq_true rfl⟩ (Nat.le_of_ble_eq_true rfl) ⟨Nat.le_of_ble_eq_true rfl, Nat.le_of_ble_eq_true rfl⟩ dX9_gets_122 ?_
        refine Ev.ifeqB (pc := 125) (tgt := 140) dX9_gets_125 (by decide) (fun c_11 => ?_) (fun c_11 => ?_)
        · have hr := ifn hr (ntr c_11)
          refine Ev.iload (pc := 140) dX9_gets_140 rfl ?_
          refine Ev.istore (pc := 142) dX9_gets_142 rfl rfl ?_
          refine Ev.iload (pc := 144) dX9_gets_144 rfl ?_
          refine Ev.iload (pc := 146) dX9_gets_146 rfl ?_
          refine Ev.cSi (pc := 148) (As := [.int _, .int _]) (kX9_has _ _ _ _ _ _) rfl gX9_gets_X9_has hdX9_has rfl ⟨rfl, rfl⟩ ⟨Nat.le_of_ble_eq_true rfl, Nat.le_of_ble_eq_true rfl⟩ (Nat.le_of_ble_eq_true rfl) ⟨Nat.le_of_ble_eq_true rfl, Nat.le_of_ble_eq_true rfl⟩ dX9_gets_148 ?_
          refine Ev.ifeqB (pc := 151) (tgt := 166) dX9_gets_151 (by decide) (fun c_12 => ?_) (fun c_12 => ?_)
          · have hr := ifn hr (ntr c_12)
            refine Ev.iload (pc := 166) dX9_gets_166 rfl ?_
            refine Ev.istore (pc := 168) dX9_gets_168 rfl rfl ?_
            refine Ev.iinc (pc := 170) (v := nI 1) dX9_gets_170 rfl rfl rfl rfl ?_
            refine Ev.goto (pc := 173) (tgt := 71) dX9_gets_173 (by decide) ?_
            refine Ev_drop 8 ?_
            exact ih _ _ _ hr
          · have hr := ifp hr c_12
            refine Ev.iload (pc := 154) dX9_gets_154 rfl ?_
            refine Ev.iload (pc := 156) dX9_gets_156 rfl ?_
            refine Ev.icmple (pc := 158) (tgt := 166) dX9_gets_158 (by decide) (fun c_13 => ?_) (fun c_13 => ?_)
            · have hr := ifp hr c_13
              refine Ev.iload (pc := 166) dX9_gets_166 rfl ?_
              refine Ev.istore (pc := 168) dX9_gets_168 rfl rfl ?_
              refine Ev.iinc (pc := 170) (v := nI 1) dX9_gets_170 rfl rfl rfl rfl ?_
              refine Ev.goto (pc := 173) (tgt := 71) dX9_gets_173 (by decide) ?_
              refine Ev_drop 8 ?_
              exact ih _ _ _ hr
            · have hr := ifn hr c_13
              refine Ev.iload (pc := 161) dX9_gets_161 rfl ?_
              refine Ev.goto (pc := 163) (tgt := 168) dX9_gets_163 (by decide) ?_
              refine Ev.istore (pc := 168) dX9_gets_168 rfl rfl ?_
              refine Ev.iinc (pc := 170) (v := nI 1) dX9_gets_170 rfl rfl rfl rfl ?_
              refine Ev.goto (pc := 173) (tgt := 71) dX9_gets_173 (by decide) ?_
              refine Ev_drop 8 ?_
              exact ih _ _ _ hr
        · have hr := ifp hr c_11
          refine Ev.iload (pc := 128) dX9_gets_128 rfl ?_
          refine Ev.iload (pc := 130) dX9_gets_130 rfl ?_
          refine Ev.icmple (pc := 132) (tgt := 140) dX9_gets_132 (by decide) (fun c_14 => ?_) (fun c_14 => ?_)
          · have hr := ifp hr c_14
            refine Ev.iload (pc := 140) dX9_gets_140 rfl ?_
            refine Ev.istore (pc := 142) dX9_gets_142 rfl rfl ?_
            refine Ev.iload (pc := 144) dX9_gets_144 rfl ?_
            refine Ev.iload (pc := 146) dX9_gets_146 rfl ?_
            refine Ev.cSi (pc := 148) (As := [.int _, .int _]) (kX9_has _ _ _ _ _ _) rfl gX9_gets_X9_has hdX9_has rfl ⟨rfl, rfl⟩ ⟨Nat.le_of_ble_eq_true rfl, Nat.le_of_ble_eq_true rfl⟩ (Nat.le_of_ble_eq_true rfl) ⟨Nat.le_of_ble_eq_true rfl, Nat.le_of_ble_eq_true rfl⟩ dX9_gets_148 ?_
            refine Ev.ifeqB (pc := 151) (tgt := 166) dX9_gets_151 (by decide) (fun c_15 => ?_) (fun c_15 => ?_)
            · have hr := ifn hr (ntr c_15)
              refine Ev.iload (pc := 166) dX9_gets_166 rfl ?_
              refine Ev.istore (pc := 168) dX9_gets_168 rfl rfl ?_
              refine Ev.iinc (pc := 170) (v := nI 1) dX9_gets_170 rfl rfl rfl rfl ?_
              refine Ev.goto (pc := 173) (tgt := 71) dX9_gets_173 (by decide) ?_
              refine Ev_drop 8 ?_
              exact ih _ _ _ hr
            · have hr := ifp hr c_15
              refine Ev.iload (pc := 154) dX9_gets_154 rfl ?_
              refine Ev.iload (pc := 156) dX9_gets_156 rfl ?_
              refine Ev.icmple (pc := 158) (tgt := 166) dX9_gets_158 (by decide) (fun c_16 => ?_) (fun c_16 => ?_)
              · have hr := ifp hr c_16
                refine Ev.iload (pc := 166) dX9_gets_166 rfl ?_
                refine Ev.istore (pc := 168) dX9_gets_168 rfl rfl ?_
                refine Ev.iinc (pc := 170) (v := nI 1) dX9_gets_170 rfl rfl rfl rfl ?_
                refine Ev.goto (pc := 173) (tgt := 71) dX9_gets_173 (by decide) ?_
                refine Ev_drop 8 ?_
                exact ih _ _ _ hr
              · have hr := ifn hr c_16
                refine Ev.iload (pc := 161) dX9_gets_161 rfl ?_
                refine Ev.goto (pc := 163) (tgt := 168) dX9_gets_163 (by decide) ?_
                refine Ev.istore (pc := 168) dX9_gets_168 rfl rfl ?_
                refine Ev.iinc (pc := 170) (v := nI 1) dX9_gets_170 rfl rfl rfl rfl ?_
                refine Ev.goto (pc := 173) (tgt := 71) dX9_gets_173 (by decide) ?_
                refine Ev_drop 8 ?_
                exact ih _ _ _ hr
          · have hr := ifn hr c_14
            refine Ev.iload (pc := 135) dX9_gets_135 rfl ?_
            refine Ev.goto (pc := 137) (tgt := 142) dX9_gets_137 (by decide) ?_
            refine Ev.istore (pc := 142) dX9_gets_142 rfl rfl ?_
            refine Ev.iload (pc := 144) dX9_gets_144 rfl ?_
            refine Ev.iload (pc := 146) dX9_gets_146 rfl ?_
            refine Ev.cSi (pc := 148) (As := [.int _, .int _]) (kX9_has _ _ _ _ _ _) rfl gX9_gets_X9_has hdX9_has rfl ⟨rfl, rfl⟩ ⟨Nat.le_of_ble_eq_true rfl, Nat.le_of_ble_eq_true rfl⟩ (Nat.le_of_ble_eq_true rfl) ⟨Nat.le_of_ble_eq_true rfl, Nat.le_of_ble_eq_true rfl⟩ dX9_gets_148 ?_
            refine Ev.ifeqB (pc := 151) (tgt := 166) dX9_gets_151 (by decide) (fun c_17 => ?_) (fun c_17 => ?_)
            · have hr := ifn hr (ntr c_17)
              refine Ev.iload (pc := 166) dX9_gets_166 rfl ?_
              refine Ev.istore (pc := 168) dX9_gets_168 rfl rfl ?_
              refine Ev.iinc (pc := 170) (v := nI 1) dX9_gets_170 rfl rfl rfl rfl ?_
              refine Ev.goto (pc := 173) (tgt := 71) dX9_gets_173 (by decide) ?_
              refine Ev_drop 8 ?_
              exact ih _ _ _ hr
            · have hr := ifp hr c_17
              refine Ev.iload (pc := 154) dX9_gets_154 rfl ?_
              refine Ev.iload (pc := 156) dX9_gets_156 rfl ?_
              refine Ev.icmple (pc := 158) (tgt := 166) dX9_gets_158 (by decide) (fun c_18 => ?_) (fun c_18 => ?_)
              · have hr := ifp hr c_18
                refine Ev.iload (pc := 166) dX9_gets_166 rfl ?_
                refine Ev.istore (pc := 168) dX9_gets_168 rfl rfl ?_
                refine Ev.iinc (pc := 170) (v := nI 1) dX9_gets_170 rfl rfl rfl rfl ?_
                refine Ev.goto (pc := 173) (tgt := 71) dX9_gets_173 (by decide) ?_
                refine Ev_drop 8 ?_
                exact ih _ _ _ hr
              · have hr := ifn hr c_18
                refine Ev.iload (pc := 161) dX9_gets_161 rfl ?_
                refine Ev.goto (pc := 163) (tgt := 168) dX9_gets_163 (by decide) ?_
                refine Ev.istore (pc := 168) dX9_gets_168 rfl rfl ?_
                refine Ev.iinc (pc := 170) (v := nI 1) dX9_gets_170 rfl rfl rfl rfl ?_
                refine Ev.goto (pc := 173) (tgt := 71) dX9_gets_173 (by decide) ?_
                refine Ev_drop 8 ?_
                exact ih _ _ _ hr
      · have hr := ifn hr c_10
        refine Ev.iconst (pc := 108) (v := nI 1) dX9_gets_108 (by decide) ?_
        refine Ev.goto (pc := 109) (tgt := 113) dX9_gets_109 (by decide) ?_
        refine Ev.cSi (pc := 113) (As := [.int _, .int _, .int _]) (kX9_priceOf _ _ _ _ _ _ _) rfl gX9_gets_X9_priceOf hdX9_priceOf rfl ⟨rfl, rfl⟩ ⟨Nat.le_of_ble_eq_true rfl, Nat.le_of_ble_eq_true rfl⟩ (Nat.le_of_ble_eq_true rfl) ⟨Nat.le_of_ble_eq_true rfl, Nat.le_of_ble_eq_true rfl⟩ dX9_gets_113 ?_
        refine Ev.istore (pc := 116) dX9_gets_116 rfl rfl ?_
        refine Ev.iload (pc := 118) dX9_gets_118 rfl ?_
        refine Ev.iload (pc := 120) dX9_gets_120 rfl ?_
        refine Ev.cSi (pc := 122) (As := [.int _, .int _]) (kX9_has _ _ _ _ _ _) rfl gX9_gets_X9_has hdX9_has rfl ⟨rfl, rfl⟩ ⟨Nat.le_of_ble_eq_true rfl, Nat.le_of_ble_eq_true rfl⟩ (Nat.le_of_ble_eq_true rfl) ⟨Nat.le_of_ble_eq_true rfl, Nat.le_of_ble_eq_true rfl⟩ dX9_gets_122 ?_
        refine Ev.ifeqB (pc := 125) (tgt := 140) dX9_gets_125 (by decide) (fun c_19 => ?_) (fun c_19 => ?_)
        · have hr := ifn hr (ntr c_19)
          refine Ev.iload (pc := 140) dX9_gets_140 rfl ?_
          refine Ev.istore (pc := 142) dX9_gets_142 rfl rfl ?_
          refine Ev.iload (pc := 144) dX9_gets_144 rfl ?_
          refine Ev.iload (pc := 146) dX9_gets_146 rfl ?_
          refine Ev.cSi (pc := 148) (As := [.int _, .int _]) (kX9_has _ _ _ _ _ _) rfl gX9_gets_X9_has hdX9_has rfl ⟨rfl, rfl⟩ ⟨Nat.le_of_ble_eq_true rfl, Nat.le_of_ble_eq_true rfl⟩ (Nat.le_of_ble_eq_true rfl) ⟨Nat.le_of_ble_eq_true rfl, Nat.le_of_ble_eq_true rfl⟩ dX9_gets_148 ?_
          refine Ev.ifeqB (pc := 151) (tgt := 166) dX9_gets_151 (by decide) (fun c_20 => ?_) (fun c_20 => ?_)
          · have hr := ifn hr (ntr c_20)
            refine Ev.iload (pc := 166) dX9_gets_166 rfl ?_
            refine Ev.istore (pc := 168) dX9_gets_168 rfl rfl ?_
            refine Ev.iinc (pc := 170) (v := nI 1) dX9_gets_170 rfl rfl rfl rfl ?_
            refine Ev.goto (pc := 173) (tgt := 71) dX9_gets_173 (by decide) ?_
            refine Ev_drop 8 ?_
            exact ih _ _ _ hr
          · have hr := ifp hr c_20
            refine Ev.iload (pc := 154) dX9_gets_154 rfl ?_
            refine Ev.iload (pc := 156) dX9_gets_156 rfl ?_
            refine Ev.icmple (pc := 158) (tgt := 166) dX9_gets_158 (by decide) (fun c_21 => ?_) (fun c_21 => ?_)
            · have hr := ifp hr c_21
              refine Ev.iload (pc := 166) dX9_gets_166 rfl ?_
              refine Ev.istore (pc := 168) dX9_gets_168 rfl rfl ?_
              refine Ev.iinc (pc := 170) (v := nI 1) dX9_gets_170 rfl rfl rfl rfl ?_
              refine Ev.goto (pc := 173) (tgt := 71) dX9_gets_173 (by decide) ?_
              refine Ev_drop 8 ?_
              exact ih _ _ _ hr
            · have hr := ifn hr c_21
              refine Ev.iload (pc := 161) dX9_gets_161 rfl ?_
              refine Ev.goto (pc := 163) (tgt := 168) dX9_gets_163 (by decide) ?_
              refine Ev.istore (pc := 168) dX9_gets_168 rfl rfl ?_
              refine Ev.iinc (pc := 170) (v := nI 1) dX9_gets_170 rfl rfl rfl rfl ?_
              refine Ev.goto (pc := 173) (tgt := 71) dX9_gets_173 (by decide) ?_
              refine Ev_drop 8 ?_
              exact ih _ _ _ hr
        · have hr := ifp hr c_19
          refine Ev.iload (pc := 128) dX9_gets_128 rfl ?_
          refine Ev.iload (pc := 130) dX9_gets_130 rfl ?_
          refine Ev.icmple (pc := 132) (tgt := 140) dX9_gets_132 (by decide) (fun c_22 => ?_) (fun c_22 => ?_)
          · have hr := ifp hr c_22
            refine Ev.iload (pc := 140) dX9_gets_140 rfl ?_
            refine Ev.istore (pc := 142) dX9_gets_142 rfl rfl ?_
            refine Ev.iload (pc := 144) dX9_gets_144 rfl ?_
            refine Ev.iload (pc := 146) dX9_gets_146 rfl ?_
            refine Ev.cSi (pc := 148) (As := [.int _, .int _]) (kX9_has _ _ _ _ _ _) rfl gX9_gets_X9_has hdX9_has rfl ⟨rfl, rfl⟩ ⟨Nat.le_of_ble_eq_true rfl, Nat.le_of_ble_eq_true rfl⟩ (Nat.le_of_ble_eq_true rfl) ⟨Nat.le_of_ble_eq_true rfl, Nat.le_of_ble_eq_true rfl⟩ dX9_gets_148 ?_
            refine Ev.ifeqB (pc := 151) (tgt := 166) dX9_gets_151 (by decide) (fun c_23 => ?_) (fun c_23 => ?_)
            · have hr := ifn hr (ntr c_23)
              refine Ev.iload (pc := 166) dX9_gets_166 rfl ?_
              refine Ev.istore (pc := 168) dX9_gets_168 rfl rfl ?_
              refine Ev.iinc (pc := 170) (v := nI 1) dX9_gets_170 rfl rfl rfl rfl ?_
              refine Ev.goto (pc := 173) (tgt := 71) dX9_gets_173 (by decide) ?_
              refine Ev_drop 8 ?_
              exact ih _ _ _ hr
            · have hr := ifp hr c_23
              refine Ev.iload (pc := 154) dX9_gets_154 rfl ?_
              refine Ev.iload (pc := 156) dX9_gets_156 rfl ?_
              refine Ev.icmple (pc := 158) (tgt := 166) dX9_gets_158 (by decide) (fun c_24 => ?_) (fun c_24 => ?_)
              · have hr := ifp hr c_24
                refine Ev.iload (pc := 166) dX9_gets_166 rfl ?_
                refine Ev.istore (pc := 168) dX9_gets_168 rfl rfl ?_
                refine Ev.iinc (pc := 170) (v := nI 1) dX9_gets_170 rfl rfl rfl rfl ?_
                refine Ev.goto (pc := 173) (tgt := 71) dX9_gets_173 (by decide) ?_
                refine Ev_drop 8 ?_
                exact ih _ _ _ hr
              · have hr := ifn hr c_24
                refine Ev.iload (pc := 161) dX9_gets_161 rfl ?_
                refine Ev.goto (pc := 163) (tgt := 168) dX9_gets_163 (by decide) ?_
                refine Ev.istore (pc := 168) dX9_gets_168 rfl rfl ?_
                refine Ev.iinc (pc := 170) (v := nI 1) dX9_gets_170 rfl rfl rfl rfl ?_
                refine Ev.goto (pc := 173) (tgt := 71) dX9_gets_173 (by decide) ?_
                refine Ev_drop 8 ?_
                exact ih _ _ _ hr
          · have hr := ifn hr c_22
            refine Ev.iload (pc := 135) dX9_gets_135 rfl ?_
            refine Ev.goto (pc := 137) (tgt := 142) dX9_gets_137 (by decide) ?_
            refine Ev.istore (pc := 142) dX9_gets_142 rfl rfl ?_
            refine Ev.iload (pc := 144) dX9_gets_144 rfl ?_
            refine Ev.iload (pc := 146) dX9_gets_146 rfl ?_
            refine Ev.cSi (pc := 148) (As := [.int _, .int _]) (kX9_has _ _ _ _ _ _) rfl gX9_gets_X9_has hdX9_has rfl ⟨rfl, rfl⟩ ⟨Nat.le_of_ble_eq_true rfl, Nat.le_of_ble_eq_true rfl⟩ (Nat.le_of_ble_eq_true rfl) ⟨Nat.le_of_ble_eq_true rfl, Nat.le_of_ble_eq_true rfl⟩ dX9_gets_148 ?_
            refine Ev.ifeqB (pc := 151) (tgt := 166) dX9_gets_151 (by decide) (fun c_25 => ?_) (fun c_25 => ?_)
            · have hr := ifn hr (ntr c_25)
              refine Ev.iload (pc := 166) dX9_gets_166 rfl ?_
              refine Ev.istore (pc := 168) dX9_gets_168 rfl rfl ?_
              refine Ev.iinc (pc := 170) (v := nI 1) dX9_gets_170 rfl rfl rfl rfl ?_
              refine Ev.goto (pc := 173) (tgt := 71) dX9_gets_173 (by decide) ?_
              refine Ev_drop 8 ?_
              exact ih _ _ _ hr
            · have hr := ifp hr c_25
              refine Ev.iload (pc := 154) dX9_gets_154 rfl ?_
              refine Ev.iload (pc := 156) dX9_gets_156 rfl ?_
              refine Ev.icmple (pc := 158) (tgt := 166) dX9_gets_158 (by decide) (fun c_26 => ?_) (fun c_26 => ?_)
              · have hr := ifp hr c_26
                refine Ev.iload (pc := 166) dX9_gets_166 rfl ?_
                refine Ev.istore (pc := 168) dX9_gets_168 rfl rfl ?_
                refine Ev.iinc (pc := 170) (v := nI 1) dX9_gets_170 rfl rfl rfl rfl ?_
                refine Ev.goto (pc := 173) (tgt := 71) dX9_gets_173 (by decide) ?_
                refine Ev_drop 8 ?_
                exact ih _ _ _ hr
              · have hr := ifn hr c_26
                refine Ev.iload (pc := 161) dX9_gets_161 rfl ?_
                refine Ev.goto (pc := 163) (tgt := 168) dX9_gets_163 (by decide) ?_
                refine Ev.istore (pc := 168) dX9_gets_168 rfl rfl ?_
                refine Ev.iinc (pc := 170) (v := nI 1) dX9_gets_170 rfl rfl rfl rfl ?_
                refine Ev.goto (pc := 173) (tgt := 71) dX9_gets_173 (by decide) ?_
                refine Ev_drop 8 ?_
                exact ih _ _ _ hr
def sX9_gets (g2 : Hg) (a1 : Int32) (a2 : Int32) (a3 : Int32) : Option (Int32) := if (sX9_isLark g2 a1) = true then (if (sX9_in (Int32.toInt64 a2) (lN 1) ((9 : Int64))) = true then (if (sX9_in (Int32.toInt64 a3) (lN 0) (lN 1)) = true then (if (sX9_has (g2 35 (Int32.toNatClampNeg (nI 28))) a1) = true then (some ((-3))) else ((sX9_getsOf g2 a1 a2).bind fun x_1 => (sX9_gets_71 g2 a1 a2 a3 x_1 100 ((-9)) ((-9)) (nI 0)))) else (some ((-2)))) else (some ((-2)))) else (some ((-1)))
set_option maxRecDepth 20000 in
set_option maxHeartbeats 1000000 in
theorem kX9_gets (g : Hg) (q : Int64) (g2 : Hg) (q2 : Int64) (a1 : Int32) (a2 : Int32) (a3 : Int32) {r : Int32} (hr : sX9_gets g2 a1 a2 a3 = some r) : CtI MX9_gets [.ref 29, .int a1, .int a2, .int a3] (g, q, g2, q2) (fun x h' => x = r ∧ h' = (g, q, g2, q2)) := by
  unfold sX9_gets at hr
  refine CtI_L 5 rfl (by decide +kernel) rfl (Nat.le_of_ble_eq_true rfl) ?_
  show Ev _ _ 0 [some (.ref 29), some (.int a1), some (.int a2), some (.int a3), none, none, none, none, none] [] _
  refine Ev.aload_n (pc := 0) dX9_gets_0 rfl ?_
  refine Ev.iload_n (pc := 1) dX9_gets_1 rfl ?_
  refine Ev.cVi (pc := 2) (As := [.int _]) (kX9_isLark _ _ _ _ _) rfl rfl (ob_29 _) gX9_gets_X9_isLark hdX9_isLark rfl ⟨rfl, rfl⟩ ⟨Nat.le_of_ble_eq_true rfl, Nat.le_of_ble_eq_true rfl⟩ (Nat.le_of_ble_eq_true rfl) ⟨Nat.le_of_ble_eq_true rfl, Nat.le_of_ble_eq_true rfl⟩ dX9_gets_2 ?_
  refine Ev.ifneB (pc := 5) (tgt := 10) dX9_gets_5 (by decide) (fun c_1 => ?_) (fun c_1 => ?_)
  · have hr := ifp hr c_1
    refine Ev.iload_n (pc := 10) dX9_gets_10 rfl ?_
    refine Ev.i2l (pc := 11) dX9_gets_11 ?_
    refine Ev.lconst (pc := 12) (v := lN 1) dX9_gets_12 rfl ?_
    refine Ev.ldc2 (pc := 13) (v := 9) (by decide +kernel) dX9_gets_13 ?_
    refine Ev.cSi (pc := 16) (As := [.long _, .long _, .long _]) (kX9_in _ _ _ _ _ _ _) rfl gX9_gets_X9_in hdX9_in rfl ⟨rfl, rfl⟩ ⟨Nat.le_of_ble_eq_true rfl, Nat.le_of_ble_eq_true rfl⟩ (Nat.le_of_ble_eq_true rfl) ⟨Nat.le_of_ble_eq_true rfl, Nat.le_of_ble_eq_true rfl⟩ dX9_gets_16 ?_
    refine Ev.ifeqB (pc := 19) (tgt := 32) dX9_gets_19 (by decide) (fun c_2 => ?_) (fun c_2 => ?_)
    · have hr := ifn hr (ntr c_2)
      refine Ev.bipush (pc := 32) (v := (-2)) dX9_gets_32 (by decide) ?_
      cases hr
      exact Ev.iret rfl rfl dX9_gets_34 ⟨rfl, rfl⟩
    · have hr := ifp hr c_2
      refine Ev.iload_n (pc := 22) dX9_gets_22 rfl ?_
      refine Ev.i2l (pc := 23) dX9_gets_23 ?_
      refine Ev.lconst (pc := 24) (v := lN 0) dX9_gets_24 rfl ?_
      refine Ev.lconst (pc := 25) (v := lN 1) dX9_gets_25 rfl ?_
      refine Ev.cSi (pc := 26) (As := [.long _, .long _, .long _]) (kX9_in _ _ _ _ _ _ _) rfl gX9_gets_X9_in hdX9_in rfl ⟨rfl, rfl⟩ ⟨Nat.le_of_ble_eq_true rfl, Nat.le_of_ble_eq_true rfl⟩ (Nat.le_of_ble_eq_true rfl) ⟨Nat.le_of_ble_eq_true rfl, Nat.le_of_ble_eq_true rfl⟩ dX9_gets_26 ?_
      refine Ev.ifneB (pc := 29) (tgt := 35) dX9_gets_29 (by decide) (fun c_3 => ?_) (fun c_3 => ?_)
      · have hr := ifp hr c_3
        refine Ev.aload_n (pc := 35) dX9_gets_35 rfl ?_
        refine Ev.get (pc := 36) (C0 := RX9) (T := TX9) (N := 31) (fl_29_8 _ _ _ _) rfl inX9_gets (by decide) lkX9_gets_25 dX9_gets_36 ?_
        refine Ev.bipush (pc := 39) (v := nI 28) dX9_gets_39 (by decide) ?_
        refine Ev.iald (pc := 41) (ar_35 _ _ _ _) (vp_in_nI (n := 28) (N := 62) (by decide) (by decide)) dX9_gets_41 ?_
        refine Ev.iload_n (pc := 42) dX9_gets_42 rfl ?_
        refine Ev.cSi (pc := 43) (As := [.int _, .int _]) (kX9_has _ _ _ _ _ _) rfl gX9_gets_X9_has hdX9_has rfl ⟨rfl, rfl⟩ ⟨Nat.le_of_ble_eq_true rfl, Nat.le_of_ble_eq_true rfl⟩ (Nat.le_of_ble_eq_true rfl) ⟨Nat.le_of_ble_eq_true rfl, Nat.le_of_ble_eq_true rfl⟩ dX9_gets_43 ?_
        refine Ev.ifeqB (pc := 46) (tgt := 52) dX9_gets_46 (by decide) (fun c_4 => ?_) (fun c_4 => ?_)
        · have hr := ifn hr (ntr c_4)
          refine Ev.aload_n (pc := 52) dX9_gets_52 rfl ?_
          refine Ev.iload_n (pc := 53) dX9_gets_53 rfl ?_
          refine Ev.iload_n (pc := 54) dX9_gets_54 rfl ?_
          obtain ⟨x_1, hx_1, hr⟩ := Option.bind_eq_some_iff.mp hr
          refine Ev.cVi (pc := 55) (As := [.int _, .int _]) (kX9_getsOf _ _ _ _ _ _ hx_1) rfl rfl (ob_29 _) gX9_gets_X9_getsOf hdX9_getsOf rfl ⟨rfl, rfl⟩ ⟨Nat.le_of_ble_eq_true rfl, Nat.le_of_ble_eq_true rfl⟩ (Nat.le_of_ble_eq_true rfl) ⟨Nat.le_of_ble_eq_true rfl, Nat.le_of_ble_eq_true rfl⟩ dX9_gets_55 ?_
          refine Ev.istore (pc := 58) dX9_gets_58 rfl rfl ?_
          refine Ev.bipush (pc := 60) (v := (-9)) dX9_gets_60 (by decide) ?_
          refine Ev.istore (pc := 62) dX9_gets_62 rfl rfl ?_
          refine Ev.bipush (pc := 64) (v := (-9)) dX9_gets_64 (by decide) ?_
          refine Ev.istore (pc := 66) dX9_gets_66 rfl rfl ?_
          refine Ev.iconst (pc := 68) (v := nI 0) dX9_gets_68 (by decide) ?_
          refine Ev.istore (pc := 69) dX9_gets_69 rfl rfl ?_
          exact kX9_gets_71 _ _ _ _ _ _ _ _ _ 100 _ _ _ hr
        · have hr := ifp hr c_4
          refine Ev.bipush (pc := 49) (v := (-3)) dX9_gets_49 (by decide) ?_
          cases hr
          exact Ev.iret rfl rfl dX9_gets_51 ⟨rfl, rfl⟩
      · have hr := ifn hr (ntr c_3)
        refine Ev.bipush (pc := 32) (v := (-2)) dX9_gets_32 (by decide) ?_
        cases hr
        exact Ev.iret rfl rfl dX9_gets_34 ⟨rfl, rfl⟩
  · have hr := ifn hr (ntr c_1)
    refine Ev.iconst (pc := 8) (v := (-1)) dX9_gets_8 (by decide) ?_
    cases hr
    exact Ev.iret rfl rfl dX9_gets_9 ⟨rfl, rfl⟩
/-! X9_layTrial -/
def sX9_layTrial_2  : Nat → Hg → Int32 → Option (Hg)
  | 0, _, _ => none
  | n + 1, g2, v1 => if (nI 31) ≤ v1 then (some g2) else (if inb v1 62 = true then (if inb ((nI 31) + v1) 62 = true then (sX9_layTrial_2 n (stA g2 35 (Int32.toNatClampNeg ((nI 31) + v1)) (g2 35 (Int32.toNatClampNeg v1))) (v1 + (nI 1))) else none) else none)
set_option maxRecDepth 20000 in
set_option maxHeartbeats 1000000 in
theorem kX9_layTrial_2 (g : Hg) (q : Int64) (q2 : Int64)   (r : Hg) : ∀ (n : Nat) (g2 : Hg) (v1 : Int32), sX9_layTrial_2 n g2 v1 = some r → Ev (Xv (fun h' => h' = (g, q, r, q2))) MX9_layTrial 2 [some (.ref 29), some (.int v1)] [] (g, q, g2, q2) := by
  intro n
  induction n with
  | zero => intro _ _ hr; cases hr
  | succ n ih =>
    intro g2 v1 hr
    rw [sX9_layTrial_2] at hr
    refine Ev.iload_n (pc := 2) dX9_layTrial_2 rfl ?_
    refine Ev.bipush (pc := 3) (v := nI 31) dX9_layTrial_3 (by decide) ?_
    refine Ev.icmpge (pc := 5) (tgt := 29) dX9_layTrial_5 (by decide) (fun c_1 => ?_) (fun c_1 => ?_)
    · have hr := ifp hr c_1
      cases hr
      exact Ev.vret rfl dX9_layTrial_29 rfl
    · have hr := ifn hr c_1
      refine Ev.aload_n (pc := 8) dX9_layTrial_8 rfl ?_
      refine Ev.get (pc := 9) (C0 := RX9) (T := TX9) (N := 31) (fl_29_8 _ _ _ _) rfl inX9_layTrial (by decide) lkX9_layTrial_25 dX9_layTrial_9 ?_
      refine Ev.bipush (pc := 12) (v := nI 31) dX9_layTrial_12 (by decide) ?_
      refine Ev.iload_n (pc := 14) dX9_layTrial_14 rfl ?_
      refine Ev.iadd (pc := 15) dX9_layTrial_15 ?_
      refine Ev.aload_n (pc := 16) dX9_layTrial_16 rfl ?_
      refine Ev.get (pc := 17) (C0 := RX9) (T := TX9) (N := 31) (fl_29_8 _ _ _ _) rfl inX9_layTrial (by decide) lkX9_layTrial_25 dX9_layTrial_17 ?_
      refine Ev.iload_n (pc := 20) dX9_layTrial_20 rfl ?_
      obtain ⟨c_2, hr⟩ := ckB hr
      refine Ev.iald (pc := 21) (ar_35 _ _ _ _) (inb_in c_2) dX9_layTrial_21 ?_
      obtain ⟨c_3, hr⟩ := ckB hr
      refine Ev.iast (pc := 22) (ar_35 _ _ _ _) (inb_in c_3) (se_35 _ _ _ _ _) dX9_layTrial_22 ?_
      refine Ev.iinc (pc := 23) (v := nI 1) dX9_layTrial_23 rfl rfl rfl rfl ?_
      refine Ev.goto (pc := 26) (tgt := 2) dX9_layTrial_26 (by decide) ?_
      exact ih _ _ hr
def sX9_layTrial (g2 : Hg) : Option (Hg) := sX9_layTrial_2 100 g2 (nI 0)
set_option maxRecDepth 20000 in
set_option maxHeartbeats 1000000 in
theorem kX9_layTrial (g : Hg) (q : Int64) (g2 : Hg) (q2 : Int64) {r : Hg} (hr : sX9_layTrial g2 = some r) : CtV MX9_layTrial [.ref 29] (g, q, g2, q2) (fun h' => h' = (g, q, r, q2)) := by
  unfold sX9_layTrial at hr
  refine CtV_L 1 rfl (by decide +kernel) rfl (Nat.le_of_ble_eq_true rfl) ?_
  show Ev _ _ 0 [some (.ref 29), none] [] _
  refine Ev.iconst (pc := 0) (v := nI 0) dX9_layTrial_0 (by decide) ?_
  refine Ev.istore_n (pc := 1) dX9_layTrial_1 rfl rfl ?_
  exact kX9_layTrial_2 _ _ _  _ 100 _ _ hr
