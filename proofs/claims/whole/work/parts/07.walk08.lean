/-! X9_tryThing -/
def sX9_tryThing (g2 : Hg) (a1 : Int32) (a2 : Int32) (a3 : Int32) : Option (Bool × Hg) := if a1 = nI 0 then ((sX9_passOn g2 (nI 1)).bind fun x_1 => (if a2 = 0 then (if a3 = 0 then (some (true, x_1.2)) else (some (false, x_1.2))) else (some (false, x_1.2)))) else (if a1 = nI 1 then ((sX9_canWalk g2 (nI 1) a2 a3).bind fun x_2 => (if x_2 = true then ((sX9_walkOn g2 (nI 1) a2 a3).bind fun x_3 => (some (x_2, x_3))) else (some (x_2, g2)))) else (if a1 = nI 2 then ((sX9_canDig g2 (nI 1) a2 a3).bind fun x_4 => (if x_4 = true then ((sX9_digOn g2 (nI 1) a2 a3).bind fun x_5 => (some (x_4, x_5))) else (some (x_4, g2)))) else (if a1 = nI 3 then (if a2 = 0 then ((sX9_canSell g2 (nI 1) a3).bind fun x_6 => (if x_6 = true then ((sX9_sellOn g2 (nI 1) a3).bind fun x_7 => (some (true, x_7))) else (some (false, g2)))) else (some (false, g2))) else (if a1 = nI 4 then (if (sX9_isLark g2 a2) = true then (if inb ((nI 35) + a2) 62 = true then (if (g2 35 (Int32.toNatClampNeg ((nI 35) + a2))) < a3 then (some (false, g2)) else (some (true, g2))) else none) else (some (false, g2))) else (if a1 = nI 5 then (if a2 = 0 then (if (sX9_isLark g2 a3) = true then (if (sX9_has (g2 35 (Int32.toNatClampNeg (nI 59))) a3) = true then (some (false, g2)) else (some (true, g2))) else (some (false, g2))) else (some (false, g2))) else (some (false, g2)))))))
set_option maxRecDepth 20000 in
set_option maxHeartbeats 1000000 in
theorem kX9_tryThing (g : Hg) (q : Int64) (g2 : Hg) (q2 : Int64) (a1 : Int32) (a2 : Int32) (a3 : Int32) {r : Bool × Hg} (hr : sX9_tryThing g2 a1 a2 a3 = some r) : CtI MX9_tryThing [.ref 29, .int a1, .int a2, .int a3] (g, q, g2, q2) (fun x h' => x = bI r.1 ∧ h' = (g, q, r.2, q2)) := by
  unfold sX9_tryThing at hr
  refine CtI_L 3 rfl (by decide +kernel) rfl (Nat.le_of_ble_eq_true rfl) ?_
  show Ev _ _ 0 [some (.ref 29), some (.int a1), some (.int a2), some (.int a3), none, none, none] [] _
  refine Ev.iload_n (pc := 0) dX9_tryThing_0 rfl ?_
  by_cases c_1 : a1 = nI 0
  · have hr := ifp hr c_1
    refine Ev.tableK (pc := 1) (tgt := 40) 0 c_1 (by decide) dX9_tryThing_1 (by decide) rfl (by decide) ?_
    refine Ev.aload_n (pc := 40) dX9_tryThing_40 rfl ?_
    refine Ev.iconst (pc := 41) (v := nI 1) dX9_tryThing_41 (by decide) ?_
    obtain ⟨x_1, hx_1, hr⟩ := Option.bind_eq_some_iff.mp hr
    refine Ev.cVi (pc := 42) (As := [.int _]) (kX9_passOn _ _ _ _ _ hx_1) rfl rfl (ob_29 _) gX9_tryThing_X9_passOn hdX9_passOn rfl ⟨rfl, rfl⟩ ⟨Nat.le_of_ble_eq_true rfl, Nat.le_of_ble_eq_true rfl⟩ (Nat.le_of_ble_eq_true rfl) ⟨Nat.le_of_ble_eq_true rfl, Nat.le_of_ble_eq_true rfl⟩ dX9_tryThing_42 ?_
    refine Ev.pop (pc := 45) dX9_tryThing_45 rfl ?_
    refine Ev.iload_n (pc := 46) dX9_tryThing_46 rfl ?_
    refine Ev.ifne (pc := 47) (tgt := 58) dX9_tryThing_47 (by decide) (fun c_2 => ?_) (fun c_2 => ?_)
    · have hr := ifn hr c_2
      refine Ev.iconst (pc := 58) (v := nI 0) dX9_tryThing_58 (by decide) ?_
      cases hr
      exact Ev.iret rfl rfl dX9_tryThing_59 ⟨rfl, rfl⟩
    · have hr := ifp hr c_2
      refine Ev.iload_n (pc := 50) dX9_tryThing_50 rfl ?_
      refine Ev.ifne (pc := 51) (tgt := 58) dX9_tryThing_51 (by decide) (fun c_3 => ?_) (fun c_3 => ?_)
      · have hr := ifn hr c_3
        refine Ev.iconst (pc := 58) (v := nI 0) dX9_tryThing_58 (by decide) ?_
        cases hr
        exact Ev.iret rfl rfl dX9_tryThing_59 ⟨rfl, rfl⟩
      · have hr := ifp hr c_3
        refine Ev.iconst (pc := 54) (v := nI 1) dX9_tryThing_54 (by decide) ?_
        refine Ev.goto (pc := 55) (tgt := 59) dX9_tryThing_55 (by decide) ?_
        cases hr
        exact Ev.iret rfl rfl dX9_tryThing_59 ⟨rfl, rfl⟩
  have hr := ifn hr c_1
  by_cases c_4 : a1 = nI 1
  · have hr := ifp hr c_4
    refine Ev.tableK (pc := 1) (tgt := 60) 1 c_4 (by decide) dX9_tryThing_1 (by decide) rfl (by decide) ?_
    refine Ev.aload_n (pc := 60) dX9_tryThing_60 rfl ?_
    refine Ev.iconst (pc := 61) (v := nI 1) dX9_tryThing_61 (by decide) ?_
    refine Ev.iload_n (pc := 62) dX9_tryThing_62 rfl ?_
    refine Ev.iload_n (pc := 63) dX9_tryThing_63 rfl ?_
    obtain ⟨x_2, hx_2, hr⟩ := Option.bind_eq_some_iff.mp hr
    refine Ev.cVi (pc := 64) (As := [.int _, .int _, .int _]) (kX9_canWalk _ _ _ _ _ _ _ hx_2) rfl rfl (ob_29 _) gX9_tryThing_X9_canWalk hdX9_canWalk rfl ⟨rfl, rfl⟩ ⟨Nat.le_of_ble_eq_true rfl, Nat.le_of_ble_eq_true rfl⟩ (Nat.le_of_ble_eq_true rfl) ⟨Nat.le_of_ble_eq_true rfl, Nat.le_of_ble_eq_true rfl⟩ dX9_tryThing_64 ?_
    refine Ev.istore (pc := 67) dX9_tryThing_67 rfl rfl ?_
    refine Ev.iload (pc := 69) dX9_tryThing_69 rfl ?_
    refine Ev.ifeqB (pc := 71) (tgt := 81) dX9_tryThing_71 (by decide) (fun c_5 => ?_) (fun c_5 => ?_)
    · have hr := ifn hr (ntr c_5)
      refine Ev.iload (pc := 81) dX9_tryThing_81 rfl ?_
      cases hr
      exact Ev.iret rfl (bI_nar _) dX9_tryThing_83 ⟨rfl, rfl⟩
    · have hr := ifp hr c_5
      refine Ev.aload_n (pc := 74) dX9_tryThing_74 rfl ?_
      refine Ev.iconst (pc := 75) (v := nI 1) dX9_tryThing_75 (by decide) ?_
      refine Ev.iload_n (pc := 76) dX9_tryThing_76 rfl ?_
      refine Ev.iload_n (pc := 77) dX9_tryThing_77 rfl ?_
      obtain ⟨x_3, hx_3, hr⟩ := Option.bind_eq_some_iff.mp hr
      refine Ev.cVv (pc := 78) (As := [.int _, .int _, .int _]) (kX9_walkOn _ _ _ _ _ _ _ hx_3) rfl rfl (ob_29 _) gX9_tryThing_X9_walkOn hdX9_walkOn rfl ⟨rfl, rfl⟩ ⟨Nat.le_of_ble_eq_true rfl, Nat.le_of_ble_eq_true rfl⟩ (Nat.le_of_ble_eq_true rfl) ⟨Nat.le_of_ble_eq_true rfl, Nat.le_of_ble_eq_true rfl⟩ dX9_tryThing_78 ?_
      refine Ev.iload (pc := 81) dX9_tryThing_81 rfl ?_
      cases hr
      exact Ev.iret rfl (bI_nar _) dX9_tryThing_83 ⟨rfl, rfl⟩
  have hr := ifn hr c_4
  by_cases c_6 : a1 = nI 2
  · have hr := ifp hr c_6
    refine Ev.tableK (pc := 1) (tgt := 84) 2 c_6 (by decide) dX9_tryThing_1 (by decide) rfl (by decide) ?_
    refine Ev.aload_n (pc := 84) dX9_tryThing_84 rfl ?_
    refine Ev.iconst (pc := 85) (v := nI 1) dX9_tryThing_85 (by decide) ?_
    refine Ev.iload_n (pc := 86) dX9_tryThing_86 rfl ?_
    refine Ev.iload_n (pc := 87) dX9_tryThing_87 rfl ?_
    obtain ⟨x_4, hx_4, hr⟩ := Option.bind_eq_some_iff.mp hr
    refine Ev.cVi (pc := 88) (As := [.int _, .int _, .int _]) (kX9_canDig _ _ _ _ _ _ _ hx_4) rfl rfl (ob_29 _) gX9_tryThing_X9_canDig hdX9_canDig rfl ⟨rfl, rfl⟩ ⟨Nat.le_of_ble_eq_true rfl, Nat.le_of_ble_eq_true rfl⟩ (Nat.le_of_ble_eq_true rfl) ⟨Nat.le_of_ble_eq_true rfl, Nat.le_of_ble_eq_true rfl⟩ dX9_tryThing_88 ?_
    refine Ev.istore (pc := 91) dX9_tryThing_91 rfl rfl ?_
    refine Ev.iload (pc := 93) dX9_tryThing_93 rfl ?_
    refine Ev.ifeqB (pc := 95) (tgt := 105) dX9_tryThing_95 (by decide) (fun c_7 => ?_) (fun c_7 => ?_)
    · have hr := ifn hr (ntr c_7)
      refine Ev.iload (pc := 105) dX9_tryThing_105 rfl ?_
      cases hr
      exact Ev.iret rfl (bI_nar _) dX9_tryThing_107 ⟨rfl, rfl⟩
    · have hr := ifp hr c_7
      refine Ev.aload_n (pc := 98) dX9_tryThing_98 rfl ?_
      refine Ev.iconst (pc := 99) (v := nI 1) dX9_tryThing_99 (by decide) ?_
      refine Ev.iload_n (pc := 100) dX9_tryThing_100 rfl ?_
      refine Ev.iload_n (pc := 101) dX9_tryThing_101 rfl ?_
      obtain ⟨x_5, hx_5, hr⟩ := Option.bind_eq_some_iff.mp hr
      refine Ev.cVv (pc := 102) (As := [.int _, .int _, .int _]) (kX9_digOn _ _ _ _ _ _ _ hx_5) rfl rfl (ob_29 _) gX9_tryThing_X9_digOn hdX9_digOn rfl ⟨rfl, rfl⟩ ⟨Nat.le_of_ble_eq_true rfl, Nat.le_of_ble_eq_true rfl⟩ (Nat.le_of_ble_eq_true rfl) ⟨Nat.le_of_ble_eq_true rfl, Nat.le_of_ble_eq_true rfl⟩ dX9_tryThing_102 ?_
      refine Ev.iload (pc := 105) dX9_tryThing_105 rfl ?_
      cases hr
      exact Ev.iret rfl (bI_nar _) dX9_tryThing_107 ⟨rfl, rfl⟩
  have hr := ifn hr c_6
  by_cases c_8 : a1 = nI 3
  · have hr := ifp hr c_8
    refine Ev.tableK (pc := 1) (tgt := 108) 3 c_8 (by decide) dX9_tryThing_1 (by decide) rfl (by decide) ?_
    refine Ev.iload_n (pc := 108) dX9_tryThing_108 rfl ?_
    refine Ev.ifne (pc := 109) (tgt := 125) dX9_tryThing_109 (by decide) (fun c_9 => ?_) (fun c_9 => ?_)
    · have hr := ifn hr c_9
      refine Ev.iconst (pc := 125) (v := nI 0) dX9_tryThing_125 (by decide) ?_
      refine Ev.istore (pc := 126) dX9_tryThing_126 rfl rfl ?_
      refine Ev.iload (pc := 128) dX9_tryThing_128 rfl ?_
      refine Ev.ifeq (pc := 130) (tgt := 139) dX9_tryThing_130 (by decide) (fun c_10 => ?_) (fun c_10 => ?_)
      · refine Ev.iload (pc := 139) dX9_tryThing_139 rfl ?_
        cases hr
        exact Ev.iret rfl rfl dX9_tryThing_141 ⟨rfl, rfl⟩
      · exact absurd c_10 (by decide)
    · have hr := ifp hr c_9
      refine Ev.aload_n (pc := 112) dX9_tryThing_112 rfl ?_
      refine Ev.iconst (pc := 113) (v := nI 1) dX9_tryThing_113 (by decide) ?_
      refine Ev.iload_n (pc := 114) dX9_tryThing_114 rfl ?_
      obtain ⟨x_6, hx_6, hr⟩ := Option.bind_eq_some_iff.mp hr
      refine Ev.cVi (pc := 115) (As := [.int _, .int _]) (kX9_canSell _ _ _ _ _ _ hx_6) rfl rfl (ob_29 _) gX9_tryThing_X9_canSell hdX9_canSell rfl ⟨rfl, rfl⟩ ⟨Nat.le_of_ble_eq_true rfl, Nat.le_of_ble_eq_true rfl⟩ (Nat.le_of_ble_eq_true rfl) ⟨Nat.le_of_ble_eq_true rfl, Nat.le_of_ble_eq_true rfl⟩ dX9_tryThing_115 ?_
      refine Ev.ifeqB (pc := 118) (tgt := 125) dX9_tryThing_118 (by decide) (fun c_11 => ?_) (fun c_11 => ?_)
      · have hr := ifn hr (ntr c_11)
        refine Ev.iconst (pc := 125) (v := nI 0) dX9_tryThing_125 (by decide) ?_
        refine Ev.istore (pc := 126) dX9_tryThing_126 rfl rfl ?_
        refine Ev.iload (pc := 128) dX9_tryThing_128 rfl ?_
        refine Ev.ifeq (pc := 130) (tgt := 139) dX9_tryThing_130 (by decide) (fun c_12 => ?_) (fun c_12 => ?_)
        · refine Ev.iload (pc := 139) dX9_tryThing_139 rfl ?_
          cases hr
          exact Ev.iret rfl rfl dX9_tryThing_141 ⟨rfl, rfl⟩
        · exact absurd c_12 (by decide)
      · have hr := ifp hr c_11
        refine Ev.iconst (pc := 121) (v := nI 1) dX9_tryThing_121 (by decide) ?_
        refine Ev.goto (pc := 122) (tgt := 126) dX9_tryThing_122 (by decide) ?_
        refine Ev.istore (pc := 126) dX9_tryThing_126 rfl rfl ?_
        refine Ev.iload (pc := 128) dX9_tryThing_128 rfl ?_
        refine Ev.ifeq (pc := 130) (tgt := 139) dX9_tryThing_130 (by decide) (fun c_13 => ?_) (fun c_13 => ?_)
        · exact absurd c_13 (by decide)
        · refine Ev.aload_n (pc := 133) dX9_tryThing_133 rfl ?_
          refine Ev.iconst (pc := 134) (v := nI 1) dX9_tryThing_134 (by decide) ?_
          refine Ev.iload_n (pc := 135) dX9_tryThing_135 rfl ?_
          obtain ⟨x_7, hx_7, hr⟩ := Option.bind_eq_some_iff.mp hr
          refine Ev.cVv (pc := 136) (As := [.int _, .int _]) (kX9_sellOn _ _ _ _ _ _ hx_7) rfl rfl (ob_29 _) gX9_tryThing_X9_sellOn hdX9_sellOn rfl ⟨rfl, rfl⟩ ⟨Nat.le_of_ble_eq_true rfl, Nat.le_of_ble_eq_true rfl⟩ (Nat.le_of_ble_eq_true rfl) ⟨Nat.le_of_ble_eq_true rfl, Nat.le_of_ble_eq_true rfl⟩ dX9_tryThing_136 ?_
          refine Ev.iload (pc := 139) dX9_tryThing_139 rfl ?_
          cases hr
          exact Ev.iret rfl rfl dX9_tryThing_141 ⟨rfl, rfl⟩
  have hr := ifn hr c_8
  by_cases c_14 : a1 = nI 4
  · have hr := ifp hr c_14
    refine Ev.tableK (pc := 1) (tgt := 142) 4 c_14 (by decide) dX9_tryThing_1 (by decide) rfl (by decide) ?_
    refine Ev.aload_n (pc := 142) dX9_tryThing_142 rfl ?_
    refine Ev.iload_n (pc := 143) dX9_tryThing_143 rfl ?_
    refine Ev.cVi (pc := 144) (As := [.int _]) (kX9_isLark _ _ _ _ _) rfl rfl (ob_29 _) gX9_tryThing_X9_isLark hdX9_isLark rfl ⟨rfl, rfl⟩ ⟨Nat.le_of_ble_eq_true rfl, Nat.le_of_ble_eq_true rfl⟩ (Nat.le_of_ble_eq_true rfl) ⟨Nat.le_of_ble_eq_true rfl, Nat.le_of_ble_eq_true rfl⟩ dX9_tryThing_144 ?_
    refine Ev.ifeqB (pc := 147) (tgt := 167) dX9_tryThing_147 (by decide) (fun c_15 => ?_) (fun c_15 => ?_)
    · have hr := ifn hr (ntr c_15)
      refine Ev.iconst (pc := 167) (v := nI 0) dX9_tryThing_167 (by decide) ?_
      cases hr
      exact Ev.iret rfl rfl dX9_tryThing_168 ⟨rfl, rfl⟩
    · have hr := ifp hr c_15
      refine Ev.aload_n (pc := 150) dX9_tryThing_150 rfl ?_
      refine Ev.get (pc := 151) (C0 := RX9) (T := TX9) (N := 31) (fl_29_8 _ _ _ _) rfl inX9_tryThing (by decide) lkX9_tryThing_25 dX9_tryThing_151 ?_
      refine Ev.bipush (pc := 154) (v := nI 35) dX9_tryThing_154 (by decide) ?_
      refine Ev.iload_n (pc := 156) dX9_tryThing_156 rfl ?_
      refine Ev.iadd (pc := 157) dX9_tryThing_157 ?_
      obtain ⟨c_16, hr⟩ := ckB hr
      refine Ev.iald (pc := 158) (ar_35 _ _ _ _) (inb_in c_16) dX9_tryThing_158 ?_
      refine Ev.iload_n (pc := 159) dX9_tryThing_159 rfl ?_
      refine Ev.icmplt (pc := 160) (tgt := 167) dX9_tryThing_160 (by decide) (fun c_17 => ?_) (fun c_17 => ?_)
      · have hr := ifp hr c_17
        refine Ev.iconst (pc := 167) (v := nI 0) dX9_tryThing_167 (by decide) ?_
        cases hr
        exact Ev.iret rfl rfl dX9_tryThing_168 ⟨rfl, rfl⟩
      · have hr := ifn hr c_17
        refine Ev.iconst (pc := 163) (v := nI 1) dX9_tryThing_163 (by decide) ?_
        refine Ev.goto (pc := 164) (tgt := 168) dX9_tryThing_164 (by decide) ?_
        cases hr
        exact Ev.iret rfl rfl dX9_tryThing_168 ⟨rfl, rfl⟩
  have hr := ifn hr c_14
  by_cases c_18 : a1 = nI 5
  · have hr := ifp hr c_18
    refine Ev.tableK (pc := 1) (tgt := 169) 5 c_18 (by decide) dX9_tryThing_1 (by decide) rfl (by decide) ?_
    refine Ev.iload_n (pc := 169) dX9_tryThing_169 rfl ?_
    refine Ev.ifne (pc := 170) (tgt := 199) dX9_tryThing_170 (by decide) (fun c_19 => ?_) (fun c_19 => ?_)
    · have hr := ifn hr c_19
      refine Ev.iconst (pc := 199) (v := nI 0) dX9_tryThing_199 (by decide) ?_
      cases hr
      exact Ev.iret rfl rfl dX9_tryThing_200 ⟨rfl, rfl⟩
    · have hr := ifp hr c_19
      refine Ev.aload_n (pc := 173) dX9_tryThing_173 rfl ?_
      refine Ev.iload_n (pc := 174) dX9_tryThing_174 rfl ?_
      refine Ev.cVi (pc := 175) (As := [.int _]) (kX9_isLark _ _ _ _ _) rfl rfl (ob_29 _) gX9_tryThing_X9_isLark hdX9_isLark rfl ⟨rfl, rfl⟩ ⟨Nat.le_of_ble_eq_true rfl, Nat.le_of_ble_eq_true rfl⟩ (Nat.le_of_ble_eq_true rfl) ⟨Nat.le_of_ble_eq_true rfl, Nat.le_of_ble_eq_true rfl⟩ dX9_tryThing_175 ?_
      refine Ev.ifeqB (pc := 178) (tgt := 199) dX9_tryThing_178 (by decide) (fun c_20 => ?_) (fun c_20 => ?_)
      · have hr := ifn hr (ntr c_20)
        refine Ev.iconst (pc := 199) (v := nI 0) dX9_tryThing_199 (by decide) ?_
        cases hr
        exact Ev.iret rfl rfl dX9_tryThing_200 ⟨rfl, rfl⟩
      · have hr := ifp hr c_20
        refine Ev.aload_n (pc := 181) dX9_tryThing_181 rfl ?_
        refine Ev.get (pc := 182) (C0 := RX9) (T := TX9) (N := 31) (fl_29_8 _ _ _ _) rfl inX9_tryThing (by decide) lkX9_tryThing_25 dX9_tryThing_182 ?_
        refine Ev.bipush (pc := 185) (v := nI 59) dX9_tryThing_185 (by decide) ?_
        refine Ev.iald (pc := 187) (ar_35 _ _ _ _) (vp_in_nI (n := 59) (N := 62) (by decide) (by decide)) dX9_tryThing_187 ?_
        refine Ev.iload_n (pc := 188) dX9_tryThing_188 rfl ?_
        refine Ev.cSi (pc := 189) (As := [.int _, .int _]) (kX9_has _ _ _ _ _ _) rfl gX9_tryThing_X9_has hdX9_has rfl ⟨rfl, rfl⟩ ⟨Nat.le_of_ble_eq_true rfl, Nat.le_of_ble_eq_true rfl⟩ (Nat.le_of_ble_eq_true rfl) ⟨Nat.le_of_ble_eq_true rfl, Nat.le_of_ble_eq_true rfl⟩ dX9_tryThing_189 ?_
        refine Ev.ifneB (pc := 192) (tgt := 199) dX9_tryThing_192 (by decide) (fun c_21 => ?_) (fun c_21 => ?_)
        · have hr := ifp hr c_21
          refine Ev.iconst (pc := 199) (v := nI 0) dX9_tryThing_199 (by decide) ?_
          cases hr
          exact Ev.iret rfl rfl dX9_tryThing_200 ⟨rfl, rfl⟩
        · have hr := ifn hr (ntr c_21)
          refine Ev.iconst (pc := 195) (v := nI 1) dX9_tryThing_195 (by decide) ?_
          refine Ev.goto (pc := 196) (tgt := 200) dX9_tryThing_196 (by decide) ?_
          cases hr
          exact Ev.iret rfl rfl dX9_tryThing_200 ⟨rfl, rfl⟩
  have hr := ifn hr c_18
  refine Ev.tableD (pc := 1) (tgt := 201) 6 (by decide) (fun j hj => by
      have hj2 : j = 0 ∨ j = 1 ∨ j = 2 ∨ j = 3 ∨ j = 4 ∨ j = 5 := by omega
      rcases hj2 with rfl | rfl | rfl | rfl | rfl | rfl <;> assumption) rfl dX9_tryThing_1 (by decide) ?_
  refine Ev.iconst (pc := 201) (v := nI 0) dX9_tryThing_201 (by decide) ?_
  cases hr
  exact Ev.iret rfl rfl dX9_tryThing_202 ⟨rfl, rfl⟩
/-! X9_thousandTo -/
def sX9_thousandTo_4 (v0 : Int32) : Nat → Int64 → Int32 → Option (Int64)
  | 0, _, _ => none
  | n + 1, v1, v3 => if v0 ≤ v3 then (some v1) else (sX9_thousandTo_4 v0 n (v1 * ((1000 : Int64))) (v3 + (nI 1)))
set_option maxRecDepth 20000 in
set_option maxHeartbeats 1000000 in
theorem kX9_thousandTo_4 (g : Hg) (q : Int64) (g2 : Hg) (q2 : Int64)  (v0 : Int32) (r : Int64) : ∀ (n : Nat) (v1 : Int64) (v3 : Int32), sX9_thousandTo_4 v0 n v1 v3 = some r → Ev (Xl (fun x h' => x = r ∧ h' = (g, q, g2, q2))) MX9_thousandTo 4 [some (.int v0), some (.long v1), none, some (.int v3)] [] (g, q, g2, q2) := by
  intro n
  induction n with
  | zero => intro _ _ hr; cases hr
  | succ n ih =>
    intro v1 v3 hr
    rw [sX9_thousandTo_4] at hr
    refine Ev.iload_n (pc := 4) dX9_thousandTo_4 rfl ?_
    refine Ev.iload_n (pc := 5) dX9_thousandTo_5 rfl ?_
    refine Ev.icmpge (pc := 6) (tgt := 21) dX9_thousandTo_6 (by decide) (fun c_1 => ?_) (fun c_1 => ?_)
    · have hr := ifp hr c_1
      refine Ev.lload_n (pc := 21) dX9_thousandTo_21 rfl ?_
      cases hr
      exact Ev.lret rfl dX9_thousandTo_22 ⟨rfl, rfl⟩
    · have hr := ifn hr c_1
      refine Ev.lload_n (pc := 9) dX9_thousandTo_9 rfl ?_
      refine Ev.ldc2 (pc := 10) (v := 1000) (by decide +kernel) dX9_thousandTo_10 ?_
      refine Ev.lmul (pc := 13) dX9_thousandTo_13 ?_
      refine Ev.lstore_n (pc := 14) dX9_thousandTo_14 rfl rfl ?_
      refine Ev.iinc (pc := 15) (v := nI 1) dX9_thousandTo_15 rfl rfl rfl rfl ?_
      refine Ev.goto (pc := 18) (tgt := 4) dX9_thousandTo_18 (by decide) ?_
      exact ih _ _ hr
def sX9_thousandTo (a1 : Int32) : Option (Int64) := sX9_thousandTo_4 a1 100 (lN 1) (nI 0)
set_option maxRecDepth 20000 in
set_option maxHeartbeats 1000000 in
theorem kX9_thousandTo (g : Hg) (q : Int64) (g2 : Hg) (q2 : Int64) (a1 : Int32) {r : Int64} (hr : sX9_thousandTo a1 = some r) : CtL MX9_thousandTo [.int a1] (g, q, g2, q2) (fun x h' => x = r ∧ h' = (g, q, g2, q2)) := by
  unfold sX9_thousandTo at hr
  refine CtL_L 3 rfl (by decide +kernel) rfl (Nat.le_of_ble_eq_true rfl) ?_
  show Ev _ _ 0 [some (.int a1), none, none, none] [] _
  refine Ev.lconst (pc := 0) (v := lN 1) dX9_thousandTo_0 rfl ?_
  refine Ev.lstore_n (pc := 1) dX9_thousandTo_1 rfl rfl ?_
  refine Ev.iconst (pc := 2) (v := nI 0) dX9_thousandTo_2 (by decide) ?_
  refine Ev.istore_n (pc := 3) dX9_thousandTo_3 rfl rfl ?_
  exact kX9_thousandTo_4 _ _ _ _ _ _ 100 _ _ hr
/-! X9_judge -/
def sX9_judge_36 (v1 : Int32) (v2 : Int64) : Nat → Hg → Int32 → Option (Int32 × Hg)
  | 0, _, _ => none
  | n + 1, g2, v4 => if v1 ≤ v4 then (some ((-9), g2)) else ((sX9_thousandTo ((v1 - (nI 1)) - v4)).bind fun x_3 => (if nzL x_3 = true then ((sX9_tryThing g2 ((Int64.toInt32 ((v2 / x_3) - (v2 / x_3) / ((1000 : Int64)) * ((1000 : Int64)))) / (nI 100)) (((Int64.toInt32 ((v2 / x_3) - (v2 / x_3) / ((1000 : Int64)) * ((1000 : Int64)))) / (nI 10)) - ((Int64.toInt32 ((v2 / x_3) - (v2 / x_3) / ((1000 : Int64)) * ((1000 : Int64)))) / (nI 10)) / (nI 10) * (nI 10)) ((Int64.toInt32 ((v2 / x_3) - (v2 / x_3) / ((1000 : Int64)) * ((1000 : Int64)))) - (Int64.toInt32 ((v2 / x_3) - (v2 / x_3) / ((1000 : Int64)) * ((1000 : Int64)))) / (nI 10) * (nI 10))).bind fun x_4 => (if x_4.1 = true then (sX9_judge_36 v1 v2 n x_4.2 (v4 + (nI 1))) else (some (v4, x_4.2)))) else none))
set_option maxRecDepth 20000 in
set_option maxHeartbeats 1000000 in
theorem kX9_judge_36 (g : Hg) (q : Int64) (q2 : Int64)  (v1 : Int32) (v2 : Int64) (r : Int32 × Hg) : ∀ (n : Nat) (g2 : Hg) (v4 : Int32), sX9_judge_36 v1 v2 n g2 v4 = some r → Ev (Xi (fun x h' => x = r.1 ∧ h' = (g, q, r.2, q2))) MX9_judge 36 [some (.ref 29), some (.int v1), some (.long v2), none, some (.int v4), none] [] (g, q, g2, q2) := by
  intro n
  induction n with
  | zero => intro _ _ hr; cases hr
  | succ n ih =>
    intro g2 v4 hr
    rw [sX9_judge_36] at hr
    refine Ev.iload (pc := 36) dX9_judge_36 rfl ?_
    refine Ev.iload_n (pc := 38) dX9_judge_38 rfl ?_
    refine Ev.icmpge (pc := 39) (tgt := 94) dX9_judge_39 (by decide) (fun c_3 => ?_) (fun c_3 => ?_)
    · have hr := ifp hr c_3
      refine Ev.bipush (pc := 94) (v := (-9)) dX9_judge_94 (by decide) ?_
      cases hr
      exact Ev.iret rfl rfl dX9_judge_96 ⟨rfl, rfl⟩
    · have hr := ifn hr c_3
      refine Ev.lload_n (pc := 42) dX9_judge_42 rfl ?_
      refine Ev.iload_n (pc := 43) dX9_judge_43 rfl ?_
      refine Ev.iconst (pc := 44) (v := nI 1) dX9_judge_44 (by decide) ?_
      refine Ev.isub (pc := 45) dX9_judge_45 ?_
      refine Ev.iload (pc := 46) dX9_judge_46 rfl ?_
      refine Ev.isub (pc := 48) dX9_judge_48 ?_
      obtain ⟨x_3, hx_3, hr⟩ := Option.bind_eq_some_iff.mp hr
      refine Ev.cSl (pc := 49) (As := [.int _]) (kX9_thousandTo _ _ _ _ _ hx_3) rfl gX9_judge_X9_thousandTo hdX9_thousandTo rfl ⟨rfl, rfl⟩ ⟨Nat.le_of_ble_eq_true rfl, Nat.le_of_ble_eq_true rfl⟩ (Nat.le_of_ble_eq_true rfl) ⟨Nat.le_of_ble_eq_true rfl, Nat.le_of_ble_eq_true rfl⟩ dX9_judge_49 ?_
      obtain ⟨c_4, hr⟩ := ckB hr
      refine Ev.ldiv (pc := 52) dX9_judge_52 (nzL_ne c_4) ?_
      refine Ev.ldc2 (pc := 53) (v := 1000) (by decide +kernel) dX9_judge_53 ?_
      refine Ev.lrem (pc := 56) dX9_judge_56 (by decide) ?_
      refine Ev.l2i (pc := 57) dX9_judge_57 ?_
      refine Ev.istore (pc := 58) dX9_judge_58 rfl rfl ?_
      refine Ev.aload_n (pc := 60) dX9_judge_60 rfl ?_
      refine Ev.iload (pc := 61) dX9_judge_61 rfl ?_
      refine Ev.bipush (pc := 63) (v := nI 100) dX9_judge_63 (by decide) ?_
      refine Ev.idiv (pc := 65) dX9_judge_65 (by decide) ?_
      refine Ev.iload (pc := 66) dX9_judge_66 rfl ?_
      refine Ev.bipush (pc := 68) (v := nI 10) dX9_judge_68 (by decide) ?_
      refine Ev.idiv (pc := 70) dX9_judge_70 (by decide) ?_
      refine Ev.bipush (pc := 71) (v := nI 10) dX9_judge_71 (by decide) ?_
      refine Ev.irem (pc := 73) dX9_judge_73 (by decide) ?_
      refine Ev.iload (pc := 74) dX9_judge_74 rfl ?_
      refine Ev.bipush (pc := 76) (v := nI 10) dX9_judge_76 (by decide) ?_
      refine Ev.irem (pc := 78) dX9_judge_78 (by decide) ?_
      obtain ⟨x_4, hx_4, hr⟩ := Option.bind_eq_some_iff.mp hr
      refine Ev.cVi (pc := 79) (As := [.int _, .int _, .int _]) (kX9_tryThing _ _ _ _ _ _ _ hx_4) rfl rfl (ob_29 _) gX9_judge_X9_tryThing hdX9_tryThing rfl ⟨rfl, rfl⟩ ⟨Nat.le_of_ble_eq_true rfl, Nat.le_of_ble_eq_true rfl⟩ (Nat.le_of_ble_eq_true rfl) ⟨Nat.le_of_ble_eq_true rfl, Nat.le_of_ble_eq_true rfl⟩ dX9_judge_79 ?_
      refine Ev.ifneB (pc := 82) (tgt := 88) dX9_judge_82 (by decide) (fun c_5 => ?_) (fun c_5 => ?_)
      · have hr := ifp hr c_5
        refine Ev.iinc (pc := 88) (v := nI 1) dX9_judge_88 rfl rfl rfl rfl ?_
        refine Ev.goto (pc := 91) (tgt := 36) dX9_judge_91 (by decide) ?_
        refine Ev_drop 5 ?_
        exact ih _ _ hr
      · have hr := ifn hr (ntr c_5)
        refine Ev.iload (pc := 85) dX9_judge_85 rfl ?_
        cases hr
        exact Ev.iret rfl rfl dX9_judge_87 ⟨rfl, rfl⟩
def sX9_judge (g2 : Hg) (a1 : Int32) (a2 : Int64) : Option (Int32 × Hg) := if (sX9_in (Int32.toInt64 a1) (lN 1) ((4 : Int64))) = true then ((sX9_thousandTo a1).bind fun x_1 => (if (sX9_in a2 (lN 0) (x_1 - (lN 1))) = true then ((sX9_layTrial g2).bind fun x_2 => (sX9_judge_36 a1 a2 100 x_2 (nI 0))) else (some ((-2), g2)))) else (some ((-2), g2))
set_option maxRecDepth 20000 in
set_option maxHeartbeats 1000000 in
theorem kX9_judge (g : Hg) (q : Int64) (g2 : Hg) (q2 : Int64) (a1 : Int32) (a2 : Int64) {r : Int32 × Hg} (hr : sX9_judge g2 a1 a2 = some r) : CtI MX9_judge [.ref 29, .int a1, .long a2] (g, q, g2, q2) (fun x h' => x = r.1 ∧ h' = (g, q, r.2, q2)) := by
  unfold sX9_judge at hr
  refine CtI_L 2 rfl (by decide +kernel) rfl (Nat.le_of_ble_eq_true rfl) ?_
  show Ev _ _ 0 [some (.ref 29), some (.int a1), some (.long a2), none, none, none] [] _
  refine Ev.iload_n (pc := 0) dX9_judge_0 rfl ?_
  refine Ev.i2l (pc := 1) dX9_judge_1 ?_
  refine Ev.lconst (pc := 2) (v := lN 1) dX9_judge_2 rfl ?_
  refine Ev.ldc2 (pc := 3) (v := 4) (by decide +kernel) dX9_judge_3 ?_
  refine Ev.cSi (pc := 6) (As := [.long _, .long _, .long _]) (kX9_in _ _ _ _ _ _ _) rfl gX9_judge_X9_in hdX9_in rfl ⟨rfl, rfl⟩ ⟨Nat.le_of_ble_eq_true rfl, Nat.le_of_ble_eq_true rfl⟩ (Nat.le_of_ble_eq_true rfl) ⟨Nat.le_of_ble_eq_true rfl, Nat.le_of_ble_eq_true rfl⟩ dX9_judge_6 ?_
  refine Ev.ifeqB (pc := 9) (tgt := 26) dX9_judge_9 (by decide) (fun c_1 => ?_) (fun c_1 => ?_)
  · have hr := ifn hr (ntr c_1)
    refine Ev.bipush (pc := 26) (v := (-2)) dX9_judge_26 (by decide) ?_
    cases hr
    exact Ev.iret rfl rfl dX9_judge_28 ⟨rfl, rfl⟩
  · have hr := ifp hr c_1
    refine Ev.lload_n (pc := 12) dX9_judge_12 rfl ?_
    refine Ev.lconst (pc := 13) (v := lN 0) dX9_judge_13 rfl ?_
    refine Ev.iload_n (pc := 14) dX9_judge_14 rfl ?_
    obtain ⟨x_1, hx_1, hr⟩ := Option.bind_eq_some_iff.mp hr
    refine Ev.cSl (pc := 15) (As := [.int _]) (kX9_thousandTo _ _ _ _ _ hx_1) rfl gX9_judge_X9_thousandTo hdX9_thousandTo rfl ⟨rfl, rfl⟩ ⟨Nat.le_of_ble_eq_true rfl, Nat.le_of_ble_eq_true rfl⟩ (Nat.le_of_ble_eq_true rfl) ⟨Nat.le_of_ble_eq_true rfl, Nat.le_of_ble_eq_true rfl⟩ dX9_judge_15 ?_
    refine Ev.lconst (pc := 18) (v := lN 1) dX9_judge_18 rfl ?_
    refine Ev.lsub (pc := 19) dX9_judge_19 ?_
    refine Ev.cSi (pc := 20) (As := [.long _, .long _, .long _]) (kX9_in _ _ _ _ _ _ _) rfl gX9_judge_X9_in hdX9_in rfl ⟨rfl, rfl⟩ ⟨Nat.le_of_ble_eq_true rfl, Nat.le_of_ble_eq_true rfl⟩ (Nat.le_of_ble_eq_true rfl) ⟨Nat.le_of_ble_eq_true rfl, Nat.le_of_ble_eq_true rfl⟩ dX9_judge_20 ?_
    refine Ev.ifneB (pc := 23) (tgt := 29) dX9_judge_23 (by decide) (fun c_2 => ?_) (fun c_2 => ?_)
    · have hr := ifp hr c_2
      refine Ev.aload_n (pc := 29) dX9_judge_29 rfl ?_
      obtain ⟨x_2, hx_2, hr⟩ := Option.bind_eq_some_iff.mp hr
      refine Ev.cVv (pc := 30) (As := []) (kX9_layTrial _ _ _ _ hx_2) rfl rfl (ob_29 _) gX9_judge_X9_layTrial hdX9_layTrial rfl ⟨rfl, rfl⟩ ⟨Nat.le_of_ble_eq_true rfl, Nat.le_of_ble_eq_true rfl⟩ (Nat.le_of_ble_eq_true rfl) ⟨Nat.le_of_ble_eq_true rfl, Nat.le_of_ble_eq_true rfl⟩ dX9_judge_30 ?_
      refine Ev.iconst (pc := 33) (v := nI 0) dX9_judge_33 (by decide) ?_
      refine Ev.istore (pc := 34) dX9_judge_34 rfl rfl ?_
      exact kX9_judge_36 _ _ _ _ _ _ 100 _ _ hr
    · have hr := ifn hr (ntr c_2)
      refine Ev.bipush (pc := 26) (v := (-2)) dX9_judge_26 (by decide) ?_
      cases hr
      exact Ev.iret rfl rfl dX9_judge_28 ⟨rfl, rfl⟩
/-! X9_see -/
def sX9_see (g2 : Hg) (a1 : Int32) (a2 : Int32) (a3 : Int32) : Option (Int32 × Hg) := if (sX9_isCell a1) = true then (if (sX9_in (Int32.toInt64 a2) (lN 0) ((9 : Int64))) = true then (if (sX9_in (Int32.toInt64 a3) (lN 0) (lN 1)) = true then (if (g2 29 23) = (nI 6) then (some ((-4), g2)) else (if inb (g2 29 23) 6 = true then (if inb ((stA g2 42 (Int32.toNatClampNeg (g2 29 23)) a1) 29 23) 6 = true then (if inb ((stA (stA g2 42 (Int32.toNatClampNeg (g2 29 23)) a1) 43 (Int32.toNatClampNeg ((stA g2 42 (Int32.toNatClampNeg (g2 29 23)) a1) 29 23)) a2) 29 23) 6 = true then (some ((stA (stA (stA (stA g2 42 (Int32.toNatClampNeg (g2 29 23)) a1) 43 (Int32.toNatClampNeg ((stA g2 42 (Int32.toNatClampNeg (g2 29 23)) a1) 29 23)) a2) 44 (Int32.toNatClampNeg ((stA (stA g2 42 (Int32.toNatClampNeg (g2 29 23)) a1) 43 (Int32.toNatClampNeg ((stA g2 42 (Int32.toNatClampNeg (g2 29 23)) a1) 29 23)) a2) 29 23)) a3) 29 23 (((stA (stA (stA g2 42 (Int32.toNatClampNeg (g2 29 23)) a1) 43 (Int32.toNatClampNeg ((stA g2 42 (Int32.toNatClampNeg (g2 29 23)) a1) 29 23)) a2) 44 (Int32.toNatClampNeg ((stA (stA g2 42 (Int32.toNatClampNeg (g2 29 23)) a1) 43 (Int32.toNatClampNeg ((stA g2 42 (Int32.toNatClampNeg (g2 29 23)) a1) 29 23)) a2) 29 23)) a3) 29 23) + (nI 1))) 29 23, stA (stA (stA (stA g2 42 (Int32.toNatClampNeg (g2 29 23)) a1) 43 (Int32.toNatClampNeg ((stA g2 42 (Int32.toNatClampNeg (g2 29 23)) a1) 29 23)) a2) 44 (Int32.toNatClampNeg ((stA (stA g2 42 (Int32.toNatClampNeg (g2 29 23)) a1) 43 (Int32.toNatClampNeg ((stA g2 42 (Int32.toNatClampNeg (g2 29 23)) a1) 29 23)) a2) 29 23)) a3) 29 23 (((stA (stA (stA g2 42 (Int32.toNatClampNeg (g2 29 23)) a1) 43 (Int32.toNatClampNeg ((stA g2 42 (Int32.toNatClampNeg (g2 29 23)) a1) 29 23)) a2) 44 (Int32.toNatClampNeg ((stA (stA g2 42 (Int32.toNatClampNeg (g2 29 23)) a1) 43 (Int32.toNatClampNeg ((stA g2 42 (Int32.toNatClampNeg (g2 29 23)) a1) 29 23)) a2) 29 23)) a3) 29 23) + (nI 1)))) else none) else none) else none)) else (some ((-2), g2))) else (some ((-2), g2))) else (some ((-1), g2))
set_option maxRecDepth 20000 in
set_option maxHeartbeats 1000000 in
theorem kX9_see (g : Hg) (q : Int64) (g2 : Hg) (q2 : Int64) (a1 : Int32) (a2 : Int32) (a3 : Int32) {r : Int32 × Hg} (hr : sX9_see g2 a1 a2 a3 = some r) : CtI MX9_see [.ref 29, .int a1, .int a2, .int a3] (g, q, g2, q2) (fun x h' => x = r.1 ∧ h' = (g, q, r.2, q2)) := by
  unfold sX9_see at hr
  refine CtI_L 0 rfl (by decide +kernel) rfl (Nat.le_of_ble_eq_true rfl) ?_
  show Ev _ _ 0 [some (.ref 29), some (.int a1), some (.int a2), some (.int a3)] [] _
  refine Ev.iload_n (pc := 0) dX9_see_0 rfl ?_
  refine Ev.cSi (pc := 1) (As := [.int _]) (kX9_isCell _ _ _ _ _) rfl gX9_see_X9_isCell hdX9_isCell rfl ⟨rfl, rfl⟩ ⟨Nat.le_of_ble_eq_true rfl, Nat.le_of_ble_eq_true rfl⟩ (Nat.le_of_ble_eq_true rfl) ⟨Nat.le_of_ble_eq_true rfl, Nat.le_of_ble_eq_true rfl⟩ dX9_see_1 ?_
  refine Ev.ifneB (pc := 4) (tgt := 9) dX9_see_4 (by decide) (fun c_1 => ?_) (fun c_1 => ?_)
  · have hr := ifp hr c_1
    refine Ev.iload_n (pc := 9) dX9_see_9 rfl ?_
    refine Ev.i2l (pc := 10) dX9_see_10 ?_
    refine Ev.lconst (pc := 11) (v := lN 0) dX9_see_11 rfl ?_
    refine Ev.ldc2 (pc := 12) (v := 9) (by decide +kernel) dX9_see_12 ?_
    refine Ev.cSi (pc := 15) (As := [.long _, .long _, .long _]) (kX9_in _ _ _ _ _ _ _) rfl gX9_see_X9_in hdX9_in rfl ⟨rfl, rfl⟩ ⟨Nat.le_of_ble_eq_true rfl, Nat.le_of_ble_eq_true rfl⟩ (Nat.le_of_ble_eq_true rfl) ⟨Nat.le_of_ble_eq_true rfl, Nat.le_of_ble_eq_true rfl⟩ dX9_see_15 ?_
    refine Ev.ifeqB (pc := 18) (tgt := 31) dX9_see_18 (by decide) (fun c_2 => ?_) (fun c_2 => ?_)
    · have hr := ifn hr (ntr c_2)
      refine Ev.bipush (pc := 31) (v := (-2)) dX9_see_31 (by decide) ?_
      cases hr
      exact Ev.iret rfl rfl dX9_see_33 ⟨rfl, rfl⟩
    · have hr := ifp hr c_2
      refine Ev.iload_n (pc := 21) dX9_see_21 rfl ?_
      refine Ev.i2l (pc := 22) dX9_see_22 ?_
      refine Ev.lconst (pc := 23) (v := lN 0) dX9_see_23 rfl ?_
      refine Ev.lconst (pc := 24) (v := lN 1) dX9_see_24 rfl ?_
      refine Ev.cSi (pc := 25) (As := [.long _, .long _, .long _]) (kX9_in _ _ _ _ _ _ _) rfl gX9_see_X9_in hdX9_in rfl ⟨rfl, rfl⟩ ⟨Nat.le_of_ble_eq_true rfl, Nat.le_of_ble_eq_true rfl⟩ (Nat.le_of_ble_eq_true rfl) ⟨Nat.le_of_ble_eq_true rfl, Nat.le_of_ble_eq_true rfl⟩ dX9_see_25 ?_
      refine Ev.ifneB (pc := 28) (tgt := 34) dX9_see_28 (by decide) (fun c_3 => ?_) (fun c_3 => ?_)
      · have hr := ifp hr c_3
        refine Ev.aload_n (pc := 34) dX9_see_34 rfl ?_
        refine Ev.get (pc := 35) (C0 := RX9) (T := TX9) (N := 31) (fl_29_23 _ _ _ _) rfl inX9_see (by decide) lkX9_see_232 dX9_see_35 ?_
        refine Ev.bipush (pc := 38) (v := nI 6) dX9_see_38 (by decide) ?_
        refine Ev.icmpne (pc := 40) (tgt := 46) dX9_see_40 (by decide) (fun c_4 => ?_) (fun c_4 => ?_)
        · have hr := ifn hr c_4
          refine Ev.aload_n (pc := 46) dX9_see_46 rfl ?_
          refine Ev.get (pc := 47) (C0 := RX9) (T := TX9) (N := 31) (fl_29_24 _ _ _ _) rfl inX9_see (by decide) lkX9_see_46 dX9_see_47 ?_
          refine Ev.aload_n (pc := 50) dX9_see_50 rfl ?_
          refine Ev.get (pc := 51) (C0 := RX9) (T := TX9) (N := 31) (fl_29_23 _ _ _ _) rfl inX9_see (by decide) lkX9_see_232 dX9_see_51 ?_
          refine Ev.iload_n (pc := 54) dX9_see_54 rfl ?_
          obtain ⟨c_5, hr⟩ := ckB hr
          refine Ev.iast (pc := 55) (ar_42 _ _ _ _) (inb_in c_5) (se_42 _ _ _ _ _) dX9_see_55 ?_
          refine Ev.aload_n (pc := 56) dX9_see_56 rfl ?_
          refine Ev.get (pc := 57) (C0 := RX9) (T := TX9) (N := 31) (fl_29_25 _ _ _ _) rfl inX9_see (by decide) lkX9_see_49 dX9_see_57 ?_
          refine Ev.aload_n (pc := 60) dX9_see_60 rfl ?_
          refine Ev.get (pc := 61) (C0 := RX9) (T := TX9) (N := 31) (fl_29_23 _ _ _ _) rfl inX9_see (by decide) lkX9_see_232 dX9_see_61 ?_
          refine Ev.iload_n (pc := 64) dX9_see_64 rfl ?_
          obtain ⟨c_6, hr⟩ := ckB hr
          refine Ev.iast (pc := 65) (ar_43 _ _ _ _) (inb_in c_6) (se_43 _ _ _ _ _) dX9_see_65 ?_
          refine Ev.aload_n (pc := 66) dX9_see_66 rfl ?_
          refine Ev.get (pc := 67) (C0 := RX9) (T := TX9) (N := 31) (fl_29_26 _ _ _ _) rfl inX9_see (by decide) lkX9_see_52 dX9_see_67 ?_
          refine Ev.aload_n (pc := 70) dX9_see_70 rfl ?_
          refine Ev.get (pc := 71) (C0 := RX9) (T := TX9) (N := 31) (fl_29_23 _ _ _ _) rfl inX9_see (by decide) lkX9_see_232 dX9_see_71 ?_
          refine Ev.iload_n (pc := 74) dX9_see_74 rfl ?_
          obtain ⟨c_7, hr⟩ := ckB hr
          refine Ev.iast (pc := 75) (ar_44 _ _ _ _) (inb_in c_7) (se_44 _ _ _ _ _) dX9_see_75 ?_
          refine Ev.aload_n (pc := 76) dX9_see_76 rfl ?_
          refine Ev.dup (pc := 77) dX9_see_77 rfl ?_
          refine Ev.get (pc := 78) (C0 := RX9) (T := TX9) (N := 31) (fl_29_23 _ _ _ _) rfl inX9_see (by decide) lkX9_see_232 dX9_see_78 ?_
          refine Ev.iconst (pc := 81) (v := nI 1) dX9_see_81 (by decide) ?_
          refine Ev.iadd (pc := 82) dX9_see_82 ?_
          refine Ev.put (pc := 83) (C0 := RX9) (T := TX9) (N := 31) (ty := .int) (pu_29_23 _ _ _ _ _) rfl inX9_see tyX9_ok nmX9 (by decide) lkX9_see_232 rfl (by decide +kernel) (fun _ => rfl) (fun _ => rfl) dX9_see_83 ?_
          refine Ev.aload_n (pc := 86) dX9_see_86 rfl ?_
          refine Ev.get (pc := 87) (C0 := RX9) (T := TX9) (N := 31) (fl_29_23 _ _ _ _) rfl inX9_see (by decide) lkX9_see_232 dX9_see_87 ?_
          cases hr
          exact Ev.iret rfl rfl dX9_see_90 ⟨rfl, rfl⟩
        · have hr := ifp hr c_4
          refine Ev.bipush (pc := 43) (v := (-4)) dX9_see_43 (by decide) ?_
          cases hr
          exact Ev.iret rfl rfl dX9_see_45 ⟨rfl, rfl⟩
      · have hr := ifn hr (ntr c_3)
        refine Ev.bipush (pc := 31) (v := (-2)) dX9_see_31 (by decide) ?_
        cases hr
        exact Ev.iret rfl rfl dX9_see_33 ⟨rfl, rfl⟩
  · have hr := ifn hr (ntr c_1)
    refine Ev.iconst (pc := 7) (v := (-1)) dX9_see_7 (by decide) ?_
    cases hr
    exact Ev.iret rfl rfl dX9_see_8 ⟨rfl, rfl⟩
/-! X9_unsee -/
def sX9_unsee (g2 : Hg) : Int32 × Hg := (g2 29 23, stA g2 29 23 (nI 0))
set_option maxRecDepth 20000 in
set_option maxHeartbeats 1000000 in
theorem kX9_unsee (g : Hg) (q : Int64) (g2 : Hg) (q2 : Int64) : CtI MX9_unsee [.ref 29] (g, q, g2, q2) (fun x h' => x = (sX9_unsee g2).1 ∧ h' = (g, q, (sX9_unsee g2).2, q2)) := by
  generalize hr : sX9_unsee g2 = r
  unfold sX9_unsee at hr
  refine CtI_L 1 rfl (by decide +kernel) rfl (Nat.le_of_ble_eq_true rfl) ?_
  show Ev _ _ 0 [some (.ref 29), none] [] _
  refine Ev.aload_n (pc := 0) dX9_unsee_0 rfl ?_
  refine Ev.get (pc := 1) (C0 := RX9) (T := TX9) (N := 31) (fl_29_23 _ _ _ _) rfl inX9_unsee (by decide) lkX9_unsee_232 dX9_unsee_1 ?_
  refine Ev.istore_n (pc := 4) dX9_unsee_4 rfl rfl ?_
  refine Ev.aload_n (pc := 5) dX9_unsee_5 rfl ?_
  refine Ev.iconst (pc := 6) (v := nI 0) dX9_unsee_6 (by decide) ?_
  refine Ev.put (pc := 7) (C0 := RX9) (T := TX9) (N := 31) (ty := .int) (pu_29_23 _ _ _ _ _) rfl inX9_unsee tyX9_ok nmX9 (by decide) lkX9_unsee_232 rfl (by decide +kernel) (fun _ => rfl) (fun _ => rfl) dX9_unsee_7 ?_
  refine Ev.iload_n (pc := 10) dX9_unsee_10 rfl ?_
  subst hr
  exact Ev.iret rfl rfl dX9_unsee_11 ⟨rfl, rfl⟩
/-! X9_phases -/
def sX9_phases_28 (g2 : Hg) (v1 : Int32) (v2 : Int32) : Nat → Int32 → Int32 → Option (Int32 × Int32)
  | 0, _, _ => none
  | n + 1, v3, v4 => if (g2 29 23) ≤ v4 then (some (v3, v4)) else (if v3 = 0 then (sX9_phases_28 g2 v1 v2 n (nI 0) (v4 + (nI 1))) else (if inb v4 6 = true then (if inb v4 6 = true then ((sX9_isBare g2 (g2 42 (Int32.toNatClampNeg v4)) (v2 + (g2 43 (Int32.toNatClampNeg v4)))).bind fun x_1 => (if inb v4 6 = true then (if (g2 44 (Int32.toNatClampNeg v4)) = (nI 1) then (if (bI x_1) = (nI 1) then (sX9_phases_28 g2 v1 v2 n (nI 1) (v4 + (nI 1))) else (sX9_phases_28 g2 v1 v2 n (nI 0) (v4 + (nI 1)))) else (if (bI x_1) = (nI 0) then (sX9_phases_28 g2 v1 v2 n (nI 1) (v4 + (nI 1))) else (sX9_phases_28 g2 v1 v2 n (nI 0) (v4 + (nI 1))))) else none)) else none) else none))
set_option maxRecDepth 20000 in
set_option maxHeartbeats 1000000 in
theorem kX9_phases_28 (g : Hg) (q : Int64) (g2 : Hg) (q2 : Int64) (v1 : Int32) (v2 : Int32) (P : Int32 → Hp → Prop) (r : Int32 × Int32) : ∀ (n : Nat) (v3 : Int32) (v4 : Int32), sX9_phases_28 g2 v1 v2 n v3 v4 = some r → Ev (Xi P) MX9_phases 92 [some (.ref 29), some (.int v1), some (.int v2), some (.int r.1), some (.int r.2)] [] (g, q, g2, q2) → Ev (Xi P) MX9_phases 28 [some (.ref 29), some (.int v1), some (.int v2), some (.int v3), some (.int v4)] [] (g, q, g2, q2) := by
  intro n
  induction n with
  | zero => intro _ _ hr hk; cases hr
  | succ n ih =>
    intro v3 v4 hr hk
    rw [sX9_phases_28] at hr
    refine Ev.iload (pc := 28) dX9_phases_28 rfl ?_
    refine Ev.aload_n (pc := 30) dX9_phases_30 rfl ?_
    refine Ev.get (pc := 31) (C0 := RX9) (T := TX9) (N := 31) (fl_29_23 _ _ _ _) rfl inX9_phases (by decide) lkX9_phases_232 dX9_phases_31 ?_
    refine Ev.icmpge (pc := 34) (tgt := 92) dX9_phases_34 (by decide) (fun c_3 => ?_) (fun c_3 => ?_)
    · have hr := ifp hr c_3
      cases hr
      exact hk
    · have hr := ifn hr c_3
      refine Ev.iload_n (pc := 37) dX9_phases_37 rfl ?_
      refine Ev.ifeq (pc := 38) (tgt := 84) dX9_phases_38 (by decide) (fun c_4 => ?_) (fun c_4 => ?_)
      · have hr := ifp hr c_4
        refine Ev.iconst (pc := 84) (v := nI 0) dX9_phases_84 (by decide) ?_
        refine Ev.istore_n (pc := 85) dX9_phases_85 rfl rfl ?_
        refine Ev.iinc (pc := 86) (v := nI 1) dX9_phases_86 rfl rfl rfl rfl ?_
        refine Ev.goto (pc := 89) (tgt := 28) dX9_phases_89 (by decide) ?_
        exact ih _ _ hr hk
      · have hr := ifn hr c_4
        refine Ev.aload_n (pc := 41) dX9_phases_41 rfl ?_
        refine Ev.aload_n (pc := 42) dX9_phases_42 rfl ?_
        refine Ev.get (pc := 43) (C0 := RX9) (T := TX9) (N := 31) (fl_29_24 _ _ _ _) rfl inX9_phases (by decide) lkX9_phases_46 dX9_phases_43 ?_
        refine Ev.iload (pc := 46) dX9_phases_46 rfl ?_
        obtain ⟨c_5, hr⟩ := ckB hr
        refine Ev.iald (pc := 48) (ar_42 _ _ _ _) (inb_in c_5) dX9_phases_48 ?_
        refine Ev.iload_n (pc := 49) dX9_phases_49 rfl ?_
        refine Ev.aload_n (pc := 50) dX9_phases_50 rfl ?_
        refine Ev.get (pc := 51) (C0 := RX9) (T := TX9) (N := 31) (fl_29_25 _ _ _ _) rfl inX9_phases (by decide) lkX9_phases_49 dX9_phases_51 ?_
        refine Ev.iload (pc := 54) dX9_phases_54 rfl ?_
        obtain ⟨c_6, hr⟩ := ckB hr
        refine Ev.iald (pc := 56) (ar_43 _ _ _ _) (inb_in c_6) dX9_phases_56 ?_
        refine Ev.iadd (pc := 57) dX9_phases_57 ?_
        obtain ⟨x_1, hx_1, hr⟩ := Option.bind_eq_some_iff.mp hr
        refine Ev.cVi (pc := 58) (As := [.int _, .int _]) (kX9_isBare _ _ _ _ _ _ hx_1) rfl rfl (ob_29 _) gX9_phases_X9_isBare hdX9_isBare rfl ⟨rfl, rfl⟩ ⟨Nat.le_of_ble_eq_true rfl, Nat.le_of_ble_eq_true rfl⟩ (Nat.le_of_ble_eq_true rfl) ⟨Nat.le_of_ble_eq_true rfl, Nat.le_of_ble_eq_true rfl⟩ dX9_phases_58 ?_
        refine Ev.aload_n (pc := 61) dX9_phases_61 rfl ?_
        refine Ev.get (pc := 62) (C0 := RX9) (T := TX9) (N := 31) (fl_29_26 _ _ _ _) rfl inX9_phases (by decide) lkX9_phases_52 dX9_phases_62 ?_
        refine Ev.iload (pc := 65) dX9_phases_65 rfl ?_
        obtain ⟨c_7, hr⟩ := ckB hr
        refine Ev.iald (pc := 67) (ar_44 _ _ _ _) (inb_in c_7) dX9_phases_67 ?_
        refine Ev.iconst (pc := 68) (v := nI 1) dX9_phases_68 (by decide) ?_
        refine Ev.icmpne (pc := 69) (tgt := 76) dX9_phases_69 (by decide) (fun c_8 => ?_) (fun c_8 => ?_)
        · have hr := ifn hr c_8
          refine Ev.iconst (pc := 76) (v := nI 0) dX9_phases_76 (by decide) ?_
          refine Ev.icmpne (pc := 77) (tgt := 84) dX9_phases_77 (by decide) (fun c_9 => ?_) (fun c_9 => ?_)
          · have hr := ifn hr c_9
            refine Ev.iconst (pc := 84) (v := nI 0) dX9_phases_84 (by decide) ?_
            refine Ev.istore_n (pc := 85) dX9_phases_85 rfl rfl ?_
            refine Ev.iinc (pc := 86) (v := nI 1) dX9_phases_86 rfl rfl rfl rfl ?_
            refine Ev.goto (pc := 89) (tgt := 28) dX9_phases_89 (by decide) ?_
            exact ih _ _ hr hk
          · have hr := ifp hr c_9
            refine Ev.iconst (pc := 80) (v := nI 1) dX9_phases_80 (by decide) ?_
            refine Ev.goto (pc := 81) (tgt := 85) dX9_phases_81 (by decide) ?_
            refine Ev.istore_n (pc := 85) dX9_phases_85 rfl rfl ?_
            refine Ev.iinc (pc := 86) (v := nI 1) dX9_phases_86 rfl rfl rfl rfl ?_
            refine Ev.goto (pc := 89) (tgt := 28) dX9_phases_89 (by decide) ?_
            exact ih _ _ hr hk
        · have hr := ifp hr c_8
          refine Ev.iconst (pc := 72) (v := nI 1) dX9_phases_72 (by decide) ?_
          refine Ev.goto (pc := 73) (tgt := 77) dX9_phases_73 (by decide) ?_
          refine Ev.icmpne (pc := 77) (tgt := 84) dX9_phases_77 (by decide) (fun c_10 => ?_) (fun c_10 => ?_)
          · have hr := ifn hr c_10
            refine Ev.iconst (pc := 84) (v := nI 0) dX9_phases_84 (by decide) ?_
            refine Ev.istore_n (pc := 85) dX9_phases_85 rfl rfl ?_
            refine Ev.iinc (pc := 86) (v := nI 1) dX9_phases_86 rfl rfl rfl rfl ?_
            refine Ev.goto (pc := 89) (tgt := 28) dX9_phases_89 (by decide) ?_
            exact ih _ _ hr hk
          · have hr := ifp hr c_10
            refine Ev.iconst (pc := 80) (v := nI 1) dX9_phases_80 (by decide) ?_
            refine Ev.goto (pc := 81) (tgt := 85) dX9_phases_81 (by decide) ?_
            refine Ev.istore_n (pc := 85) dX9_phases_85 rfl rfl ?_
            refine Ev.iinc (pc := 86) (v := nI 1) dX9_phases_86 rfl rfl rfl rfl ?_
            refine Ev.goto (pc := 89) (tgt := 28) dX9_phases_89 (by decide) ?_
            exact ih _ _ hr hk
def sX9_phases_4 (g2 : Hg) : Nat → Int32 → Int32 → Option (Int32)
  | 0, _, _ => none
  | n + 1, v1, v2 => if (g2 29 0) = 0 then (if (nI 1) ≤ v2 then (some v1) else ((sX9_phases_28 g2 v1 v2 100 (nI 1) (nI 0)).bind fun x_3 => (if x_3.1 = 0 then (sX9_phases_4 g2 n (v1 ||| (nI 0)) (v2 + (nI 1))) else (sX9_phases_4 g2 n (v1 ||| ((nI 1) <<< (v2 &&& 31))) (v2 + (nI 1)))))) else (if (g2 29 0) ≤ v2 then (some v1) else ((sX9_phases_28 g2 v1 v2 100 (nI 1) (nI 0)).bind fun x_2 => (if x_2.1 = 0 then (sX9_phases_4 g2 n (v1 ||| (nI 0)) (v2 + (nI 1))) else (sX9_phases_4 g2 n (v1 ||| ((nI 1) <<< (v2 &&& 31))) (v2 + (nI 1))))))
set_option maxRecDepth 20000 in
set_option maxHeartbeats 1000000 in
theorem kX9_phases_4 (g : Hg) (q : Int64) (g2 : Hg) (q2 : Int64)   (r : Int32) : ∀ (n : Nat) (v1 : Int32) (v2 : Int32), sX9_phases_4 g2 n v1 v2 = some r → Ev (Xi (fun x h' => x = r ∧ h' = (g, q, g2, q2))) MX9_phases 4 [some (.ref 29), some (.int v1), some (.int v2), none, none] [] (g, q, g2, q2) := by
  intro n
  induction n with
  | zero => intro _ _ hr; cases hr
  | succ n ih =>
    intro v1 v2 hr
    rw [sX9_phases_4] at hr
    refine Ev.iload_n (pc := 4) dX9_phases_4 rfl ?_
    refine Ev.aload_n (pc := 5) dX9_phases_5 rfl ?_
    refine Ev.get (pc := 6) (C0 := RX9) (T := TX9) (N := 31) (fl_29_0 _ _ _ _) rfl inX9_phases (by decide) lkX9_phases_102 dX9_phases_6 ?_
    refine Ev.ifne (pc := 9) (tgt := 16) dX9_phases_9 (by decide) (fun c_1 => ?_) (fun c_1 => ?_)
    · have hr := ifn hr c_1
      refine Ev.aload_n (pc := 16) dX9_phases_16 rfl ?_
      refine Ev.get (pc := 17) (C0 := RX9) (T := TX9) (N := 31) (fl_29_0 _ _ _ _) rfl inX9_phases (by decide) lkX9_phases_102 dX9_phases_17 ?_
      refine Ev.icmpge (pc := 20) (tgt := 112) dX9_phases_20 (by decide) (fun c_2 => ?_) (fun c_2 => ?_)
      · have hr := ifp hr c_2
        refine Ev.iload_n (pc := 112) dX9_phases_112 rfl ?_
        cases hr
        exact Ev.iret rfl rfl dX9_phases_113 ⟨rfl, rfl⟩
      · have hr := ifn hr c_2
        refine Ev.iconst (pc := 23) (v := nI 1) dX9_phases_23 (by decide) ?_
        refine Ev.istore_n (pc := 24) dX9_phases_24 rfl rfl ?_
        refine Ev.iconst (pc := 25) (v := nI 0) dX9_phases_25 (by decide) ?_
        refine Ev.istore (pc := 26) dX9_phases_26 rfl rfl ?_
        obtain ⟨x_2, hx_2, hr⟩ := Option.bind_eq_some_iff.mp hr
        refine kX9_phases_28 _ _ _ _ _ _ _ _ 100 _ _ hx_2 ?_
        refine Ev.iload_n (pc := 92) dX9_phases_92 rfl ?_
        refine Ev.iload_n (pc := 93) dX9_phases_93 rfl ?_
        refine Ev.ifeq (pc := 94) (tgt := 103) dX9_phases_94 (by decide) (fun c_11 => ?_) (fun c_11 => ?_)
        · have hr := ifp hr c_11
          refine Ev.iconst (pc := 103) (v := nI 0) dX9_phases_103 (by decide) ?_
          refine Ev.ior (pc := 104) dX9_phases_104 ?_
          refine Ev.istore_n (pc := 105) dX9_phases_105 rfl rfl ?_
          refine Ev.iinc (pc := 106) (v := nI 1) dX9_phases_106 rfl rfl rfl rfl ?_
          refine Ev.goto (pc := 109) (tgt := 4) dX9_phases_109 (by decide) ?_
          refine Ev_drop 3 ?_
          refine Ev_drop 4 ?_
          exact ih _ _ hr
        · have hr := ifn hr c_11
          refine Ev.iconst (pc := 97) (v := nI 1) dX9_phases_97 (by decide) ?_
          refine Ev.iload_n (pc := 98) dX9_phases_98 rfl ?_
          refine Ev.ishl (pc := 99) dX9_phases_99 ?_
          refine Ev.goto (pc := 100) (tgt := 104) dX9_phases_100 (by decide) ?_
          refine Ev.ior (pc := 104) dX9_phases_104 ?_
          refine Ev.istore_n (pc := 105) dX9_phases_105 rfl rfl ?_
          refine Ev.iinc (pc := 106) (v := nI 1) dX9_phases_106 rfl rfl rfl rfl ?_
          refine Ev.goto (pc := 109) (tgt := 4) dX9_phases_109 (by decide) ?_
          refine Ev_drop 3 ?_
          refine Ev_drop 4 ?_
          exact ih _ _ hr
    · have hr := ifp hr c_1
      refine Ev.iconst (pc := 12) (v := nI 1) dX9_phases_12 (by decide) ?_
      refine Ev.goto (pc := 13) (tgt := 20) dX9_phases_13 (by decide) ?_
      refine Ev.icmpge (pc := 20) (tgt := 112) dX9_phases_20 (by decide) (fun c_12 => ?_) (fun c_12 => ?_)
      · have hr := ifp hr c_12
        refine Ev.iload_n (pc := 112) dX9_phases_112 rfl ?_
        cases hr
        exact Ev.iret rfl rfl dX9_phases_113 ⟨rfl, rfl⟩
      · have hr := ifn hr c_12
        refine Ev.iconst (pc := 23) (v := nI 1) dX9_phases_23 (by decide) ?_
        refine Ev.istore_n (pc := 24) dX9_phases_24 rfl rfl ?_
        refine Ev.iconst (pc := 25) (v := nI 0) dX9_phases_25 (by decide) ?_
        refine Ev.istore (pc := 26) dX9_phases_26 rfl rfl ?_
        obtain ⟨x_3, hx_3, hr⟩ := Option.bind_eq_some_iff.mp hr
        refine kX9_phases_28 _ _ _ _ _ _ _ _ 100 _ _ hx_3 ?_
        refine Ev.iload_n (pc := 92) dX9_phases_92 rfl ?_
        refine Ev.iload_n (pc := 93) dX9_phases_93 rfl ?_
        refine Ev.ifeq (pc := 94) (tgt := 103) dX9_phases_94 (by decide) (fun c_13 => ?_) (fun c_13 => ?_)
        · have hr := ifp hr c_13
          refine Ev.iconst (pc := 103) (v := nI 0) dX9_phases_103 (by decide) ?_
          refine Ev.ior (pc := 104) dX9_phases_104 ?_
          refine Ev.istore_n (pc := 105) dX9_phases_105 rfl rfl ?_
          refine Ev.iinc (pc := 106) (v := nI 1) dX9_phases_106 rfl rfl rfl rfl ?_
          refine Ev.goto (pc := 109) (tgt := 4) dX9_phases_109 (by decide) ?_
          refine Ev_drop 3 ?_
          refine Ev_drop 4 ?_
          exact ih _ _ hr
        · have hr := ifn hr c_13
          refine Ev.iconst (pc := 97) (v := nI 1) dX9_phases_97 (by decide) ?_
          refine Ev.iload_n (pc := 98) dX9_phases_98 rfl ?_
          refine Ev.ishl (pc := 99) dX9_phases_99 ?_
          refine Ev.goto (pc := 100) (tgt := 104) dX9_phases_100 (by decide) ?_
          refine Ev.ior (pc := 104) dX9_phases_104 ?_
          refine Ev.istore_n (pc := 105) dX9_phases_105 rfl rfl ?_
          refine Ev.iinc (pc := 106) (v := nI 1) dX9_phases_106 rfl rfl rfl rfl ?_
          refine Ev.goto (pc := 109) (tgt := 4) dX9_phases_109 (by decide) ?_
          refine Ev_drop 3 ?_
          refine Ev_drop 4 ?_
          exact ih _ _ hr
def sX9_phases (g2 : Hg) : Option (Int32) := sX9_phases_4 g2 100 (nI 0) (nI 0)
set_option maxRecDepth 20000 in
set_option maxHeartbeats 1000000 in
theorem kX9_phases (g : Hg) (q : Int64) (g2 : Hg) (q2 : Int64) {r : Int32} (hr : sX9_phases g2 = some r) : CtI MX9_phases [.ref 29] (g, q, g2, q2) (fun x h' => x = r ∧ h' = (g, q, g2, q2)) := by
  unfold sX9_phases at hr
  refine CtI_L 4 rfl (by decide +kernel) rfl (Nat.le_of_ble_eq_true rfl) ?_
  show Ev _ _ 0 [some (.ref 29), none, none, none, none] [] _
  refine Ev.iconst (pc := 0) (v := nI 0) dX9_phases_0 (by decide) ?_
  refine Ev.istore_n (pc := 1) dX9_phases_1 rfl rfl ?_
  refine Ev.iconst (pc := 2) (v := nI 0) dX9_phases_2 (by decide) ?_
  refine Ev.istore_n (pc := 3) dX9_phases_3 rfl rfl ?_
  exact kX9_phases_4 _ _ _ _  _ 100 _ _ hr
/-! X9_factorial -/
def sX9_factorial_4 (v0 : Int32) : Nat → Int32 → Int32 → Option (Int32)
  | 0, _, _ => none
  | n + 1, v1, v2 => if v0 < v2 then (some v1) else (sX9_factorial_4 v0 n (v1 * v2) (v2 + (nI 1)))
set_option maxRecDepth 20000 in
set_option maxHeartbeats 1000000 in
theorem kX9_factorial_4 (g : Hg) (q : Int64) (g2 : Hg) (q2 : Int64)  (v0 : Int32) (r : Int32) : ∀ (n : Nat) (v1 : Int32) (v2 : Int32), sX9_factorial_4 v0 n v1 v2 = some r → Ev (Xi (fun x h' => x = r ∧ h' = (g, q, g2, q2))) MX9_factorial 4 [some (.int v0), some (.int v1), some (.int v2)] [] (g, q, g2, q2) := by
  intro n
  induction n with
  | zero => intro _ _ hr; cases hr
  | succ n ih =>
    intro v1 v2 hr
    rw [sX9_factorial_4] at hr
    refine Ev.iload_n (pc := 4) dX9_factorial_4 rfl ?_
    refine Ev.iload_n (pc := 5) dX9_factorial_5 rfl ?_
    refine Ev.icmpgt (pc := 6) (tgt := 19) dX9_factorial_6 (by decide) (fun c_1 => ?_) (fun c_1 => ?_)
    · have hr := ifp hr c_1
      refine Ev.iload_n (pc := 19) dX9_factorial_19 rfl ?_
      cases hr
      exact Ev.iret rfl rfl dX9_factorial_20 ⟨rfl, rfl⟩
    · have hr := ifn hr c_1
      refine Ev.iload_n (pc := 9) dX9_factorial_9 rfl ?_
      refine Ev.iload_n (pc := 10) dX9_factorial_10 rfl ?_
      refine Ev.imul (pc := 11) dX9_factorial_11 ?_
      refine Ev.istore_n (pc := 12) dX9_factorial_12 rfl rfl ?_
      refine Ev.iinc (pc := 13) (v := nI 1) dX9_factorial_13 rfl rfl rfl rfl ?_
      refine Ev.goto (pc := 16) (tgt := 4) dX9_factorial_16 (by decide) ?_
      exact ih _ _ hr
def sX9_factorial (a1 : Int32) : Option (Int32) := sX9_factorial_4 a1 100 (nI 1) (nI 2)
set_option maxRecDepth 20000 in
set_option maxHeartbeats 1000000 in
theorem kX9_factorial (g : Hg) (q : Int64) (g2 : Hg) (q2 : Int64) (a1 : Int32) {r : Int32} (hr : sX9_factorial a1 = some r) : CtI MX9_factorial [.int a1] (g, q, g2, q2) (fun x h' => x = r ∧ h' = (g, q, g2, q2)) := by
  unfold sX9_factorial at hr
  refine CtI_L 2 rfl (by decide +kernel) rfl (Nat.le_of_ble_eq_true rfl) ?_
  show Ev _ _ 0 [some (.int a1), none, none] [] _
  refine Ev.iconst (pc := 0) (v := nI 1) dX9_factorial_0 (by decide) ?_
  refine Ev.istore_n (pc := 1) dX9_factorial_1 rfl rfl ?_
  refine Ev.iconst (pc := 2) (v := nI 2) dX9_factorial_2 (by decide) ?_
  refine Ev.istore_n (pc := 3) dX9_factorial_3 rfl rfl ?_
  exact kX9_factorial_4 _ _ _ _ _ _ 100 _ _ hr
/-! X9_common -/
def sX9_common_13 (v0 : Int32) (v1 : Int32) : Nat → Int32 → Int32 → Option (Int32)
  | 0, _, _ => none
  | n + 1, v2, v3 => if v3 = 0 then (some v2) else (if nz v3 = true then (sX9_common_13 v0 v1 n v3 (v2 - v2 / v3 * v3)) else none)
set_option maxRecDepth 20000 in
set_option maxHeartbeats 1000000 in
theorem kX9_common_13 (g : Hg) (q : Int64) (g2 : Hg) (q2 : Int64)  (v0 : Int32) (v1 : Int32) (r : Int32) : ∀ (n : Nat) (v2 : Int32) (v3 : Int32), sX9_common_13 v0 v1 n v2 v3 = some r → Ev (Xi (fun x h' => x = r ∧ h' = (g, q, g2, q2))) MX9_common 13 [some (.int v0), some (.int v1), some (.int v2), some (.int v3), none] [] (g, q, g2, q2) := by
  intro n
  induction n with
  | zero => intro _ _ hr; cases hr
  | succ n ih =>
    intro v2 v3 hr
    rw [sX9_common_13] at hr
    refine Ev.iload_n (pc := 13) dX9_common_13 rfl ?_
    refine Ev.ifeq (pc := 14) (tgt := 30) dX9_common_14 (by decide) (fun c_2 => ?_) (fun c_2 => ?_)
    · have hr := ifp hr c_2
      refine Ev.iload_n (pc := 30) dX9_common_30 rfl ?_
      cases hr
      exact Ev.iret rfl rfl dX9_common_31 ⟨rfl, rfl⟩
    · have hr := ifn hr c_2
      refine Ev.iload_n (pc := 17) dX9_common_17 rfl ?_
      refine Ev.iload_n (pc := 18) dX9_common_18 rfl ?_
      obtain ⟨c_3, hr⟩ := ckB hr
      refine Ev.irem (pc := 19) dX9_common_19 (nz_ne c_3) ?_
      refine Ev.istore (pc := 20) dX9_common_20 rfl rfl ?_
      refine Ev.iload_n (pc := 22) dX9_common_22 rfl ?_
      refine Ev.istore_n (pc := 23) dX9_common_23 rfl rfl ?_
      refine Ev.iload (pc := 24) dX9_common_24 rfl ?_
      refine Ev.istore_n (pc := 26) dX9_common_26 rfl rfl ?_
      refine Ev.goto (pc := 27) (tgt := 13) dX9_common_27 (by decide) ?_
      refine Ev_drop 4 ?_
      exact ih _ _ hr
def sX9_common (a1 : Int32) (a2 : Int32) : Option (Int32) := if 0 ≤ a1 then (sX9_common_13 a1 a2 100 a1 a2) else (sX9_common_13 a1 a2 100 (-a1) a2)
set_option maxRecDepth 20000 in
set_option maxHeartbeats 1000000 in
theorem kX9_common (g : Hg) (q : Int64) (g2 : Hg) (q2 : Int64) (a1 : Int32) (a2 : Int32) {r : Int32} (hr : sX9_common a1 a2 = some r) : CtI MX9_common [.int a1, .int a2] (g, q, g2, q2) (fun x h' => x = r ∧ h' = (g, q, g2, q2)) := by
  unfold sX9_common at hr
  refine CtI_L 3 rfl (by decide +kernel) rfl (Nat.le_of_ble_eq_true rfl) ?_
  show Ev _ _ 0 [some (.int a1), some (.int a2), none, none, none] [] _
  refine Ev.iload_n (pc := 0) dX9_common_0 rfl ?_
  refine Ev.ifge (pc := 1) (tgt := 9) dX9_common_1 (by decide) (fun c_1 => ?_) (fun c_1 => ?_)
  · have hr := ifp hr c_1
    refine Ev.iload_n (pc := 9) dX9_common_9 rfl ?_
    refine Ev.istore_n (pc := 10) dX9_common_10 rfl rfl ?_
    refine Ev.iload_n (pc := 11) dX9_common_11 rfl ?_
    refine Ev.istore_n (pc := 12) dX9_common_12 rfl rfl ?_
    exact kX9_common_13 _ _ _ _ _ _ _ 100 _ _ hr
  · have hr := ifn hr c_1
    refine Ev.iload_n (pc := 4) dX9_common_4 rfl ?_
    refine Ev.ineg (pc := 5) dX9_common_5 ?_
    refine Ev.goto (pc := 6) (tgt := 10) dX9_common_6 (by decide) ?_
    refine Ev.istore_n (pc := 10) dX9_common_10 rfl rfl ?_
    refine Ev.iload_n (pc := 11) dX9_common_11 rfl ?_
    refine Ev.istore_n (pc := 12) dX9_common_12 rfl rfl ?_
    exact kX9_common_13 _ _ _ _ _ _ _ 100 _ _ hr
/-! X9_gotBy -/
def sX9_gotBy_4 (g2 : Hg) (v1 : Int32) : Nat → Int32 → Int32 → Option (Int32)
  | 0, _, _ => none
  | n + 1, v2, v3 => if (g2 29 2) ≤ v3 then ((sX9_ones v2).bind fun x_1 => (some x_1)) else (if (sX9_has v1 v3) = true then (if inb v3 4 = true then (sX9_gotBy_4 g2 v1 n (v2 ||| (g2 45 (Int32.toNatClampNeg v3))) (v3 + (nI 1))) else none) else (sX9_gotBy_4 g2 v1 n (v2 ||| (nI 0)) (v3 + (nI 1))))
set_option maxRecDepth 20000 in
set_option maxHeartbeats 1000000 in
theorem kX9_gotBy_4 (g : Hg) (q : Int64) (g2 : Hg) (q2 : Int64)  (v1 : Int32) (r : Int32) : ∀ (n : Nat) (v2 : Int32) (v3 : Int32), sX9_gotBy_4 g2 v1 n v2 v3 = some r → Ev (Xi (fun x h' => x = r ∧ h' = (g, q, g2, q2))) MX9_gotBy 4 [some (.ref 29), some (.int v1), some (.int v2), some (.int v3)] [] (g, q, g2, q2) := by
  intro n
  induction n with
  | zero => intro _ _ hr; cases hr
  | succ n ih =>
    intro v2 v3 hr
    rw [sX9_gotBy_4] at hr
    refine Ev.iload_n (pc := 4) dX9_gotBy_4 rfl ?_
    refine Ev.aload_n (pc := 5) dX9_gotBy_5 rfl ?_
    refine Ev.get (pc := 6) (C0 := RX9) (T := TX9) (N := 31) (fl_29_2 _ _ _ _) rfl inX9_gotBy (by decide) lkX9_gotBy_108 dX9_gotBy_6 ?_
    refine Ev.icmpge (pc := 9) (tgt := 39) dX9_gotBy_9 (by decide) (fun c_1 => ?_) (fun c_1 => ?_)
    · have hr := ifp hr c_1
      refine Ev.iload_n (pc := 39) dX9_gotBy_39 rfl ?_
      obtain ⟨x_1, hx_1, hr⟩ := Option.bind_eq_some_iff.mp hr
      refine Ev.cSi (pc := 40) (As := [.int _]) (kX9_ones _ _ _ _ _ hx_1) rfl gX9_gotBy_X9_ones hdX9_ones rfl ⟨rfl, rfl⟩ ⟨Nat.le_of_ble_eq_true rfl, Nat.le_of_ble_eq_true rfl⟩ (Nat.le_of_ble_eq_true rfl) ⟨Nat.le_of_ble_eq_true rfl, Nat.le_of_ble_eq_true rfl⟩ dX9_gotBy_40 ?_
      cases hr
      exact Ev.iret rfl rfl dX9_gotBy_43 ⟨rfl, rfl⟩
    · have hr := ifn hr c_1
      refine Ev.iload_n (pc := 12) dX9_gotBy_12 rfl ?_
      refine Ev.iload_n (pc := 13) dX9_gotBy_13 rfl ?_
      refine Ev.iload_n (pc := 14) dX9_gotBy_14 rfl ?_
      refine Ev.cSi (pc := 15) (As := [.int _, .int _]) (kX9_has _ _ _ _ _ _) rfl gX9_gotBy_X9_has hdX9_has rfl ⟨rfl, rfl⟩ ⟨Nat.le_of_ble_eq_true rfl, Nat.le_of_ble_eq_true rfl⟩ (Nat.le_of_ble_eq_true rfl) ⟨Nat.le_of_ble_eq_true rfl, Nat.le_of_ble_eq_true rfl⟩ dX9_gotBy_15 ?_
      refine Ev.ifeqB (pc := 18) (tgt := 30) dX9_gotBy_18 (by decide) (fun c_2 => ?_) (fun c_2 => ?_)
      · have hr := ifn hr (ntr c_2)
        refine Ev.iconst (pc := 30) (v := nI 0) dX9_gotBy_30 (by decide) ?_
        refine Ev.ior (pc := 31) dX9_gotBy_31 ?_
        refine Ev.istore_n (pc := 32) dX9_gotBy_32 rfl rfl ?_
        refine Ev.iinc (pc := 33) (v := nI 1) dX9_gotBy_33 rfl rfl rfl rfl ?_
        refine Ev.goto (pc := 36) (tgt := 4) dX9_gotBy_36 (by decide) ?_
        exact ih _ _ hr
      · have hr := ifp hr c_2
        refine Ev.aload_n (pc := 21) dX9_gotBy_21 rfl ?_
        refine Ev.get (pc := 22) (C0 := RX9) (T := TX9) (N := 31) (fl_29_27 _ _ _ _) rfl inX9_gotBy (by decide) lkX9_gotBy_55 dX9_gotBy_22 ?_
        refine Ev.iload_n (pc := 25) dX9_gotBy_25 rfl ?_
        obtain ⟨c_3, hr⟩ := ckB hr
        refine Ev.iald (pc := 26) (ar_45 _ _ _ _) (inb_in c_3) dX9_gotBy_26 ?_
        refine Ev.goto (pc := 27) (tgt := 31) dX9_gotBy_27 (by decide) ?_
        refine Ev.ior (pc := 31) dX9_gotBy_31 ?_
        refine Ev.istore_n (pc := 32) dX9_gotBy_32 rfl rfl ?_
        refine Ev.iinc (pc := 33) (v := nI 1) dX9_gotBy_33 rfl rfl rfl rfl ?_
        refine Ev.goto (pc := 36) (tgt := 4) dX9_gotBy_36 (by decide) ?_
        exact ih _ _ hr
def sX9_gotBy (g2 : Hg) (a1 : Int32) : Option (Int32) := sX9_gotBy_4 g2 a1 100 (nI 0) (nI 0)
set_option maxRecDepth 20000 in
set_option maxHeartbeats 1000000 in
theorem kX9_gotBy (g : Hg) (q : Int64) (g2 : Hg) (q2 : Int64) (a1 : Int32) {r : Int32} (hr : sX9_gotBy g2 a1 = some r) : CtI MX9_gotBy [.ref 29, .int a1] (g, q, g2, q2) (fun x h' => x = r ∧ h' = (g, q, g2, q2)) := by
  unfold sX9_gotBy at hr
  refine CtI_L 2 rfl (by decide +kernel) rfl (Nat.le_of_ble_eq_true rfl) ?_
  show Ev _ _ 0 [some (.ref 29), some (.int a1), none, none] [] _
  refine Ev.iconst (pc := 0) (v := nI 0) dX9_gotBy_0 (by decide) ?_
  refine Ev.istore_n (pc := 1) dX9_gotBy_1 rfl rfl ?_
  refine Ev.iconst (pc := 2) (v := nI 0) dX9_gotBy_2 (by decide) ?_
  refine Ev.istore_n (pc := 3) dX9_gotBy_3 rfl rfl ?_
  exact kX9_gotBy_4 _ _ _ _ _ _ 100 _ _ hr
/-! X9_share -/
def sX9_share_44 (g2 : Hg) (v1 : Int32) (v2 : Int32) : Nat → Int32 → Int32 → Option (Int32 × Hg)
  | 0, _, _ => none
  | n + 1, v3, v4 => if ((nI 1) <<< ((g2 29 2) &&& 31)) ≤ v4 then ((sX9_factorial (g2 29 2)).bind fun x_1 => ((sX9_common v3 x_1).bind fun x_2 => (if v2 = 0 then ((sX9_factorial (g2 29 2)).bind fun x_3 => (if nz x_2 = true then (some (x_3 / x_2, g2)) else none)) else (if nz x_2 = true then (some (v3 / x_2, g2)) else none)))) else (if (sX9_has v4 v1) = true then (sX9_share_44 g2 v1 v2 n v3 (v4 + (nI 1))) else ((sX9_ones v4).bind fun x_4 => ((sX9_factorial x_4).bind fun x_5 => ((sX9_ones v4).bind fun x_6 => ((sX9_factorial (((g2 29 2) - (nI 1)) - x_6)).bind fun x_7 => ((sX9_gotBy g2 (v4 ||| ((nI 1) <<< (v1 &&& 31)))).bind fun x_8 => ((sX9_gotBy g2 v4).bind fun x_9 => (sX9_share_44 g2 v1 v2 n (v3 + ((x_5 * x_7) * (x_8 - x_9))) (v4 + (nI 1))))))))))
set_option maxRecDepth 20000 in
set_option maxHeartbeats 1000000 in
theorem kX9_share_44 (g : Hg) (q : Int64) (g2 : Hg) (q2 : Int64)  (v1 : Int32) (v2 : Int32) (r : Int32 × Hg) : ∀ (n : Nat) (v3 : Int32) (v4 : Int32), sX9_share_44 g2 v1 v2 n v3 v4 = some r → Ev (Xi (fun x h' => x = r.1 ∧ h' = (g, q, r.2, q2))) MX9_share 44 [some (.ref 29), some (.int v1), some (.int v2), some (.int v3), some (.int v4), none] [] (g, q, g2, q2) := by
  intro n
  induction n with
  | zero => intro _ _ hr; cases hr
  | succ n ih =>
    intro v3 v4 hr
    rw [sX9_share_44] at hr
    refine Ev.iload (pc := 44) dX9_share_44 rfl ?_
    refine Ev.iconst (pc := 46) (v := nI 1) dX9_share_46 (by decide) ?_
    refine Ev.aload_n (pc := 47) dX9_share_47 rfl ?_
    refine Ev.get (pc := 48) (C0 := RX9) (T := TX9) (N := 31) (fl_29_2 _ _ _ _) rfl inX9_share (by decide) lkX9_share_108 dX9_share_48 ?_
    refine Ev.ishl (pc := 51) dX9_share_51 ?_
    refine Ev.icmpge (pc := 52) (tgt := 119) dX9_share_52 (by decide) (fun c_3 => ?_) (fun c_3 => ?_)
    · have hr := ifp hr c_3
      refine Ev.iload_n (pc := 119) dX9_share_119 rfl ?_
      refine Ev.aload_n (pc := 120) dX9_share_120 rfl ?_
      refine Ev.get (pc := 121) (C0 := RX9) (T := TX9) (N := 31) (fl_29_2 _ _ _ _) rfl inX9_share (by decide) lkX9_share_108 dX9_share_121 ?_
      obtain ⟨x_1, hx_1, hr⟩ := Option.bind_eq_some_iff.mp hr
      refine Ev.cSi (pc := 124) (As := [.int _]) (kX9_factorial _ _ _ _ _ hx_1) rfl gX9_share_X9_factorial hdX9_factorial rfl ⟨rfl, rfl⟩ ⟨Nat.le_of_ble_eq_true rfl, Nat.le_of_ble_eq_true rfl⟩ (Nat.le_of_ble_eq_true rfl) ⟨Nat.le_of_ble_eq_true rfl, Nat.le_of_ble_eq_true rfl⟩ dX9_share_124 ?_
      obtain ⟨x_2, hx_2, hr⟩ := Option.bind_eq_some_iff.mp hr
      refine Ev.cSi (pc := 127) (As := [.int _, .int _]) (kX9_common _ _ _ _ _ _ hx_2) rfl gX9_share_X9_common hdX9_common rfl ⟨rfl, rfl⟩ ⟨Nat.le_of_ble_eq_true rfl, Nat.le_of_ble_eq_true rfl⟩ (Nat.le_of_ble_eq_true rfl) ⟨Nat.le_of_ble_eq_true rfl, Nat.le_of_ble_eq_true rfl⟩ dX9_share_127 ?_
      refine Ev.istore (pc := 130) dX9_share_130 rfl rfl ?_
      refine Ev.iload_n (pc := 132) dX9_share_132 rfl ?_
      refine Ev.ifeq (pc := 133) (tgt := 143) dX9_share_133 (by decide) (fun c_4 => ?_) (fun c_4 => ?_)
      · have hr := ifp hr c_4
        refine Ev.aload_n (pc := 143) dX9_share_143 rfl ?_
        refine Ev.get (pc := 144) (C0 := RX9) (T := TX9) (N := 31) (fl_29_2 _ _ _ _) rfl inX9_share (by decide) lkX9_share_108 dX9_share_144 ?_
        obtain ⟨x_3, hx_3, hr⟩ := Option.bind_eq_some_iff.mp hr
        refine Ev.cSi (pc := 147) (As := [.int _]) (kX9_factorial _ _ _ _ _ hx_3) rfl gX9_share_X9_factorial hdX9_factorial rfl ⟨rfl, rfl⟩ ⟨Nat.le_of_ble_eq_true rfl, Nat.le_of_ble_eq_true rfl⟩ (Nat.le_of_ble_eq_true rfl) ⟨Nat.le_of_ble_eq_true rfl, Nat.le_of_ble_eq_true rfl⟩ dX9_share_147 ?_
        refine Ev.iload (pc := 150) dX9_share_150 rfl ?_
        obtain ⟨c_5, hr⟩ := ckB hr
        refine Ev.idiv (pc := 152) dX9_share_152 (nz_ne c_5) ?_
        cases hr
        exact Ev.iret rfl rfl dX9_share_153 ⟨rfl, rfl⟩
      · have hr := ifn hr c_4
        refine Ev.iload_n (pc := 136) dX9_share_136 rfl ?_
        refine Ev.iload (pc := 137) dX9_share_137 rfl ?_
        obtain ⟨c_6, hr⟩ := ckB hr
        refine Ev.idiv (pc := 139) dX9_share_139 (nz_ne c_6) ?_
        refine Ev.goto (pc := 140) (tgt := 153) dX9_share_140 (by decide) ?_
        cases hr
        exact Ev.iret rfl rfl dX9_share_153 ⟨rfl, rfl⟩
    · have hr := ifn hr c_3
      refine Ev.iload (pc := 55) dX9_share_55 rfl ?_
      refine Ev.iload_n (pc := 57) dX9_share_57 rfl ?_
      refine Ev.cSi (pc := 58) (As := [.int _, .int _]) (kX9_has _ _ _ _ _ _) rfl gX9_share_X9_has hdX9_has rfl ⟨rfl, rfl⟩ ⟨Nat.le_of_ble_eq_true rfl, Nat.le_of_ble_eq_true rfl⟩ (Nat.le_of_ble_eq_true rfl) ⟨Nat.le_of_ble_eq_true rfl, Nat.le_of_ble_eq_true rfl⟩ dX9_share_58 ?_
      refine Ev.ifneB (pc := 61) (tgt := 113) dX9_share_61 (by decide) (fun c_7 => ?_) (fun c_7 => ?_)
      · have hr := ifp hr c_7
        refine Ev.iinc (pc := 113) (v := nI 1) dX9_share_113 rfl rfl rfl rfl ?_
        refine Ev.goto (pc := 116) (tgt := 44) dX9_share_116 (by decide) ?_
        exact ih _ _ hr
      · have hr := ifn hr (ntr c_7)
        refine Ev.iload (pc := 64) dX9_share_64 rfl ?_
        obtain ⟨x_4, hx_4, hr⟩ := Option.bind_eq_some_iff.mp hr
        refine Ev.cSi (pc := 66) (As := [.int _]) (kX9_ones _ _ _ _ _ hx_4) rfl gX9_share_X9_ones hdX9_ones rfl ⟨rfl, rfl⟩ ⟨Nat.le_of_ble_eq_true rfl, Nat.le_of_ble_eq_true rfl⟩ (Nat.le_of_ble_eq_true rfl) ⟨Nat.le_of_ble_eq_true rfl, Nat.le_of_ble_eq_true rfl⟩ dX9_share_66 ?_
        obtain ⟨x_5, hx_5, hr⟩ := Option.bind_eq_some_iff.mp hr
        refine Ev.cSi (pc := 69) (As := [.int _]) (kX9_factorial _ _ _ _ _ hx_5) rfl gX9_share_X9_factorial hdX9_factorial rfl ⟨rfl, rfl⟩ ⟨Nat.le_of_ble_eq_true rfl, Nat.le_of_ble_eq_true rfl⟩ (Nat.le_of_ble_eq_true rfl) ⟨Nat.le_of_ble_eq_true rfl, Nat.le_of_ble_eq_true rfl⟩ dX9_share_69 ?_
        refine Ev.aload_n (pc := 72) dX9_share_72 rfl ?_
        refine Ev.get (pc := 73) (C0 := RX9) (T := TX9) (N := 31) (fl_29_2 _ _ _ _) rfl inX9_share (by decide) lkX9_share_108 dX9_share_73 ?_
        refine Ev.iconst (pc := 76) (v := nI 1) dX9_share_76 (by decide) ?_
        refine Ev.isub (pc := 77) dX9_share_77 ?_
        refine Ev.iload (pc := 78) dX9_share_78 rfl ?_
        obtain ⟨x_6, hx_6, hr⟩ := Option.bind_eq_some_iff.mp hr
        refine Ev.cSi (pc := 80) (As := [.int _]) (kX9_ones _ _ _ _ _ hx_6) rfl gX9_share_X9_ones hdX9_ones rfl ⟨rfl, rfl⟩ ⟨Nat.le_of_ble_eq_true rfl, Nat.le_of_ble_eq_true rfl⟩ (Nat.le_of_ble_eq_true rfl) ⟨Nat.le_of_ble_eq_true rfl, Nat.le_of_ble_eq_true rfl⟩ dX9_share_80 ?_
        refine Ev.isub (pc := 83) dX9_share_83 ?_
        obtain ⟨x_7, hx_7, hr⟩ := Option.bind_eq_some_iff.mp hr
        refine Ev.cSi (pc := 84) (As := [.int _]) (kX9_factorial _ _ _ _ _ hx_7) rfl gX9_share_X9_factorial hdX9_factorial rfl ⟨rfl, rfl⟩ ⟨Nat.le_of_ble_eq_true rfl, Nat.le_of_ble_eq_true rfl⟩ (Nat.le_of_ble_eq_true rfl) ⟨Nat.le_of_ble_eq_true rfl, Nat.le_of_ble_eq_true rfl⟩ dX9_share_84 ?_
        refine Ev.imul (pc := 87) dX9_share_87 ?_
        refine Ev.istore (pc := 88) dX9_share_88 rfl rfl ?_
        refine Ev.iload_n (pc := 90) dX9_share_90 rfl ?_
        refine Ev.iload (pc := 91) dX9_share_91 rfl ?_
        refine Ev.aload_n (pc := 93) dX9_share_93 rfl ?_
        refine Ev.iload (pc := 94) dX9_share_94 rfl ?_
        refine Ev.iconst (pc := 96) (v := nI 1) dX9_share_96 (by decide) ?_
        refine Ev.iload_n (pc := 97) dX9_share_97 rfl ?_
        refine Ev.ishl (pc := 98) dX9_share_98 ?_
        refine Ev.ior (pc := 99) dX9_share_99 ?_
        obtain ⟨x_8, hx_8, hr⟩ := Option.bind_eq_some_iff.mp hr
        refine Ev.cVi (pc := 100) (As := [.int _]) (kX9_gotBy _ _ _ _ _ hx_8) rfl rfl (ob_29 _) gX9_share_X9_gotBy hdX9_gotBy rfl ⟨rfl, rfl⟩ ⟨Nat.le_of_ble_eq_true rfl, Nat.le_of_ble_eq_true rfl⟩ (Nat.le_of_ble_eq_true rfl) ⟨Nat.le_of_ble_eq_true rfl, Nat.le_of_ble_eq_true rfl⟩ dX9_share_100 ?_
        refine Ev.aload_n (pc := 103) dX9_share_103 rfl ?_
        refine Ev.iload (pc := 104) dX9_share_104 rfl ?_
        obtain ⟨x_9, hx_9, hr⟩ := Option.bind_eq_some_iff.mp hr
        refine Ev.cVi (pc := 106) (As := [.int _]) (kX9_gotBy _ _ _ _ _ hx_9) rfl rfl (ob_29 _) gX9_share_X9_gotBy hdX9_gotBy rfl ⟨rfl, rfl⟩ ⟨Nat.le_of_ble_eq_true rfl, Nat.le_of_ble_eq_true rfl⟩ (Nat.le_of_ble_eq_true rfl) ⟨Nat.le_of_ble_eq_true rfl, Nat.le_of_ble_eq_true rfl⟩ dX9_share_106 ?_
        refine Ev.isub (pc := 109) dX9_share_109 ?_
        refine Ev.imul (pc := 110) dX9_share_110 ?_
        refine Ev.iadd (pc := 111) dX9_share_111 ?_
        refine Ev.istore_n (pc := 112) dX9_share_112 rfl rfl ?_
        refine Ev.iinc (pc := 113) (v := nI 1) dX9_share_113 rfl rfl rfl rfl ?_
        refine Ev.goto (pc := 116) (tgt := 44) dX9_share_116 (by decide) ?_
        refine Ev_drop 5 ?_
        exact ih _ _ hr
def sX9_share_12 (v1 : Int32) (v2 : Int32) : Nat → Hg → Int32 → Option (Int32 × Hg)
  | 0, _, _ => none
  | n + 1, g2, v3 => if (g2 29 2) ≤ v3 then (sX9_share_44 g2 v1 v2 100 (nI 0) (nI 0)) else ((sX9_getsOf g2 v3 (nI 6)).bind fun x_10 => (if inb v3 4 = true then (sX9_share_12 v1 v2 n (stA g2 45 (Int32.toNatClampNeg v3) x_10) (v3 + (nI 1))) else none))
set_option maxRecDepth 20000 in
set_option maxHeartbeats 1000000 in
theorem kX9_share_12 (g : Hg) (q : Int64) (q2 : Int64)  (v1 : Int32) (v2 : Int32) (r : Int32 × Hg) : ∀ (n : Nat) (g2 : Hg) (v3 : Int32), sX9_share_12 v1 v2 n g2 v3 = some r → Ev (Xi (fun x h' => x = r.1 ∧ h' = (g, q, r.2, q2))) MX9_share 12 [some (.ref 29), some (.int v1), some (.int v2), some (.int v3), none, none] [] (g, q, g2, q2) := by
  intro n
  induction n with
  | zero => intro _ _ hr; cases hr
  | succ n ih =>
    intro g2 v3 hr
    rw [sX9_share_12] at hr
    refine Ev.iload_n (pc := 12) dX9_share_12 rfl ?_
    refine Ev.aload_n (pc := 13) dX9_share_13 rfl ?_
    refine Ev.get (pc := 14) (C0 := RX9) (T := TX9) (N := 31) (fl_29_2 _ _ _ _) rfl inX9_share (by decide) lkX9_share_108 dX9_share_14 ?_
    refine Ev.icmpge (pc := 17) (tgt := 39) dX9_share_17 (by decide) (fun c_2 => ?_) (fun c_2 => ?_)
    · have hr := ifp hr c_2
      refine Ev.iconst (pc := 39) (v := nI 0) dX9_share_39 (by decide) ?_
      refine Ev.istore_n (pc := 40) dX9_share_40 rfl rfl ?_
      refine Ev.iconst (pc := 41) (v := nI 0) dX9_share_41 (by decide) ?_
      refine Ev.istore (pc := 42) dX9_share_42 rfl rfl ?_
      exact kX9_share_44 _ _ _ _ _ _ _ 100 _ _ hr
    · have hr := ifn hr c_2
      refine Ev.aload_n (pc := 20) dX9_share_20 rfl ?_
      refine Ev.get (pc := 21) (C0 := RX9) (T := TX9) (N := 31) (fl_29_27 _ _ _ _) rfl inX9_share (by decide) lkX9_share_55 dX9_share_21 ?_
      refine Ev.iload_n (pc := 24) dX9_share_24 rfl ?_
      refine Ev.aload_n (pc := 25) dX9_share_25 rfl ?_
      refine Ev.iload_n (pc := 26) dX9_share_26 rfl ?_
      refine Ev.bipush (pc := 27) (v := nI 6) dX9_share_27 (by decide) ?_
      obtain ⟨x_10, hx_10, hr⟩ := Option.bind_eq_some_iff.mp hr
      refine Ev.cVi (pc := 29) (As := [.int _, .int _]) (kX9_getsOf _ _ _ _ _ _ hx_10) rfl rfl (ob_29 _) gX9_share_X9_getsOf hdX9_getsOf rfl ⟨rfl, rfl⟩ ⟨Nat.le_of_ble_eq_true rfl, Nat.le_of_ble_eq_true rfl⟩ (Nat.le_of_ble_eq_true rfl) ⟨Nat.le_of_ble_eq_true rfl, Nat.le_of_ble_eq_true rfl⟩ dX9_share_29 ?_
      obtain ⟨c_8, hr⟩ := ckB hr
      refine Ev.iast (pc := 32) (ar_45 _ _ _ _) (inb_in c_8) (se_45 _ _ _ _ _) dX9_share_32 ?_
      refine Ev.iinc (pc := 33) (v := nI 1) dX9_share_33 rfl rfl rfl rfl ?_
      refine Ev.goto (pc := 36) (tgt := 12) dX9_share_36 (by decide) ?_
      exact ih _ _ hr
def sX9_share (g2 : Hg) (a1 : Int32) (a2 : Int32) : Option (Int32 × Hg) := if (sX9_isLark g2 a1) = true then (sX9_share_12 a1 a2 100 g2 (nI 0)) else (some ((-1), g2))
set_option maxRecDepth 20000 in
set_option maxHeartbeats 1000000 in
theorem kX9_share (g : Hg) (q : Int64) (g2 : Hg) (q2 : Int64) (a1 : Int32) (a2 : Int32) {r : Int32 × Hg} (hr : sX9_share g2 a1 a2 = some r) : CtI MX9_share [.ref 29, .int a1, .int a2] (g, q, g2, q2) (fun x h' => x = r.1 ∧ h' = (g, q, r.2, q2)) := by
  unfold sX9_share at hr
  refine CtI_L 3 rfl (by decide +kernel) rfl (Nat.le_of_ble_eq_true rfl) ?_
  show Ev _ _ 0 [some (.ref 29), some (.int a1), some (.int a2), none, none, none] [] _
  refine Ev.aload_n (pc := 0) dX9_share_0 rfl ?_
  refine Ev.iload_n (pc := 1) dX9_share_1 rfl ?_
  refine Ev.cVi (pc := 2) (As := [.int _]) (kX9_isLark _ _ _ _ _) rfl rfl (ob_29 _) gX9_share_X9_isLark hdX9_isLark rfl ⟨rfl, rfl⟩ ⟨Nat.le_of_ble_eq_true rfl, Nat.le_of_ble_eq_true rfl⟩ (Nat.le_of_ble_eq_true rfl) ⟨Nat.le_of_ble_eq_true rfl, Nat.le_of_ble_eq_true rfl⟩ dX9_share_2 ?_
  refine Ev.ifneB (pc := 5) (tgt := 10) dX9_share_5 (by decide) (fun c_1 => ?_) (fun c_1 => ?_)
  · have hr := ifp hr c_1
    refine Ev.iconst (pc := 10) (v := nI 0) dX9_share_10 (by decide) ?_
    refine Ev.istore_n (pc := 11) dX9_share_11 rfl rfl ?_
    exact kX9_share_12 _ _ _ _ _ _ 100 _ _ hr
  · have hr := ifn hr (ntr c_1)
    refine Ev.iconst (pc := 8) (v := (-1)) dX9_share_8 (by decide) ?_
    cases hr
    exact Ev.iret rfl rfl dX9_share_9 ⟨rfl, rfl⟩
/-! X9_eldestAt -/
def sX9_eldestAt_12 (g2 : Hg) (v1 : Int32) (v2 : Int32) : Nat → Int32 → Int32 → Option (Int32)
  | 0, _, _ => none
  | n + 1, v3, v4 => if (g2 29 1) ≤ v4 then ((sX9_isBare g2 v1 (g2 35 (Int32.toNatClampNeg (nI 61)))).bind fun x_2 => (if x_2 = true then (some v3) else (some (nI 0)))) else (if (sX9_has v2 v4) = true then (if inb v4 5 = true then (if (g2 32 (Int32.toNatClampNeg v4)) ≤ v3 then (sX9_eldestAt_12 g2 v1 v2 n v3 (v4 + (nI 1))) else (if inb v4 5 = true then (sX9_eldestAt_12 g2 v1 v2 n (g2 32 (Int32.toNatClampNeg v4)) (v4 + (nI 1))) else none)) else none) else (sX9_eldestAt_12 g2 v1 v2 n v3 (v4 + (nI 1))))
set_option maxRecDepth 20000 in
set_option maxHeartbeats 1000000 in
theorem kX9_eldestAt_12 (g : Hg) (q : Int64) (g2 : Hg) (q2 : Int64)  (v1 : Int32) (v2 : Int32) (r : Int32) : ∀ (n : Nat) (v3 : Int32) (v4 : Int32), sX9_eldestAt_12 g2 v1 v2 n v3 v4 = some r → Ev (Xi (fun x h' => x = r ∧ h' = (g, q, g2, q2))) MX9_eldestAt 12 [some (.ref 29), some (.int v1), some (.int v2), some (.int v3), some (.int v4)] [] (g, q, g2, q2) := by
  intro n
  induction n with
  | zero => intro _ _ hr; cases hr
  | succ n ih =>
    intro v3 v4 hr
    rw [sX9_eldestAt_12] at hr
    refine Ev.iload (pc := 12) dX9_eldestAt_12 rfl ?_
    refine Ev.aload_n (pc := 14) dX9_eldestAt_14 rfl ?_
    refine Ev.get (pc := 15) (C0 := RX9) (T := TX9) (N := 31) (fl_29_1 _ _ _ _) rfl inX9_eldestAt (by decide) lkX9_eldestAt_105 dX9_eldestAt_15 ?_
    refine Ev.icmpge (pc := 18) (tgt := 59) dX9_eldestAt_18 (by decide) (fun c_1 => ?_) (fun c_1 => ?_)
    · have hr := ifp hr c_1
      refine Ev.aload_n (pc := 59) dX9_eldestAt_59 rfl ?_
      refine Ev.iload_n (pc := 60) dX9_eldestAt_60 rfl ?_
      refine Ev.aload_n (pc := 61) dX9_eldestAt_61 rfl ?_
      refine Ev.get (pc := 62) (C0 := RX9) (T := TX9) (N := 31) (fl_29_8 _ _ _ _) rfl inX9_eldestAt (by decide) lkX9_eldestAt_25 dX9_eldestAt_62 ?_
      refine Ev.bipush (pc := 65) (v := nI 61) dX9_eldestAt_65 (by decide) ?_
      refine Ev.iald (pc := 67) (ar_35 _ _ _ _) (vp_in_nI (n := 61) (N := 62) (by decide) (by decide)) dX9_eldestAt_67 ?_
      obtain ⟨x_2, hx_2, hr⟩ := Option.bind_eq_some_iff.mp hr
      refine Ev.cVi (pc := 68) (As := [.int _, .int _]) (kX9_isBare _ _ _ _ _ _ hx_2) rfl rfl (ob_29 _) gX9_eldestAt_X9_isBare hdX9_isBare rfl ⟨rfl, rfl⟩ ⟨Nat.le_of_ble_eq_true rfl, Nat.le_of_ble_eq_true rfl⟩ (Nat.le_of_ble_eq_true rfl) ⟨Nat.le_of_ble_eq_true rfl, Nat.le_of_ble_eq_true rfl⟩ dX9_eldestAt_68 ?_
      refine Ev.ifeqB (pc := 71) (tgt := 78) dX9_eldestAt_71 (by decide) (fun c_2 => ?_) (fun c_2 => ?_)
      · have hr := ifn hr (ntr c_2)
        refine Ev.iconst (pc := 78) (v := nI 0) dX9_eldestAt_78 (by decide) ?_
        cases hr
        exact Ev.iret rfl rfl dX9_eldestAt_79 ⟨rfl, rfl⟩
      · have hr := ifp hr c_2
        refine Ev.iload_n (pc := 74) dX9_eldestAt_74 rfl ?_
        refine Ev.goto (pc := 75) (tgt := 79) dX9_eldestAt_75 (by decide) ?_
        cases hr
        exact Ev.iret rfl rfl dX9_eldestAt_79 ⟨rfl, rfl⟩
    · have hr := ifn hr c_1
      refine Ev.iload_n (pc := 21) dX9_eldestAt_21 rfl ?_
      refine Ev.iload (pc := 22) dX9_eldestAt_22 rfl ?_
      refine Ev.cSi (pc := 24) (As := [.int _, .int _]) (kX9_has _ _ _ _ _ _) rfl gX9_eldestAt_X9_has hdX9_has rfl ⟨rfl, rfl⟩ ⟨Nat.le_of_ble_eq_true rfl, Nat.le_of_ble_eq_true rfl⟩ (Nat.le_of_ble_eq_true rfl) ⟨Nat.le_of_ble_eq_true rfl, Nat.le_of_ble_eq_true rfl⟩ dX9_eldestAt_24 ?_
      refine Ev.ifeqB (pc := 27) (tgt := 51) dX9_eldestAt_27 (by decide) (fun c_3 => ?_) (fun c_3 => ?_)
      · have hr := ifn hr (ntr c_3)
        refine Ev.iload_n (pc := 51) dX9_eldestAt_51 rfl ?_
        refine Ev.istore_n (pc := 52) dX9_eldestAt_52 rfl rfl ?_
        refine Ev.iinc (pc := 53) (v := nI 1) dX9_eldestAt_53 rfl rfl rfl rfl ?_
        refine Ev.goto (pc := 56) (tgt := 12) dX9_eldestAt_56 (by decide) ?_
        exact ih _ _ hr
      · have hr := ifp hr c_3
        refine Ev.aload_n (pc := 30) dX9_eldestAt_30 rfl ?_
        refine Ev.get (pc := 31) (C0 := RX9) (T := TX9) (N := 31) (fl_29_5 _ _ _ _) rfl inX9_eldestAt (by decide) lkX9_eldestAt_16 dX9_eldestAt_31 ?_
        refine Ev.iload (pc := 34) dX9_eldestAt_34 rfl ?_
        obtain ⟨c_4, hr⟩ := ckB hr
        refine Ev.iald (pc := 36) (ar_32 _ _ _ _) (inb_in c_4) dX9_eldestAt_36 ?_
        refine Ev.iload_n (pc := 37) dX9_eldestAt_37 rfl ?_
        refine Ev.icmple (pc := 38) (tgt := 51) dX9_eldestAt_38 (by decide) (fun c_5 => ?_) (fun c_5 => ?_)
        · have hr := ifp hr c_5
          refine Ev.iload_n (pc := 51) dX9_eldestAt_51 rfl ?_
          refine Ev.istore_n (pc := 52) dX9_eldestAt_52 rfl rfl ?_
          refine Ev.iinc (pc := 53) (v := nI 1) dX9_eldestAt_53 rfl rfl rfl rfl ?_
          refine Ev.goto (pc := 56) (tgt := 12) dX9_eldestAt_56 (by decide) ?_
          exact ih _ _ hr
        · have hr := ifn hr c_5
          refine Ev.aload_n (pc := 41) dX9_eldestAt_41 rfl ?_
          refine Ev.get (pc := 42) (C0 := RX9) (T := TX9) (N := 31) (fl_29_5 _ _ _ _) rfl inX9_eldestAt (by decide) lkX9_eldestAt_16 dX9_eldestAt_42 ?_
          refine Ev.iload (pc := 45) dX9_eldestAt_45 rfl ?_
          obtain ⟨c_6, hr⟩ := ckB hr
          refine Ev.iald (pc := 47) (ar_32 _ _ _ _) (inb_in c_6) dX9_eldestAt_47 ?_
          refine Ev.goto (pc := 48) (tgt := 52) dX9_eldestAt_48 (by decide) ?_
          refine Ev.istore_n (pc := 52) dX9_eldestAt_52 rfl rfl ?_
          refine Ev.iinc (pc := 53) (v := nI 1) dX9_eldestAt_53 rfl rfl rfl rfl ?_
          refine Ev.goto (pc := 56) (tgt := 12) dX9_eldestAt_56 (by decide) ?_
          exact ih _ _ hr
def sX9_eldestAt (g2 : Hg) (a1 : Int32) : Option (Int32) := (sX9_lieAt g2 (nI 1) a1).bind fun x_1 => (sX9_eldestAt_12 g2 a1 x_1 100 (nI 0) (nI 0))
set_option maxRecDepth 20000 in
set_option maxHeartbeats 1000000 in
theorem kX9_eldestAt (g : Hg) (q : Int64) (g2 : Hg) (q2 : Int64) (a1 : Int32) {r : Int32} (hr : sX9_eldestAt g2 a1 = some r) : CtI MX9_eldestAt [.ref 29, .int a1] (g, q, g2, q2) (fun x h' => x = r ∧ h' = (g, q, g2, q2)) := by
  unfold sX9_eldestAt at hr
  refine CtI_L 3 rfl (by decide +kernel) rfl (Nat.le_of_ble_eq_true rfl) ?_
  show Ev _ _ 0 [some (.ref 29), some (.int a1), none, none, none] [] _
  refine Ev.aload_n (pc := 0) dX9_eldestAt_0 rfl ?_
  refine Ev.iconst (pc := 1) (v := nI 1) dX9_eldestAt_1 (by decide) ?_
  refine Ev.iload_n (pc := 2) dX9_eldestAt_2 rfl ?_
  obtain ⟨x_1, hx_1, hr⟩ := Option.bind_eq_some_iff.mp hr
  refine Ev.cVi (pc := 3) (As := [.int _, .int _]) (kX9_lieAt _ _ _ _ _ _ hx_1) rfl rfl (ob_29 _) gX9_eldestAt_X9_lieAt hdX9_lieAt rfl ⟨rfl, rfl⟩ ⟨Nat.le_of_ble_eq_true rfl, Nat.le_of_ble_eq_true rfl⟩ (Nat.le_of_ble_eq_true rfl) ⟨Nat.le_of_ble_eq_true rfl, Nat.le_of_ble_eq_true rfl⟩ dX9_eldestAt_3 ?_
  refine Ev.istore_n (pc := 6) dX9_eldestAt_6 rfl rfl ?_
  refine Ev.iconst (pc := 7) (v := nI 0) dX9_eldestAt_7 (by decide) ?_
  refine Ev.istore_n (pc := 8) dX9_eldestAt_8 rfl rfl ?_
  refine Ev.iconst (pc := 9) (v := nI 0) dX9_eldestAt_9 (by decide) ?_
  refine Ev.istore (pc := 10) dX9_eldestAt_10 rfl rfl ?_
  exact kX9_eldestAt_12 _ _ _ _ _ _ _ 100 _ _ hr
/-! X9_gain -/
def sX9_gain_j132 (g2 : Hg) (v1 : Int32) (v2 : Int32) (v3 : Int32) (v4 : Int32) (v5 : Int32) (v6 : Int32) (v7 : Int32) (v8 : Int32) : Option (Int32 × Hg) := if v8 = 0 then (some ((nI 3) + (nI 0), g2)) else (if inb ((nI 31) + v6) 62 = true then ((sX9_eldestAt g2 (g2 35 (Int32.toNatClampNeg ((nI 31) + v6)))).bind fun x_5 => (some ((nI 3) + x_5, g2))) else none)
set_option maxRecDepth 20000 in
set_option maxHeartbeats 1000000 in
theorem kX9_gain_j132 (g : Hg) (q : Int64) (g2 : Hg) (q2 : Int64)  (v1 : Int32) (v2 : Int32) (v3 : Int32) (v4 : Int32) (v5 : Int32) (v6 : Int32) (v7 : Int32) (v8 : Int32) {r : Int32 × Hg} (hr : sX9_gain_j132 g2 v1 v2 v3 v4 v5 v6 v7 v8 = some r) : Ev (Xi (fun x h' => x = r.1 ∧ h' = (g, q, r.2, q2))) MX9_gain 132 [some (.ref 29), some (.int v1), some (.int v2), some (.int v3), some (.int v4), some (.int v5), some (.int v6), some (.int v7), some (.int v8)] [] (g, q, g2, q2) := by
  unfold sX9_gain_j132 at hr
  refine Ev.iconst (pc := 132) (v := nI 3) dX9_gain_132 (by decide) ?_
  refine Ev.iload (pc := 133) dX9_gain_133 rfl ?_
  refine Ev.ifeq (pc := 135) (tgt := 155) dX9_gain_135 (by decide) (fun c_7 => ?_) (fun c_7 => ?_)
  · have hr := ifp hr c_7
    refine Ev.iconst (pc := 155) (v := nI 0) dX9_gain_155 (by decide) ?_
    refine Ev.iadd (pc := 156) dX9_gain_156 ?_
    cases hr
    exact Ev.iret rfl rfl dX9_gain_157 ⟨rfl, rfl⟩
  · have hr := ifn hr c_7
    refine Ev.aload_n (pc := 138) dX9_gain_138 rfl ?_
    refine Ev.aload_n (pc := 139) dX9_gain_139 rfl ?_
    refine Ev.get (pc := 140) (C0 := RX9) (T := TX9) (N := 31) (fl_29_8 _ _ _ _) rfl inX9_gain (by decide) lkX9_gain_25 dX9_gain_140 ?_
    refine Ev.bipush (pc := 143) (v := nI 31) dX9_gain_143 (by decide) ?_
    refine Ev.iload (pc := 145) dX9_gain_145 rfl ?_
    refine Ev.iadd (pc := 147) dX9_gain_147 ?_
    obtain ⟨c_8, hr⟩ := ckB hr
    refine Ev.iald (pc := 148) (ar_35 _ _ _ _) (inb_in c_8) dX9_gain_148 ?_
    obtain ⟨x_5, hx_5, hr⟩ := Option.bind_eq_some_iff.mp hr
    refine Ev.cVi (pc := 149) (As := [.int _]) (kX9_eldestAt _ _ _ _ _ hx_5) rfl rfl (ob_29 _) gX9_gain_X9_eldestAt hdX9_eldestAt rfl ⟨rfl, rfl⟩ ⟨Nat.le_of_ble_eq_true rfl, Nat.le_of_ble_eq_true rfl⟩ (Nat.le_of_ble_eq_true rfl) ⟨Nat.le_of_ble_eq_true rfl, Nat.le_of_ble_eq_true rfl⟩ dX9_gain_149 ?_
    refine Ev.goto (pc := 152) (tgt := 156) dX9_gain_152 (by decide) ?_
    refine Ev.iadd (pc := 156) dX9_gain_156 ?_
    cases hr
    exact Ev.iret rfl rfl dX9_gain_157 ⟨rfl, rfl⟩
def sX9_gain_j70 (g2 : Hg) (v1 : Int32) (v2 : Int32) (v3 : Int32) (v4 : Int32) (v5 : Int32) (v6 : Int32) (v7 : Int32) : Option (Int32 × Hg) := if (sX9_has (g2 35 (Int32.toNatClampNeg (nI 59))) v6) = true then (some (nI 0, g2)) else (if (sX9_has (g2 35 (Int32.toNatClampNeg (nI 59))) v7) = true then (sX9_gain_j132 g2 v1 v2 v3 v4 v5 v6 v7 (nI 1)) else (if inb ((nI 31) + v6) 62 = true then (if inb ((nI 31) + v7) 62 = true then (if (g2 35 (Int32.toNatClampNeg ((nI 31) + v6))) = (g2 35 (Int32.toNatClampNeg ((nI 31) + v7))) then (sX9_gain_j132 g2 v1 v2 v3 v4 v5 v6 v7 (nI 0)) else (sX9_gain_j132 g2 v1 v2 v3 v4 v5 v6 v7 (nI 1))) else none) else none))
set_option maxRecDepth 20000 in
set_option maxHeartbeats 1000000 in
theorem kX9_gain_j70 (g : Hg) (q : Int64) (g2 : Hg) (q2 : Int64)  (v1 : Int32) (v2 : Int32) (v3 : Int32) (v4 : Int32) (v5 : Int32) (v6 : Int32) (v7 : Int32) {r : Int32 × Hg} (hr : sX9_gain_j70 g2 v1 v2 v3 v4 v5 v6 v7 = some r) : Ev (Xi (fun x h' => x = r.1 ∧ h' = (g, q, r.2, q2))) MX9_gain 70 [some (.ref 29), some (.int v1), some (.int v2), some (.int v3), some (.int v4), some (.int v5), some (.int v6), some (.int v7), none] [] (g, q, g2, q2) := by
  unfold sX9_gain_j70 at hr
  refine Ev.aload_n (pc := 70) dX9_gain_70 rfl ?_
  refine Ev.get (pc := 71) (C0 := RX9) (T := TX9) (N := 31) (fl_29_8 _ _ _ _) rfl inX9_gain (by decide) lkX9_gain_25 dX9_gain_71 ?_
  refine Ev.bipush (pc := 74) (v := nI 59) dX9_gain_74 (by decide) ?_
  refine Ev.iald (pc := 76) (ar_35 _ _ _ _) (vp_in_nI (n := 59) (N := 62) (by decide) (by decide)) dX9_gain_76 ?_
  refine Ev.iload (pc := 77) dX9_gain_77 rfl ?_
  refine Ev.cSi (pc := 79) (As := [.int _, .int _]) (kX9_has _ _ _ _ _ _) rfl gX9_gain_X9_has hdX9_has rfl ⟨rfl, rfl⟩ ⟨Nat.le_of_ble_eq_true rfl, Nat.le_of_ble_eq_true rfl⟩ (Nat.le_of_ble_eq_true rfl) ⟨Nat.le_of_ble_eq_true rfl, Nat.le_of_ble_eq_true rfl⟩ dX9_gain_79 ?_
  refine Ev.ifeqB (pc := 82) (tgt := 87) dX9_gain_82 (by decide) (fun c_5 => ?_) (fun c_5 => ?_)
  · have hr := ifn hr (ntr c_5)
    refine Ev.aload_n (pc := 87) dX9_gain_87 rfl ?_
    refine Ev.get (pc := 88) (C0 := RX9) (T := TX9) (N := 31) (fl_29_8 _ _ _ _) rfl inX9_gain (by decide) lkX9_gain_25 dX9_gain_88 ?_
    refine Ev.bipush (pc := 91) (v := nI 59) dX9_gain_91 (by decide) ?_
    refine Ev.iald (pc := 93) (ar_35 _ _ _ _) (vp_in_nI (n := 59) (N := 62) (by decide) (by decide)) dX9_gain_93 ?_
    refine Ev.iload (pc := 94) dX9_gain_94 rfl ?_
    refine Ev.cSi (pc := 96) (As := [.int _, .int _]) (kX9_has _ _ _ _ _ _) rfl gX9_gain_X9_has hdX9_has rfl ⟨rfl, rfl⟩ ⟨Nat.le_of_ble_eq_true rfl, Nat.le_of_ble_eq_true rfl⟩ (Nat.le_of_ble_eq_true rfl) ⟨Nat.le_of_ble_eq_true rfl, Nat.le_of_ble_eq_true rfl⟩ dX9_gain_96 ?_
    refine Ev.ifneB (pc := 99) (tgt := 125) dX9_gain_99 (by decide) (fun c_6 => ?_) (fun c_6 => ?_)
    · have hr := ifp hr c_6
      refine Ev.iconst (pc := 125) (v := nI 1) dX9_gain_125 (by decide) ?_
      refine Ev.goto (pc := 126) (tgt := 130) dX9_gain_126 (by decide) ?_
      refine Ev.istore (pc := 130) dX9_gain_130 rfl rfl ?_
      exact kX9_gain_j132 _ _ _ _ _ _ _ _ _ _ _ _ hr
    · have hr := ifn hr (ntr c_6)
      refine Ev.aload_n (pc := 102) dX9_gain_102 rfl ?_
      refine Ev.get (pc := 103) (C0 := RX9) (T := TX9) (N := 31) (fl_29_8 _ _ _ _) rfl inX9_gain (by decide) lkX9_gain_25 dX9_gain_103 ?_
      refine Ev.bipush (pc := 106) (v := nI 31) dX9_gain_106 (by decide) ?_
      refine Ev.iload (pc := 108) dX9_gain_108 rfl ?_
      refine Ev.iadd (pc := 110) dX9_gain_110 ?_
      obtain ⟨c_9, hr⟩ := ckB hr
      refine Ev.iald (pc := 111) (ar_35 _ _ _ _) (inb_in c_9) dX9_gain_111 ?_
      refine Ev.aload_n (pc := 112) dX9_gain_112 rfl ?_
      refine Ev.get (pc := 113) (C0 := RX9) (T := TX9) (N := 31) (fl_29_8 _ _ _ _) rfl inX9_gain (by decide) lkX9_gain_25 dX9_gain_113 ?_
      refine Ev.bipush (pc := 116) (v := nI 31) dX9_gain_116 (by decide) ?_
      refine Ev.iload (pc := 118) dX9_gain_118 rfl ?_
      refine Ev.iadd (pc := 120) dX9_gain_120 ?_
      obtain ⟨c_10, hr⟩ := ckB hr
      refine Ev.iald (pc := 121) (ar_35 _ _ _ _) (inb_in c_10) dX9_gain_121 ?_
      refine Ev.icmpeq (pc := 122) (tgt := 129) dX9_gain_122 (by decide) (fun c_11 => ?_) (fun c_11 => ?_)
      · have hr := ifp hr c_11
        refine Ev.iconst (pc := 129) (v := nI 0) dX9_gain_129 (by decide) ?_
        refine Ev.istore (pc := 130) dX9_gain_130 rfl rfl ?_
        exact kX9_gain_j132 _ _ _ _ _ _ _ _ _ _ _ _ hr
      · have hr := ifn hr c_11
        refine Ev.iconst (pc := 125) (v := nI 1) dX9_gain_125 (by decide) ?_
        refine Ev.goto (pc := 126) (tgt := 130) dX9_gain_126 (by decide) ?_
        refine Ev.istore (pc := 130) dX9_gain_130 rfl rfl ?_
        exact kX9_gain_j132 _ _ _ _ _ _ _ _ _ _ _ _ hr
  · have hr := ifp hr c_5
    refine Ev.iconst (pc := 85) (v := nI 0) dX9_gain_85 (by decide) ?_
    cases hr
    exact Ev.iret rfl rfl dX9_gain_86 ⟨rfl, rfl⟩
def sX9_gain_j40 (g2 : Hg) (v1 : Int32) (v2 : Int32) (v3 : Int32) (v4 : Int32) (v5 : Int32) : Option (Int32 × Hg) := (sX9_passOn g2 (nI 1)).bind fun x_4 => (if v5 = 0 then (if v5 = 0 then (sX9_gain_j70 x_4.2 v1 v2 v3 v4 v5 v2 v1) else (sX9_gain_j70 x_4.2 v1 v2 v3 v4 v5 v2 v2)) else (if v5 = 0 then (sX9_gain_j70 x_4.2 v1 v2 v3 v4 v5 v1 v1) else (sX9_gain_j70 x_4.2 v1 v2 v3 v4 v5 v1 v2)))
set_option maxRecDepth 20000 in
set_option maxHeartbeats 1000000 in
theorem kX9_gain_j40 (g : Hg) (q : Int64) (g2 : Hg) (q2 : Int64)  (v1 : Int32) (v2 : Int32) (v3 : Int32) (v4 : Int32) (v5 : Int32) {r : Int32 × Hg} (hr : sX9_gain_j40 g2 v1 v2 v3 v4 v5 = some r) : Ev (Xi (fun x h' => x = r.1 ∧ h' = (g, q, r.2, q2))) MX9_gain 40 [some (.ref 29), some (.int v1), some (.int v2), some (.int v3), some (.int v4), some (.int v5), none, none, none] [] (g, q, g2, q2) := by
  unfold sX9_gain_j40 at hr
  refine Ev.aload_n (pc := 40) dX9_gain_40 rfl ?_
  refine Ev.iconst (pc := 41) (v := nI 1) dX9_gain_41 (by decide) ?_
  obtain ⟨x_4, hx_4, hr⟩ := Option.bind_eq_some_iff.mp hr
  refine Ev.cVi (pc := 42) (As := [.int _]) (kX9_passOn _ _ _ _ _ hx_4) rfl rfl (ob_29 _) gX9_gain_X9_passOn hdX9_passOn rfl ⟨rfl, rfl⟩ ⟨Nat.le_of_ble_eq_true rfl, Nat.le_of_ble_eq_true rfl⟩ (Nat.le_of_ble_eq_true rfl) ⟨Nat.le_of_ble_eq_true rfl, Nat.le_of_ble_eq_true rfl⟩ dX9_gain_42 ?_
  refine Ev.pop (pc := 45) dX9_gain_45 rfl ?_
  refine Ev.iload (pc := 46) dX9_gain_46 rfl ?_
  refine Ev.ifeq (pc := 48) (tgt := 55) dX9_gain_48 (by decide) (fun c_3 => ?_) (fun c_3 => ?_)
  · have hr := ifp hr c_3
    refine Ev.iload_n (pc := 55) dX9_gain_55 rfl ?_
    refine Ev.istore (pc := 56) dX9_gain_56 rfl rfl ?_
    refine Ev.iload (pc := 58) dX9_gain_58 rfl ?_
    refine Ev.ifeq (pc := 60) (tgt := 67) dX9_gain_60 (by decide) (fun c_4 => ?_) (fun c_4 => ?_)
    · have hr := ifp hr c_4
      refine Ev.iload_n (pc := 67) dX9_gain_67 rfl ?_
      refine Ev.istore (pc := 68) dX9_gain_68 rfl rfl ?_
      exact kX9_gain_j70 _ _ _ _ _ _ _ _ _ _ _ hr
    · have hr := ifn hr c_4
      refine Ev.iload_n (pc := 63) dX9_gain_63 rfl ?_
      refine Ev.goto (pc := 64) (tgt := 68) dX9_gain_64 (by decide) ?_
      refine Ev.istore (pc := 68) dX9_gain_68 rfl rfl ?_
      exact kX9_gain_j70 _ _ _ _ _ _ _ _ _ _ _ hr
  · have hr := ifn hr c_3
    refine Ev.iload_n (pc := 51) dX9_gain_51 rfl ?_
    refine Ev.goto (pc := 52) (tgt := 56) dX9_gain_52 (by decide) ?_
    refine Ev.istore (pc := 56) dX9_gain_56 rfl rfl ?_
    refine Ev.iload (pc := 58) dX9_gain_58 rfl ?_
    refine Ev.ifeq (pc := 60) (tgt := 67) dX9_gain_60 (by decide) (fun c_12 => ?_) (fun c_12 => ?_)
    · have hr := ifp hr c_12
      refine Ev.iload_n (pc := 67) dX9_gain_67 rfl ?_
      refine Ev.istore (pc := 68) dX9_gain_68 rfl rfl ?_
      exact kX9_gain_j70 _ _ _ _ _ _ _ _ _ _ _ hr
    · have hr := ifn hr c_12
      refine Ev.iload_n (pc := 63) dX9_gain_63 rfl ?_
      refine Ev.goto (pc := 64) (tgt := 68) dX9_gain_64 (by decide) ?_
      refine Ev.istore (pc := 68) dX9_gain_68 rfl rfl ?_
      exact kX9_gain_j70 _ _ _ _ _ _ _ _ _ _ _ hr
def sX9_gain_j21 (g2 : Hg) (v1 : Int32) (v2 : Int32) (v3 : Int32) (v4 : Int32) (v5 : Int32) : Option (Int32 × Hg) := (sX9_canWalk g2 (nI 1) v2 v4).bind fun x_3 => (if x_3 = true then ((sX9_walkOn g2 (nI 1) v2 v4).bind fun x_6 => (sX9_gain_j40 x_6 v1 v2 v3 v4 v5)) else (sX9_gain_j40 g2 v1 v2 v3 v4 v5))
set_option maxRecDepth 20000 in
set_option maxHeartbeats 1000000 in
theorem kX9_gain_j21 (g : Hg) (q : Int64) (g2 : Hg) (q2 : Int64)  (v1 : Int32) (v2 : Int32) (v3 : Int32) (v4 : Int32) (v5 : Int32) {r : Int32 × Hg} (hr : sX9_gain_j21 g2 v1 v2 v3 v4 v5 = some r) : Ev (Xi (fun x h' => x = r.1 ∧ h' = (g, q, r.2, q2))) MX9_gain 21 [some (.ref 29), some (.int v1), some (.int v2), some (.int v3), some (.int v4), some (.int v5), none, none, none] [] (g, q, g2, q2) := by
  unfold sX9_gain_j21 at hr
  refine Ev.aload_n (pc := 21) dX9_gain_21 rfl ?_
  refine Ev.iconst (pc := 22) (v := nI 1) dX9_gain_22 (by decide) ?_
  refine Ev.iload_n (pc := 23) dX9_gain_23 rfl ?_
  refine Ev.iload (pc := 24) dX9_gain_24 rfl ?_
  obtain ⟨x_3, hx_3, hr⟩ := Option.bind_eq_some_iff.mp hr
  refine Ev.cVi (pc := 26) (As := [.int _, .int _, .int _]) (kX9_canWalk _ _ _ _ _ _ _ hx_3) rfl rfl (ob_29 _) gX9_gain_X9_canWalk hdX9_canWalk rfl ⟨rfl, rfl⟩ ⟨Nat.le_of_ble_eq_true rfl, Nat.le_of_ble_eq_true rfl⟩ (Nat.le_of_ble_eq_true rfl) ⟨Nat.le_of_ble_eq_true rfl, Nat.le_of_ble_eq_true rfl⟩ dX9_gain_26 ?_
  refine Ev.ifeqB (pc := 29) (tgt := 40) dX9_gain_29 (by decide) (fun c_2 => ?_) (fun c_2 => ?_)
  · have hr := ifn hr (ntr c_2)
    exact kX9_gain_j40 _ _ _ _ _ _ _ _ _ hr
  · have hr := ifp hr c_2
    refine Ev.aload_n (pc := 32) dX9_gain_32 rfl ?_
    refine Ev.iconst (pc := 33) (v := nI 1) dX9_gain_33 (by decide) ?_
    refine Ev.iload_n (pc := 34) dX9_gain_34 rfl ?_
    refine Ev.iload (pc := 35) dX9_gain_35 rfl ?_
    obtain ⟨x_6, hx_6, hr⟩ := Option.bind_eq_some_iff.mp hr
    refine Ev.cVv (pc := 37) (As := [.int _, .int _, .int _]) (kX9_walkOn _ _ _ _ _ _ _ hx_6) rfl rfl (ob_29 _) gX9_gain_X9_walkOn hdX9_walkOn rfl ⟨rfl, rfl⟩ ⟨Nat.le_of_ble_eq_true rfl, Nat.le_of_ble_eq_true rfl⟩ (Nat.le_of_ble_eq_true rfl) ⟨Nat.le_of_ble_eq_true rfl, Nat.le_of_ble_eq_true rfl⟩ dX9_gain_37 ?_
    exact kX9_gain_j40 _ _ _ _ _ _ _ _ _ hr
def sX9_gain (g2 : Hg) (a1 : Int32) (a2 : Int32) (a3 : Int32) (a4 : Int32) (a5 : Int32) : Option (Int32 × Hg) := (sX9_layTrial g2).bind fun x_1 => ((sX9_canWalk x_1 (nI 1) a1 a3).bind fun x_2 => (if x_2 = true then ((sX9_walkOn x_1 (nI 1) a1 a3).bind fun x_7 => (sX9_gain_j21 x_7 a1 a2 a3 a4 a5)) else (sX9_gain_j21 x_1 a1 a2 a3 a4 a5)))
set_option maxRecDepth 20000 in
set_option maxHeartbeats 1000000 in
theorem kX9_gain (g : Hg) (q : Int64) (g2 : Hg) (q2 : Int64) (a1 : Int32) (a2 : Int32) (a3 : Int32) (a4 : Int32) (a5 : Int32) {r : Int32 × Hg} (hr : sX9_gain g2 a1 a2 a3 a4 a5 = some r) : CtI MX9_gain [.ref 29, .int a1, .int a2, .int a3, .int a4, .int a5] (g, q, g2, q2) (fun x h' => x = r.1 ∧ h' = (g, q, r.2, q2)) := by
  unfold sX9_gain at hr
  refine CtI_L 3 rfl (by decide +kernel) rfl (Nat.le_of_ble_eq_true rfl) ?_
  show Ev _ _ 0 [some (.ref 29), some (.int a1), some (.int a2), some (.int a3), some (.int a4), some (.int a5), none, none, none] [] _
  refine Ev.aload_n (pc := 0) dX9_gain_0 rfl ?_
  obtain ⟨x_1, hx_1, hr⟩ := Option.bind_eq_some_iff.mp hr
  refine Ev.cVv (pc := 1) (As := []) (kX9_layTrial _ _ _ _ hx_1) rfl rfl (ob_29 _) gX9_gain_X9_layTrial hdX9_layTrial rfl ⟨rfl, rfl⟩ ⟨Nat.le_of_ble_eq_true rfl, Nat.le_of_ble_eq_true rfl⟩ (Nat.le_of_ble_eq_true rfl) ⟨Nat.le_of_ble_eq_true rfl, Nat.le_of_ble_eq_true rfl⟩ dX9_gain_1 ?_
  refine Ev.aload_n (pc := 4) dX9_gain_4 rfl ?_
  refine Ev.iconst (pc := 5) (v := nI 1) dX9_gain_5 (by decide) ?_
  refine Ev.iload_n (pc := 6) dX9_gain_6 rfl ?_
  refine Ev.iload_n (pc := 7) dX9_gain_7 rfl ?_
  obtain ⟨x_2, hx_2, hr⟩ := Option.bind_eq_some_iff.mp hr
  refine Ev.cVi (pc := 8) (As := [.int _, .int _, .int _]) (kX9_canWalk _ _ _ _ _ _ _ hx_2) rfl rfl (ob_29 _) gX9_gain_X9_canWalk hdX9_canWalk rfl ⟨rfl, rfl⟩ ⟨Nat.le_of_ble_eq_true rfl, Nat.le_of_ble_eq_true rfl⟩ (Nat.le_of_ble_eq_true rfl) ⟨Nat.le_of_ble_eq_true rfl, Nat.le_of_ble_eq_true rfl⟩ dX9_gain_8 ?_
  refine Ev.ifeqB (pc := 11) (tgt := 21) dX9_gain_11 (by decide) (fun c_1 => ?_) (fun c_1 => ?_)
  · have hr := ifn hr (ntr c_1)
    exact kX9_gain_j21 _ _ _ _ _ _ _ _ _ hr
  · have hr := ifp hr c_1
    refine Ev.aload_n (pc := 14) dX9_gain_14 rfl ?_
    refine Ev.iconst (pc := 15) (v := nI 1) dX9_gain_15 (by decide) ?_
    refine Ev.iload_n (pc := 16) dX9_gain_16 rfl ?_
    refine Ev.iload_n (pc := 17) dX9_gain_17 rfl ?_
    obtain ⟨x_7, hx_7, hr⟩ := Option.bind_eq_some_iff.mp hr
    refine Ev.cVv (pc := 18) (As := [.int _, .int _, .int _]) (kX9_walkOn _ _ _ _ _ _ _ hx_7) rfl rfl (ob_29 _) gX9_gain_X9_walkOn hdX9_walkOn rfl ⟨rfl, rfl⟩ ⟨Nat.le_of_ble_eq_true rfl, Nat.le_of_ble_eq_true rfl⟩ (Nat.le_of_ble_eq_true rfl) ⟨Nat.le_of_ble_eq_true rfl, Nat.le_of_ble_eq_true rfl⟩ dX9_gain_18 ?_
    exact kX9_gain_j21 _ _ _ _ _ _ _ _ _ hr
/-! X9_isRest -/
def sX9_isRest_6 (v1 : Int32) (v2 : Int32) (v3 : Int32) (v4 : Int32) : Nat → Hg → Int32 → Int32 → Option (Bool × Hg)
  | 0, _, _, _ => none
  | n + 1, g2, v5, v6 => if (nI 5) ≤ v6 then (if isb v5 = true then some ((v5 == nI 1), g2) else none) else (if v5 = 0 then (sX9_isRest_6 v1 v2 v3 v4 n g2 (nI 0) (v6 + (nI 1))) else ((sX9_gain g2 v1 v2 v6 v4 (nI 1)).bind fun x_1 => ((sX9_gain x_1.2 v1 v2 v3 v4 (nI 1)).bind fun x_2 => (if x_2.1 < x_1.1 then (sX9_isRest_6 v1 v2 v3 v4 n x_2.2 (nI 0) (v6 + (nI 1))) else ((sX9_gain x_2.2 v1 v2 v3 v6 (nI 0)).bind fun x_3 => ((sX9_gain x_3.2 v1 v2 v3 v4 (nI 0)).bind fun x_4 => (if x_4.1 < x_3.1 then (sX9_isRest_6 v1 v2 v3 v4 n x_4.2 (nI 0) (v6 + (nI 1))) else (sX9_isRest_6 v1 v2 v3 v4 n x_4.2 (nI 1) (v6 + (nI 1))))))))))
set_option maxRecDepth 20000 in
set_option maxHeartbeats 1000000 in
theorem kX9_isRest_6 (g : Hg) (q : Int64) (q2 : Int64)  (v1 : Int32) (v2 : Int32) (v3 : Int32) (v4 : Int32) (r : Bool × Hg) : ∀ (n : Nat) (g2 : Hg) (v5 : Int32) (v6 : Int32), sX9_isRest_6 v1 v2 v3 v4 n g2 v5 v6 = some r → Ev (Xi (fun x h' => x = bI r.1 ∧ h' = (g, q, r.2, q2))) MX9_isRest 6 [some (.ref 29), some (.int v1), some (.int v2), some (.int v3), some (.int v4), some (.int v5), some (.int v6)] [] (g, q, g2, q2) := by
  intro n
  induction n with
  | zero => intro _ _ _ hr; cases hr
  | succ n ih =>
    intro g2 v5 v6 hr
    rw [sX9_isRest_6] at hr
    refine Ev.iload (pc := 6) dX9_isRest_6 rfl ?_
    refine Ev.iconst (pc := 8) (v := nI 5) dX9_isRest_8 (by decide) ?_
    refine Ev.icmpge (pc := 9) (tgt := 77) dX9_isRest_9 (by decide) (fun c_1 => ?_) (fun c_1 => ?_)
    · have hr := ifp hr c_1
      refine Ev.iload (pc := 77) dX9_isRest_77 rfl ?_
      obtain ⟨c_2, hr⟩ := ckB hr
      cases hr
      exact Ev.iret rfl (isb_nar c_2) dX9_isRest_79 ⟨isb_eq c_2, rfl⟩
    · have hr := ifn hr c_1
      refine Ev.iload (pc := 12) dX9_isRest_12 rfl ?_
      refine Ev.ifeq (pc := 14) (tgt := 68) dX9_isRest_14 (by decide) (fun c_3 => ?_) (fun c_3 => ?_)
      · have hr := ifp hr c_3
        refine Ev.iconst (pc := 68) (v := nI 0) dX9_isRest_68 (by decide) ?_
        refine Ev.istore (pc := 69) dX9_isRest_69 rfl rfl ?_
        refine Ev.iinc (pc := 71) (v := nI 1) dX9_isRest_71 rfl rfl rfl rfl ?_
        refine Ev.goto (pc := 74) (tgt := 6) dX9_isRest_74 (by decide) ?_
        exact ih _ _ _ hr
      · have hr := ifn hr c_3
        refine Ev.aload_n (pc := 17) dX9_isRest_17 rfl ?_
        refine Ev.iload_n (pc := 18) dX9_isRest_18 rfl ?_
        refine Ev.iload_n (pc := 19) dX9_isRest_19 rfl ?_
        refine Ev.iload (pc := 20) dX9_isRest_20 rfl ?_
        refine Ev.iload (pc := 22) dX9_isRest_22 rfl ?_
        refine Ev.iconst (pc := 24) (v := nI 1) dX9_isRest_24 (by decide) ?_
        obtain ⟨x_1, hx_1, hr⟩ := Option.bind_eq_some_iff.mp hr
        refine Ev.cVi (pc := 25) (As := [.int _, .int _, .int _, .int _, .int _]) (kX9_gain _ _ _ _ _ _ _ _ _ hx_1) rfl rfl (ob_29 _) gX9_isRest_X9_gain hdX9_gain rfl ⟨rfl, rfl⟩ ⟨Nat.le_of_ble_eq_true rfl, Nat.le_of_ble_eq_true rfl⟩ (Nat.le_of_ble_eq_true rfl) ⟨Nat.le_of_ble_eq_true rfl, Nat.le_of_ble_eq_true rfl⟩ dX9_isRest_25 ?_
        refine Ev.aload_n (pc := 28) dX9_isRest_28 rfl ?_
        refine Ev.iload_n (pc := 29) dX9_isRest_29 rfl ?_
        refine Ev.iload_n (pc := 30) dX9_isRest_30 rfl ?_
        refine Ev.iload_n (pc := 31) dX9_isRest_31 rfl ?_
        refine Ev.iload (pc := 32) dX9_isRest_32 rfl ?_
        refine Ev.iconst (pc := 34) (v := nI 1) dX9_isRest_34 (by decide) ?_
        obtain ⟨x_2, hx_2, hr⟩ := Option.bind_eq_some_iff.mp hr
        refine Ev.cVi (pc := 35) (As := [.int _, .int _, .int _, .int _, .int _]) (kX9_gain _ _ _ _ _ _ _ _ _ hx_2) rfl rfl (ob_29 _) gX9_isRest_X9_gain hdX9_gain rfl ⟨rfl, rfl⟩ ⟨Nat.le_of_ble_eq_true rfl, Nat.le_of_ble_eq_true rfl⟩ (Nat.le_of_ble_eq_true rfl) ⟨Nat.le_of_ble_eq_true rfl, Nat.le_of_ble_eq_true rfl⟩ dX9_isRest_35 ?_
        refine Ev.icmpgt (pc := 38) (tgt := 68) dX9_isRest_38 (by decide) (fun c_4 => ?_) (fun c_4 => ?_)
        · have hr := ifp hr c_4
          refine Ev.iconst (pc := 68) (v := nI 0) dX9_isRest_68 (by decide) ?_
          refine Ev.istore (pc := 69) dX9_isRest_69 rfl rfl ?_
          refine Ev.iinc (pc := 71) (v := nI 1) dX9_isRest_71 rfl rfl rfl rfl ?_
          refine Ev.goto (pc := 74) (tgt := 6) dX9_isRest_74 (by decide) ?_
          exact ih _ _ _ hr
        · have hr := ifn hr c_4
          refine Ev.aload_n (pc := 41) dX9_isRest_41 rfl ?_
          refine Ev.iload_n (pc := 42) dX9_isRest_42 rfl ?_
          refine Ev.iload_n (pc := 43) dX9_isRest_43 rfl ?_
          refine Ev.iload_n (pc := 44) dX9_isRest_44 rfl ?_
          refine Ev.iload (pc := 45) dX9_isRest_45 rfl ?_
          refine Ev.iconst (pc := 47) (v := nI 0) dX9_isRest_47 (by decide) ?_
          obtain ⟨x_3, hx_3, hr⟩ := Option.bind_eq_some_iff.mp hr
          refine Ev.cVi (pc := 48) (As := [.int _, .int _, .int _, .int _, .int _]) (kX9_gain _ _ _ _ _ _ _ _ _ hx_3) rfl rfl (ob_29 _) gX9_isRest_X9_gain hdX9_gain rfl ⟨rfl, rfl⟩ ⟨Nat.le_of_ble_eq_true rfl, Nat.le_of_ble_eq_true rfl⟩ (Nat.le_of_ble_eq_true rfl) ⟨Nat.le_of_ble_eq_true rfl, Nat.le_of_ble_eq_true rfl⟩ dX9_isRest_48 ?_
          refine Ev.aload_n (pc := 51) dX9_isRest_51 rfl ?_
          refine Ev.iload_n (pc := 52) dX9_isRest_52 rfl ?_
          refine Ev.iload_n (pc := 53) dX9_isRest_53 rfl ?_
          refine Ev.iload_n (pc := 54) dX9_isRest_54 rfl ?_
          refine Ev.iload (pc := 55) dX9_isRest_55 rfl ?_
          refine Ev.iconst (pc := 57) (v := nI 0) dX9_isRest_57 (by decide) ?_
          obtain ⟨x_4, hx_4, hr⟩ := Option.bind_eq_some_iff.mp hr
          refine Ev.cVi (pc := 58) (As := [.int _, .int _, .int _, .int _, .int _]) (kX9_gain _ _ _ _ _ _ _ _ _ hx_4) rfl rfl (ob_29 _) gX9_isRest_X9_gain hdX9_gain rfl ⟨rfl, rfl⟩ ⟨Nat.le_of_ble_eq_true rfl, Nat.le_of_ble_eq_true rfl⟩ (Nat.le_of_ble_eq_true rfl) ⟨Nat.le_of_ble_eq_true rfl, Nat.le_of_ble_eq_true rfl⟩ dX9_isRest_58 ?_
          refine Ev.icmpgt (pc := 61) (tgt := 68) dX9_isRest_61 (by decide) (fun c_5 => ?_) (fun c_5 => ?_)
          · have hr := ifp hr c_5
            refine Ev.iconst (pc := 68) (v := nI 0) dX9_isRest_68 (by decide) ?_
            refine Ev.istore (pc := 69) dX9_isRest_69 rfl rfl ?_
            refine Ev.iinc (pc := 71) (v := nI 1) dX9_isRest_71 rfl rfl rfl rfl ?_
            refine Ev.goto (pc := 74) (tgt := 6) dX9_isRest_74 (by decide) ?_
            exact ih _ _ _ hr
          · have hr := ifn hr c_5
            refine Ev.iconst (pc := 64) (v := nI 1) dX9_isRest_64 (by decide) ?_
            refine Ev.goto (pc := 65) (tgt := 69) dX9_isRest_65 (by decide) ?_
            refine Ev.istore (pc := 69) dX9_isRest_69 rfl rfl ?_
            refine Ev.iinc (pc := 71) (v := nI 1) dX9_isRest_71 rfl rfl rfl rfl ?_
            refine Ev.goto (pc := 74) (tgt := 6) dX9_isRest_74 (by decide) ?_
            exact ih _ _ _ hr
def sX9_isRest (g2 : Hg) (a1 : Int32) (a2 : Int32) (a3 : Int32) (a4 : Int32) : Option (Bool × Hg) := sX9_isRest_6 a1 a2 a3 a4 100 g2 (nI 1) (nI 0)
set_option maxRecDepth 20000 in
set_option maxHeartbeats 1000000 in
theorem kX9_isRest (g : Hg) (q : Int64) (g2 : Hg) (q2 : Int64) (a1 : Int32) (a2 : Int32) (a3 : Int32) (a4 : Int32) {r : Bool × Hg} (hr : sX9_isRest g2 a1 a2 a3 a4 = some r) : CtI MX9_isRest [.ref 29, .int a1, .int a2, .int a3, .int a4] (g, q, g2, q2) (fun x h' => x = bI r.1 ∧ h' = (g, q, r.2, q2)) := by
  unfold sX9_isRest at hr
  refine CtI_L 2 rfl (by decide +kernel) rfl (Nat.le_of_ble_eq_true rfl) ?_
  show Ev _ _ 0 [some (.ref 29), some (.int a1), some (.int a2), some (.int a3), some (.int a4), none, none] [] _
  refine Ev.iconst (pc := 0) (v := nI 1) dX9_isRest_0 (by decide) ?_
  refine Ev.istore (pc := 1) dX9_isRest_1 rfl rfl ?_
  refine Ev.iconst (pc := 3) (v := nI 0) dX9_isRest_3 (by decide) ?_
  refine Ev.istore (pc := 4) dX9_isRest_4 rfl rfl ?_
  exact kX9_isRest_6 _ _ _ _ _ _ _ _ 100 _ _ _ hr
/-! X9_rests -/
def sX9_rests_77 (v1 : Int32) (v2 : Int32) (v3 : Int32) : Nat → Hg → Int32 → Int32 → Int32 → Option (Int32 × Hg)
  | 0, _, _, _, _ => none
  | n + 1, g2, v4, v5, v6 => if (nI 25) ≤ v6 then (if v3 = 0 then (some (v4, g2)) else (some (v5, g2))) else ((sX9_isRest g2 v1 v2 (v6 / (nI 5)) (v6 - v6 / (nI 5) * (nI 5))).bind fun x_1 => (if x_1.1 = true then (if v4 = 0 then (sX9_rests_77 v1 v2 v3 n x_1.2 (v4 + (nI 1)) (((nI 10) * (v6 / (nI 5))) + (v6 - v6 / (nI 5) * (nI 5))) (v6 + (nI 1))) else (sX9_rests_77 v1 v2 v3 n x_1.2 (v4 + (nI 1)) v5 (v6 + (nI 1)))) else (sX9_rests_77 v1 v2 v3 n x_1.2 v4 v5 (v6 + (nI 1)))))
set_option maxRecDepth 20000 in
set_option maxHeartbeats 1000000 in
theorem kX9_rests_77 (g : Hg) (q : Int64) (q2 : Int64)  (v1 : Int32) (v2 : Int32) (v3 : Int32) (r : Int32 × Hg) : ∀ (n : Nat) (g2 : Hg) (v4 : Int32) (v5 : Int32) (v6 : Int32), sX9_rests_77 v1 v2 v3 n g2 v4 v5 v6 = some r → Ev (Xi (fun x h' => x = r.1 ∧ h' = (g, q, r.2, q2))) MX9_rests 77 [some (.ref 29), some (.int v1), some (.int v2), some (.int v3), some (.int v4), some (.int v5), some (.int v6)] [] (g, q, g2, q2) := by
  intro n
  induction n with
  | zero => intro _ _ _ _ hr; cases hr
  | succ n ih =>
    intro g2 v4 v5 v6 hr
    rw [sX9_rests_77] at hr
    refine Ev.iload (pc := 77) dX9_rests_77 rfl ?_
    refine Ev.bipush (pc := 79) (v := nI 25) dX9_rests_79 (by decide) ?_
    refine Ev.icmpge (pc := 81) (tgt := 134) dX9_rests_81 (by decide) (fun c_7 => ?_) (fun c_7 => ?_)
    · have hr := ifp hr c_7
      refine Ev.iload_n (pc := 134) dX9_rests_134 rfl ?_
      refine Ev.ifne (pc := 135) (tgt := 143) dX9_rests_135 (by decide) (fun c_8 => ?_) (fun c_8 => ?_)
      · have hr := ifn hr c_8
        refine Ev.iload (pc := 143) dX9_rests_143 rfl ?_
        cases hr
        exact Ev.iret rfl rfl dX9_rests_145 ⟨rfl, rfl⟩
      · have hr := ifp hr c_8
        refine Ev.iload (pc := 138) dX9_rests_138 rfl ?_
        refine Ev.goto (pc := 140) (tgt := 145) dX9_rests_140 (by decide) ?_
        cases hr
        exact Ev.iret rfl rfl dX9_rests_145 ⟨rfl, rfl⟩
    · have hr := ifn hr c_7
      refine Ev.aload_n (pc := 84) dX9_rests_84 rfl ?_
      refine Ev.iload_n (pc := 85) dX9_rests_85 rfl ?_
      refine Ev.iload_n (pc := 86) dX9_rests_86 rfl ?_
      refine Ev.iload (pc := 87) dX9_rests_87 rfl ?_
      refine Ev.iconst (pc := 89) (v := nI 5) dX9_rests_89 (by decide) ?_
      refine Ev.idiv (pc := 90) dX9_rests_90 (by decide) ?_
      refine Ev.iload (pc := 91) dX9_rests_91 rfl ?_
      refine Ev.iconst (pc := 93) (v := nI 5) dX9_rests_93 (by decide) ?_
      refine Ev.irem (pc := 94) dX9_rests_94 (by decide) ?_
      obtain ⟨x_1, hx_1, hr⟩ := Option.bind_eq_some_iff.mp hr
      refine Ev.cVi (pc := 95) (As := [.int _, .int _, .int _, .int _]) (kX9_isRest _ _ _ _ _ _ _ _ hx_1) rfl rfl (ob_29 _) gX9_rests_X9_isRest hdX9_isRest rfl ⟨rfl, rfl⟩ ⟨Nat.le_of_ble_eq_true rfl, Nat.le_of_ble_eq_true rfl⟩ (Nat.le_of_ble_eq_true rfl) ⟨Nat.le_of_ble_eq_true rfl, Nat.le_of_ble_eq_true rfl⟩ dX9_rests_95 ?_
      refine Ev.ifeqB (pc := 98) (tgt := 128) dX9_rests_98 (by decide) (fun c_9 => ?_) (fun c_9 => ?_)
      · have hr := ifn hr (ntr c_9)
        refine Ev.iinc (pc := 128) (v := nI 1) dX9_rests_128 rfl rfl rfl rfl ?_
        refine Ev.goto (pc := 131) (tgt := 77) dX9_rests_131 (by decide) ?_
        exact ih _ _ _ _ hr
      · have hr := ifp hr c_9
        refine Ev.iload (pc := 101) dX9_rests_101 rfl ?_
        refine Ev.ifne (pc := 103) (tgt := 121) dX9_rests_103 (by decide) (fun c_10 => ?_) (fun c_10 => ?_)
        · have hr := ifn hr c_10
          refine Ev.iload (pc := 121) dX9_rests_121 rfl ?_
          refine Ev.istore (pc := 123) dX9_rests_123 rfl rfl ?_
          refine Ev.iinc (pc := 125) (v := nI 1) dX9_rests_125 rfl rfl rfl rfl ?_
          refine Ev.iinc (pc := 128) (v := nI 1) dX9_rests_128 rfl rfl rfl rfl ?_
          refine Ev.goto (pc := 131) (tgt := 77) dX9_rests_131 (by decide) ?_
          exact ih _ _ _ _ hr
        · have hr := ifp hr c_10
          refine Ev.bipush (pc := 106) (v := nI 10) dX9_rests_106 (by decide) ?_
          refine Ev.iload (pc := 108) dX9_rests_108 rfl ?_
          refine Ev.iconst (pc := 110) (v := nI 5) dX9_rests_110 (by decide) ?_
          refine Ev.idiv (pc := 111) dX9_rests_111 (by decide) ?_
          refine Ev.imul (pc := 112) dX9_rests_112 ?_
          refine Ev.iload (pc := 113) dX9_rests_113 rfl ?_
          refine Ev.iconst (pc := 115) (v := nI 5) dX9_rests_115 (by decide) ?_
          refine Ev.irem (pc := 116) dX9_rests_116 (by decide) ?_
          refine Ev.iadd (pc := 117) dX9_rests_117 ?_
          refine Ev.goto (pc := 118) (tgt := 123) dX9_rests_118 (by decide) ?_
          refine Ev.istore (pc := 123) dX9_rests_123 rfl rfl ?_
          refine Ev.iinc (pc := 125) (v := nI 1) dX9_rests_125 rfl rfl rfl rfl ?_
          refine Ev.iinc (pc := 128) (v := nI 1) dX9_rests_128 rfl rfl rfl rfl ?_
          refine Ev.goto (pc := 131) (tgt := 77) dX9_rests_131 (by decide) ?_
          exact ih _ _ _ _ hr
def sX9_rests (g2 : Hg) (a1 : Int32) (a2 : Int32) (a3 : Int32) : Option (Int32 × Hg) := if (sX9_isLark g2 a1) = true then (if (sX9_isLark g2 a2) = true then (if a1 = a2 then (some ((-2), g2)) else (if (sX9_in (Int32.toInt64 a3) (lN 0) (lN 1)) = true then (if (sX9_has (g2 35 (Int32.toNatClampNeg (nI 28))) a1) = true then (some ((-3), g2)) else (if (sX9_has (g2 35 (Int32.toNatClampNeg (nI 28))) a2) = true then (some ((-3), g2)) else (sX9_rests_77 a1 a2 a3 100 g2 (nI 0) ((-9)) (nI 0)))) else (some ((-2), g2)))) else (some ((-1), g2))) else (some ((-1), g2))
set_option maxRecDepth 20000 in
set_option maxHeartbeats 1000000 in
theorem kX9_rests (g : Hg) (q : Int64) (g2 : Hg) (q2 : Int64) (a1 : Int32) (a2 : Int32) (a3 : Int32) {r : Int32 × Hg} (hr : sX9_rests g2 a1 a2 a3 = some r) : CtI MX9_rests [.ref 29, .int a1, .int a2, .int a3] (g, q, g2, q2) (fun x h' => x = r.1 ∧ h' = (g, q, r.2, q2)) := by
  unfold sX9_rests at hr
  refine CtI_L 3 rfl (by decide +kernel) rfl (Nat.le_of_ble_eq_true rfl) ?_
  show Ev _ _ 0 [some (.ref 29), some (.int a1), some (.int a2), some (.int a3), none, none, none] [] _
  refine Ev.aload_n (pc := 0) dX9_rests_0 rfl ?_
  refine Ev.iload_n (pc := 1) dX9_rests_1 rfl ?_
  refine Ev.cVi (pc := 2) (As := [.int _]) (kX9_isLark _ _ _ _ _) rfl rfl (ob_29 _) gX9_rests_X9_isLark hdX9_isLark rfl ⟨rfl, rfl⟩ ⟨Nat.le_of_ble_eq_true rfl, Nat.le_of_ble_eq_true rfl⟩ (Nat.le_of_ble_eq_true rfl) ⟨Nat.le_of_ble_eq_true rfl, Nat.le_of_ble_eq_true rfl⟩ dX9_rests_2 ?_
  refine Ev.ifeqB (pc := 5) (tgt := 16) dX9_rests_5 (by decide) (fun c_1 => ?_) (fun c_1 => ?_)
  · have hr := ifn hr (ntr c_1)
    refine Ev.iconst (pc := 16) (v := (-1)) dX9_rests_16 (by decide) ?_
    cases hr
    exact Ev.iret rfl rfl dX9_rests_17 ⟨rfl, rfl⟩
  · have hr := ifp hr c_1
    refine Ev.aload_n (pc := 8) dX9_rests_8 rfl ?_
    refine Ev.iload_n (pc := 9) dX9_rests_9 rfl ?_
    refine Ev.cVi (pc := 10) (As := [.int _]) (kX9_isLark _ _ _ _ _) rfl rfl (ob_29 _) gX9_rests_X9_isLark hdX9_isLark rfl ⟨rfl, rfl⟩ ⟨Nat.le_of_ble_eq_true rfl, Nat.le_of_ble_eq_true rfl⟩ (Nat.le_of_ble_eq_true rfl) ⟨Nat.le_of_ble_eq_true rfl, Nat.le_of_ble_eq_true rfl⟩ dX9_rests_10 ?_
    refine Ev.ifneB (pc := 13) (tgt := 18) dX9_rests_13 (by decide) (fun c_2 => ?_) (fun c_2 => ?_)
    · have hr := ifp hr c_2
      refine Ev.iload_n (pc := 18) dX9_rests_18 rfl ?_
      refine Ev.iload_n (pc := 19) dX9_rests_19 rfl ?_
      refine Ev.icmpeq (pc := 20) (tgt := 33) dX9_rests_20 (by decide) (fun c_3 => ?_) (fun c_3 => ?_)
      · have hr := ifp hr c_3
        refine Ev.bipush (pc := 33) (v := (-2)) dX9_rests_33 (by decide) ?_
        cases hr
        exact Ev.iret rfl rfl dX9_rests_35 ⟨rfl, rfl⟩
      · have hr := ifn hr c_3
        refine Ev.iload_n (pc := 23) dX9_rests_23 rfl ?_
        refine Ev.i2l (pc := 24) dX9_rests_24 ?_
        refine Ev.lconst (pc := 25) (v := lN 0) dX9_rests_25 rfl ?_
        refine Ev.lconst (pc := 26) (v := lN 1) dX9_rests_26 rfl ?_
        refine Ev.cSi (pc := 27) (As := [.long _, .long _, .long _]) (kX9_in _ _ _ _ _ _ _) rfl gX9_rests_X9_in hdX9_in rfl ⟨rfl, rfl⟩ ⟨Nat.le_of_ble_eq_true rfl, Nat.le_of_ble_eq_true rfl⟩ (Nat.le_of_ble_eq_true rfl) ⟨Nat.le_of_ble_eq_true rfl, Nat.le_of_ble_eq_true rfl⟩ dX9_rests_27 ?_
        refine Ev.ifneB (pc := 30) (tgt := 36) dX9_rests_30 (by decide) (fun c_4 => ?_) (fun c_4 => ?_)
        · have hr := ifp hr c_4
          refine Ev.aload_n (pc := 36) dX9_rests_36 rfl ?_
          refine Ev.get (pc := 37) (C0 := RX9) (T := TX9) (N := 31) (fl_29_8 _ _ _ _) rfl inX9_rests (by decide) lkX9_rests_25 dX9_rests_37 ?_
          refine Ev.bipush (pc := 40) (v := nI 28) dX9_rests_40 (by decide) ?_
          refine Ev.iald (pc := 42) (ar_35 _ _ _ _) (vp_in_nI (n := 28) (N := 62) (by decide) (by decide)) dX9_rests_42 ?_
          refine Ev.iload_n (pc := 43) dX9_rests_43 rfl ?_
          refine Ev.cSi (pc := 44) (As := [.int _, .int _]) (kX9_has _ _ _ _ _ _) rfl gX9_rests_X9_has hdX9_has rfl ⟨rfl, rfl⟩ ⟨Nat.le_of_ble_eq_true rfl, Nat.le_of_ble_eq_true rfl⟩ (Nat.le_of_ble_eq_true rfl) ⟨Nat.le_of_ble_eq_true rfl, Nat.le_of_ble_eq_true rfl⟩ dX9_rests_44 ?_
          refine Ev.ifneB (pc := 47) (tgt := 64) dX9_rests_47 (by decide) (fun c_5 => ?_) (fun c_5 => ?_)
          · have hr := ifp hr c_5
            refine Ev.bipush (pc := 64) (v := (-3)) dX9_rests_64 (by decide) ?_
            cases hr
            exact Ev.iret rfl rfl dX9_rests_66 ⟨rfl, rfl⟩
          · have hr := ifn hr (ntr c_5)
            refine Ev.aload_n (pc := 50) dX9_rests_50 rfl ?_
            refine Ev.get (pc := 51) (C0 := RX9) (T := TX9) (N := 31) (fl_29_8 _ _ _ _) rfl inX9_rests (by decide) lkX9_rests_25 dX9_rests_51 ?_
            refine Ev.bipush (pc := 54) (v := nI 28) dX9_rests_54 (by decide) ?_
            refine Ev.iald (pc := 56) (ar_35 _ _ _ _) (vp_in_nI (n := 28) (N := 62) (by decide) (by decide)) dX9_rests_56 ?_
            refine Ev.iload_n (pc := 57) dX9_rests_57 rfl ?_
            refine Ev.cSi (pc := 58) (As := [.int _, .int _]) (kX9_has _ _ _ _ _ _) rfl gX9_rests_X9_has hdX9_has rfl ⟨rfl, rfl⟩ ⟨Nat.le_of_ble_eq_true rfl, Nat.le_of_ble_eq_true rfl⟩ (Nat.le_of_ble_eq_true rfl) ⟨Nat.le_of_ble_eq_true rfl, Nat.le_of_ble_eq_true rfl⟩ dX9_rests_58 ?_
            refine Ev.ifeqB (pc := 61) (tgt := 67) dX9_rests_61 (by decide) (fun c_6 => ?_) (fun c_6 => ?_)
            · have hr := ifn hr (ntr c_6)
              refine Ev.iconst (pc := 67) (v := nI 0) dX9_rests_67 (by decide) ?_
              refine Ev.istore (pc := 68) dX9_rests_68 rfl rfl ?_
              refine Ev.bipush (pc := 70) (v := (-9)) dX9_rests_70 (by decide) ?_
              refine Ev.istore (pc := 72) dX9_rests_72 rfl rfl ?_
              refine Ev.iconst (pc := 74) (v := nI 0) dX9_rests_74 (by decide) ?_
              refine Ev.istore (pc := 75) dX9_rests_75 rfl rfl ?_
              exact kX9_rests_77 _ _ _ _ _ _ _ 100 _ _ _ _ hr
            · have hr := ifp hr c_6
              refine Ev.bipush (pc := 64) (v := (-3)) dX9_rests_64 (by decide) ?_
              cases hr
              exact Ev.iret rfl rfl dX9_rests_66 ⟨rfl, rfl⟩
        · have hr := ifn hr (ntr c_4)
          refine Ev.bipush (pc := 33) (v := (-2)) dX9_rests_33 (by decide) ?_
          cases hr
          exact Ev.iret rfl rfl dX9_rests_35 ⟨rfl, rfl⟩
    · have hr := ifn hr (ntr c_2)
      refine Ev.iconst (pc := 16) (v := (-1)) dX9_rests_16 (by decide) ?_
      cases hr
      exact Ev.iret rfl rfl dX9_rests_17 ⟨rfl, rfl⟩
