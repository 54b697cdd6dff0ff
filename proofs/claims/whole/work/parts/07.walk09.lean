/-! X9_storms -/
def sX9_storms_63 (g2 : Hg) (v1 : Int32) (v2 : Int32) (v3 : Int32) (v4 : Int32) : Nat → Int32 → Int32 → Int32 → Option (Int32)
  | 0, _, _, _ => none
  | n + 1, v5, v6, v7 => if v2 < v7 then ((sX9_common v5 v6).bind fun x_1 => (if v4 = 0 then (if nz x_1 = true then (some (v6 / x_1)) else none) else (if nz x_1 = true then (some (v5 / x_1)) else none))) else (if inb v1 62 = true then (if inb (g2 35 (Int32.toNatClampNeg v1)) 12 = true then (if inb v1 4 = true then ((sX9_waterOf g2 ((g2 35 (Int32.toNatClampNeg (nI 30))) + v7)).bind fun x_2 => (if (((g2 30 (Int32.toNatClampNeg (g2 35 (Int32.toNatClampNeg v1)))) + (g2 34 (Int32.toNatClampNeg v1))) - x_2) ≤ 0 then (if (((g2 30 (Int32.toNatClampNeg (g2 35 (Int32.toNatClampNeg v1)))) + (g2 34 (Int32.toNatClampNeg v1))) - x_2) = 0 then (sX9_storms_63 g2 v1 v2 v3 v4 n (v5 * ((nI 10) - v3)) (v6 * (nI 10)) (v7 + (nI 1))) else (sX9_storms_63 g2 v1 v2 v3 v4 n (v5 * (nI 0)) (v6 * (nI 10)) (v7 + (nI 1)))) else (sX9_storms_63 g2 v1 v2 v3 v4 n (v5 * (nI 10)) (v6 * (nI 10)) (v7 + (nI 1))))) else none) else none) else none)
set_option maxRecDepth 20000 in
set_option maxHeartbeats 1000000 in
theorem kX9_storms_63 (g : Hg) (q : Int64) (g2 : Hg) (q2 : Int64)  (v1 : Int32) (v2 : Int32) (v3 : Int32) (v4 : Int32) (r : Int32) : ∀ (n : Nat) (v5 : Int32) (v6 : Int32) (v7 : Int32), sX9_storms_63 g2 v1 v2 v3 v4 n v5 v6 v7 = some r → Ev (Xi (fun x h' => x = r ∧ h' = (g, q, g2, q2))) MX9_storms 63 [some (.ref 29), some (.int v1), some (.int v2), some (.int v3), some (.int v4), some (.int v5), some (.int v6), some (.int v7), none] [] (g, q, g2, q2) := by
  intro n
  induction n with
  | zero => intro _ _ _ hr; cases hr
  | succ n ih =>
    intro v5 v6 v7 hr
    rw [sX9_storms_63] at hr
    refine Ev.iload (pc := 63) dX9_storms_63 rfl ?_
    refine Ev.iload_n (pc := 65) dX9_storms_65 rfl ?_
    refine Ev.icmpgt (pc := 66) (tgt := 145) dX9_storms_66 (by decide) (fun c_5 => ?_) (fun c_5 => ?_)
    · have hr := ifp hr c_5
      refine Ev.iload (pc := 145) dX9_storms_145 rfl ?_
      refine Ev.iload (pc := 147) dX9_storms_147 rfl ?_
      obtain ⟨x_1, hx_1, hr⟩ := Option.bind_eq_some_iff.mp hr
      refine Ev.cSi (pc := 149) (As := [.int _, .int _]) (kX9_common _ _ _ _ _ _ hx_1) rfl gX9_storms_X9_common hdX9_common rfl ⟨rfl, rfl⟩ ⟨Nat.le_of_ble_eq_true rfl, Nat.le_of_ble_eq_true rfl⟩ (Nat.le_of_ble_eq_true rfl) ⟨Nat.le_of_ble_eq_true rfl, Nat.le_of_ble_eq_true rfl⟩ dX9_storms_149 ?_
      refine Ev.istore (pc := 152) dX9_storms_152 rfl rfl ?_
      refine Ev.iload (pc := 154) dX9_storms_154 rfl ?_
      refine Ev.ifeq (pc := 156) (tgt := 167) dX9_storms_156 (by decide) (fun c_6 => ?_) (fun c_6 => ?_)
      · have hr := ifp hr c_6
        refine Ev.iload (pc := 167) dX9_storms_167 rfl ?_
        refine Ev.iload (pc := 169) dX9_storms_169 rfl ?_
        obtain ⟨c_7, hr⟩ := ckB hr
        refine Ev.idiv (pc := 171) dX9_storms_171 (nz_ne c_7) ?_
        cases hr
        exact Ev.iret rfl rfl dX9_storms_172 ⟨rfl, rfl⟩
      · have hr := ifn hr c_6
        refine Ev.iload (pc := 159) dX9_storms_159 rfl ?_
        refine Ev.iload (pc := 161) dX9_storms_161 rfl ?_
        obtain ⟨c_8, hr⟩ := ckB hr
        refine Ev.idiv (pc := 163) dX9_storms_163 (nz_ne c_8) ?_
        refine Ev.goto (pc := 164) (tgt := 172) dX9_storms_164 (by decide) ?_
        cases hr
        exact Ev.iret rfl rfl dX9_storms_172 ⟨rfl, rfl⟩
    · have hr := ifn hr c_5
      refine Ev.aload_n (pc := 69) dX9_storms_69 rfl ?_
      refine Ev.get (pc := 70) (C0 := RX9) (T := TX9) (N := 31) (fl_29_3 _ _ _ _) rfl inX9_storms (by decide) lkX9_storms_7 dX9_storms_70 ?_
      refine Ev.aload_n (pc := 73) dX9_storms_73 rfl ?_
      refine Ev.get (pc := 74) (C0 := RX9) (T := TX9) (N := 31) (fl_29_8 _ _ _ _) rfl inX9_storms (by decide) lkX9_storms_25 dX9_storms_74 ?_
      refine Ev.iload_n (pc := 77) dX9_storms_77 rfl ?_
      obtain ⟨c_9, hr⟩ := ckB hr
      refine Ev.iald (pc := 78) (ar_35 _ _ _ _) (inb_in c_9) dX9_storms_78 ?_
      obtain ⟨c_10, hr⟩ := ckB hr
      refine Ev.iald (pc := 79) (ar_30 _ _ _ _) (inb_in c_10) dX9_storms_79 ?_
      refine Ev.aload_n (pc := 80) dX9_storms_80 rfl ?_
      refine Ev.get (pc := 81) (C0 := RX9) (T := TX9) (N := 31) (fl_29_7 _ _ _ _) rfl inX9_storms (by decide) lkX9_storms_22 dX9_storms_81 ?_
      refine Ev.iload_n (pc := 84) dX9_storms_84 rfl ?_
      obtain ⟨c_11, hr⟩ := ckB hr
      refine Ev.iald (pc := 85) (ar_34 _ _ _ _) (inb_in c_11) dX9_storms_85 ?_
      refine Ev.iadd (pc := 86) dX9_storms_86 ?_
      refine Ev.aload_n (pc := 87) dX9_storms_87 rfl ?_
      refine Ev.aload_n (pc := 88) dX9_storms_88 rfl ?_
      refine Ev.get (pc := 89) (C0 := RX9) (T := TX9) (N := 31) (fl_29_8 _ _ _ _) rfl inX9_storms (by decide) lkX9_storms_25 dX9_storms_89 ?_
      refine Ev.bipush (pc := 92) (v := nI 30) dX9_storms_92 (by decide) ?_
      refine Ev.iald (pc := 94) (ar_35 _ _ _ _) (vp_in_nI (n := 30) (N := 62) (by decide) (by decide)) dX9_storms_94 ?_
      refine Ev.iload (pc := 95) dX9_storms_95 rfl ?_
      refine Ev.iadd (pc := 97) dX9_storms_97 ?_
      obtain ⟨x_2, hx_2, hr⟩ := Option.bind_eq_some_iff.mp hr
      refine Ev.cVi (pc := 98) (As := [.int _]) (kX9_waterOf _ _ _ _ _ hx_2) rfl rfl (ob_29 _) gX9_storms_X9_waterOf hdX9_waterOf rfl ⟨rfl, rfl⟩ ⟨Nat.le_of_ble_eq_true rfl, Nat.le_of_ble_eq_true rfl⟩ (Nat.le_of_ble_eq_true rfl) ⟨Nat.le_of_ble_eq_true rfl, Nat.le_of_ble_eq_true rfl⟩ dX9_storms_98 ?_
      refine Ev.isub (pc := 101) dX9_storms_101 ?_
      refine Ev.istore (pc := 102) dX9_storms_102 rfl rfl ?_
      refine Ev.iload (pc := 104) dX9_storms_104 rfl ?_
      refine Ev.iload (pc := 106) dX9_storms_106 rfl ?_
      refine Ev.ifle (pc := 108) (tgt := 116) dX9_storms_108 (by decide) (fun c_12 => ?_) (fun c_12 => ?_)
      · have hr := ifp hr c_12
        refine Ev.iload (pc := 116) dX9_storms_116 rfl ?_
        refine Ev.ifne (pc := 118) (tgt := 128) dX9_storms_118 (by decide) (fun c_13 => ?_) (fun c_13 => ?_)
        · have hr := ifn hr c_13
          refine Ev.iconst (pc := 128) (v := nI 0) dX9_storms_128 (by decide) ?_
          refine Ev.imul (pc := 129) dX9_storms_129 ?_
          refine Ev.istore (pc := 130) dX9_storms_130 rfl rfl ?_
          refine Ev.iload (pc := 132) dX9_storms_132 rfl ?_
          refine Ev.bipush (pc := 134) (v := nI 10) dX9_storms_134 (by decide) ?_
          refine Ev.imul (pc := 136) dX9_storms_136 ?_
          refine Ev.istore (pc := 137) dX9_storms_137 rfl rfl ?_
          refine Ev.iinc (pc := 139) (v := nI 1) dX9_storms_139 rfl rfl rfl rfl ?_
          refine Ev.goto (pc := 142) (tgt := 63) dX9_storms_142 (by decide) ?_
          refine Ev_drop 8 ?_
          exact ih _ _ _ hr
        · have hr := ifp hr c_13
          refine Ev.bipush (pc := 121) (v := nI 10) dX9_storms_121 (by decide) ?_
          refine Ev.iload_n (pc := 123) dX9_storms_123 rfl ?_
          refine Ev.isub (pc := 124) dX9_storms_124 ?_
          refine Ev.goto (pc := 125) (tgt := 129) dX9_storms_125 (by decide) ?_
          refine Ev.imul (pc := 129) dX9_storms_129 ?_
          refine Ev.istore (pc := 130) dX9_storms_130 rfl rfl ?_
          refine Ev.iload (pc := 132) dX9_storms_132 rfl ?_
          refine Ev.bipush (pc := 134) (v := nI 10) dX9_storms_134 (by decide) ?_
          refine Ev.imul (pc := 136) dX9_storms_136 ?_
          refine Ev.istore (pc := 137) dX9_storms_137 rfl rfl ?_
          refine Ev.iinc (pc := 139) (v := nI 1) dX9_storms_139 rfl rfl rfl rfl ?_
          refine Ev.goto (pc := 142) (tgt := 63) dX9_storms_142 (by decide) ?_
          refine Ev_drop 8 ?_
          exact ih _ _ _ hr
      · have hr := ifn hr c_12
        refine Ev.bipush (pc := 111) (v := nI 10) dX9_storms_111 (by decide) ?_
        refine Ev.goto (pc := 113) (tgt := 129) dX9_storms_113 (by decide) ?_
        refine Ev.imul (pc := 129) dX9_storms_129 ?_
        refine Ev.istore (pc := 130) dX9_storms_130 rfl rfl ?_
        refine Ev.iload (pc := 132) dX9_storms_132 rfl ?_
        refine Ev.bipush (pc := 134) (v := nI 10) dX9_storms_134 (by decide) ?_
        refine Ev.imul (pc := 136) dX9_storms_136 ?_
        refine Ev.istore (pc := 137) dX9_storms_137 rfl rfl ?_
        refine Ev.iinc (pc := 139) (v := nI 1) dX9_storms_139 rfl rfl rfl rfl ?_
        refine Ev.goto (pc := 142) (tgt := 63) dX9_storms_142 (by decide) ?_
        refine Ev_drop 8 ?_
        exact ih _ _ _ hr
def sX9_storms (g2 : Hg) (a1 : Int32) (a2 : Int32) (a3 : Int32) (a4 : Int32) : Option (Int32) := if (sX9_isLark g2 a1) = true then (if (sX9_in (Int32.toInt64 a2) (lN 1) ((6 : Int64))) = true then (if (sX9_in (Int32.toInt64 a3) (lN 0) ((10 : Int64))) = true then (if (sX9_has (g2 35 (Int32.toNatClampNeg (nI 28))) a1) = true then (some ((-3))) else (sX9_storms_63 g2 a1 a2 a3 a4 100 (nI 1) (nI 1) (nI 1))) else (some ((-2)))) else (some ((-2)))) else (some ((-1)))
set_option maxRecDepth 20000 in
set_option maxHeartbeats 1000000 in
theorem kX9_storms (g : Hg) (q : Int64) (g2 : Hg) (q2 : Int64) (a1 : Int32) (a2 : Int32) (a3 : Int32) (a4 : Int32) {r : Int32} (hr : sX9_storms g2 a1 a2 a3 a4 = some r) : CtI MX9_storms [.ref 29, .int a1, .int a2, .int a3, .int a4] (g, q, g2, q2) (fun x h' => x = r ∧ h' = (g, q, g2, q2)) := by
  unfold sX9_storms at hr
  refine CtI_L 4 rfl (by decide +kernel) rfl (Nat.le_of_ble_eq_true rfl) ?_
  show Ev _ _ 0 [some (.ref 29), some (.int a1), some (.int a2), some (.int a3), some (.int a4), none, none, none, none] [] _
  refine Ev.aload_n (pc := 0) dX9_storms_0 rfl ?_
  refine Ev.iload_n (pc := 1) dX9_storms_1 rfl ?_
  refine Ev.cVi (pc := 2) (As := [.int _]) (kX9_isLark _ _ _ _ _) rfl rfl (ob_29 _) gX9_storms_X9_isLark hdX9_isLark rfl ⟨rfl, rfl⟩ ⟨Nat.le_of_ble_eq_true rfl, Nat.le_of_ble_eq_true rfl⟩ (Nat.le_of_ble_eq_true rfl) ⟨Nat.le_of_ble_eq_true rfl, Nat.le_of_ble_eq_true rfl⟩ dX9_storms_2 ?_
  refine Ev.ifneB (pc := 5) (tgt := 10) dX9_storms_5 (by decide) (fun c_1 => ?_) (fun c_1 => ?_)
  · have hr := ifp hr c_1
    refine Ev.iload_n (pc := 10) dX9_storms_10 rfl ?_
    refine Ev.i2l (pc := 11) dX9_storms_11 ?_
    refine Ev.lconst (pc := 12) (v := lN 1) dX9_storms_12 rfl ?_
    refine Ev.ldc2 (pc := 13) (v := 6) (by decide +kernel) dX9_storms_13 ?_
    refine Ev.cSi (pc := 16) (As := [.long _, .long _, .long _]) (kX9_in _ _ _ _ _ _ _) rfl gX9_storms_X9_in hdX9_in rfl ⟨rfl, rfl⟩ ⟨Nat.le_of_ble_eq_true rfl, Nat.le_of_ble_eq_true rfl⟩ (Nat.le_of_ble_eq_true rfl) ⟨Nat.le_of_ble_eq_true rfl, Nat.le_of_ble_eq_true rfl⟩ dX9_storms_16 ?_
    refine Ev.ifeqB (pc := 19) (tgt := 34) dX9_storms_19 (by decide) (fun c_2 => ?_) (fun c_2 => ?_)
    · have hr := ifn hr (ntr c_2)
      refine Ev.bipush (pc := 34) (v := (-2)) dX9_storms_34 (by decide) ?_
      cases hr
      exact Ev.iret rfl rfl dX9_storms_36 ⟨rfl, rfl⟩
    · have hr := ifp hr c_2
      refine Ev.iload_n (pc := 22) dX9_storms_22 rfl ?_
      refine Ev.i2l (pc := 23) dX9_storms_23 ?_
      refine Ev.lconst (pc := 24) (v := lN 0) dX9_storms_24 rfl ?_
      refine Ev.ldc2 (pc := 25) (v := 10) (by decide +kernel) dX9_storms_25 ?_
      refine Ev.cSi (pc := 28) (As := [.long _, .long _, .long _]) (kX9_in _ _ _ _ _ _ _) rfl gX9_storms_X9_in hdX9_in rfl ⟨rfl, rfl⟩ ⟨Nat.le_of_ble_eq_true rfl, Nat.le_of_ble_eq_true rfl⟩ (Nat.le_of_ble_eq_true rfl) ⟨Nat.le_of_ble_eq_true rfl, Nat.le_of_ble_eq_true rfl⟩ dX9_storms_28 ?_
      refine Ev.ifneB (pc := 31) (tgt := 37) dX9_storms_31 (by decide) (fun c_3 => ?_) (fun c_3 => ?_)
      · have hr := ifp hr c_3
        refine Ev.aload_n (pc := 37) dX9_storms_37 rfl ?_
        refine Ev.get (pc := 38) (C0 := RX9) (T := TX9) (N := 31) (fl_29_8 _ _ _ _) rfl inX9_storms (by decide) lkX9_storms_25 dX9_storms_38 ?_
        refine Ev.bipush (pc := 41) (v := nI 28) dX9_storms_41 (by decide) ?_
        refine Ev.iald (pc := 43) (ar_35 _ _ _ _) (vp_in_nI (n := 28) (N := 62) (by decide) (by decide)) dX9_storms_43 ?_
        refine Ev.iload_n (pc := 44) dX9_storms_44 rfl ?_
        refine Ev.cSi (pc := 45) (As := [.int _, .int _]) (kX9_has _ _ _ _ _ _) rfl gX9_storms_X9_has hdX9_has rfl ⟨rfl, rfl⟩ ⟨Nat.le_of_ble_eq_true rfl, Nat.le_of_ble_eq_true rfl⟩ (Nat.le_of_ble_eq_true rfl) ⟨Nat.le_of_ble_eq_true rfl, Nat.le_of_ble_eq_true rfl⟩ dX9_storms_45 ?_
        refine Ev.ifeqB (pc := 48) (tgt := 54) dX9_storms_48 (by decide) (fun c_4 => ?_) (fun c_4 => ?_)
        · have hr := ifn hr (ntr c_4)
          refine Ev.iconst (pc := 54) (v := nI 1) dX9_storms_54 (by decide) ?_
          refine Ev.istore (pc := 55) dX9_storms_55 rfl rfl ?_
          refine Ev.iconst (pc := 57) (v := nI 1) dX9_storms_57 (by decide) ?_
          refine Ev.istore (pc := 58) dX9_storms_58 rfl rfl ?_
          refine Ev.iconst (pc := 60) (v := nI 1) dX9_storms_60 (by decide) ?_
          refine Ev.istore (pc := 61) dX9_storms_61 rfl rfl ?_
          exact kX9_storms_63 _ _ _ _ _ _ _ _ _ 100 _ _ _ hr
        · have hr := ifp hr c_4
          refine Ev.bipush (pc := 51) (v := (-3)) dX9_storms_51 (by decide) ?_
          cases hr
          exact Ev.iret rfl rfl dX9_storms_53 ⟨rfl, rfl⟩
      · have hr := ifn hr (ntr c_3)
        refine Ev.bipush (pc := 34) (v := (-2)) dX9_storms_34 (by decide) ?_
        cases hr
        exact Ev.iret rfl rfl dX9_storms_36 ⟨rfl, rfl⟩
  · have hr := ifn hr (ntr c_1)
    refine Ev.iconst (pc := 8) (v := (-1)) dX9_storms_8 (by decide) ?_
    cases hr
    exact Ev.iret rfl rfl dX9_storms_9 ⟨rfl, rfl⟩
/-! X9_seed -/
def sX9_seed (g2 : Hg) (q2 : Int64) (a1 : Int64) : Int64 × Hg × Int64 := (q2, g2, a1)
set_option maxRecDepth 20000 in
set_option maxHeartbeats 1000000 in
theorem kX9_seed (g : Hg) (q : Int64) (g2 : Hg) (q2 : Int64) (a1 : Int64) : CtL MX9_seed [.ref 29, .long a1] (g, q, g2, q2) (fun x h' => x = (sX9_seed g2 q2 a1).1 ∧ h' = (g, q, (sX9_seed g2 q2 a1).2.1, (sX9_seed g2 q2 a1).2.2)) := by
  generalize hr : sX9_seed g2 q2 a1 = r
  unfold sX9_seed at hr
  refine CtL_L 2 rfl (by decide +kernel) rfl (Nat.le_of_ble_eq_true rfl) ?_
  show Ev _ _ 0 [some (.ref 29), some (.long a1), none, none, none] [] _
  refine Ev.aload_n (pc := 0) dX9_seed_0 rfl ?_
  refine Ev.get (pc := 1) (C0 := RX9) (T := TX9) (N := 31) (fl_29_28 _ _ _ _) rfl inX9_seed (by decide) lkX9_seed_258 dX9_seed_1 ?_
  refine Ev.lstore_n (pc := 4) dX9_seed_4 rfl rfl ?_
  refine Ev.aload_n (pc := 5) dX9_seed_5 rfl ?_
  refine Ev.lload_n (pc := 6) dX9_seed_6 rfl ?_
  refine Ev.put (pc := 7) (C0 := RX9) (T := TX9) (N := 31) (ty := .long) (pu_29_28 _ _ _ _ _) rfl inX9_seed tyX9_ok nmX9 (by decide) lkX9_seed_258 rfl (by decide +kernel) (fun _ => rfl) (fun _ => rfl) dX9_seed_7 ?_
  refine Ev.lload_n (pc := 10) dX9_seed_10 rfl ?_
  subst hr
  exact Ev.lret rfl dX9_seed_11 ⟨rfl, rfl⟩
/-! X9_digAny -/
def sX9_digAny_2 (v1 : Int32) : Nat → Hg → Int32 → Option (Hg)
  | 0, _, _ => none
  | n + 1, g2, v2 => if (g2 29 1) ≤ v2 then (some g2) else ((sX9_canDig g2 (nI 1) v1 v2).bind fun x_1 => (if x_1 = true then ((sX9_digOn g2 (nI 1) v1 v2).bind fun x_2 => (some x_2)) else (sX9_digAny_2 v1 n g2 (v2 + (nI 1)))))
set_option maxRecDepth 20000 in
set_option maxHeartbeats 1000000 in
theorem kX9_digAny_2 (g : Hg) (q : Int64) (q2 : Int64)  (v1 : Int32) (r : Hg) : ∀ (n : Nat) (g2 : Hg) (v2 : Int32), sX9_digAny_2 v1 n g2 v2 = some r → Ev (Xv (fun h' => h' = (g, q, r, q2))) MX9_digAny 2 [some (.ref 29), some (.int v1), some (.int v2)] [] (g, q, g2, q2) := by
  intro n
  induction n with
  | zero => intro _ _ hr; cases hr
  | succ n ih =>
    intro g2 v2 hr
    rw [sX9_digAny_2] at hr
    refine Ev.iload_n (pc := 2) dX9_digAny_2 rfl ?_
    refine Ev.aload_n (pc := 3) dX9_digAny_3 rfl ?_
    refine Ev.get (pc := 4) (C0 := RX9) (T := TX9) (N := 31) (fl_29_1 _ _ _ _) rfl inX9_digAny (by decide) lkX9_digAny_105 dX9_digAny_4 ?_
    refine Ev.icmpge (pc := 7) (tgt := 34) dX9_digAny_7 (by decide) (fun c_1 => ?_) (fun c_1 => ?_)
    · have hr := ifp hr c_1
      cases hr
      exact Ev.vret rfl dX9_digAny_34 rfl
    · have hr := ifn hr c_1
      refine Ev.aload_n (pc := 10) dX9_digAny_10 rfl ?_
      refine Ev.iconst (pc := 11) (v := nI 1) dX9_digAny_11 (by decide) ?_
      refine Ev.iload_n (pc := 12) dX9_digAny_12 rfl ?_
      refine Ev.iload_n (pc := 13) dX9_digAny_13 rfl ?_
      obtain ⟨x_1, hx_1, hr⟩ := Option.bind_eq_some_iff.mp hr
      refine Ev.cVi (pc := 14) (As := [.int _, .int _, .int _]) (kX9_canDig _ _ _ _ _ _ _ hx_1) rfl rfl (ob_29 _) gX9_digAny_X9_canDig hdX9_canDig rfl ⟨rfl, rfl⟩ ⟨Nat.le_of_ble_eq_true rfl, Nat.le_of_ble_eq_true rfl⟩ (Nat.le_of_ble_eq_true rfl) ⟨Nat.le_of_ble_eq_true rfl, Nat.le_of_ble_eq_true rfl⟩ dX9_digAny_14 ?_
      refine Ev.ifeqB (pc := 17) (tgt := 28) dX9_digAny_17 (by decide) (fun c_2 => ?_) (fun c_2 => ?_)
      · have hr := ifn hr (ntr c_2)
        refine Ev.iinc (pc := 28) (v := nI 1) dX9_digAny_28 rfl rfl rfl rfl ?_
        refine Ev.goto (pc := 31) (tgt := 2) dX9_digAny_31 (by decide) ?_
        exact ih _ _ hr
      · have hr := ifp hr c_2
        refine Ev.aload_n (pc := 20) dX9_digAny_20 rfl ?_
        refine Ev.iconst (pc := 21) (v := nI 1) dX9_digAny_21 (by decide) ?_
        refine Ev.iload_n (pc := 22) dX9_digAny_22 rfl ?_
        refine Ev.iload_n (pc := 23) dX9_digAny_23 rfl ?_
        obtain ⟨x_2, hx_2, hr⟩ := Option.bind_eq_some_iff.mp hr
        refine Ev.cVv (pc := 24) (As := [.int _, .int _, .int _]) (kX9_digOn _ _ _ _ _ _ _ hx_2) rfl rfl (ob_29 _) gX9_digAny_X9_digOn hdX9_digOn rfl ⟨rfl, rfl⟩ ⟨Nat.le_of_ble_eq_true rfl, Nat.le_of_ble_eq_true rfl⟩ (Nat.le_of_ble_eq_true rfl) ⟨Nat.le_of_ble_eq_true rfl, Nat.le_of_ble_eq_true rfl⟩ dX9_digAny_24 ?_
        cases hr
        exact Ev.vret rfl dX9_digAny_27 rfl
def sX9_digAny (g2 : Hg) (a1 : Int32) : Option (Hg) := sX9_digAny_2 a1 100 g2 (nI 0)
set_option maxRecDepth 20000 in
set_option maxHeartbeats 1000000 in
theorem kX9_digAny (g : Hg) (q : Int64) (g2 : Hg) (q2 : Int64) (a1 : Int32) {r : Hg} (hr : sX9_digAny g2 a1 = some r) : CtV MX9_digAny [.ref 29, .int a1] (g, q, g2, q2) (fun h' => h' = (g, q, r, q2)) := by
  unfold sX9_digAny at hr
  refine CtV_L 1 rfl (by decide +kernel) rfl (Nat.le_of_ble_eq_true rfl) ?_
  show Ev _ _ 0 [some (.ref 29), some (.int a1), none] [] _
  refine Ev.iconst (pc := 0) (v := nI 0) dX9_digAny_0 (by decide) ?_
  refine Ev.istore_n (pc := 1) dX9_digAny_1 rfl rfl ?_
  exact kX9_digAny_2 _ _ _ _ _ 100 _ _ hr
/-! X9_carriedOn -/
def sX9_carriedOn_4 (g2 : Hg) (v1 : Int32) : Nat → Int32 → Int32 → Option (Int32)
  | 0, _, _ => none
  | n + 1, v2, v3 => if (g2 29 1) ≤ v3 then (some v2) else (if inb ((((nI 31) * v1) + (nI 13)) + v3) 62 = true then (if (g2 35 (Int32.toNatClampNeg ((((nI 31) * v1) + (nI 13)) + v3))) = (nI 1) then (sX9_carriedOn_4 g2 v1 n (v2 + (nI 1)) (v3 + (nI 1))) else (sX9_carriedOn_4 g2 v1 n (v2 + (nI 0)) (v3 + (nI 1)))) else none)
set_option maxRecDepth 20000 in
set_option maxHeartbeats 1000000 in
theorem kX9_carriedOn_4 (g : Hg) (q : Int64) (g2 : Hg) (q2 : Int64)  (v1 : Int32) (r : Int32) : ∀ (n : Nat) (v2 : Int32) (v3 : Int32), sX9_carriedOn_4 g2 v1 n v2 v3 = some r → Ev (Xi (fun x h' => x = r ∧ h' = (g, q, g2, q2))) MX9_carriedOn 4 [some (.ref 29), some (.int v1), some (.int v2), some (.int v3)] [] (g, q, g2, q2) := by
  intro n
  induction n with
  | zero => intro _ _ hr; cases hr
  | succ n ih =>
    intro v2 v3 hr
    rw [sX9_carriedOn_4] at hr
    refine Ev.iload_n (pc := 4) dX9_carriedOn_4 rfl ?_
    refine Ev.aload_n (pc := 5) dX9_carriedOn_5 rfl ?_
    refine Ev.get (pc := 6) (C0 := RX9) (T := TX9) (N := 31) (fl_29_1 _ _ _ _) rfl inX9_carriedOn (by decide) lkX9_carriedOn_105 dX9_carriedOn_6 ?_
    refine Ev.icmpge (pc := 9) (tgt := 44) dX9_carriedOn_9 (by decide) (fun c_1 => ?_) (fun c_1 => ?_)
    · have hr := ifp hr c_1
      refine Ev.iload_n (pc := 44) dX9_carriedOn_44 rfl ?_
      cases hr
      exact Ev.iret rfl rfl dX9_carriedOn_45 ⟨rfl, rfl⟩
    · have hr := ifn hr c_1
      refine Ev.iload_n (pc := 12) dX9_carriedOn_12 rfl ?_
      refine Ev.aload_n (pc := 13) dX9_carriedOn_13 rfl ?_
      refine Ev.get (pc := 14) (C0 := RX9) (T := TX9) (N := 31) (fl_29_8 _ _ _ _) rfl inX9_carriedOn (by decide) lkX9_carriedOn_25 dX9_carriedOn_14 ?_
      refine Ev.bipush (pc := 17) (v := nI 31) dX9_carriedOn_17 (by decide) ?_
      refine Ev.iload_n (pc := 19) dX9_carriedOn_19 rfl ?_
      refine Ev.imul (pc := 20) dX9_carriedOn_20 ?_
      refine Ev.bipush (pc := 21) (v := nI 13) dX9_carriedOn_21 (by decide) ?_
      refine Ev.iadd (pc := 23) dX9_carriedOn_23 ?_
      refine Ev.iload_n (pc := 24) dX9_carriedOn_24 rfl ?_
      refine Ev.iadd (pc := 25) dX9_carriedOn_25 ?_
      obtain ⟨c_2, hr⟩ := ckB hr
      refine Ev.iald (pc := 26) (ar_35 _ _ _ _) (inb_in c_2) dX9_carriedOn_26 ?_
      refine Ev.iconst (pc := 27) (v := nI 1) dX9_carriedOn_27 (by decide) ?_
      refine Ev.icmpne (pc := 28) (tgt := 35) dX9_carriedOn_28 (by decide) (fun c_3 => ?_) (fun c_3 => ?_)
      · have hr := ifn hr c_3
        refine Ev.iconst (pc := 35) (v := nI 0) dX9_carriedOn_35 (by decide) ?_
        refine Ev.iadd (pc := 36) dX9_carriedOn_36 ?_
        refine Ev.istore_n (pc := 37) dX9_carriedOn_37 rfl rfl ?_
        refine Ev.iinc (pc := 38) (v := nI 1) dX9_carriedOn_38 rfl rfl rfl rfl ?_
        refine Ev.goto (pc := 41) (tgt := 4) dX9_carriedOn_41 (by decide) ?_
        exact ih _ _ hr
      · have hr := ifp hr c_3
        refine Ev.iconst (pc := 31) (v := nI 1) dX9_carriedOn_31 (by decide) ?_
        refine Ev.goto (pc := 32) (tgt := 36) dX9_carriedOn_32 (by decide) ?_
        refine Ev.iadd (pc := 36) dX9_carriedOn_36 ?_
        refine Ev.istore_n (pc := 37) dX9_carriedOn_37 rfl rfl ?_
        refine Ev.iinc (pc := 38) (v := nI 1) dX9_carriedOn_38 rfl rfl rfl rfl ?_
        refine Ev.goto (pc := 41) (tgt := 4) dX9_carriedOn_41 (by decide) ?_
        exact ih _ _ hr
def sX9_carriedOn (g2 : Hg) (a1 : Int32) : Option (Int32) := sX9_carriedOn_4 g2 a1 100 (nI 0) (nI 0)
set_option maxRecDepth 20000 in
set_option maxHeartbeats 1000000 in
theorem kX9_carriedOn (g : Hg) (q : Int64) (g2 : Hg) (q2 : Int64) (a1 : Int32) {r : Int32} (hr : sX9_carriedOn g2 a1 = some r) : CtI MX9_carriedOn [.ref 29, .int a1] (g, q, g2, q2) (fun x h' => x = r ∧ h' = (g, q, g2, q2)) := by
  unfold sX9_carriedOn at hr
  refine CtI_L 2 rfl (by decide +kernel) rfl (Nat.le_of_ble_eq_true rfl) ?_
  show Ev _ _ 0 [some (.ref 29), some (.int a1), none, none] [] _
  refine Ev.iconst (pc := 0) (v := nI 0) dX9_carriedOn_0 (by decide) ?_
  refine Ev.istore_n (pc := 1) dX9_carriedOn_1 rfl rfl ?_
  refine Ev.iconst (pc := 2) (v := nI 0) dX9_carriedOn_2 (by decide) ?_
  refine Ev.istore_n (pc := 3) dX9_carriedOn_3 rfl rfl ?_
  exact kX9_carriedOn_4 _ _ _ _ _ _ 100 _ _ hr
/-! X9_springs -/
def sX9_springs_23 (v1 : Int32) : Nat → Hg → Int64 → Int32 → Int32 → Option (Int32 × Hg × Int64)
  | 0, _, _, _, _ => none
  | n + 1, g2, q2, v2, v3 => if v1 ≤ v3 then (some (v2, g2, q2)) else (if (Int64.toInt32 ((((Int64.toUInt64 ((q2 * ((6364136223846793005 : Int64))) + ((1442695040888963407 : Int64)))) >>> ((Int32.toInt64 (nI 33)).toUInt64 &&& Int64.toUInt64 63)).toInt64) - (((Int64.toUInt64 ((q2 * ((6364136223846793005 : Int64))) + ((1442695040888963407 : Int64)))) >>> ((Int32.toInt64 (nI 33)).toUInt64 &&& Int64.toUInt64 63)).toInt64) / ((28 : Int64)) * ((28 : Int64)))) ≤ (nI 19) then (if (Int64.toInt32 ((((Int64.toUInt64 ((q2 * ((6364136223846793005 : Int64))) + ((1442695040888963407 : Int64)))) >>> ((Int32.toInt64 (nI 33)).toUInt64 &&& Int64.toUInt64 63)).toInt64) - (((Int64.toUInt64 ((q2 * ((6364136223846793005 : Int64))) + ((1442695040888963407 : Int64)))) >>> ((Int32.toInt64 (nI 33)).toUInt64 &&& Int64.toUInt64 63)).toInt64) / ((28 : Int64)) * ((28 : Int64)))) ≤ (nI 15) then ((sX9_tryThing g2 (nI 1) ((Int64.toInt32 ((((Int64.toUInt64 ((q2 * ((6364136223846793005 : Int64))) + ((1442695040888963407 : Int64)))) >>> ((Int32.toInt64 (nI 33)).toUInt64 &&& Int64.toUInt64 63)).toInt64) - (((Int64.toUInt64 ((q2 * ((6364136223846793005 : Int64))) + ((1442695040888963407 : Int64)))) >>> ((Int32.toInt64 (nI 33)).toUInt64 &&& Int64.toUInt64 63)).toInt64) / ((28 : Int64)) * ((28 : Int64)))) / (nI 4)) (((Int64.toInt32 ((((Int64.toUInt64 ((q2 * ((6364136223846793005 : Int64))) + ((1442695040888963407 : Int64)))) >>> ((Int32.toInt64 (nI 33)).toUInt64 &&& Int64.toUInt64 63)).toInt64) - (((Int64.toUInt64 ((q2 * ((6364136223846793005 : Int64))) + ((1442695040888963407 : Int64)))) >>> ((Int32.toInt64 (nI 33)).toUInt64 &&& Int64.toUInt64 63)).toInt64) / ((28 : Int64)) * ((28 : Int64)))) - (Int64.toInt32 ((((Int64.toUInt64 ((q2 * ((6364136223846793005 : Int64))) + ((1442695040888963407 : Int64)))) >>> ((Int32.toInt64 (nI 33)).toUInt64 &&& Int64.toUInt64 63)).toInt64) - (((Int64.toUInt64 ((q2 * ((6364136223846793005 : Int64))) + ((1442695040888963407 : Int64)))) >>> ((Int32.toInt64 (nI 33)).toUInt64 &&& Int64.toUInt64 63)).toInt64) / ((28 : Int64)) * ((28 : Int64)))) / (nI 4) * (nI 4)) + (nI 1))).bind fun x_2 => ((sX9_ones (x_2.2 35 (Int32.toNatClampNeg (nI 59)))).bind fun x_3 => ((sX9_carriedOn x_2.2 (nI 1)).bind fun x_4 => (sX9_springs_23 v1 n x_2.2 ((q2 * ((6364136223846793005 : Int64))) + ((1442695040888963407 : Int64))) (v2 + (((x_2.2 29 2) - x_3) + x_4)) (v3 + (nI 1)))))) else ((sX9_digAny g2 ((Int64.toInt32 ((((Int64.toUInt64 ((q2 * ((6364136223846793005 : Int64))) + ((1442695040888963407 : Int64)))) >>> ((Int32.toInt64 (nI 33)).toUInt64 &&& Int64.toUInt64 63)).toInt64) - (((Int64.toUInt64 ((q2 * ((6364136223846793005 : Int64))) + ((1442695040888963407 : Int64)))) >>> ((Int32.toInt64 (nI 33)).toUInt64 &&& Int64.toUInt64 63)).toInt64) / ((28 : Int64)) * ((28 : Int64)))) - (nI 16))).bind fun x_5 => ((sX9_ones (x_5 35 (Int32.toNatClampNeg (nI 59)))).bind fun x_6 => ((sX9_carriedOn x_5 (nI 1)).bind fun x_7 => (sX9_springs_23 v1 n x_5 ((q2 * ((6364136223846793005 : Int64))) + ((1442695040888963407 : Int64))) (v2 + (((x_5 29 2) - x_6) + x_7)) (v3 + (nI 1))))))) else ((sX9_passOn g2 (nI 1)).bind fun x_8 => ((sX9_ones (x_8.2 35 (Int32.toNatClampNeg (nI 59)))).bind fun x_9 => ((sX9_carriedOn x_8.2 (nI 1)).bind fun x_10 => (sX9_springs_23 v1 n x_8.2 ((q2 * ((6364136223846793005 : Int64))) + ((1442695040888963407 : Int64))) (v2 + (((x_8.2 29 2) - x_9) + x_10)) (v3 + (nI 1)))))))
set_option maxRecDepth 20000 in
set_option maxHeartbeats 1000000 in
theorem kX9_springs_23 (g : Hg) (q : Int64)  (v1 : Int32) (r : Int32 × Hg × Int64) : ∀ (n : Nat) (g2 : Hg) (q2 : Int64) (v2 : Int32) (v3 : Int32), sX9_springs_23 v1 n g2 q2 v2 v3 = some r → Ev (Xi (fun x h' => x = r.1 ∧ h' = (g, q, r.2.1, r.2.2))) MX9_springs 23 [some (.ref 29), some (.int v1), some (.int v2), some (.int v3), none] [] (g, q, g2, q2) := by
  intro n
  induction n with
  | zero => intro _ _ _ _ hr; cases hr
  | succ n ih =>
    intro g2 q2 v2 v3 hr
    rw [sX9_springs_23] at hr
    refine Ev.iload_n (pc := 23) dX9_springs_23 rfl ?_
    refine Ev.iload_n (pc := 24) dX9_springs_24 rfl ?_
    refine Ev.icmpge (pc := 25) (tgt := 139) dX9_springs_25 (by decide) (fun c_2 => ?_) (fun c_2 => ?_)
    · have hr := ifp hr c_2
      refine Ev.iload_n (pc := 139) dX9_springs_139 rfl ?_
      cases hr
      exact Ev.iret rfl rfl dX9_springs_140 ⟨rfl, rfl⟩
    · have hr := ifn hr c_2
      refine Ev.aload_n (pc := 28) dX9_springs_28 rfl ?_
      refine Ev.aload_n (pc := 29) dX9_springs_29 rfl ?_
      refine Ev.get (pc := 30) (C0 := RX9) (T := TX9) (N := 31) (fl_29_28 _ _ _ _) rfl inX9_springs (by decide) lkX9_springs_258 dX9_springs_30 ?_
      refine Ev.ldc2 (pc := 33) (v := 6364136223846793005) (by decide +kernel) dX9_springs_33 ?_
      refine Ev.lmul (pc := 36) dX9_springs_36 ?_
      refine Ev.ldc2 (pc := 37) (v := 1442695040888963407) (by decide +kernel) dX9_springs_37 ?_
      refine Ev.ladd (pc := 40) dX9_springs_40 ?_
      refine Ev.put (pc := 41) (C0 := RX9) (T := TX9) (N := 31) (ty := .long) (pu_29_28 _ _ _ _ _) rfl inX9_springs tyX9_ok nmX9 (by decide) lkX9_springs_258 rfl (by decide +kernel) (fun _ => rfl) (fun _ => rfl) dX9_springs_41 ?_
      refine Ev.aload_n (pc := 44) dX9_springs_44 rfl ?_
      refine Ev.get (pc := 45) (C0 := RX9) (T := TX9) (N := 31) (fl_29_28 _ _ _ _) rfl inX9_springs (by decide) lkX9_springs_258 dX9_springs_45 ?_
      refine Ev.bipush (pc := 48) (v := nI 33) dX9_springs_48 (by decide) ?_
      refine Ev.lushr (pc := 50) dX9_springs_50 ?_
      refine Ev.ldc2 (pc := 51) (v := 28) (by decide +kernel) dX9_springs_51 ?_
      refine Ev.lrem (pc := 54) dX9_springs_54 (by decide) ?_
      refine Ev.l2i (pc := 55) dX9_springs_55 ?_
      refine Ev.istore (pc := 56) dX9_springs_56 rfl rfl ?_
      refine Ev.iload (pc := 58) dX9_springs_58 rfl ?_
      refine Ev.bipush (pc := 60) (v := nI 19) dX9_springs_60 (by decide) ?_
      refine Ev.icmple (pc := 62) (tgt := 74) dX9_springs_62 (by decide) (fun c_3 => ?_) (fun c_3 => ?_)
      · have hr := ifp hr c_3
        refine Ev.iload (pc := 74) dX9_springs_74 rfl ?_
        refine Ev.bipush (pc := 76) (v := nI 15) dX9_springs_76 (by decide) ?_
        refine Ev.icmple (pc := 78) (tgt := 93) dX9_springs_78 (by decide) (fun c_4 => ?_) (fun c_4 => ?_)
        · have hr := ifp hr c_4
          refine Ev.aload_n (pc := 93) dX9_springs_93 rfl ?_
          refine Ev.iconst (pc := 94) (v := nI 1) dX9_springs_94 (by decide) ?_
          refine Ev.iload (pc := 95) dX9_springs_95 rfl ?_
          refine Ev.iconst (pc := 97) (v := nI 4) dX9_springs_97 (by decide) ?_
          refine Ev.idiv (pc := 98) dX9_springs_98 (by decide) ?_
          refine Ev.iload (pc := 99) dX9_springs_99 rfl ?_
          refine Ev.iconst (pc := 101) (v := nI 4) dX9_springs_101 (by decide) ?_
          refine Ev.irem (pc := 102) dX9_springs_102 (by decide) ?_
          refine Ev.iconst (pc := 103) (v := nI 1) dX9_springs_103 (by decide) ?_
          refine Ev.iadd (pc := 104) dX9_springs_104 ?_
          obtain ⟨x_2, hx_2, hr⟩ := Option.bind_eq_some_iff.mp hr
          refine Ev.cVi (pc := 105) (As := [.int _, .int _, .int _]) (kX9_tryThing _ _ _ _ _ _ _ hx_2) rfl rfl (ob_29 _) gX9_springs_X9_tryThing hdX9_tryThing rfl ⟨rfl, rfl⟩ ⟨Nat.le_of_ble_eq_true rfl, Nat.le_of_ble_eq_true rfl⟩ (Nat.le_of_ble_eq_true rfl) ⟨Nat.le_of_ble_eq_true rfl, Nat.le_of_ble_eq_true rfl⟩ dX9_springs_105 ?_
          refine Ev.pop (pc := 108) dX9_springs_108 rfl ?_
          refine Ev.iload_n (pc := 109) dX9_springs_109 rfl ?_
          refine Ev.aload_n (pc := 110) dX9_springs_110 rfl ?_
          refine Ev.get (pc := 111) (C0 := RX9) (T := TX9) (N := 31) (fl_29_2 _ _ _ _) rfl inX9_springs (by decide) lkX9_springs_108 dX9_springs_111 ?_
          refine Ev.aload_n (pc := 114) dX9_springs_114 rfl ?_
          refine Ev.get (pc := 115) (C0 := RX9) (T := TX9) (N := 31) (fl_29_8 _ _ _ _) rfl inX9_springs (by decide) lkX9_springs_25 dX9_springs_115 ?_
          refine Ev.bipush (pc := 118) (v := nI 59) dX9_springs_118 (by decide) ?_
          refine Ev.iald (pc := 120) (ar_35 _ _ _ _) (vp_in_nI (n := 59) (N := 62) (by decide) (by decide)) dX9_springs_120 ?_
          obtain ⟨x_3, hx_3, hr⟩ := Option.bind_eq_some_iff.mp hr
          refine Ev.cSi (pc := 121) (As := [.int _]) (kX9_ones _ _ _ _ _ hx_3) rfl gX9_springs_X9_ones hdX9_ones rfl ⟨rfl, rfl⟩ ⟨Nat.le_of_ble_eq_true rfl, Nat.le_of_ble_eq_true rfl⟩ (Nat.le_of_ble_eq_true rfl) ⟨Nat.le_of_ble_eq_true rfl, Nat.le_of_ble_eq_true rfl⟩ dX9_springs_121 ?_
          refine Ev.isub (pc := 124) dX9_springs_124 ?_
          refine Ev.aload_n (pc := 125) dX9_springs_125 rfl ?_
          refine Ev.iconst (pc := 126) (v := nI 1) dX9_springs_126 (by decide) ?_
          obtain ⟨x_4, hx_4, hr⟩ := Option.bind_eq_some_iff.mp hr
          refine Ev.cVi (pc := 127) (As := [.int _]) (kX9_carriedOn _ _ _ _ _ hx_4) rfl rfl (ob_29 _) gX9_springs_X9_carriedOn hdX9_carriedOn rfl ⟨rfl, rfl⟩ ⟨Nat.le_of_ble_eq_true rfl, Nat.le_of_ble_eq_true rfl⟩ (Nat.le_of_ble_eq_true rfl) ⟨Nat.le_of_ble_eq_true rfl, Nat.le_of_ble_eq_true rfl⟩ dX9_springs_127 ?_
          refine Ev.iadd (pc := 130) dX9_springs_130 ?_
          refine Ev.iadd (pc := 131) dX9_springs_131 ?_
          refine Ev.istore_n (pc := 132) dX9_springs_132 rfl rfl ?_
          refine Ev.iinc (pc := 133) (v := nI 1) dX9_springs_133 rfl rfl rfl rfl ?_
          refine Ev.goto (pc := 136) (tgt := 23) dX9_springs_136 (by decide) ?_
          refine Ev_drop 4 ?_
          exact ih _ _ _ _ hr
        · have hr := ifn hr c_4
          refine Ev.aload_n (pc := 81) dX9_springs_81 rfl ?_
          refine Ev.iload (pc := 82) dX9_springs_82 rfl ?_
          refine Ev.bipush (pc := 84) (v := nI 16) dX9_springs_84 (by decide) ?_
          refine Ev.isub (pc := 86) dX9_springs_86 ?_
          obtain ⟨x_5, hx_5, hr⟩ := Option.bind_eq_some_iff.mp hr
          refine Ev.cVv (pc := 87) (As := [.int _]) (kX9_digAny _ _ _ _ _ hx_5) rfl rfl (ob_29 _) gX9_springs_X9_digAny hdX9_digAny rfl ⟨rfl, rfl⟩ ⟨Nat.le_of_ble_eq_true rfl, Nat.le_of_ble_eq_true rfl⟩ (Nat.le_of_ble_eq_true rfl) ⟨Nat.le_of_ble_eq_true rfl, Nat.le_of_ble_eq_true rfl⟩ dX9_springs_87 ?_
          refine Ev.goto (pc := 90) (tgt := 109) dX9_springs_90 (by decide) ?_
          refine Ev.iload_n (pc := 109) dX9_springs_109 rfl ?_
          refine Ev.aload_n (pc := 110) dX9_springs_110 rfl ?_
          refine Ev.get (pc := 111) (C0 := RX9) (T := TX9) (N := 31) (fl_29_2 _ _ _ _) rfl inX9_springs (by decide) lkX9_springs_108 dX9_springs_111 ?_
          refine Ev.aload_n (pc := 114) dX9_springs_114 rfl ?_
          refine Ev.get (pc := 115) (C0 := RX9) (T := TX9) (N := 31) (fl_29_8 _ _ _ _) rfl inX9_springs (by decide) lkX9_springs_25 dX9_springs_115 ?_
          refine Ev.bipush (pc := 118) (v := nI 59) dX9_springs_118 (by decide) ?_
          refine Ev.iald (pc := 120) (ar_35 _ _ _ _) (vp_in_nI (n := 59) (N := 62) (by decide) (by decide)) dX9_springs_120 ?_
          obtain ⟨x_6, hx_6, hr⟩ := Option.bind_eq_some_iff.mp hr
          refine Ev.cSi (pc := 121) (As := [.int _]) (kX9_ones _ _ _ _ _ hx_6) rfl gX9_springs_X9_ones hdX9_ones rfl ⟨rfl, rfl⟩ ⟨Nat.le_of_ble_eq_true rfl, Nat.le_of_ble_eq_true rfl⟩ (Nat.le_of_ble_eq_true rfl) ⟨Nat.le_of_ble_eq_true rfl, Nat.le_of_ble_eq_true rfl⟩ dX9_springs_121 ?_
          refine Ev.isub (pc := 124) dX9_springs_124 ?_
          refine Ev.aload_n (pc := 125) dX9_springs_125 rfl ?_
          refine Ev.iconst (pc := 126) (v := nI 1) dX9_springs_126 (by decide) ?_
          obtain ⟨x_7, hx_7, hr⟩ := Option.bind_eq_some_iff.mp hr
          refine Ev.cVi (pc := 127) (As := [.int _]) (kX9_carriedOn _ _ _ _ _ hx_7) rfl rfl (ob_29 _) gX9_springs_X9_carriedOn hdX9_carriedOn rfl ⟨rfl, rfl⟩ ⟨Nat.le_of_ble_eq_true rfl, Nat.le_of_ble_eq_true rfl⟩ (Nat.le_of_ble_eq_true rfl) ⟨Nat.le_of_ble_eq_true rfl, Nat.le_of_ble_eq_true rfl⟩ dX9_springs_127 ?_
          refine Ev.iadd (pc := 130) dX9_springs_130 ?_
          refine Ev.iadd (pc := 131) dX9_springs_131 ?_
          refine Ev.istore_n (pc := 132) dX9_springs_132 rfl rfl ?_
          refine Ev.iinc (pc := 133) (v := nI 1) dX9_springs_133 rfl rfl rfl rfl ?_
          refine Ev.goto (pc := 136) (tgt := 23) dX9_springs_136 (by decide) ?_
          refine Ev_drop 4 ?_
          exact ih _ _ _ _ hr
      · have hr := ifn hr c_3
        refine Ev.aload_n (pc := 65) dX9_springs_65 rfl ?_
        refine Ev.iconst (pc := 66) (v := nI 1) dX9_springs_66 (by decide) ?_
        obtain ⟨x_8, hx_8, hr⟩ := Option.bind_eq_some_iff.mp hr
        refine Ev.cVi (pc := 67) (As := [.int _]) (kX9_passOn _ _ _ _ _ hx_8) rfl rfl (ob_29 _) gX9_springs_X9_passOn hdX9_passOn rfl ⟨rfl, rfl⟩ ⟨Nat.le_of_ble_eq_true rfl, Nat.le_of_ble_eq_true rfl⟩ (Nat.le_of_ble_eq_true rfl) ⟨Nat.le_of_ble_eq_true rfl, Nat.le_of_ble_eq_true rfl⟩ dX9_springs_67 ?_
        refine Ev.pop (pc := 70) dX9_springs_70 rfl ?_
        refine Ev.goto (pc := 71) (tgt := 109) dX9_springs_71 (by decide) ?_
        refine Ev.iload_n (pc := 109) dX9_springs_109 rfl ?_
        refine Ev.aload_n (pc := 110) dX9_springs_110 rfl ?_
        refine Ev.get (pc := 111) (C0 := RX9) (T := TX9) (N := 31) (fl_29_2 _ _ _ _) rfl inX9_springs (by decide) lkX9_springs_108 dX9_springs_111 ?_
        refine Ev.aload_n (pc := 114) dX9_springs_114 rfl ?_
        refine Ev.get (pc := 115) (C0 := RX9) (T := TX9) (N := 31) (fl_29_8 _ _ _ _) rfl inX9_springs (by decide) lkX9_springs_25 dX9_springs_115 ?_
        refine Ev.bipush (pc := 118) (v := nI 59) dX9_springs_118 (by decide) ?_
        refine Ev.iald (pc := 120) (ar_35 _ _ _ _) (vp_in_nI (n := 59) (N := 62) (by decide) (by decide)) dX9_springs_120 ?_
        obtain ⟨x_9, hx_9, hr⟩ := Option.bind_eq_some_iff.mp hr
        refine Ev.cSi (pc := 121) (As := [.int _]) (kX9_ones _ _ _ _ _ hx_9) rfl gX9_springs_X9_ones hdX9_ones rfl ⟨rfl, rfl⟩ ⟨Nat.le_of_ble_eq_true rfl, Nat.le_of_ble_eq_true rfl⟩ (Nat.le_of_ble_eq_true rfl) ⟨Nat.le_of_ble_eq_true rfl, Nat.le_of_ble_eq_true rfl⟩ dX9_springs_121 ?_
        refine Ev.isub (pc := 124) dX9_springs_124 ?_
        refine Ev.aload_n (pc := 125) dX9_springs_125 rfl ?_
        refine Ev.iconst (pc := 126) (v := nI 1) dX9_springs_126 (by decide) ?_
        obtain ⟨x_10, hx_10, hr⟩ := Option.bind_eq_some_iff.mp hr
        refine Ev.cVi (pc := 127) (As := [.int _]) (kX9_carriedOn _ _ _ _ _ hx_10) rfl rfl (ob_29 _) gX9_springs_X9_carriedOn hdX9_carriedOn rfl ⟨rfl, rfl⟩ ⟨Nat.le_of_ble_eq_true rfl, Nat.le_of_ble_eq_true rfl⟩ (Nat.le_of_ble_eq_true rfl) ⟨Nat.le_of_ble_eq_true rfl, Nat.le_of_ble_eq_true rfl⟩ dX9_springs_127 ?_
        refine Ev.iadd (pc := 130) dX9_springs_130 ?_
        refine Ev.iadd (pc := 131) dX9_springs_131 ?_
        refine Ev.istore_n (pc := 132) dX9_springs_132 rfl rfl ?_
        refine Ev.iinc (pc := 133) (v := nI 1) dX9_springs_133 rfl rfl rfl rfl ?_
        refine Ev.goto (pc := 136) (tgt := 23) dX9_springs_136 (by decide) ?_
        refine Ev_drop 4 ?_
        exact ih _ _ _ _ hr
def sX9_springs (g2 : Hg) (q2 : Int64) (a1 : Int32) : Option (Int32 × Hg × Int64) := if (sX9_in (Int32.toInt64 a1) (lN 1) ((30 : Int64))) = true then ((sX9_layTrial g2).bind fun x_1 => (sX9_springs_23 a1 100 x_1 q2 (nI 0) (nI 0))) else (some ((-2), g2, q2))
set_option maxRecDepth 20000 in
set_option maxHeartbeats 1000000 in
theorem kX9_springs (g : Hg) (q : Int64) (g2 : Hg) (q2 : Int64) (a1 : Int32) {r : Int32 × Hg × Int64} (hr : sX9_springs g2 q2 a1 = some r) : CtI MX9_springs [.ref 29, .int a1] (g, q, g2, q2) (fun x h' => x = r.1 ∧ h' = (g, q, r.2.1, r.2.2)) := by
  unfold sX9_springs at hr
  refine CtI_L 3 rfl (by decide +kernel) rfl (Nat.le_of_ble_eq_true rfl) ?_
  show Ev _ _ 0 [some (.ref 29), some (.int a1), none, none, none] [] _
  refine Ev.iload_n (pc := 0) dX9_springs_0 rfl ?_
  refine Ev.i2l (pc := 1) dX9_springs_1 ?_
  refine Ev.lconst (pc := 2) (v := lN 1) dX9_springs_2 rfl ?_
  refine Ev.ldc2 (pc := 3) (v := 30) (by decide +kernel) dX9_springs_3 ?_
  refine Ev.cSi (pc := 6) (As := [.long _, .long _, .long _]) (kX9_in _ _ _ _ _ _ _) rfl gX9_springs_X9_in hdX9_in rfl ⟨rfl, rfl⟩ ⟨Nat.le_of_ble_eq_true rfl, Nat.le_of_ble_eq_true rfl⟩ (Nat.le_of_ble_eq_true rfl) ⟨Nat.le_of_ble_eq_true rfl, Nat.le_of_ble_eq_true rfl⟩ dX9_springs_6 ?_
  refine Ev.ifneB (pc := 9) (tgt := 15) dX9_springs_9 (by decide) (fun c_1 => ?_) (fun c_1 => ?_)
  · have hr := ifp hr c_1
    refine Ev.aload_n (pc := 15) dX9_springs_15 rfl ?_
    obtain ⟨x_1, hx_1, hr⟩ := Option.bind_eq_some_iff.mp hr
    refine Ev.cVv (pc := 16) (As := []) (kX9_layTrial _ _ _ _ hx_1) rfl rfl (ob_29 _) gX9_springs_X9_layTrial hdX9_layTrial rfl ⟨rfl, rfl⟩ ⟨Nat.le_of_ble_eq_true rfl, Nat.le_of_ble_eq_true rfl⟩ (Nat.le_of_ble_eq_true rfl) ⟨Nat.le_of_ble_eq_true rfl, Nat.le_of_ble_eq_true rfl⟩ dX9_springs_16 ?_
    refine Ev.iconst (pc := 19) (v := nI 0) dX9_springs_19 (by decide) ?_
    refine Ev.istore_n (pc := 20) dX9_springs_20 rfl rfl ?_
    refine Ev.iconst (pc := 21) (v := nI 0) dX9_springs_21 (by decide) ?_
    refine Ev.istore_n (pc := 22) dX9_springs_22 rfl rfl ?_
    exact kX9_springs_23 _ _ _ _ 100 _ _ _ _ hr
  · have hr := ifn hr (ntr c_1)
    refine Ev.bipush (pc := 12) (v := (-2)) dX9_springs_12 (by decide) ?_
    cases hr
    exact Ev.iret rfl rfl dX9_springs_14 ⟨rfl, rfl⟩
/-! X9_keep -/
def sX9_keep_21 (v1 : Int32) : Nat → Hg → Int32 → Option (Int32 × Hg)
  | 0, _, _ => none
  | n + 1, g2, v2 => if (nI 31) ≤ v2 then (some (g2 35 (Int32.toNatClampNeg (nI 30)), g2)) else (if inb v2 62 = true then (if inb (((nI 31) * v1) + v2) 62 = true then (sX9_keep_21 v1 n (stA g2 47 (Int32.toNatClampNeg (((nI 31) * v1) + v2)) (g2 35 (Int32.toNatClampNeg v2))) (v2 + (nI 1))) else none) else none)
set_option maxRecDepth 20000 in
set_option maxHeartbeats 1000000 in
theorem kX9_keep_21 (g : Hg) (q : Int64) (q2 : Int64)  (v1 : Int32) (r : Int32 × Hg) : ∀ (n : Nat) (g2 : Hg) (v2 : Int32), sX9_keep_21 v1 n g2 v2 = some r → Ev (Xi (fun x h' => x = r.1 ∧ h' = (g, q, r.2, q2))) MX9_keep 21 [some (.ref 29), some (.int v1), some (.int v2)] [] (g, q, g2, q2) := by
  intro n
  induction n with
  | zero => intro _ _ hr; cases hr
  | succ n ih =>
    intro g2 v2 hr
    rw [sX9_keep_21] at hr
    refine Ev.iload_n (pc := 21) dX9_keep_21 rfl ?_
    refine Ev.bipush (pc := 22) (v := nI 31) dX9_keep_22 (by decide) ?_
    refine Ev.icmpge (pc := 24) (tgt := 50) dX9_keep_24 (by decide) (fun c_3 => ?_) (fun c_3 => ?_)
    · have hr := ifp hr c_3
      refine Ev.aload_n (pc := 50) dX9_keep_50 rfl ?_
      refine Ev.get (pc := 51) (C0 := RX9) (T := TX9) (N := 31) (fl_29_8 _ _ _ _) rfl inX9_keep (by decide) lkX9_keep_25 dX9_keep_51 ?_
      refine Ev.bipush (pc := 54) (v := nI 30) dX9_keep_54 (by decide) ?_
      refine Ev.iald (pc := 56) (ar_35 _ _ _ _) (vp_in_nI (n := 30) (N := 62) (by decide) (by decide)) dX9_keep_56 ?_
      cases hr
      exact Ev.iret rfl rfl dX9_keep_57 ⟨rfl, rfl⟩
    · have hr := ifn hr c_3
      refine Ev.aload_n (pc := 27) dX9_keep_27 rfl ?_
      refine Ev.get (pc := 28) (C0 := RX9) (T := TX9) (N := 31) (fl_29_30 _ _ _ _) rfl inX9_keep (by decide) lkX9_keep_62 dX9_keep_28 ?_
      refine Ev.bipush (pc := 31) (v := nI 31) dX9_keep_31 (by decide) ?_
      refine Ev.iload_n (pc := 33) dX9_keep_33 rfl ?_
      refine Ev.imul (pc := 34) dX9_keep_34 ?_
      refine Ev.iload_n (pc := 35) dX9_keep_35 rfl ?_
      refine Ev.iadd (pc := 36) dX9_keep_36 ?_
      refine Ev.aload_n (pc := 37) dX9_keep_37 rfl ?_
      refine Ev.get (pc := 38) (C0 := RX9) (T := TX9) (N := 31) (fl_29_8 _ _ _ _) rfl inX9_keep (by decide) lkX9_keep_25 dX9_keep_38 ?_
      refine Ev.iload_n (pc := 41) dX9_keep_41 rfl ?_
      obtain ⟨c_4, hr⟩ := ckB hr
      refine Ev.iald (pc := 42) (ar_35 _ _ _ _) (inb_in c_4) dX9_keep_42 ?_
      obtain ⟨c_5, hr⟩ := ckB hr
      refine Ev.iast (pc := 43) (ar_47 _ _ _ _) (inb_in c_5) (se_47 _ _ _ _ _) dX9_keep_43 ?_
      refine Ev.iinc (pc := 44) (v := nI 1) dX9_keep_44 rfl rfl rfl rfl ?_
      refine Ev.goto (pc := 47) (tgt := 21) dX9_keep_47 (by decide) ?_
      exact ih _ _ hr
def sX9_keep (g2 : Hg) (a1 : Int32) : Option (Int32 × Hg) := if (sX9_in (Int32.toInt64 a1) (lN 0) (lN 1)) = true then (if inb a1 2 = true then (sX9_keep_21 a1 100 (stA g2 46 (Int32.toNatClampNeg a1) (vp_nar .boolean (nI 1))) (nI 0)) else none) else (some ((-1), g2))
set_option maxRecDepth 20000 in
set_option maxHeartbeats 1000000 in
theorem kX9_keep (g : Hg) (q : Int64) (g2 : Hg) (q2 : Int64) (a1 : Int32) {r : Int32 × Hg} (hr : sX9_keep g2 a1 = some r) : CtI MX9_keep [.ref 29, .int a1] (g, q, g2, q2) (fun x h' => x = r.1 ∧ h' = (g, q, r.2, q2)) := by
  unfold sX9_keep at hr
  refine CtI_L 1 rfl (by decide +kernel) rfl (Nat.le_of_ble_eq_true rfl) ?_
  show Ev _ _ 0 [some (.ref 29), some (.int a1), none] [] _
  refine Ev.iload_n (pc := 0) dX9_keep_0 rfl ?_
  refine Ev.i2l (pc := 1) dX9_keep_1 ?_
  refine Ev.lconst (pc := 2) (v := lN 0) dX9_keep_2 rfl ?_
  refine Ev.lconst (pc := 3) (v := lN 1) dX9_keep_3 rfl ?_
  refine Ev.cSi (pc := 4) (As := [.long _, .long _, .long _]) (kX9_in _ _ _ _ _ _ _) rfl gX9_keep_X9_in hdX9_in rfl ⟨rfl, rfl⟩ ⟨Nat.le_of_ble_eq_true rfl, Nat.le_of_ble_eq_true rfl⟩ (Nat.le_of_ble_eq_true rfl) ⟨Nat.le_of_ble_eq_true rfl, Nat.le_of_ble_eq_true rfl⟩ dX9_keep_4 ?_
  refine Ev.ifneB (pc := 7) (tgt := 12) dX9_keep_7 (by decide) (fun c_1 => ?_) (fun c_1 => ?_)
  · have hr := ifp hr c_1
    refine Ev.aload_n (pc := 12) dX9_keep_12 rfl ?_
    refine Ev.get (pc := 13) (C0 := RX9) (T := TX9) (N := 31) (fl_29_29 _ _ _ _) rfl inX9_keep (by decide) lkX9_keep_58 dX9_keep_13 ?_
    refine Ev.iload_n (pc := 16) dX9_keep_16 rfl ?_
    refine Ev.iconst (pc := 17) (v := nI 1) dX9_keep_17 (by decide) ?_
    obtain ⟨c_2, hr⟩ := ckB hr
    refine Ev.zast (pc := 18) (ar_46 _ _ _ _) (inb_in c_2) (se_46 _ _ _ _ _) dX9_keep_18 ?_
    refine Ev.iconst (pc := 19) (v := nI 0) dX9_keep_19 (by decide) ?_
    refine Ev.istore_n (pc := 20) dX9_keep_20 rfl rfl ?_
    exact kX9_keep_21 _ _ _ _ _ 100 _ _ hr
  · have hr := ifn hr (ntr c_1)
    refine Ev.iconst (pc := 10) (v := (-1)) dX9_keep_10 (by decide) ?_
    cases hr
    exact Ev.iret rfl rfl dX9_keep_11 ⟨rfl, rfl⟩
/-! X9_again -/
def sX9_again_26 (v1 : Int32) : Nat → Hg → Int32 → Option (Int32 × Hg)
  | 0, _, _ => none
  | n + 1, g2, v2 => if (nI 31) ≤ v2 then (some ((stA g2 29 20 (nI 0)) 35 (Int32.toNatClampNeg (nI 30)), stA g2 29 20 (nI 0))) else (if inb (((nI 31) * v1) + v2) 62 = true then (if inb v2 62 = true then (sX9_again_26 v1 n (stA g2 35 (Int32.toNatClampNeg v2) (g2 47 (Int32.toNatClampNeg (((nI 31) * v1) + v2)))) (v2 + (nI 1))) else none) else none)
set_option maxRecDepth 20000 in
set_option maxHeartbeats 1000000 in
theorem kX9_again_26 (g : Hg) (q : Int64) (q2 : Int64)  (v1 : Int32) (r : Int32 × Hg) : ∀ (n : Nat) (g2 : Hg) (v2 : Int32), sX9_again_26 v1 n g2 v2 = some r → Ev (Xi (fun x h' => x = r.1 ∧ h' = (g, q, r.2, q2))) MX9_again 26 [some (.ref 29), some (.int v1), some (.int v2)] [] (g, q, g2, q2) := by
  intro n
  induction n with
  | zero => intro _ _ hr; cases hr
  | succ n ih =>
    intro g2 v2 hr
    rw [sX9_again_26] at hr
    refine Ev.iload_n (pc := 26) dX9_again_26 rfl ?_
    refine Ev.bipush (pc := 27) (v := nI 31) dX9_again_27 (by decide) ?_
    refine Ev.icmpge (pc := 29) (tgt := 55) dX9_again_29 (by decide) (fun c_4 => ?_) (fun c_4 => ?_)
    · have hr := ifp hr c_4
      refine Ev.aload_n (pc := 55) dX9_again_55 rfl ?_
      refine Ev.iconst (pc := 56) (v := nI 0) dX9_again_56 (by decide) ?_
      refine Ev.put (pc := 57) (C0 := RX9) (T := TX9) (N := 31) (ty := .int) (pu_29_20 _ _ _ _ _) rfl inX9_again tyX9_ok nmX9 (by decide) lkX9_again_111 rfl (by decide +kernel) (fun _ => rfl) (fun _ => rfl) dX9_again_57 ?_
      refine Ev.aload_n (pc := 60) dX9_again_60 rfl ?_
      refine Ev.get (pc := 61) (C0 := RX9) (T := TX9) (N := 31) (fl_29_8 _ _ _ _) rfl inX9_again (by decide) lkX9_again_25 dX9_again_61 ?_
      refine Ev.bipush (pc := 64) (v := nI 30) dX9_again_64 (by decide) ?_
      refine Ev.iald (pc := 66) (ar_35 _ _ _ _) (vp_in_nI (n := 30) (N := 62) (by decide) (by decide)) dX9_again_66 ?_
      cases hr
      exact Ev.iret rfl rfl dX9_again_67 ⟨rfl, rfl⟩
    · have hr := ifn hr c_4
      refine Ev.aload_n (pc := 32) dX9_again_32 rfl ?_
      refine Ev.get (pc := 33) (C0 := RX9) (T := TX9) (N := 31) (fl_29_8 _ _ _ _) rfl inX9_again (by decide) lkX9_again_25 dX9_again_33 ?_
      refine Ev.iload_n (pc := 36) dX9_again_36 rfl ?_
      refine Ev.aload_n (pc := 37) dX9_again_37 rfl ?_
      refine Ev.get (pc := 38) (C0 := RX9) (T := TX9) (N := 31) (fl_29_30 _ _ _ _) rfl inX9_again (by decide) lkX9_again_62 dX9_again_38 ?_
      refine Ev.bipush (pc := 41) (v := nI 31) dX9_again_41 (by decide) ?_
      refine Ev.iload_n (pc := 43) dX9_again_43 rfl ?_
      refine Ev.imul (pc := 44) dX9_again_44 ?_
      refine Ev.iload_n (pc := 45) dX9_again_45 rfl ?_
      refine Ev.iadd (pc := 46) dX9_again_46 ?_
      obtain ⟨c_5, hr⟩ := ckB hr
      refine Ev.iald (pc := 47) (ar_47 _ _ _ _) (inb_in c_5) dX9_again_47 ?_
      obtain ⟨c_6, hr⟩ := ckB hr
      refine Ev.iast (pc := 48) (ar_35 _ _ _ _) (inb_in c_6) (se_35 _ _ _ _ _) dX9_again_48 ?_
      refine Ev.iinc (pc := 49) (v := nI 1) dX9_again_49 rfl rfl rfl rfl ?_
      refine Ev.goto (pc := 52) (tgt := 26) dX9_again_52 (by decide) ?_
      exact ih _ _ hr
def sX9_again (g2 : Hg) (a1 : Int32) : Option (Int32 × Hg) := if (sX9_in (Int32.toInt64 a1) (lN 0) (lN 1)) = true then (if inb a1 2 = true then (if (g2 46 (Int32.toNatClampNeg a1)) = 0 then (some ((-3), g2)) else (sX9_again_26 a1 100 g2 (nI 0))) else none) else (some ((-1), g2))
set_option maxRecDepth 20000 in
set_option maxHeartbeats 1000000 in
theorem kX9_again (g : Hg) (q : Int64) (g2 : Hg) (q2 : Int64) (a1 : Int32) {r : Int32 × Hg} (hr : sX9_again g2 a1 = some r) : CtI MX9_again [.ref 29, .int a1] (g, q, g2, q2) (fun x h' => x = r.1 ∧ h' = (g, q, r.2, q2)) := by
  unfold sX9_again at hr
  refine CtI_L 1 rfl (by decide +kernel) rfl (Nat.le_of_ble_eq_true rfl) ?_
  show Ev _ _ 0 [some (.ref 29), some (.int a1), none] [] _
  refine Ev.iload_n (pc := 0) dX9_again_0 rfl ?_
  refine Ev.i2l (pc := 1) dX9_again_1 ?_
  refine Ev.lconst (pc := 2) (v := lN 0) dX9_again_2 rfl ?_
  refine Ev.lconst (pc := 3) (v := lN 1) dX9_again_3 rfl ?_
  refine Ev.cSi (pc := 4) (As := [.long _, .long _, .long _]) (kX9_in _ _ _ _ _ _ _) rfl gX9_again_X9_in hdX9_in rfl ⟨rfl, rfl⟩ ⟨Nat.le_of_ble_eq_true rfl, Nat.le_of_ble_eq_true rfl⟩ (Nat.le_of_ble_eq_true rfl) ⟨Nat.le_of_ble_eq_true rfl, Nat.le_of_ble_eq_true rfl⟩ dX9_again_4 ?_
  refine Ev.ifneB (pc := 7) (tgt := 12) dX9_again_7 (by decide) (fun c_1 => ?_) (fun c_1 => ?_)
  · have hr := ifp hr c_1
    refine Ev.aload_n (pc := 12) dX9_again_12 rfl ?_
    refine Ev.get (pc := 13) (C0 := RX9) (T := TX9) (N := 31) (fl_29_29 _ _ _ _) rfl inX9_again (by decide) lkX9_again_58 dX9_again_13 ?_
    refine Ev.iload_n (pc := 16) dX9_again_16 rfl ?_
    obtain ⟨c_2, hr⟩ := ckB hr
    refine Ev.zald (pc := 17) (ar_46 _ _ _ _) (inb_in c_2) dX9_again_17 ?_
    refine Ev.ifne (pc := 18) (tgt := 24) dX9_again_18 (by decide) (fun c_3 => ?_) (fun c_3 => ?_)
    · have hr := ifn hr c_3
      refine Ev.iconst (pc := 24) (v := nI 0) dX9_again_24 (by decide) ?_
      refine Ev.istore_n (pc := 25) dX9_again_25 rfl rfl ?_
      exact kX9_again_26 _ _ _ _ _ 100 _ _ hr
    · have hr := ifp hr c_3
      refine Ev.bipush (pc := 21) (v := (-3)) dX9_again_21 (by decide) ?_
      cases hr
      exact Ev.iret rfl rfl dX9_again_23 ⟨rfl, rfl⟩
  · have hr := ifn hr (ntr c_1)
    refine Ev.iconst (pc := 10) (v := (-1)) dX9_again_10 (by decide) ?_
    cases hr
    exact Ev.iret rfl rfl dX9_again_11 ⟨rfl, rfl⟩
/-! X9_findsThat -/
def sX9_findsThat_4 (g2 : Hg) (v1 : Int32) : Nat → Int32 → Int32 → Option (Int32)
  | 0, _, _ => none
  | n + 1, v2, v3 => if (g2 29 1) ≤ v3 then (some v2) else (if inb ((nI 13) + v3) 62 = true then (if (g2 35 (Int32.toNatClampNeg ((nI 13) + v3))) = v1 then (sX9_findsThat_4 g2 v1 n (v2 ||| ((nI 1) <<< (v3 &&& 31))) (v3 + (nI 1))) else (sX9_findsThat_4 g2 v1 n (v2 ||| (nI 0)) (v3 + (nI 1)))) else none)
set_option maxRecDepth 20000 in
set_option maxHeartbeats 1000000 in
theorem kX9_findsThat_4 (g : Hg) (q : Int64) (g2 : Hg) (q2 : Int64)  (v1 : Int32) (r : Int32) : ∀ (n : Nat) (v2 : Int32) (v3 : Int32), sX9_findsThat_4 g2 v1 n v2 v3 = some r → Ev (Xi (fun x h' => x = r ∧ h' = (g, q, g2, q2))) MX9_findsThat 4 [some (.ref 29), some (.int v1), some (.int v2), some (.int v3)] [] (g, q, g2, q2) := by
  intro n
  induction n with
  | zero => intro _ _ hr; cases hr
  | succ n ih =>
    intro v2 v3 hr
    rw [sX9_findsThat_4] at hr
    refine Ev.iload_n (pc := 4) dX9_findsThat_4 rfl ?_
    refine Ev.aload_n (pc := 5) dX9_findsThat_5 rfl ?_
    refine Ev.get (pc := 6) (C0 := RX9) (T := TX9) (N := 31) (fl_29_1 _ _ _ _) rfl inX9_findsThat (by decide) lkX9_findsThat_105 dX9_findsThat_6 ?_
    refine Ev.icmpge (pc := 9) (tgt := 41) dX9_findsThat_9 (by decide) (fun c_1 => ?_) (fun c_1 => ?_)
    · have hr := ifp hr c_1
      refine Ev.iload_n (pc := 41) dX9_findsThat_41 rfl ?_
      cases hr
      exact Ev.iret rfl rfl dX9_findsThat_42 ⟨rfl, rfl⟩
    · have hr := ifn hr c_1
      refine Ev.iload_n (pc := 12) dX9_findsThat_12 rfl ?_
      refine Ev.aload_n (pc := 13) dX9_findsThat_13 rfl ?_
      refine Ev.get (pc := 14) (C0 := RX9) (T := TX9) (N := 31) (fl_29_8 _ _ _ _) rfl inX9_findsThat (by decide) lkX9_findsThat_25 dX9_findsThat_14 ?_
      refine Ev.bipush (pc := 17) (v := nI 13) dX9_findsThat_17 (by decide) ?_
      refine Ev.iload_n (pc := 19) dX9_findsThat_19 rfl ?_
      refine Ev.iadd (pc := 20) dX9_findsThat_20 ?_
      obtain ⟨c_2, hr⟩ := ckB hr
      refine Ev.iald (pc := 21) (ar_35 _ _ _ _) (inb_in c_2) dX9_findsThat_21 ?_
      refine Ev.iload_n (pc := 22) dX9_findsThat_22 rfl ?_
      refine Ev.icmpne (pc := 23) (tgt := 32) dX9_findsThat_23 (by decide) (fun c_3 => ?_) (fun c_3 => ?_)
      · have hr := ifn hr c_3
        refine Ev.iconst (pc := 32) (v := nI 0) dX9_findsThat_32 (by decide) ?_
        refine Ev.ior (pc := 33) dX9_findsThat_33 ?_
        refine Ev.istore_n (pc := 34) dX9_findsThat_34 rfl rfl ?_
        refine Ev.iinc (pc := 35) (v := nI 1) dX9_findsThat_35 rfl rfl rfl rfl ?_
        refine Ev.goto (pc := 38) (tgt := 4) dX9_findsThat_38 (by decide) ?_
        exact ih _ _ hr
      · have hr := ifp hr c_3
        refine Ev.iconst (pc := 26) (v := nI 1) dX9_findsThat_26 (by decide) ?_
        refine Ev.iload_n (pc := 27) dX9_findsThat_27 rfl ?_
        refine Ev.ishl (pc := 28) dX9_findsThat_28 ?_
        refine Ev.goto (pc := 29) (tgt := 33) dX9_findsThat_29 (by decide) ?_
        refine Ev.ior (pc := 33) dX9_findsThat_33 ?_
        refine Ev.istore_n (pc := 34) dX9_findsThat_34 rfl rfl ?_
        refine Ev.iinc (pc := 35) (v := nI 1) dX9_findsThat_35 rfl rfl rfl rfl ?_
        refine Ev.goto (pc := 38) (tgt := 4) dX9_findsThat_38 (by decide) ?_
        exact ih _ _ hr
def sX9_findsThat (g2 : Hg) (a1 : Int32) : Option (Int32) := sX9_findsThat_4 g2 a1 100 (nI 0) (nI 0)
set_option maxRecDepth 20000 in
set_option maxHeartbeats 1000000 in
theorem kX9_findsThat (g : Hg) (q : Int64) (g2 : Hg) (q2 : Int64) (a1 : Int32) {r : Int32} (hr : sX9_findsThat g2 a1 = some r) : CtI MX9_findsThat [.ref 29, .int a1] (g, q, g2, q2) (fun x h' => x = r ∧ h' = (g, q, g2, q2)) := by
  unfold sX9_findsThat at hr
  refine CtI_L 2 rfl (by decide +kernel) rfl (Nat.le_of_ble_eq_true rfl) ?_
  show Ev _ _ 0 [some (.ref 29), some (.int a1), none, none] [] _
  refine Ev.iconst (pc := 0) (v := nI 0) dX9_findsThat_0 (by decide) ?_
  refine Ev.istore_n (pc := 1) dX9_findsThat_1 rfl rfl ?_
  refine Ev.iconst (pc := 2) (v := nI 0) dX9_findsThat_2 (by decide) ?_
  refine Ev.istore_n (pc := 3) dX9_findsThat_3 rfl rfl ?_
  exact kX9_findsThat_4 _ _ _ _ _ _ 100 _ _ hr
/-! X9_coinsOfAll -/
def sX9_coinsOfAll_4 (g2 : Hg) : Nat → Int32 → Int32 → Option (Int32)
  | 0, _, _ => none
  | n + 1, v1, v2 => if (g2 29 2) ≤ v2 then (some v1) else (if inb ((nI 4) + v2) 62 = true then (sX9_coinsOfAll_4 g2 n (v1 + (g2 35 (Int32.toNatClampNeg ((nI 4) + v2)))) (v2 + (nI 1))) else none)
set_option maxRecDepth 20000 in
set_option maxHeartbeats 1000000 in
theorem kX9_coinsOfAll_4 (g : Hg) (q : Int64) (g2 : Hg) (q2 : Int64)   (r : Int32) : ∀ (n : Nat) (v1 : Int32) (v2 : Int32), sX9_coinsOfAll_4 g2 n v1 v2 = some r → Ev (Xi (fun x h' => x = r ∧ h' = (g, q, g2, q2))) MX9_coinsOfAll 4 [some (.ref 29), some (.int v1), some (.int v2)] [] (g, q, g2, q2) := by
  intro n
  induction n with
  | zero => intro _ _ hr; cases hr
  | succ n ih =>
    intro v1 v2 hr
    rw [sX9_coinsOfAll_4] at hr
    refine Ev.iload_n (pc := 4) dX9_coinsOfAll_4 rfl ?_
    refine Ev.aload_n (pc := 5) dX9_coinsOfAll_5 rfl ?_
    refine Ev.get (pc := 6) (C0 := RX9) (T := TX9) (N := 31) (fl_29_2 _ _ _ _) rfl inX9_coinsOfAll (by decide) lkX9_coinsOfAll_108 dX9_coinsOfAll_6 ?_
    refine Ev.icmpge (pc := 9) (tgt := 29) dX9_coinsOfAll_9 (by decide) (fun c_1 => ?_) (fun c_1 => ?_)
    · have hr := ifp hr c_1
      refine Ev.iload_n (pc := 29) dX9_coinsOfAll_29 rfl ?_
      cases hr
      exact Ev.iret rfl rfl dX9_coinsOfAll_30 ⟨rfl, rfl⟩
    · have hr := ifn hr c_1
      refine Ev.iload_n (pc := 12) dX9_coinsOfAll_12 rfl ?_
      refine Ev.aload_n (pc := 13) dX9_coinsOfAll_13 rfl ?_
      refine Ev.get (pc := 14) (C0 := RX9) (T := TX9) (N := 31) (fl_29_8 _ _ _ _) rfl inX9_coinsOfAll (by decide) lkX9_coinsOfAll_25 dX9_coinsOfAll_14 ?_
      refine Ev.iconst (pc := 17) (v := nI 4) dX9_coinsOfAll_17 (by decide) ?_
      refine Ev.iload_n (pc := 18) dX9_coinsOfAll_18 rfl ?_
      refine Ev.iadd (pc := 19) dX9_coinsOfAll_19 ?_
      obtain ⟨c_2, hr⟩ := ckB hr
      refine Ev.iald (pc := 20) (ar_35 _ _ _ _) (inb_in c_2) dX9_coinsOfAll_20 ?_
      refine Ev.iadd (pc := 21) dX9_coinsOfAll_21 ?_
      refine Ev.istore_n (pc := 22) dX9_coinsOfAll_22 rfl rfl ?_
      refine Ev.iinc (pc := 23) (v := nI 1) dX9_coinsOfAll_23 rfl rfl rfl rfl ?_
      refine Ev.goto (pc := 26) (tgt := 4) dX9_coinsOfAll_26 (by decide) ?_
      exact ih _ _ hr
def sX9_coinsOfAll (g2 : Hg) : Option (Int32) := sX9_coinsOfAll_4 g2 100 (nI 0) (nI 0)
set_option maxRecDepth 20000 in
set_option maxHeartbeats 1000000 in
theorem kX9_coinsOfAll (g : Hg) (q : Int64) (g2 : Hg) (q2 : Int64) {r : Int32} (hr : sX9_coinsOfAll g2 = some r) : CtI MX9_coinsOfAll [.ref 29] (g, q, g2, q2) (fun x h' => x = r ∧ h' = (g, q, g2, q2)) := by
  unfold sX9_coinsOfAll at hr
  refine CtI_L 2 rfl (by decide +kernel) rfl (Nat.le_of_ble_eq_true rfl) ?_
  show Ev _ _ 0 [some (.ref 29), none, none] [] _
  refine Ev.iconst (pc := 0) (v := nI 0) dX9_coinsOfAll_0 (by decide) ?_
  refine Ev.istore_n (pc := 1) dX9_coinsOfAll_1 rfl rfl ?_
  refine Ev.iconst (pc := 2) (v := nI 0) dX9_coinsOfAll_2 (by decide) ?_
  refine Ev.istore_n (pc := 3) dX9_coinsOfAll_3 rfl rfl ?_
  exact kX9_coinsOfAll_4 _ _ _ _  _ 100 _ _ hr
/-! X9_count -/
def sX9_count (g2 : Hg) (a1 : Int32) : Option (Int32) := if a1 = nI 0 then (some (g2 29 17)) else (if a1 = nI 1 then (some (g2 29 0)) else (if a1 = nI 2 then (some (g2 29 1)) else (if a1 = nI 3 then (some (g2 29 2)) else (if a1 = nI 4 then (some (g2 35 (Int32.toNatClampNeg (nI 30)))) else (if a1 = nI 5 then ((sX9_waterOf g2 (g2 35 (Int32.toNatClampNeg (nI 30)))).bind fun x_1 => (some x_1)) else (if a1 = nI 6 then ((sX9_findsThat g2 (a1 - (nI 6))).bind fun x_2 => (some x_2)) else (if a1 = nI 7 then ((sX9_findsThat g2 (a1 - (nI 6))).bind fun x_3 => (some x_3)) else (if a1 = nI 8 then ((sX9_findsThat g2 (a1 - (nI 6))).bind fun x_4 => (some x_4)) else (if a1 = nI 9 then (some (g2 35 (Int32.toNatClampNeg (nI 28)))) else (if a1 = nI 10 then ((sX9_coinsOfAll g2).bind fun x_5 => (some x_5)) else (if a1 = nI 11 then (some (g2 29 20)) else (if a1 = nI 12 then (some (g2 29 23)) else (some ((-2)))))))))))))))
set_option maxRecDepth 20000 in
set_option maxHeartbeats 1000000 in
theorem kX9_count (g : Hg) (q : Int64) (g2 : Hg) (q2 : Int64) (a1 : Int32) {r : Int32} (hr : sX9_count g2 a1 = some r) : CtI MX9_count [.ref 29, .int a1] (g, q, g2, q2) (fun x h' => x = r ∧ h' = (g, q, g2, q2)) := by
  unfold sX9_count at hr
  refine CtI_L 0 rfl (by decide +kernel) rfl (Nat.le_of_ble_eq_true rfl) ?_
  show Ev _ _ 0 [some (.ref 29), some (.int a1)] [] _
  refine Ev.iload_n (pc := 0) dX9_count_0 rfl ?_
  by_cases c_1 : a1 = nI 0
  · have hr := ifp hr c_1
    refine Ev.tableK (pc := 1) (tgt := 68) 0 c_1 (by decide) dX9_count_1 (by decide) rfl (by decide) ?_
    refine Ev.aload_n (pc := 68) dX9_count_68 rfl ?_
    refine Ev.get (pc := 69) (C0 := RX9) (T := TX9) (N := 31) (fl_29_17 _ _ _ _) rfl inX9_count (by decide) lkX9_count_71 dX9_count_69 ?_
    cases hr
    exact Ev.iret rfl rfl dX9_count_72 ⟨rfl, rfl⟩
  have hr := ifn hr c_1
  by_cases c_2 : a1 = nI 1
  · have hr := ifp hr c_2
    refine Ev.tableK (pc := 1) (tgt := 73) 1 c_2 (by decide) dX9_count_1 (by decide) rfl (by decide) ?_
    refine Ev.aload_n (pc := 73) dX9_count_73 rfl ?_
    refine Ev.get (pc := 74) (C0 := RX9) (T := TX9) (N := 31) (fl_29_0 _ _ _ _) rfl inX9_count (by decide) lkX9_count_102 dX9_count_74 ?_
    cases hr
    exact Ev.iret rfl rfl dX9_count_77 ⟨rfl, rfl⟩
  have hr := ifn hr c_2
  by_cases c_3 : a1 = nI 2
  · have hr := ifp hr c_3
    refine Ev.tableK (pc := 1) (tgt := 78) 2 c_3 (by decide) dX9_count_1 (by decide) rfl (by decide) ?_
    refine Ev.aload_n (pc := 78) dX9_count_78 rfl ?_
    refine Ev.get (pc := 79) (C0 := RX9) (T := TX9) (N := 31) (fl_29_1 _ _ _ _) rfl inX9_count (by decide) lkX9_count_105 dX9_count_79 ?_
    cases hr
    exact Ev.iret rfl rfl dX9_count_82 ⟨rfl, rfl⟩
  have hr := ifn hr c_3
  by_cases c_4 : a1 = nI 3
  · have hr := ifp hr c_4
    refine Ev.tableK (pc := 1) (tgt := 83) 3 c_4 (by decide) dX9_count_1 (by decide) rfl (by decide) ?_
    refine Ev.aload_n (pc := 83) dX9_count_83 rfl ?_
    refine Ev.get (pc := 84) (C0 := RX9) (T := TX9) (N := 31) (fl_29_2 _ _ _ _) rfl inX9_count (by decide) lkX9_count_108 dX9_count_84 ?_
    cases hr
    exact Ev.iret rfl rfl dX9_count_87 ⟨rfl, rfl⟩
  have hr := ifn hr c_4
  by_cases c_5 : a1 = nI 4
  · have hr := ifp hr c_5
    refine Ev.tableK (pc := 1) (tgt := 88) 4 c_5 (by decide) dX9_count_1 (by decide) rfl (by decide) ?_
    refine Ev.aload_n (pc := 88) dX9_count_88 rfl ?_
    refine Ev.get (pc := 89) (C0 := RX9) (T := TX9) (N := 31) (fl_29_8 _ _ _ _) rfl inX9_count (by decide) lkX9_count_25 dX9_count_89 ?_
    refine Ev.bipush (pc := 92) (v := nI 30) dX9_count_92 (by decide) ?_
    refine Ev.iald (pc := 94) (ar_35 _ _ _ _) (vp_in_nI (n := 30) (N := 62) (by decide) (by decide)) dX9_count_94 ?_
    cases hr
    exact Ev.iret rfl rfl dX9_count_95 ⟨rfl, rfl⟩
  have hr := ifn hr c_5
  by_cases c_6 : a1 = nI 5
  · have hr := ifp hr c_6
    refine Ev.tableK (pc := 1) (tgt := 96) 5 c_6 (by decide) dX9_count_1 (by decide) rfl (by decide) ?_
    refine Ev.aload_n (pc := 96) dX9_count_96 rfl ?_
    refine Ev.aload_n (pc := 97) dX9_count_97 rfl ?_
    refine Ev.get (pc := 98) (C0 := RX9) (T := TX9) (N := 31) (fl_29_8 _ _ _ _) rfl inX9_count (by decide) lkX9_count_25 dX9_count_98 ?_
    refine Ev.bipush (pc := 101) (v := nI 30) dX9_count_101 (by decide) ?_
    refine Ev.iald (pc := 103) (ar_35 _ _ _ _) (vp_in_nI (n := 30) (N := 62) (by decide) (by decide)) dX9_count_103 ?_
    obtain ⟨x_1, hx_1, hr⟩ := Option.bind_eq_some_iff.mp hr
    refine Ev.cVi (pc := 104) (As := [.int _]) (kX9_waterOf _ _ _ _ _ hx_1) rfl rfl (ob_29 _) gX9_count_X9_waterOf hdX9_waterOf rfl ⟨rfl, rfl⟩ ⟨Nat.le_of_ble_eq_true rfl, Nat.le_of_ble_eq_true rfl⟩ (Nat.le_of_ble_eq_true rfl) ⟨Nat.le_of_ble_eq_true rfl, Nat.le_of_ble_eq_true rfl⟩ dX9_count_104 ?_
    cases hr
    exact Ev.iret rfl rfl dX9_count_107 ⟨rfl, rfl⟩
  have hr := ifn hr c_6
  by_cases c_7 : a1 = nI 6
  · have hr := ifp hr c_7
    refine Ev.tableK (pc := 1) (tgt := 108) 6 c_7 (by decide) dX9_count_1 (by decide) rfl (by decide) ?_
    refine Ev.aload_n (pc := 108) dX9_count_108 rfl ?_
    refine Ev.iload_n (pc := 109) dX9_count_109 rfl ?_
    refine Ev.bipush (pc := 110) (v := nI 6) dX9_count_110 (by decide) ?_
    refine Ev.isub (pc := 112) dX9_count_112 ?_
    obtain ⟨x_2, hx_2, hr⟩ := Option.bind_eq_some_iff.mp hr
    refine Ev.cVi (pc := 113) (As := [.int _]) (kX9_findsThat _ _ _ _ _ hx_2) rfl rfl (ob_29 _) gX9_count_X9_findsThat hdX9_findsThat rfl ⟨rfl, rfl⟩ ⟨Nat.le_of_ble_eq_true rfl, Nat.le_of_ble_eq_true rfl⟩ (Nat.le_of_ble_eq_true rfl) ⟨Nat.le_of_ble_eq_true rfl, Nat.le_of_ble_eq_true rfl⟩ dX9_count_113 ?_
    cases hr
    exact Ev.iret rfl rfl dX9_count_116 ⟨rfl, rfl⟩
  have hr := ifn hr c_7
  by_cases c_8 : a1 = nI 7
  · have hr := ifp hr c_8
    refine Ev.tableK (pc := 1) (tgt := 108) 7 c_8 (by decide) dX9_count_1 (by decide) rfl (by decide) ?_
    refine Ev.aload_n (pc := 108) dX9_count_108 rfl ?_
    refine Ev.iload_n (pc := 109) dX9_count_109 rfl ?_
    refine Ev.bipush (pc := 110) (v := nI 6) dX9_count_110 (by decide) ?_
    refine Ev.isub (pc := 112) dX9_count_112 ?_
    obtain ⟨x_3, hx_3, hr⟩ := Option.bind_eq_some_iff.mp hr
    refine Ev.cVi (pc := 113) (As := [.int _]) (kX9_findsThat _ _ _ _ _ hx_3) rfl rfl (ob_29 _) gX9_count_X9_findsThat hdX9_findsThat rfl ⟨rfl, rfl⟩ ⟨Nat.le_of_ble_eq_true rfl, Nat.le_of_ble_eq_true rfl⟩ (Nat.le_of_ble_eq_true rfl) ⟨Nat.le_of_ble_eq_true rfl, Nat.le_of_ble_eq_true rfl⟩ dX9_count_113 ?_
    cases hr
    exact Ev.iret rfl rfl dX9_count_116 ⟨rfl, rfl⟩
  have hr := ifn hr c_8
  by_cases c_9 : a1 = nI 8
  · have hr := ifp hr c_9
    refine Ev.tableK (pc := 1) (tgt := 108) 8 c_9 (by decide) dX9_count_1 (by decide) rfl (by decide) ?_
    refine Ev.aload_n (pc := 108) dX9_count_108 rfl ?_
    refine Ev.iload_n (pc := 109) dX9_count_109 rfl ?_
    refine Ev.bipush (pc := 110) (v := nI 6) dX9_count_110 (by decide) ?_
    refine Ev.isub (pc := 112) dX9_count_112 ?_
    obtain ⟨x_4, hx_4, hr⟩ := Option.bind_eq_some_iff.mp hr
    refine Ev.cVi (pc := 113) (As := [.int _]) (kX9_findsThat _ _ _ _ _ hx_4) rfl rfl (ob_29 _) gX9_count_X9_findsThat hdX9_findsThat rfl ⟨rfl, rfl⟩ ⟨Nat.le_of_ble_eq_true rfl, Nat.le_of_ble_eq_true rfl⟩ (Nat.le_of_ble_eq_true rfl) ⟨Nat.le_of_ble_eq_true rfl, Nat.le_of_ble_eq_true rfl⟩ dX9_count_113 ?_
    cases hr
    exact Ev.iret rfl rfl dX9_count_116 ⟨rfl, rfl⟩
  have hr := ifn hr c_9
  by_cases c_10 : a1 = nI 9
  · have hr := ifp hr c_10
    refine Ev.tableK (pc := 1) (tgt := 117) 9 c_10 (by decide) dX9_count_1 (by decide) rfl (by decide) ?_
    refine Ev.aload_n (pc := 117) dX9_count_117 rfl ?_
    refine Ev.get (pc := 118) (C0 := RX9) (T := TX9) (N := 31) (fl_29_8 _ _ _ _) rfl inX9_count (by decide) lkX9_count_25 dX9_count_118 ?_
    refine Ev.bipush (pc := 121) (v := nI 28) dX9_count_121 (by decide) ?_
    refine Ev.iald (pc := 123) (ar_35 _ _ _ _) (vp_in_nI (n := 28) (N := 62) (by decide) (by decide)) dX9_count_123 ?_
    cases hr
    exact Ev.iret rfl rfl dX9_count_124 ⟨rfl, rfl⟩
  have hr := ifn hr c_10
  by_cases c_11 : a1 = nI 10
  · have hr := ifp hr c_11
    refine Ev.tableK (pc := 1) (tgt := 125) 10 c_11 (by decide) dX9_count_1 (by decide) rfl (by decide) ?_
    refine Ev.aload_n (pc := 125) dX9_count_125 rfl ?_
    obtain ⟨x_5, hx_5, hr⟩ := Option.bind_eq_some_iff.mp hr
    refine Ev.cVi (pc := 126) (As := []) (kX9_coinsOfAll _ _ _ _ hx_5) rfl rfl (ob_29 _) gX9_count_X9_coinsOfAll hdX9_coinsOfAll rfl ⟨rfl, rfl⟩ ⟨Nat.le_of_ble_eq_true rfl, Nat.le_of_ble_eq_true rfl⟩ (Nat.le_of_ble_eq_true rfl) ⟨Nat.le_of_ble_eq_true rfl, Nat.le_of_ble_eq_true rfl⟩ dX9_count_126 ?_
    cases hr
    exact Ev.iret rfl rfl dX9_count_129 ⟨rfl, rfl⟩
  have hr := ifn hr c_11
  by_cases c_12 : a1 = nI 11
  · have hr := ifp hr c_12
    refine Ev.tableK (pc := 1) (tgt := 130) 11 c_12 (by decide) dX9_count_1 (by decide) rfl (by decide) ?_
    refine Ev.aload_n (pc := 130) dX9_count_130 rfl ?_
    refine Ev.get (pc := 131) (C0 := RX9) (T := TX9) (N := 31) (fl_29_20 _ _ _ _) rfl inX9_count (by decide) lkX9_count_111 dX9_count_131 ?_
    cases hr
    exact Ev.iret rfl rfl dX9_count_134 ⟨rfl, rfl⟩
  have hr := ifn hr c_12
  by_cases c_13 : a1 = nI 12
  · have hr := ifp hr c_13
    refine Ev.tableK (pc := 1) (tgt := 135) 12 c_13 (by decide) dX9_count_1 (by decide) rfl (by decide) ?_
    refine Ev.aload_n (pc := 135) dX9_count_135 rfl ?_
    refine Ev.get (pc := 136) (C0 := RX9) (T := TX9) (N := 31) (fl_29_23 _ _ _ _) rfl inX9_count (by decide) lkX9_count_232 dX9_count_136 ?_
    cases hr
    exact Ev.iret rfl rfl dX9_count_139 ⟨rfl, rfl⟩
  have hr := ifn hr c_13
  refine Ev.tableD (pc := 1) (tgt := 140) 13 (by decide) (fun j hj => by
      have hj2 : j = 0 ∨ j = 1 ∨ j = 2 ∨ j = 3 ∨ j = 4 ∨ j = 5 ∨ j = 6 ∨ j = 7 ∨ j = 8 ∨ j = 9 ∨ j = 10 ∨ j = 11 ∨ j = 12 := by omega
      rcases hj2 with rfl | rfl | rfl | rfl | rfl | rfl | rfl | rfl | rfl | rfl | rfl | rfl | rfl <;> assumption) rfl dX9_count_1 (by decide) ?_
  refine Ev.bipush (pc := 140) (v := (-2)) dX9_count_140 (by decide) ?_
  cases hr
  exact Ev.iret rfl rfl dX9_count_142 ⟨rfl, rfl⟩
