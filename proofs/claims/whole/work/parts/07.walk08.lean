/-! X9_getsOf -/
def sX9_getsOf_5 (g2 : Hg) (v1 : Int32) (v2 : Int32) : Nat → Int32 → Int32 → Option (Int32)
  | 0, _, _ => none
  | n + 1, v3, v4 => if (g2 29 1) ≤ v4 then (some v3) else (if inb ((nI 13) + v4) 62 = true then (if (g2 35 (Int32.toNatClampNeg ((nI 13) + v4))) = 0 then (if (sX9_has (g2 35 (Int32.toNatClampNeg (nI 28))) v1) = true then (sX9_getsOf_5 g2 v1 v2 n (v3 ||| (nI 0)) (v4 + (nI 1))) else (if inb ((nI 8) + v4) 62 = true then ((sX9_mayGet g2 v1 (g2 35 (Int32.toNatClampNeg ((nI 8) + v4))) v2).bind fun x_1 => (if x_1 = true then (sX9_getsOf_5 g2 v1 v2 n (v3 ||| ((nI 1) <<< (v4 &&& 31))) (v4 + (nI 1))) else (sX9_getsOf_5 g2 v1 v2 n (v3 ||| (nI 0)) (v4 + (nI 1))))) else none)) else (sX9_getsOf_5 g2 v1 v2 n (v3 ||| (nI 0)) (v4 + (nI 1)))) else none)
set_option maxRecDepth 20000 in
set_option maxHeartbeats 1000000 in
theorem kX9_getsOf_5 (g : Hg) (q : Int64) (g2 : Hg) (q2 : Int64)  (v1 : Int32) (v2 : Int32) (r : Int32) : ∀ (n : Nat) (v3 : Int32) (v4 : Int32), sX9_getsOf_5 g2 v1 v2 n v3 v4 = some r → Ev (Xi (fun x h' => x = r ∧ h' = (g, q, g2, q2))) MX9_getsOf 5 [some (.ref 29), some (.int v1), some (.int v2), some (.int v3), some (.int v4)] [] (g, q, g2, q2) := by
  intro n
  induction n with
  | zero => intro _ _ hr; cases hr
  | succ n ih =>
    intro v3 v4 hr
    rw [sX9_getsOf_5] at hr
    refine Ev.iload (pc := 5) dX9_getsOf_5 rfl ?_
    refine Ev.aload_n (pc := 7) dX9_getsOf_7 rfl ?_
    refine Ev.get (pc := 8) (C0 := RX9) (T := TX9) (N := 31) (fl_29_1 _ _ _ _) rfl inX9_getsOf (by decide) lkX9_getsOf_105 dX9_getsOf_8 ?_
    refine Ev.icmpge (pc := 11) (tgt := 77) dX9_getsOf_11 (by decide) (fun c_1 => ?_) (fun c_1 => ?_)
    · have hr := (if_pos c_1).symm.trans hr
      refine Ev.iload_n (pc := 77) dX9_getsOf_77 rfl ?_
      cases hr
      exact Ev.iret rfl rfl dX9_getsOf_78 ⟨rfl, rfl⟩
    · have hr := (if_neg c_1).symm.trans hr
      refine Ev.iload_n (pc := 14) dX9_getsOf_14 rfl ?_
      refine Ev.aload_n (pc := 15) dX9_getsOf_15 rfl ?_
      refine Ev.get (pc := 16) (C0 := RX9) (T := TX9) (N := 31) (fl_29_8 _ _ _ _) rfl inX9_getsOf (by decide) lkX9_getsOf_25 dX9_getsOf_16 ?_
      refine Ev.bipush (pc := 19) (v := nI 13) dX9_getsOf_19 (by decide) ?_
      refine Ev.iload (pc := 21) dX9_getsOf_21 rfl ?_
      refine Ev.iadd (pc := 23) dX9_getsOf_23 ?_
      obtain ⟨c_2, hr⟩ := ckB hr
      refine Ev.iald (pc := 24) (ar_35 _ _ _ _) (inb_in c_2) dX9_getsOf_24 ?_
      refine Ev.ifne (pc := 25) (tgt := 68) dX9_getsOf_25 (by decide) (fun c_3 => ?_) (fun c_3 => ?_)
      · have hr := (if_neg c_3).symm.trans hr
        refine Ev.iconst (pc := 68) (v := nI 0) dX9_getsOf_68 (by decide) ?_
        refine Ev.ior (pc := 69) dX9_getsOf_69 ?_
        refine Ev.istore_n (pc := 70) dX9_getsOf_70 rfl rfl ?_
        refine Ev.iinc (pc := 71) (v := nI 1) dX9_getsOf_71 rfl rfl rfl rfl ?_
        refine Ev.goto (pc := 74) (tgt := 5) dX9_getsOf_74 (by decide) ?_
        exact ih _ _ hr
      · have hr := (if_pos c_3).symm.trans hr
        refine Ev.aload_n (pc := 28) dX9_getsOf_28 rfl ?_
        refine Ev.get (pc := 29) (C0 := RX9) (T := TX9) (N := 31) (fl_29_8 _ _ _ _) rfl inX9_getsOf (by decide) lkX9_getsOf_25 dX9_getsOf_29 ?_
        refine Ev.bipush (pc := 32) (v := nI 28) dX9_getsOf_32 (by decide) ?_
        refine Ev.iald (pc := 34) (ar_35 _ _ _ _) (vp_in_nI (n := 28) (N := 62) (by decide) (by decide)) dX9_getsOf_34 ?_
        refine Ev.iload_n (pc := 35) dX9_getsOf_35 rfl ?_
        refine Ev.cSi (pc := 36) (As := [.int _, .int _]) (kX9_has _ _ _ _ _ _) rfl gX9_getsOf_X9_has hdX9_has rfl ⟨rfl, rfl⟩ ⟨Nat.le_of_ble_eq_true rfl, Nat.le_of_ble_eq_true rfl⟩ (Nat.le_of_ble_eq_true rfl) ⟨Nat.le_of_ble_eq_true rfl, Nat.le_of_ble_eq_true rfl⟩ dX9_getsOf_36 ?_
        refine Ev.ifneB (pc := 39) (tgt := 68) dX9_getsOf_39 (by decide) (fun c_4 => ?_) (fun c_4 => ?_)
        · have hr := (if_pos c_4).symm.trans hr
          refine Ev.iconst (pc := 68) (v := nI 0) dX9_getsOf_68 (by decide) ?_
          refine Ev.ior (pc := 69) dX9_getsOf_69 ?_
          refine Ev.istore_n (pc := 70) dX9_getsOf_70 rfl rfl ?_
          refine Ev.iinc (pc := 71) (v := nI 1) dX9_getsOf_71 rfl rfl rfl rfl ?_
          refine Ev.goto (pc := 74) (tgt := 5) dX9_getsOf_74 (by decide) ?_
          exact ih _ _ hr
        · have hr := (if_neg (ntr c_4)).symm.trans hr
          refine Ev.aload_n (pc := 42) dX9_getsOf_42 rfl ?_
          refine Ev.iload_n (pc := 43) dX9_getsOf_43 rfl ?_
          refine Ev.aload_n (pc := 44) dX9_getsOf_44 rfl ?_
          refine Ev.get (pc := 45) (C0 := RX9) (T := TX9) (N := 31) (fl_29_8 _ _ _ _) rfl inX9_getsOf (by decide) lkX9_getsOf_25 dX9_getsOf_45 ?_
          refine Ev.bipush (pc := 48) (v := nI 8) dX9_getsOf_48 (by decide) ?_
          refine Ev.iload (pc := 50) dX9_getsOf_50 rfl ?_
          refine Ev.iadd (pc := 52) dX9_getsOf_52 ?_
          obtain ⟨c_5, hr⟩ := ckB hr
          refine Ev.iald (pc := 53) (ar_35 _ _ _ _) (inb_in c_5) dX9_getsOf_53 ?_
          refine Ev.iload_n (pc := 54) dX9_getsOf_54 rfl ?_
          obtain ⟨x_1, hx_1, hr⟩ := Option.bind_eq_some_iff.mp hr
          refine Ev.cVi (pc := 55) (As := [.int _, .int _, .int _]) (kX9_mayGet _ _ _ _ _ _ _ hx_1) rfl rfl (ob_29 _) gX9_getsOf_X9_mayGet hdX9_mayGet rfl ⟨rfl, rfl⟩ ⟨Nat.le_of_ble_eq_true rfl, Nat.le_of_ble_eq_true rfl⟩ (Nat.le_of_ble_eq_true rfl) ⟨Nat.le_of_ble_eq_true rfl, Nat.le_of_ble_eq_true rfl⟩ dX9_getsOf_55 ?_
          refine Ev.ifeqB (pc := 58) (tgt := 68) dX9_getsOf_58 (by decide) (fun c_6 => ?_) (fun c_6 => ?_)
          · have hr := (if_neg (ntr c_6)).symm.trans hr
            refine Ev.iconst (pc := 68) (v := nI 0) dX9_getsOf_68 (by decide) ?_
            refine Ev.ior (pc := 69) dX9_getsOf_69 ?_
            refine Ev.istore_n (pc := 70) dX9_getsOf_70 rfl rfl ?_
            refine Ev.iinc (pc := 71) (v := nI 1) dX9_getsOf_71 rfl rfl rfl rfl ?_
            refine Ev.goto (pc := 74) (tgt := 5) dX9_getsOf_74 (by decide) ?_
            exact ih _ _ hr
          · have hr := (if_pos c_6).symm.trans hr
            refine Ev.iconst (pc := 61) (v := nI 1) dX9_getsOf_61 (by decide) ?_
            refine Ev.iload (pc := 62) dX9_getsOf_62 rfl ?_
            refine Ev.ishl (pc := 64) dX9_getsOf_64 ?_
            refine Ev.goto (pc := 65) (tgt := 69) dX9_getsOf_65 (by decide) ?_
            refine Ev.ior (pc := 69) dX9_getsOf_69 ?_
            refine Ev.istore_n (pc := 70) dX9_getsOf_70 rfl rfl ?_
            refine Ev.iinc (pc := 71) (v := nI 1) dX9_getsOf_71 rfl rfl rfl rfl ?_
            refine Ev.goto (pc := 74) (tgt := 5) dX9_getsOf_74 (by decide) ?_
            exact ih _ _ hr
def sX9_getsOf (g2 : Hg) (a1 : Int32) (a2 : Int32) : Option (Int32) := sX9_getsOf_5 g2 a1 a2 100 (nI 0) (nI 0)
set_option maxRecDepth 20000 in
set_option maxHeartbeats 1000000 in
theorem kX9_getsOf (g : Hg) (q : Int64) (g2 : Hg) (q2 : Int64) (a1 : Int32) (a2 : Int32) {r : Int32} (hr : sX9_getsOf g2 a1 a2 = some r) : CtI MX9_getsOf [.ref 29, .int a1, .int a2] (g, q, g2, q2) (fun x h' => x = r ∧ h' = (g, q, g2, q2)) := by
  unfold sX9_getsOf at hr
  refine CtI_L 2 rfl (by decide +kernel) rfl (Nat.le_of_ble_eq_true rfl) ?_
  show Ev _ _ 0 [some (.ref 29), some (.int a1), some (.int a2), none, none] [] _
  refine Ev.iconst (pc := 0) (v := nI 0) dX9_getsOf_0 (by decide) ?_
  refine Ev.istore_n (pc := 1) dX9_getsOf_1 rfl rfl ?_
  refine Ev.iconst (pc := 2) (v := nI 0) dX9_getsOf_2 (by decide) ?_
  refine Ev.istore (pc := 3) dX9_getsOf_3 rfl rfl ?_
  exact kX9_getsOf_5 _ _ _ _ _ _ _ 100 _ _ hr
/-! X9_gets -/
def sX9_gets_71 (g2 : Hg) (v1 : Int32) (v2 : Int32) (v3 : Int32) (v4 : Int32) : Nat → Int32 → Int32 → Int32 → Option (Int32)
  | 0, _, _, _ => none
  | n + 1, v5, v6, v7 => if (g2 29 1) ≤ v7 then (if v3 = 0 then (some v5) else (some v6)) else (if inb v7 5 = true then (if inb v7 5 = true then (if inb ((nI 8) + v7) 62 = true then (if (nI 4) ≤ (g2 35 (Int32.toNatClampNeg ((nI 8) + v7))) then (if (sX9_has v4 v7) = true then (if (sX9_priceOf (g2 33 (Int32.toNatClampNeg v7)) (g2 32 (Int32.toNatClampNeg v7)) (nI 0)) ≤ v6 then (if (sX9_has v4 v7) = true then (if (sX9_priceOf (g2 33 (Int32.toNatClampNeg v7)) (g2 32 (Int32.toNatClampNeg v7)) (nI 0)) ≤ v6 then (sX9_gets_71 g2 v1 v2 v3 v4 n v5 v6 (v7 + (nI 1))) else (sX9_gets_71 g2 v1 v2 v3 v4 n v5 (sX9_priceOf (g2 33 (Int32.toNatClampNeg v7)) (g2 32 (Int32.toNatClampNeg v7)) (nI 0)) (v7 + (nI 1)))) else (sX9_gets_71 g2 v1 v2 v3 v4 n v5 v6 (v7 + (nI 1)))) else (if (sX9_has v4 v7) = true then (if (sX9_priceOf (g2 33 (Int32.toNatClampNeg v7)) (g2 32 (Int32.toNatClampNeg v7)) (nI 0)) ≤ v6 then (sX9_gets_71 g2 v1 v2 v3 v4 n v7 v6 (v7 + (nI 1))) else (sX9_gets_71 g2 v1 v2 v3 v4 n v7 (sX9_priceOf (g2 33 (Int32.toNatClampNeg v7)) (g2 32 (Int32.toNatClampNeg v7)) (nI 0)) (v7 + (nI 1)))) else (sX9_gets_71 g2 v1 v2 v3 v4 n v7 v6 (v7 + (nI 1))))) else (if (sX9_has v4 v7) = true then (if (sX9_priceOf (g2 33 (Int32.toNatClampNeg v7)) (g2 32 (Int32.toNatClampNeg v7)) (nI 0)) ≤ v6 then (sX9_gets_71 g2 v1 v2 v3 v4 n v5 v6 (v7 + (nI 1))) else (sX9_gets_71 g2 v1 v2 v3 v4 n v5 (sX9_priceOf (g2 33 (Int32.toNatClampNeg v7)) (g2 32 (Int32.toNatClampNeg v7)) (nI 0)) (v7 + (nI 1)))) else (sX9_gets_71 g2 v1 v2 v3 v4 n v5 v6 (v7 + (nI 1))))) else (if (sX9_has v4 v7) = true then (if (sX9_priceOf (g2 33 (Int32.toNatClampNeg v7)) (g2 32 (Int32.toNatClampNeg v7)) (nI 1)) ≤ v6 then (if (sX9_has v4 v7) = true then (if (sX9_priceOf (g2 33 (Int32.toNatClampNeg v7)) (g2 32 (Int32.toNatClampNeg v7)) (nI 1)) ≤ v6 then (sX9_gets_71 g2 v1 v2 v3 v4 n v5 v6 (v7 + (nI 1))) else (sX9_gets_71 g2 v1 v2 v3 v4 n v5 (sX9_priceOf (g2 33 (Int32.toNatClampNeg v7)) (g2 32 (Int32.toNatClampNeg v7)) (nI 1)) (v7 + (nI 1)))) else (sX9_gets_71 g2 v1 v2 v3 v4 n v5 v6 (v7 + (nI 1)))) else (if (sX9_has v4 v7) = true then (if (sX9_priceOf (g2 33 (Int32.toNatClampNeg v7)) (g2 32 (Int32.toNatClampNeg v7)) (nI 1)) ≤ v6 then (sX9_gets_71 g2 v1 v2 v3 v4 n v7 v6 (v7 + (nI 1))) else (sX9_gets_71 g2 v1 v2 v3 v4 n v7 (sX9_priceOf (g2 33 (Int32.toNatClampNeg v7)) (g2 32 (Int32.toNatClampNeg v7)) (nI 1)) (v7 + (nI 1)))) else (sX9_gets_71 g2 v1 v2 v3 v4 n v7 v6 (v7 + (nI 1))))) else (if (sX9_has v4 v7) = true then (if (sX9_priceOf (g2 33 (Int32.toNatClampNeg v7)) (g2 32 (Int32.toNatClampNeg v7)) (nI 1)) ≤ v6 then (sX9_gets_71 g2 v1 v2 v3 v4 n v5 v6 (v7 + (nI 1))) else (sX9_gets_71 g2 v1 v2 v3 v4 n v5 (sX9_priceOf (g2 33 (Int32.toNatClampNeg v7)) (g2 32 (Int32.toNatClampNeg v7)) (nI 1)) (v7 + (nI 1)))) else (sX9_gets_71 g2 v1 v2 v3 v4 n v5 v6 (v7 + (nI 1)))))) else none) else none) else none)
set_option maxRecDepth 20000 in
set_option maxHeartbeats 1000000 in
theorem kX9_gets_71 (g : Hg) (q : Int64) (g2 : Hg) (q2 : Int64)  (v1 : Int32) (v2 : Int32) (v3 : Int32) (v4 : Int32) (r : Int32) : ∀ (n : Nat) (v5 : Int32) (v6 : Int32) (v7 : Int32), sX9_gets_71 g2 v1 v2 v3 v4 n v5 v6 v7 = some r → Ev (Xi (fun x h' => x = r ∧ h' = (g, q, g2, q2))) MX9_gets 71 [some (.ref 29), some (.int v1), some (.int v2), some (.int v3), some (.int v4), some (.int v5), some (.int v6), some (.int v7), none] [] (g, q, g2, q2) := by
  intro n
  induction n with
  | zero => intro _ _ _ hr; cases hr
  | succ n ih =>
    intro v5 v6 v7 hr
    rw [sX9_gets_71] at hr
    refine Ev.iload (pc := 71) dX9_gets_71 rfl ?_
    refine Ev.aload_n (pc := 73) dX9_gets_73 rfl ?_
    refine Ev.get (pc := 74) (C0 := RX9) (T := TX9) (N := 31) (fl_29_1 _ _ _ _) rfl inX9_gets (by decide) lkX9_gets_105 dX9_gets_74 ?_
    refine Ev.icmpge (pc := 77) (tgt := 176) dX9_gets_77 (by decide) (fun c_5 => ?_) (fun c_5 => ?_)
    · have hr := (if_pos c_5).symm.trans hr
      refine Ev.iload_n (pc := 176) dX9_gets_176 rfl ?_
      refine Ev.ifne (pc := 177) (tgt := 185) dX9_gets_177 (by decide) (fun c_6 => ?_) (fun c_6 => ?_)
      · have hr := (if_neg c_6).symm.trans hr
        refine Ev.iload (pc := 185) dX9_gets_185 rfl ?_
        cases hr
        exact Ev.iret rfl rfl dX9_gets_187 ⟨rfl, rfl⟩
      · have hr := (if_pos c_6).symm.trans hr
        refine Ev.iload (pc := 180) dX9_gets_180 rfl ?_
        refine Ev.goto (pc := 182) (tgt := 187) dX9_gets_182 (by decide) ?_
        cases hr
        exact Ev.iret rfl rfl dX9_gets_187 ⟨rfl, rfl⟩
    · have hr := (if_neg c_5).symm.trans hr
      refine Ev.aload_n (pc := 80) dX9_gets_80 rfl ?_
      refine Ev.get (pc := 81) (C0 := RX9) (T := TX9) (N := 31) (fl_29_6 _ _ _ _) rfl inX9_gets (by decide) lkX9_gets_19 dX9_gets_81 ?_
      refine Ev.iload (pc := 84) dX9_gets_84 rfl ?_
      obtain ⟨c_7, hr⟩ := ckB hr
      refine Ev.iald (pc := 86) (ar_33 _ _ _ _) (inb_in c_7) dX9_gets_86 ?_
      refine Ev.aload_n (pc := 87) dX9_gets_87 rfl ?_
      refine Ev.get (pc := 88) (C0 := RX9) (T := TX9) (N := 31) (fl_29_5 _ _ _ _) rfl inX9_gets (by decide) lkX9_gets_16 dX9_gets_88 ?_
      refine Ev.iload (pc := 91) dX9_gets_91 rfl ?_
      obtain ⟨c_8, hr⟩ := ckB hr
      refine Ev.iald (pc := 93) (ar_32 _ _ _ _) (inb_in c_8) dX9_gets_93 ?_
      refine Ev.aload_n (pc := 94) dX9_gets_94 rfl ?_
      refine Ev.get (pc := 95) (C0 := RX9) (T := TX9) (N := 31) (fl_29_8 _ _ _ _) rfl inX9_gets (by decide) lkX9_gets_25 dX9_gets_95 ?_
      refine Ev.bipush (pc := 98) (v := nI 8) dX9_gets_98 (by decide) ?_
      refine Ev.iload (pc := 100) dX9_gets_100 rfl ?_
      refine Ev.iadd (pc := 102) dX9_gets_102 ?_
      obtain ⟨c_9, hr⟩ := ckB hr
      refine Ev.iald (pc := 103) (ar_35 _ _ _ _) (inb_in c_9) dX9_gets_103 ?_
      refine Ev.iconst (pc := 104) (v := nI 4) dX9_gets_104 (by decide) ?_
      refine Ev.icmpge (pc := 105) (tgt := 112) dX9_gets_105 (by decide) (fun c_10 => ?_) (fun c_10 => ?_)
      · have hr := (if_pos c_10).symm.trans hr
        refine Ev.iconst (pc := 112) (v := nI 0) dX9_gets_112 (by decide) ?_
        refine Ev.cSi (pc := 113) (As := [.int _, .int _, .int _]) (kX9_priceOf _ _ _ _ _ _ _) rfl gX9_gets_X9_priceOf hdX9_priceOf rfl ⟨rfl, rfl⟩ ⟨Nat.le_of_ble_eq_true rfl, Nat.le_of_ble_eq_true rfl⟩ (Nat.le_of_ble_eq_true rfl) ⟨Nat.le_of_ble_eq_true rfl, Nat.le_of_ble_eq_true rfl⟩ dX9_gets_113 ?_
        refine Ev.istore (pc := 116) dX9_gets_116 rfl rfl ?_
        refine Ev.iload (pc := 118) dX9_gets_118 rfl ?_
        refine Ev.iload (pc := 120) dX9_gets_120 rfl ?_
        refine Ev.cSi (pc := 122) (As := [.int _, .int _]) (kX9_has _ _ _ _ _ _) rfl gX9_gets_X9_has hdX9_has rfl ⟨rfl, rfl⟩ ⟨Nat.le_of_ble_eq_true rfl, Nat.le_of_ble_eq_true rfl⟩ (Nat.le_of_ble_eq_true rfl) ⟨Nat.le_of_ble_eq_true rfl, Nat.le_of_ble_eq_true rfl⟩ dX9_gets_122 ?_
        refine Ev.ifeqB (pc := 125) (tgt := 140) dX9_gets_125 (by decide) (fun c_11 => ?_) (fun c_11 => ?_)
        · have hr := (if_neg (ntr c_11)).symm.trans hr
          refine Ev.iload (pc := 140) dX9_gets_140 rfl ?_
          refine Ev.istore (pc := 142) dX9_gets_142 rfl rfl ?_
          refine Ev.iload (pc := 144) dX9_gets_144 rfl ?_
          refine Ev.iload (pc := 146) dX9_gets_146 rfl ?_
          refine Ev.cSi (pc := 148) (As := [.int _, .int _]) (kX9_has _ _ _ _ _ _) rfl gX9_gets_X9_has hdX9_has rfl ⟨rfl, rfl⟩ ⟨Nat.le_of_ble_eq_true rfl, Nat.le_of_ble_eq_true rfl⟩ (Nat.le_of_ble_eq_true rfl) ⟨Nat.le_of_ble_eq_true rfl, Nat.le_of_ble_eq_true rfl⟩ dX9_gets_148 ?_
          refine Ev.ifeqB (pc := 151) (tgt := 166) dX9_gets_151 (by decide) (fun c_12 => ?_) (fun c_12 => ?_)
          · have hr := (if_neg (ntr c_12)).symm.trans hr
            refine Ev.iload (pc := 166) dX9_gets_166 rfl ?_
            refine Ev.istore (pc := 168) dX9_gets_168 rfl rfl ?_
            refine Ev.iinc (pc := 170) (v := nI 1) dX9_gets_170 rfl rfl rfl rfl ?_
            refine Ev.goto (pc := 173) (tgt := 71) dX9_gets_173 (by decide) ?_
            refine Ev_drop 8 ?_
            exact ih _ _ _ hr
          · have hr := (if_pos c_12).symm.trans hr
            refine Ev.iload (pc := 154) dX9_gets_154 rfl ?_
            refine Ev.iload (pc := 156) dX9_gets_156 rfl ?_
            refine Ev.icmple (pc := 158) (tgt := 166) dX9_gets_158 (by decide) (fun c_13 => ?_) (fun c_13 => ?_)
            · have hr := (if_pos c_13).symm.trans hr
              refine Ev.iload (pc := 166) dX9_gets_166 rfl ?_
              refine Ev.istore (pc := 168) dX9_gets_168 rfl rfl ?_
              refine Ev.iinc (pc := 170) (v := nI 1) dX9_gets_170 rfl rfl rfl rfl ?_
              refine Ev.goto (pc := 173) (tgt := 71) dX9_gets_173 (by decide) ?_
              refine Ev_drop 8 ?_
              exact ih _ _ _ hr
            · have hr := (if_neg c_13).symm.trans hr
              refine Ev.iload (pc := 161) dX9_gets_161 rfl ?_
              refine Ev.goto (pc := 163) (tgt := 168) dX9_gets_163 (by decide) ?_
              refine Ev.istore (pc := 168) dX9_gets_168 rfl rfl ?_
              refine Ev.iinc (pc := 170) (v := nI 1) dX9_gets_170 rfl rfl rfl rfl ?_
              refine Ev.goto (pc := 173) (tgt := 71) dX9_gets_173 (by decide) ?_
              refine Ev_drop 8 ?_
              exact ih _ _ _ hr
        · have hr := (if_pos c_11).symm.trans hr
          refine Ev.iload (pc := 128) dX9_gets_128 rfl ?_
          refine Ev.iload (pc := 130) dX9_gets_130 rfl ?_
          refine Ev.icmple (pc := 132) (tgt := 140) dX9_gets_132 (by decide) (fun c_14 => ?_) (fun c_14 => ?_)
          · have hr := (if_pos c_14).symm.trans hr
            refine Ev.iload (pc := 140) dX9_gets_140 rfl ?_
            refine Ev.istore (pc := 142) dX9_gets_142 rfl rfl ?_
            refine Ev.iload (pc := 144) dX9_gets_144 rfl ?_
            refine Ev.iload (pc := 146) dX9_gets_146 rfl ?_
            refine Ev.cSi (pc := 148) (As := [.int _, .int _]) (kX9_has _ _ _ _ _ _) rfl gX9_gets_X9_has hdX9_has rfl ⟨rfl, rfl⟩ ⟨Nat.le_of_ble_eq_true rfl, Nat.le_of_ble_eq_true rfl⟩ (Nat.le_of_ble_eq_true rfl) ⟨Nat.le_of_ble_eq_true rfl, Nat.le_of_ble_eq_true rfl⟩ dX9_gets_148 ?_
            refine Ev.ifeqB (pc := 151) (tgt := 166) dX9_gets_151 (by decide) (fun c_15 => ?_) (fun c_15 => ?_)
            · have hr := (if_neg (ntr c_15)).symm.trans hr
              refine Ev.iload (pc := 166) dX9_gets_166 rfl ?_
              refine Ev.istore (pc := 168) dX9_gets_168 rfl rfl ?_
              refine Ev.iinc (pc := 170) (v := nI 1) dX9_gets_170 rfl rfl rfl rfl ?_
              refine Ev.goto (pc := 173) (tgt := 71) dX9_gets_173 (by decide) ?_
              refine Ev_drop 8 ?_
              exact ih _ _ _ hr
            · have hr := (if_pos c_15).symm.trans hr
              refine Ev.iload (pc := 154) dX9_gets_154 rfl ?_
              refine Ev.iload (pc := 156) dX9_gets_156 rfl ?_
              refine Ev.icmple (pc := 158) (tgt := 166) dX9_gets_158 (by decide) (fun c_16 => ?_) (fun c_16 => ?_)
              · have hr := (if_pos c_16).symm.trans hr
                refine Ev.iload (pc := 166) dX9_gets_166 rfl ?_
                refine Ev.istore (pc := 168) dX9_gets_168 rfl rfl ?_
                refine Ev.iinc (pc := 170) (v := nI 1) dX9_gets_170 rfl rfl rfl rfl ?_
                refine Ev.goto (pc := 173) (tgt := 71) dX9_gets_173 (by decide) ?_
                refine Ev_drop 8 ?_
                exact ih _ _ _ hr
              · have hr := (if_neg c_16).symm.trans hr
                refine Ev.iload (pc := 161) dX9_gets_161 rfl ?_
                refine Ev.goto (pc := 163) (tgt := 168) dX9_gets_163 (by decide) ?_
                refine Ev.istore (pc := 168) dX9_gets_168 rfl rfl ?_
                refine Ev.iinc (pc := 170) (v := nI 1) dX9_gets_170 rfl rfl rfl rfl ?_
                refine Ev.goto (pc := 173) (tgt := 71) dX9_gets_173 (by decide) ?_
                refine Ev_drop 8 ?_
                exact ih _ _ _ hr
          · have hr := (if_neg c_14).symm.trans hr
            refine Ev.iload (pc := 135) dX9_gets_135 rfl ?_
            refine Ev.goto (pc := 137) (tgt := 142) dX9_gets_137 (by decide) ?_
            refine Ev.istore (pc := 142) dX9_gets_142 rfl rfl ?_
            refine Ev.iload (pc := 144) dX9_gets_144 rfl ?_
            refine Ev.iload (pc := 146) dX9_gets_146 rfl ?_
            refine Ev.cSi (pc := 148) (As := [.int _, .int _]) (kX9_has _ _ _ _ _ _) rfl gX9_gets_X9_has hdX9_has rfl ⟨rfl, rfl⟩ ⟨Nat.le_of_ble_eq_true rfl, Nat.le_of_ble_eq_true rfl⟩ (Nat.le_of_ble_eq_true rfl) ⟨Nat.le_of_ble_eq_true rfl, Nat.le_of_ble_eq_true rfl⟩ dX9_gets_148 ?_
            refine Ev.ifeqB (pc := 151) (tgt := 166) dX9_gets_151 (by decide) (fun c_17 => ?_) (fun c_17 => ?_)
            · have hr := (if_neg (ntr c_17)).symm.trans hr
              refine Ev.iload (pc := 166) dX9_gets_166 rfl ?_
              refine Ev.istore (pc := 168) dX9_gets_168 rfl rfl ?_
              refine Ev.iinc (pc := 170) (v := nI 1) dX9_gets_170 rfl rfl rfl rfl ?_
              refine Ev.goto (pc := 173) (tgt := 71) dX9_gets_173 (by decide) ?_
              refine Ev_drop 8 ?_
              exact ih _ _ _ hr
            · have hr := (if_pos c_17).symm.trans hr
              refine Ev.iload (pc := 154) dX9_gets_154 rfl ?_
              refine Ev.iload (pc := 156) dX9_gets_156 rfl ?_
              refine Ev.icmple (pc := 158) (tgt := 166) dX9_gets_158 (by decide) (fun c_18 => ?_) (fun c_18 => ?_)
              · have hr := (if_pos c_18).symm.trans hr
                refine Ev.iload (pc := 166) dX9_gets_166 rfl ?_
                refine Ev.istore (pc := 168) dX9_gets_168 rfl rfl ?_
                refine Ev.iinc (pc := 170) (v := nI 1) dX9_gets_170 rfl rfl rfl rfl ?_
                refine Ev.goto (pc := 173) (tgt := 71) dX9_gets_173 (by decide) ?_
                refine Ev_drop 8 ?_
                exact ih _ _ _ hr
              · have hr := (if_neg c_18).symm.trans hr
                refine Ev.iload (pc := 161) dX9_gets_161 rfl ?_
                refine Ev.goto (pc := 163) (tgt := 168) dX9_gets_163 (by decide) ?_
                refine Ev.istore (pc := 168) dX9_gets_168 rfl rfl ?_
                refine Ev.iinc (pc := 170) (v := nI 1) dX9_gets_170 rfl rfl rfl rfl ?_
                refine Ev.goto (pc := 173) (tgt := 71) dX9_gets_173 (by decide) ?_
                refine Ev_drop 8 ?_
                exact ih _ _ _ hr
      · have hr := (if_neg c_10).symm.trans hr
        refine Ev.iconst (pc := 108) (v := nI 1) dX9_gets_108 (by decide) ?_
        refine Ev.goto (pc := 109) (tgt := 113) dX9_gets_109 (by decide) ?_
        refine Ev.cSi (pc := 113) (As := [.int _, .int _, .int _]) (kX9_priceOf _ _ _ _ _ _ _) rfl gX9_gets_X9_priceOf hdX9_priceOf rfl ⟨rfl, rfl⟩ ⟨Nat.le_of_ble_eq_true rfl, Nat.le_of_ble_eq_true rfl⟩ (Nat.le_of_ble_eq_true rfl) ⟨Nat.le_of_ble_eq_true rfl, Nat.le_of_ble_eq_true rfl⟩ dX9_gets_113 ?_
        refine Ev.istore (pc := 116) dX9_gets_116 rfl rfl ?_
        refine Ev.iload (pc := 118) dX9_gets_118 rfl ?_
        refine Ev.iload (pc := 120) dX9_gets_120 rfl ?_
        refine Ev.cSi (pc := 122) (As := [.int _, .int _]) (kX9_has _ _ _ _ _ _) rfl gX9_gets_X9_has hdX9_has rfl ⟨rfl, rfl⟩ ⟨Nat.le_of_ble_eq_true rfl, Nat.le_of_ble_eq_true rfl⟩ (Nat.le_of_ble_eq_true rfl) ⟨Nat.le_of_ble_eq_true rfl, Nat.le_of_ble_eq_true rfl⟩ dX9_gets_122 ?_
        refine Ev.ifeqB (pc := 125) (tgt := 140) dX9_gets_125 (by decide) (fun c_19 => ?_) (fun c_19 => ?_)
        · have hr := (if_neg (ntr c_19)).symm.trans hr
          refine Ev.iload (pc := 140) dX9_gets_140 rfl ?_
          refine Ev.istore (pc := 142) dX9_gets_142 rfl rfl ?_
          refine Ev.iload (pc := 144) dX9_gets_144 rfl ?_
          refine Ev.iload (pc := 146) dX9_gets_146 rfl ?_
          refine Ev.cSi (pc := 148) (As := [.int _, .int _]) (kX9_has _ _ _ _ _ _) rfl gX9_gets_X9_has hdX9_has rfl ⟨rfl, rfl⟩ ⟨Nat.le_of_ble_eq_true rfl, Nat.le_of_ble_eq_true rfl⟩ (Nat.le_of_ble_eq_true rfl) ⟨Nat.le_of_ble_eq_true rfl, Nat.le_of_ble_eq_true rfl⟩ dX9_gets_148 ?_
          refine Ev.ifeqB (pc := 151) (tgt := 166) dX9_gets_151 (by decide) (fun c_20 => ?_) (fun c_20 => ?_)
          · have hr := (if_neg (ntr c_20)).symm.trans hr
            refine Ev.iload (pc := 166) dX9_gets_166 rfl ?_
            refine Ev.istore (pc := 168) dX9_gets_168 rfl rfl ?_
            refine Ev.iinc (pc := 170) (v := nI 1) dX9_gets_170 rfl rfl rfl rfl ?_
            refine Ev.goto (pc := 173) (tgt := 71) dX9_gets_173 (by decide) ?_
            refine Ev_drop 8 ?_
            exact ih _ _ _ hr
          · have hr := (if_pos c_20).symm.trans hr
            refine Ev.iload (pc := 154) dX9_gets_154 rfl ?_
            refine Ev.iload (pc := 156) dX9_gets_156 rfl ?_
            refine Ev.icmple (pc := 158) (tgt := 166) dX9_gets_158 (by decide) (fun c_21 => ?_) (fun c_21 => ?_)
            · have hr := (if_pos c_21).symm.trans hr
              refine Ev.iload (pc := 166) dX9_gets_166 rfl ?_
              refine Ev.istore (pc := 168) dX9_gets_168 rfl rfl ?_
              refine Ev.iinc (pc := 170) (v := nI 1) dX9_gets_170 rfl rfl rfl rfl ?_
              refine Ev.goto (pc := 173) (tgt := 71) dX9_gets_173 (by decide) ?_
              refine Ev_drop 8 ?_
              exact ih _ _ _ hr
            · have hr := (if_neg c_21).symm.trans hr
              refine Ev.iload (pc := 161) dX9_gets_161 rfl ?_
              refine Ev.goto (pc := 163) (tgt := 168) dX9_gets_163 (by decide) ?_
              refine Ev.istore (pc := 168) dX9_gets_168 rfl rfl ?_
              refine Ev.iinc (pc := 170) (v := nI 1) dX9_gets_170 rfl rfl rfl rfl ?_
              refine Ev.goto (pc := 173) (tgt := 71) dX9_gets_173 (by decide) ?_
              refine Ev_drop 8 ?_
              exact ih _ _ _ hr
        · have hr := (if_pos c_19).symm.trans hr
          refine Ev.iload (pc := 128) dX9_gets_128 rfl ?_
          refine Ev.iload (pc := 130) dX9_gets_130 rfl ?_
          refine Ev.icmple (pc := 132) (tgt := 140) dX9_gets_132 (by decide) (fun c_22 => ?_) (fun c_22 => ?_)
          · have hr := (if_pos c_22).symm.trans hr
            refine Ev.iload (pc := 140) dX9_gets_140 rfl ?_
            refine Ev.istore (pc := 142) dX9_gets_142 rfl rfl ?_
            refine Ev.iload (pc := 144) dX9_gets_144 rfl ?_
            refine Ev.iload (pc := 146) dX9_gets_146 rfl ?_
            refine Ev.cSi (pc := 148) (As := [.int _, .int _]) (kX9_has _ _ _ _ _ _) rfl gX9_gets_X9_has hdX9_has rfl ⟨rfl, rfl⟩ ⟨Nat.le_of_ble_eq_true rfl, Nat.le_of_ble_eq_true rfl⟩ (Nat.le_of_ble_eq_true rfl) ⟨Nat.le_of_ble_eq_true rfl, Nat.le_of_ble_eq_true rfl⟩ dX9_gets_148 ?_
            refine Ev.ifeqB (pc := 151) (tgt := 166) dX9_gets_151 (by decide) (fun c_23 => ?_) (fun c_23 => ?_)
            · have hr := (if_neg (ntr c_23)).symm.trans hr
              refine Ev.iload (pc := 166) dX9_gets_166 rfl ?_
              refine Ev.istore (pc := 168) dX9_gets_168 rfl rfl ?_
              refine Ev.iinc (pc := 170) (v := nI 1) dX9_gets_170 rfl rfl rfl rfl ?_
              refine Ev.goto (pc := 173) (tgt := 71) dX9_gets_173 (by decide) ?_
              refine Ev_drop 8 ?_
              exact ih _ _ _ hr
            · have hr := (if_pos c_23).symm.trans hr
              refine Ev.iload (pc := 154) dX9_gets_154 rfl ?_
              refine Ev.iload (pc := 156) dX9_gets_156 rfl ?_
              refine Ev.icmple (pc := 158) (tgt := 166) dX9_gets_158 (by decide) (fun c_24 => ?_) (fun c_24 => ?_)
              · have hr := (if_pos c_24).symm.trans hr
                refine Ev.iload (pc := 166) dX9_gets_166 rfl ?_
                refine Ev.istore (pc := 168) dX9_gets_168 rfl rfl ?_
                refine Ev.iinc (pc := 170) (v := nI 1) dX9_gets_170 rfl rfl rfl rfl ?_
                refine Ev.goto (pc := 173) (tgt := 71) dX9_gets_173 (by decide) ?_
                refine Ev_drop 8 ?_
                exact ih _ _ _ hr
              · have hr := (if_neg c_24).symm.trans hr
                refine Ev.iload (pc := 161) dX9_gets_161 rfl ?_
                refine Ev.goto (pc := 163) (tgt := 168) dX9_gets_163 (by decide) ?_
                refine Ev.istore (pc := 168) dX9_gets_168 rfl rfl ?_
                refine Ev.iinc (pc := 170) (v := nI 1) dX9_gets_170 rfl rfl rfl rfl ?_
                refine Ev.goto (pc := 173) (tgt := 71) dX9_gets_173 (by decide) ?_
                refine Ev_drop 8 ?_
                exact ih _ _ _ hr
          · have hr := (if_neg c_22).symm.trans hr
            refine Ev.iload (pc := 135) dX9_gets_135 rfl ?_
            refine Ev.goto (pc := 137) (tgt := 142) dX9_gets_137 (by decide) ?_
            refine Ev.istore (pc := 142) dX9_gets_142 rfl rfl ?_
            refine Ev.iload (pc := 144) dX9_gets_144 rfl ?_
            refine Ev.iload (pc := 146) dX9_gets_146 rfl ?_
            refine Ev.cSi (pc := 148) (As := [.int _, .int _]) (kX9_has _ _ _ _ _ _) rfl gX9_gets_X9_has hdX9_has rfl ⟨rfl, rfl⟩ ⟨Nat.le_of_ble_eq_true rfl, Nat.le_of_ble_eq_true rfl⟩ (Nat.le_of_ble_eq_true rfl) ⟨Nat.le_of_ble_eq_true rfl, Nat.le_of_ble_eq_true rfl⟩ dX9_gets_148 ?_
            refine Ev.ifeqB (pc := 151) (tgt := 166) dX9_gets_151 (by decide) (fun c_25 => ?_) (fun c_25 => ?_)
            · have hr := (if_neg (ntr c_25)).symm.trans hr
              refine Ev.iload (pc := 166) dX9_gets_166 rfl ?_
              refine Ev.istore (pc := 168) dX9_gets_168 rfl rfl ?_
              refine Ev.iinc (pc := 170) (v := nI 1) dX9_gets_170 rfl rfl rfl rfl ?_
              refine Ev.goto (pc := 173) (tgt := 71) dX9_gets_173 (by decide) ?_
              refine Ev_drop 8 ?_
              exact ih _ _ _ hr
            · have hr := (if_pos c_25).symm.trans hr
              refine Ev.iload (pc := 154) dX9_gets_154 rfl ?_
              refine Ev.iload (pc := 156) dX9_gets_156 rfl ?_
              refine Ev.icmple (pc := 158) (tgt := 166) dX9_gets_158 (by decide) (fun c_26 => ?_) (fun c_26 => ?_)
              · have hr := (if_pos c_26).symm.trans hr
                refine Ev.iload (pc := 166) dX9_gets_166 rfl ?_
                refine Ev.istore (pc := 168) dX9_gets_168 rfl rfl ?_
                refine Ev.iinc (pc := 170) (v := nI 1) dX9_gets_170 rfl rfl rfl rfl ?_
                refine Ev.goto (pc := 173) (tgt := 71) dX9_gets_173 (by decide) ?_
                refine Ev_drop 8 ?_
                exact ih _ _ _ hr
              · have hr := (if_neg c_26).symm.trans hr
                refine Ev.iload (pc := 161) dX9_gets_161 rfl ?_
                refine Ev.goto (pc := 163) (tgt := 168) dX9_gets_163 (by decide) ?_
                refine Ev.istore (pc := 168) dX9_gets_168 rfl rfl ?_
                refine Ev.iinc (pc := 170) (v := nI 1) dX9_gets_170 rfl rfl rfl rfl ?_
                refine Ev.goto (pc := 173) (tgt := 71) dX9_gets_173 (by decide) ?_
                refine Ev_drop 8 ?_
                exact ih _ _ _ hr
def sX9_gets (g2 : Hg) (a1 : Int32) (a2 : Int32) (a3 : Int32) : Option (Int32) := if (sX9_isLark g2 a1) = true then (if (sX9_in (Int32.toInt64 a2) (lN 1) ((9 : Int64))) = true then (if (sX9_in (Int32.toInt64 a3) (lN 0) (lN 1)) = true then (if (sX9_has (g2 35 (Int32.toNatClampNeg (nI 28))) a1) = true then (some ((-3))) else ((sX9_getsOf g2 a1 a2).bind fun x_1 => (sX9_gets_71 g2 a1 a2 a3 x_1 100 ((-9)) ((-9)) (nI 0)))) else (some ((-2)))) else (some ((-2)))) else (some ((-1)))
set_option maxRecDepth 20000 in
set_option maxHeartbeats 1000000 in
theorem kX9_gets (g : Hg) (q : Int64) (g2 : Hg) (q2 : Int64) (a1 : Int32) (a2 : Int32) (a3 : Int32) {r : Int32} (hr : sX9_gets g2 a1 a2 a3 = some r) : CtI MX9_gets [.ref 29, .int a1, .int a2, .int a3] (g, q, g2, q2) (fun x h' => x = r ∧ h' = (g, q, g2, q2)) := by
  unfold sX9_gets at hr
  refine CtI_L 5 rfl (by decide +kernel) rfl (Nat.le_of_ble_eq_true rfl) ?_
  show Ev _ _ 0 [some (.ref 29), some (.int a1), some (.int a2), some (.int a3), none, none, none, none, none] [] _
  refine Ev.aload_n (pc := 0) dX9_gets_0 rfl ?_
  refine Ev.iload_n (pc := 1) dX9_gets_1 rfl ?_
  refine Ev.cVi (pc := 2) (As := [.int _]) (kX9_isLark _ _ _ _ _) rfl rfl (ob_29 _) gX9_gets_X9_isLark hdX9_isLark rfl ⟨rfl, rfl⟩ ⟨Nat.le_of_ble_eq_true rfl, Nat.le_of_ble_eq_true rfl⟩ (Nat.le_of_ble_eq_true rfl) ⟨Nat.le_of_ble_eq_true rfl, Nat.le_of_ble_eq_true rfl⟩ dX9_gets_2 ?_
  refine Ev.ifneB (pc := 5) (tgt := 10) dX9_gets_5 (by decide) (fun c_1 => ?_) (fun c_1 => ?_)
  · have hr := (if_pos c_1).symm.trans hr
    refine Ev.iload_n (pc := 10) dX9_gets_10 rfl ?_
    refine Ev.i2l (pc := 11) dX9_gets_11 ?_
    refine Ev.lconst (pc := 12) (v := lN 1) dX9_gets_12 rfl ?_
    refine Ev.ldc2 (pc := 13) (v := 9) (by decide +kernel) dX9_gets_13 ?_
    refine Ev.cSi (pc := 16) (As := [.long _, .long _, .long _]) (kX9_in _ _ _ _ _ _ _) rfl gX9_gets_X9_in hdX9_in rfl ⟨rfl, rfl⟩ ⟨Nat.le_of_ble_eq_true rfl, Nat.le_of_ble_eq_true rfl⟩ (Nat.le_of_ble_eq_true rfl) ⟨Nat.le_of_ble_eq_true rfl, Nat.le_of_ble_eq_true rfl⟩ dX9_gets_16 ?_
    refine Ev.ifeqB (pc := 19) (tgt := 32) dX9_gets_19 (by decide) (fun c_2 => ?_) (fun c_2 => ?_)
    · have hr := (if_neg (ntr c_2)).symm.trans hr
      refine Ev.bipush (pc := 32) (v := (-2)) dX9_gets_32 (by decide) ?_
      cases hr
      exact Ev.iret rfl rfl dX9_gets_34 ⟨rfl, rfl⟩
    · have hr := (if_pos c_2).symm.trans hr
      refine Ev.iload_n (pc := 22) dX9_gets_22 rfl ?_
      refine Ev.i2l (pc := 23) dX9_gets_23 ?_
      refine Ev.lconst (pc := 24) (v := lN 0) dX9_gets_24 rfl ?_
      refine Ev.lconst (pc := 25) (v := lN 1) dX9_gets_25 rfl ?_
      refine Ev.cSi (pc := 26) (As := [.long _, .long _, .long _]) (kX9_in _ _ _ _ _ _ _) rfl gX9_gets_X9_in hdX9_in rfl ⟨rfl, rfl⟩ ⟨Nat.le_of_ble_eq_true rfl, Nat.le_of_ble_eq_true rfl⟩ (Nat.le_of_ble_eq_true rfl) ⟨Nat.le_of_ble_eq_true rfl, Nat.le_of_ble_eq_true rfl⟩ dX9_gets_26 ?_
      refine Ev.ifneB (pc := 29) (tgt := 35) dX9_gets_29 (by decide) (fun c_3 => ?_) (fun c_3 => ?_)
      · have hr := (if_pos c_3).symm.trans hr
        refine Ev.aload_n (pc := 35) dX9_gets_35 rfl ?_
        refine Ev.get (pc := 36) (C0 := RX9) (T := TX9) (N := 31) (fl_29_8 _ _ _ _) rfl inX9_gets (by decide) lkX9_gets_25 dX9_gets_36 ?_
        refine Ev.bipush (pc := 39) (v := nI 28) dX9_gets_39 (by decide) ?_
        refine Ev.iald (pc := 41) (ar_35 _ _ _ _) (vp_in_nI (n := 28) (N := 62) (by decide) (by decide)) dX9_gets_41 ?_
        refine Ev.iload_n (pc := 42) dX9_gets_42 rfl ?_
        refine Ev.cSi (pc := 43) (As := [.int _, .int _]) (kX9_has _ _ _ _ _ _) rfl gX9_gets_X9_has hdX9_has rfl ⟨rfl, rfl⟩ ⟨Nat.le_of_ble_eq_true rfl, Nat.le_of_ble_eq_true rfl⟩ (Nat.le_of_ble_eq_true rfl) ⟨Nat.le_of_ble_eq_true rfl, Nat.le_of_ble_eq_true rfl⟩ dX9_gets_43 ?_
        refine Ev.ifeqB (pc := 46) (tgt := 52) dX9_gets_46 (by decide) (fun c_4 => ?_) (fun c_4 => ?_)
        · have hr := (if_neg (ntr c_4)).symm.trans hr
          refine Ev.aload_n (pc := 52) dX9_gets_52 rfl ?_
          refine Ev.iload_n (pc := 53) dX9_gets_53 rfl ?_
          refine Ev.iload_n (pc := 54) dX9_gets_54 rfl ?_
          obtain ⟨x_1, hx_1, hr⟩ := Option.bind_eq_some_iff.mp hr
          refine Ev.cVi (pc := 55) (As := [.int _, .int _]) (kX9_getsOf _ _ _ _ _ _ hx_1) rfl rfl (ob_29 _) gX9_gets_X9_getsOf hdX9_getsOf rfl ⟨rfl, rfl⟩ ⟨Nat.le_of_ble_eq_true rfl, Nat.le_of_ble_eq_true rfl⟩ (Nat.le_of_ble_eq_true rfl) ⟨Nat.le_of_ble_eq_true rfl, Nat.le_of_ble_eq_true rfl⟩ dX9_gets_55 ?_
          refine Ev.istore (pc := 58) dX9_gets_58 rfl rfl ?_
          refine Ev.bipush (pc := 60) (v := (-9)) dX9_gets_60 (by decide) ?_
          refine Ev.istore (pc := 62) dX9_gets_62 rfl rfl ?_
          refine Ev.bipush (pc := 64) (v := (-9)) dX9_gets_64 (by decide) ?_
          refine Ev.istore (pc := 66) dX9_gets_66 rfl rfl ?_
          refine Ev.iconst (pc := 68) (v := nI 0) dX9_gets_68 (by decide) ?_
          refine Ev.istore (pc := 69) dX9_gets_69 rfl rfl ?_
          exact kX9_gets_71 _ _ _ _ _ _ _ _ _ 100 _ _ _ hr
        · have hr := (if_pos c_4).symm.trans hr
          refine Ev.bipush (pc := 49) (v := (-3)) dX9_gets_49 (by decide) ?_
          cases hr
          exact Ev.iret rfl rfl dX9_gets_51 ⟨rfl, rfl⟩
      · have hr := (if_neg (ntr c_3)).symm.trans hr
        refine Ev.bipush (pc := 32) (v := (-2)) dX9_gets_32 (by decide) ?_
        cases hr
        exact Ev.iret rfl rfl dX9_gets_34 ⟨rfl, rfl⟩
  · have hr := (if_neg (ntr c_1)).symm.trans hr
    refine Ev.iconst (pc := 8) (v := (-1)) dX9_gets_8 (by decide) ?_
    cases hr
    exact Ev.iret rfl rfl dX9_gets_9 ⟨rfl, rfl⟩
/-! X9_layTrial -/
def sX9_layTrial_2  : Nat → Hg → Int32 → Option (Hg)
  | 0, _, _ => none
  | n + 1, g2, v1 => if (nI 31) ≤ v1 then (some g2) else (if inb v1 62 = true then (if inb ((nI 31) + v1) 62 = true then (sX9_layTrial_2 n (stA g2 35 (Int32.toNatClampNeg ((nI 31) + v1)) (g2 35 (Int32.toNatClampNeg v1))) (v1 + (nI 1))) else none) else none)
set_option maxRecDepth 20000 in
set_option maxHeartbeats 1000000 in
theorem kX9_layTrial_2 (g : Hg) (q : Int64) (q2 : Int64)   (r : Hg) : ∀ (n : Nat) (g2 : Hg) (v1 : Int32), sX9_layTrial_2 n g2 v1 = some r → Ev (Xv (fun h' => h' = (g, q, r, q2))) MX9_layTrial 2 [some (.ref 29), some (.int v1)] [] (g, q, g2, q2) := by
  intro n
  induction n with
  | zero => intro _ _ hr; cases hr
  | succ n ih =>
    intro g2 v1 hr
    rw [sX9_layTrial_2] at hr
    refine Ev.iload_n (pc := 2) dX9_layTrial_2 rfl ?_
    refine Ev.bipush (pc := 3) (v := nI 31) dX9_layTrial_3 (by decide) ?_
    refine Ev.icmpge (pc := 5) (tgt := 29) dX9_layTrial_5 (by decide) (fun c_1 => ?_) (fun c_1 => ?_)
    · have hr := (if_pos c_1).symm.trans hr
      cases hr
      exact Ev.vret rfl dX9_layTrial_29 rfl
    · have hr := (if_neg c_1).symm.trans hr
      refine Ev.aload_n (pc := 8) dX9_layTrial_8 rfl ?_
      refine Ev.get (pc := 9) (C0 := RX9) (T := TX9) (N := 31) (fl_29_8 _ _ _ _) rfl inX9_layTrial (by decide) lkX9_layTrial_25 dX9_layTrial_9 ?_
      refine Ev.bipush (pc := 12) (v := nI 31) dX9_layTrial_12 (by decide) ?_
      refine Ev.iload_n (pc := 14) dX9_layTrial_14 rfl ?_
      refine Ev.iadd (pc := 15) dX9_layTrial_15 ?_
      refine Ev.aload_n (pc := 16) dX9_layTrial_16 rfl ?_
      refine Ev.get (pc := 17) (C0 := RX9) (T := TX9) (N := 31) (fl_29_8 _ _ _ _) rfl inX9_layTrial (by decide) lkX9_layTrial_25 dX9_layTrial_17 ?_
      refine Ev.iload_n (pc := 20) dX9_layTrial_20 rfl ?_
      obtain ⟨c_2, hr⟩ := ckB hr
      refine Ev.iald (pc := 21) (ar_35 _ _ _ _) (inb_in c_2) dX9_layTrial_21 ?_
      obtain ⟨c_3, hr⟩ := ckB hr
      refine Ev.iast (pc := 22) (ar_35 _ _ _ _) (inb_in c_3) (se_35 _ _ _ _ _) dX9_layTrial_22 ?_
      refine Ev.iinc (pc := 23) (v := nI 1) dX9_layTrial_23 rfl rfl rfl rfl ?_
      refine Ev.goto (pc := 26) (tgt := 2) dX9_layTrial_26 (by decide) ?_
      exact ih _ _ hr
def sX9_layTrial (g2 : Hg) : Option (Hg) := sX9_layTrial_2 100 g2 (nI 0)
set_option maxRecDepth 20000 in
set_option maxHeartbeats 1000000 in
theorem kX9_layTrial (g : Hg) (q : Int64) (g2 : Hg) (q2 : Int64) {r : Hg} (hr : sX9_layTrial g2 = some r) : CtV MX9_layTrial [.ref 29] (g, q, g2, q2) (fun h' => h' = (g, q, r, q2)) := by
  unfold sX9_layTrial at hr
  refine CtV_L 1 rfl (by decide +kernel) rfl (Nat.le_of_ble_eq_true rfl) ?_
  show Ev _ _ 0 [some (.ref 29), none] [] _
  refine Ev.iconst (pc := 0) (v := nI 0) dX9_layTrial_0 (by decide) ?_
  refine Ev.istore_n (pc := 1) dX9_layTrial_1 rfl rfl ?_
  exact kX9_layTrial_2 _ _ _  _ 100 _ _ hr
/-! X9_tryThing -/
def sX9_tryThing (g2 : Hg) (a1 : Int32) (a2 : Int32) (a3 : Int32) : Option (Bool × Hg) := if a1 = nI 0 then ((sX9_passOn g2 (nI 1)).bind fun x_1 => (if a2 = 0 then (if a3 = 0 then (some (true, x_1.2)) else (some (false, x_1.2))) else (some (false, x_1.2)))) else (if a1 = nI 1 then ((sX9_canWalk g2 (nI 1) a2 a3).bind fun x_2 => (if x_2 = true then ((sX9_walkOn g2 (nI 1) a2 a3).bind fun x_3 => (some (x_2, x_3))) else (some (x_2, g2)))) else (if a1 = nI 2 then ((sX9_canDig g2 (nI 1) a2 a3).bind fun x_4 => (if x_4 = true then ((sX9_digOn g2 (nI 1) a2 a3).bind fun x_5 => (some (x_4, x_5))) else (some (x_4, g2)))) else (if a1 = nI 3 then (if a2 = 0 then ((sX9_canSell g2 (nI 1) a3).bind fun x_7 => (if x_7 = true then (if (nI 1) = 0 then (some (true, g2)) else ((sX9_sellOn g2 (nI 1) a3).bind fun x_9 => (some (true, x_9)))) else (if (nI 0) = 0 then (some (false, g2)) else ((sX9_sellOn g2 (nI 1) a3).bind fun x_8 => (some (false, x_8)))))) else (if (nI 0) = 0 then (some (false, g2)) else ((sX9_sellOn g2 (nI 1) a3).bind fun x_6 => (some (false, x_6))))) else (if a1 = nI 4 then (if (sX9_isLark g2 a2) = true then (if inb ((nI 35) + a2) 62 = true then (if (g2 35 (Int32.toNatClampNeg ((nI 35) + a2))) < a3 then (some (false, g2)) else (some (true, g2))) else none) else (some (false, g2))) else (if a1 = nI 5 then (if a2 = 0 then (if (sX9_isLark g2 a3) = true then (if (sX9_has (g2 35 (Int32.toNatClampNeg (nI 59))) a3) = true then (some (false, g2)) else (some (true, g2))) else (some (false, g2))) else (some (false, g2))) else (some (false, g2)))))))
set_option maxRecDepth 20000 in
set_option maxHeartbeats 1000000 in
theorem kX9_tryThing (g : Hg) (q : Int64) (g2 : Hg) (q2 : Int64) (a1 : Int32) (a2 : Int32) (a3 : Int32) {r : Bool × Hg} (hr : sX9_tryThing g2 a1 a2 a3 = some r) : CtI MX9_tryThing [.ref 29, .int a1, .int a2, .int a3] (g, q, g2, q2) (fun x h' => x = bI r.1 ∧ h' = (g, q, r.2, q2)) := by
  unfold sX9_tryThing at hr
  refine CtI_L 3 rfl (by decide +kernel) rfl (Nat.le_of_ble_eq_true rfl) ?_
  show Ev _ _ 0 [some (.ref 29), some (.int a1), some (.int a2), some (.int a3), none, none, none] [] _
  refine Ev.iload_n (pc := 0) dX9_tryThing_0 rfl ?_
  by_cases c_1 : a1 = nI 0
  · have hr := (if_pos c_1).symm.trans hr
    refine Ev.tableK (pc := 1) (tgt := 40) 0 c_1 (by decide) dX9_tryThing_1 (by decide) rfl (by decide) ?_
    refine Ev.aload_n (pc := 40) dX9_tryThing_40 rfl ?_
    refine Ev.iconst (pc := 41) (v := nI 1) dX9_tryThing_41 (by decide) ?_
    obtain ⟨x_1, hx_1, hr⟩ := Option.bind_eq_some_iff.mp hr
    refine Ev.cVi (pc := 42) (As := [.int _]) (kX9_passOn _ _ _ _ _ hx_1) rfl rfl (ob_29 _) gX9_tryThing_X9_passOn hdX9_passOn rfl ⟨rfl, rfl⟩ ⟨Nat.le_of_ble_eq_true rfl, Nat.le_of_ble_eq_true rfl⟩ (Nat.le_of_ble_eq_true rfl) ⟨Nat.le_of_ble_eq_true rfl, Nat.le_of_ble_eq_true rfl⟩ dX9_tryThing_42 ?_
    refine Ev.pop (pc := 45) dX9_tryThing_45 rfl ?_
    refine Ev.iload_n (pc := 46) dX9_tryThing_46 rfl ?_
    refine Ev.ifne (pc := 47) (tgt := 58) dX9_tryThing_47 (by decide) (fun c_2 => ?_) (fun c_2 => ?_)
    · have hr := (if_neg c_2).symm.trans hr
      refine Ev.iconst (pc := 58) (v := nI 0) dX9_tryThing_58 (by decide) ?_
      cases hr
      exact Ev.iret rfl rfl dX9_tryThing_59 ⟨rfl, rfl⟩
    · have hr := (if_pos c_2).symm.trans hr
      refine Ev.iload_n (pc := 50) dX9_tryThing_50 rfl ?_
      refine Ev.ifne (pc := 51) (tgt := 58) dX9_tryThing_51 (by decide) (fun c_3 => ?_) (fun c_3 => ?_)
      · have hr := (if_neg c_3).symm.trans hr
        refine Ev.iconst (pc := 58) (v := nI 0) dX9_tryThing_58 (by decide) ?_
        cases hr
        exact Ev.iret rfl rfl dX9_tryThing_59 ⟨rfl, rfl⟩
      · have hr := (if_pos c_3).symm.trans hr
        refine Ev.iconst (pc := 54) (v := nI 1) dX9_tryThing_54 (by decide) ?_
        refine Ev.goto (pc := 55) (tgt := 59) dX9_tryThing_55 (by decide) ?_
        cases hr
        exact Ev.iret rfl rfl dX9_tryThing_59 ⟨rfl, rfl⟩
  have hr := (if_neg c_1).symm.trans hr
  by_cases c_4 : a1 = nI 1
  · have hr := (if_pos c_4).symm.trans hr
    refine Ev.tableK (pc := 1) (tgt := 60) 1 c_4 (by decide) dX9_tryThing_1 (by decide) rfl (by decide) ?_
    refine Ev.aload_n (pc := 60) dX9_tryThing_60 rfl ?_
    refine Ev.iconst (pc := 61) (v := nI 1) dX9_tryThing_61 (by decide) ?_
    refine Ev.iload_n (pc := 62) dX9_tryThing_62 rfl ?_
    refine Ev.iload_n (pc := 63) dX9_tryThing_63 rfl ?_
    obtain ⟨x_2, hx_2, hr⟩ := Option.bind_eq_some_iff.mp hr
    refine Ev.cVi (pc := 64) (As := [.int _, .int _, .int _]) (kX9_canWalk _ _ _ _ _ _ _ hx_2) rfl rfl (ob_29 _) gX9_tryThing_X9_canWalk hdX9_canWalk rfl ⟨rfl, rfl⟩ ⟨Nat.le_of_ble_eq_true rfl, Nat.le_of_ble_eq_true rfl⟩ (Nat.le_of_ble_eq_true rfl) ⟨Nat.le_of_ble_eq_true rfl, Nat.le_of_ble_eq_true rfl⟩ dX9_tryThing_64 ?_
    refine Ev.istore (pc := 67) dX9_tryThing_67 rfl rfl ?_
    refine Ev.iload (pc := 69) dX9_tryThing_69 rfl ?_
    refine Ev.ifeqB (pc := 71) (tgt := 81) dX9_tryThing_71 (by decide) (fun c_5 => ?_) (fun c_5 => ?_)
    · have hr := (if_neg (ntr c_5)).symm.trans hr
      refine Ev.iload (pc := 81) dX9_tryThing_81 rfl ?_
      cases hr
      exact Ev.iret rfl (bI_nar _) dX9_tryThing_83 ⟨rfl, rfl⟩
    · have hr := (if_pos c_5).symm.trans hr
      refine Ev.aload_n (pc := 74) dX9_tryThing_74 rfl ?_
      refine Ev.iconst (pc := 75) (v := nI 1) dX9_tryThing_75 (by decide) ?_
      refine Ev.iload_n (pc := 76) dX9_tryThing_76 rfl ?_
      refine Ev.iload_n (pc := 77) dX9_tryThing_77 rfl ?_
      obtain ⟨x_3, hx_3, hr⟩ := Option.bind_eq_some_iff.mp hr
      refine Ev.cVv (pc := 78) (As := [.int _, .int _, .int _]) (kX9_walkOn _ _ _ _ _ _ _ hx_3) rfl rfl (ob_29 _) gX9_tryThing_X9_walkOn hdX9_walkOn rfl ⟨rfl, rfl⟩ ⟨Nat.le_of_ble_eq_true rfl, Nat.le_of_ble_eq_true rfl⟩ (Nat.le_of_ble_eq_true rfl) ⟨Nat.le_of_ble_eq_true rfl, Nat.le_of_ble_eq_true rfl⟩ dX9_tryThing_78 ?_
      refine Ev.iload (pc := 81) dX9_tryThing_81 rfl ?_
      cases hr
      exact Ev.iret rfl (bI_nar _) dX9_tryThing_83 ⟨rfl, rfl⟩
  have hr := (if_neg c_4).symm.trans hr
  by_cases c_6 : a1 = nI 2
  · have hr := (if_pos c_6).symm.trans hr
    refine Ev.tableK (pc := 1) (tgt := 84) 2 c_6 (by decide) dX9_tryThing_1 (by decide) rfl (by decide) ?_
    refine Ev.aload_n (pc := 84) dX9_tryThing_84 rfl ?_
    refine Ev.iconst (pc := 85) (v := nI 1) dX9_tryThing_85 (by decide) ?_
    refine Ev.iload_n (pc := 86) dX9_tryThing_86 rfl ?_
    refine Ev.iload_n (pc := 87) dX9_tryThing_87 rfl ?_
    obtain ⟨x_4, hx_4, hr⟩ := Option.bind_eq_some_iff.mp hr
    refine Ev.cVi (pc := 88) (As := [.int _, .int _, .int _]) (kX9_canDig _ _ _ _ _ _ _ hx_4) rfl rfl (ob_29 _) gX9_tryThing_X9_canDig hdX9_canDig rfl ⟨rfl, rfl⟩ ⟨Nat.le_of_ble_eq_true rfl, Nat.le_of_ble_eq_true rfl⟩ (Nat.le_of_ble_eq_true rfl) ⟨Nat.le_of_ble_eq_true rfl, Nat.le_of_ble_eq_true rfl⟩ dX9_tryThing_88 ?_
    refine Ev.istore (pc := 91) dX9_tryThing_91 rfl rfl ?_
    refine Ev.iload (pc := 93) dX9_tryThing_93 rfl ?_
    refine Ev.ifeqB (pc := 95) (tgt := 105) dX9_tryThing_95 (by decide) (fun c_7 => ?_) (fun c_7 => ?_)
    · have hr := (if_neg (ntr c_7)).symm.trans hr
      refine Ev.iload (pc := 105) dX9_tryThing_105 rfl ?_
      cases hr
      exact Ev.iret rfl (bI_nar _) dX9_tryThing_107 ⟨rfl, rfl⟩
    · have hr := (if_pos c_7).symm.trans hr
      refine Ev.aload_n (pc := 98) dX9_tryThing_98 rfl ?_
      refine Ev.iconst (pc := 99) (v := nI 1) dX9_tryThing_99 (by decide) ?_
      refine Ev.iload_n (pc := 100) dX9_tryThing_100 rfl ?_
      refine Ev.iload_n (pc := 101) dX9_tryThing_101 rfl ?_
      obtain ⟨x_5, hx_5, hr⟩ := Option.bind_eq_some_iff.mp hr
      refine Ev.cVv (pc := 102) (As := [.int _, .int _, .int _]) (kX9_digOn _ _ _ _ _ _ _ hx_5) rfl rfl (ob_29 _) gX9_tryThing_X9_digOn hdX9_digOn rfl ⟨rfl, rfl⟩ ⟨Nat.le_of_ble_eq_true rfl, Nat.le_of_ble_eq_true rfl⟩ (Nat.le_of_ble_eq_true rfl) ⟨Nat.le_of_ble_eq_true rfl, Nat.le_of_ble_eq_true rfl⟩ dX9_tryThing_102 ?_
      refine Ev.iload (pc := 105) dX9_tryThing_105 rfl ?_
      cases hr
      exact Ev.iret rfl (bI_nar _) dX9_tryThing_107 ⟨rfl, rfl⟩
  have hr := (if_neg c_6).symm.trans hr
  by_cases c_8 : a1 = nI 3
  · have hr := (if_pos c_8).symm.trans hr
    refine Ev.tableK (pc := 1) (tgt := 108) 3 c_8 (by decide) dX9_tryThing_1 (by decide) rfl (by decide) ?_
    refine Ev.iload_n (pc := 108) dX9_tryThing_108 rfl ?_
    refine Ev.ifne (pc := 109) (tgt := 125) dX9_tryThing_109 (by decide) (fun c_9 => ?_) (fun c_9 => ?_)
    · have hr := (if_neg c_9).symm.trans hr
      refine Ev.iconst (pc := 125) (v := nI 0) dX9_tryThing_125 (by decide) ?_
      refine Ev.istore (pc := 126) dX9_tryThing_126 rfl rfl ?_
      refine Ev.iload (pc := 128) dX9_tryThing_128 rfl ?_
      refine Ev.ifeq (pc := 130) (tgt := 139) dX9_tryThing_130 (by decide) (fun c_10 => ?_) (fun c_10 => ?_)
      · have hr := (if_pos c_10).symm.trans hr
        refine Ev.iload (pc := 139) dX9_tryThing_139 rfl ?_
        cases hr
        exact Ev.iret rfl rfl dX9_tryThing_141 ⟨rfl, rfl⟩
      · have hr := (if_neg c_10).symm.trans hr
        refine Ev.aload_n (pc := 133) dX9_tryThing_133 rfl ?_
        refine Ev.iconst (pc := 134) (v := nI 1) dX9_tryThing_134 (by decide) ?_
        refine Ev.iload_n (pc := 135) dX9_tryThing_135 rfl ?_
        obtain ⟨x_6, hx_6, hr⟩ := Option.bind_eq_some_iff.mp hr
        refine Ev.cVv (pc := 136) (As := [.int _, .int _]) (kX9_sellOn _ _ _ _ _ _ hx_6) rfl rfl (ob_29 _) gX9_tryThing_X9_sellOn hdX9_sellOn rfl ⟨rfl, rfl⟩ ⟨Nat.le_of_ble_eq_true rfl, Nat.le_of_ble_eq_true rfl⟩ (Nat.le_of_ble_eq_true rfl) ⟨Nat.le_of_ble_eq_true rfl, Nat.le_of_ble_eq_true rfl⟩ dX9_tryThing_136 ?_
        refine Ev.iload (pc := 139) dX9_tryThing_139 rfl ?_
        cases hr
        exact Ev.iret rfl rfl dX9_tryThing_141 ⟨rfl, rfl⟩
    · have hr := (if_pos c_9).symm.trans hr
      refine Ev.aload_n (pc := 112) dX9_tryThing_112 rfl ?_
      refine Ev.iconst (pc := 113) (v := nI 1) dX9_tryThing_113 (by decide) ?_
      refine Ev.iload_n (pc := 114) dX9_tryThing_114 rfl ?_
      obtain ⟨x_7, hx_7, hr⟩ := Option.bind_eq_some_iff.mp hr
      refine Ev.cVi (pc := 115) (As := [.int _, .int _]) (kX9_canSell _ _ _ _ _ _ hx_7) rfl rfl (ob_29 _) gX9_tryThing_X9_canSell hdX9_canSell rfl ⟨rfl, rfl⟩ ⟨Nat.le_of_ble_eq_true rfl, Nat.le_of_ble_eq_true rfl⟩ (Nat.le_of_ble_eq_true rfl) ⟨Nat.le_of_ble_eq_true rfl, Nat.le_of_ble_eq_true rfl⟩ dX9_tryThing_115 ?_
      refine Ev.ifeqB (pc := 118) (tgt := 125) dX9_tryThing_118 (by decide) (fun c_11 => ?_) (fun c_11 => ?_)
      · have hr := (if_neg (ntr c_11)).symm.trans hr
        refine Ev.iconst (pc := 125) (v := nI 0) dX9_tryThing_125 (by decide) ?_
        refine Ev.istore (pc := 126) dX9_tryThing_126 rfl rfl ?_
        refine Ev.iload (pc := 128) dX9_tryThing_128 rfl ?_
        refine Ev.ifeq (pc := 130) (tgt := 139) dX9_tryThing_130 (by decide) (fun c_12 => ?_) (fun c_12 => ?_)
        · have hr := (if_pos c_12).symm.trans hr
          refine Ev.iload (pc := 139) dX9_tryThing_139 rfl ?_
          cases hr
          exact Ev.iret rfl rfl dX9_tryThing_141 ⟨rfl, rfl⟩
        · have hr := (if_neg c_12).symm.trans hr
          refine Ev.aload_n (pc := 133) dX9_tryThing_133 rfl ?_
          refine Ev.iconst (pc := 134) (v := nI 1) dX9_tryThing_134 (by decide) ?_
          refine Ev.iload_n (pc := 135) dX9_tryThing_135 rfl ?_
          obtain ⟨x_8, hx_8, hr⟩ := Option.bind_eq_some_iff.mp hr
          refine Ev.cVv (pc := 136) (As := [.int _, .int _]) (kX9_sellOn _ _ _ _ _ _ hx_8) rfl rfl (ob_29 _) gX9_tryThing_X9_sellOn hdX9_sellOn rfl ⟨rfl, rfl⟩ ⟨Nat.le_of_ble_eq_true rfl, Nat.le_of_ble_eq_true rfl⟩ (Nat.le_of_ble_eq_true rfl) ⟨Nat.le_of_ble_eq_true rfl, Nat.le_of_ble_eq_true rfl⟩ dX9_tryThing_136 ?_
          refine Ev.iload (pc := 139) dX9_tryThing_139 rfl ?_
          cases hr
          exact Ev.iret rfl rfl dX9_tryThing_141 ⟨rfl, rfl⟩
      · have hr := (if_pos c_11).symm.trans hr
        refine Ev.iconst (pc := 121) (v := nI 1) dX9_tryThing_121 (by decide) ?_
        refine Ev.goto (pc := 122) (tgt := 126) dX9_tryThing_122 (by decide) ?_
        refine Ev.istore (pc := 126) dX9_tryThing_126 rfl rfl ?_
        refine Ev.iload (pc := 128) dX9_tryThing_128 rfl ?_
        refine Ev.ifeq (pc := 130) (tgt := 139) dX9_tryThing_130 (by decide) (fun c_13 => ?_) (fun c_13 => ?_)
        · have hr := (if_pos c_13).symm.trans hr
          refine Ev.iload (pc := 139) dX9_tryThing_139 rfl ?_
          cases hr
          exact Ev.iret rfl rfl dX9_tryThing_141 ⟨rfl, rfl⟩
        · have hr := (if_neg c_13).symm.trans hr
          refine Ev.aload_n (pc := 133) dX9_tryThing_133 rfl ?_
          refine Ev.iconst (pc := 134) (v := nI 1) dX9_tryThing_134 (by decide) ?_
          refine Ev.iload_n (pc := 135) dX9_tryThing_135 rfl ?_
          obtain ⟨x_9, hx_9, hr⟩ := Option.bind_eq_some_iff.mp hr
          refine Ev.cVv (pc := 136) (As := [.int _, .int _]) (kX9_sellOn _ _ _ _ _ _ hx_9) rfl rfl (ob_29 _) gX9_tryThing_X9_sellOn hdX9_sellOn rfl ⟨rfl, rfl⟩ ⟨Nat.le_of_ble_eq_true rfl, Nat.le_of_ble_eq_true rfl⟩ (Nat.le_of_ble_eq_true rfl) ⟨Nat.le_of_ble_eq_true rfl, Nat.le_of_ble_eq_true rfl⟩ dX9_tryThing_136 ?_
          refine Ev.iload (pc := 139) dX9_tryThing_139 rfl ?_
          cases hr
          exact Ev.iret rfl rfl dX9_tryThing_141 ⟨rfl, rfl⟩
  have hr := (if_neg c_8).symm.trans hr
  by_cases c_14 : a1 = nI 4
  · have hr := (if_pos c_14).symm.trans hr
    refine Ev.tableK (pc := 1) (tgt := 142) 4 c_14 (by decide) dX9_tryThing_1 (by decide) rfl (by decide) ?_
    refine Ev.aload_n (pc := 142) dX9_tryThing_142 rfl ?_
    refine Ev.iload_n (pc := 143) dX9_tryThing_143 rfl ?_
    refine Ev.cVi (pc := 144) (As := [.int _]) (kX9_isLark _ _ _ _ _) rfl rfl (ob_29 _) gX9_tryThing_X9_isLark hdX9_isLark rfl ⟨rfl, rfl⟩ ⟨Nat.le_of_ble_eq_true rfl, Nat.le_of_ble_eq_true rfl⟩ (Nat.le_of_ble_eq_true rfl) ⟨Nat.le_of_ble_eq_true rfl, Nat.le_of_ble_eq_true rfl⟩ dX9_tryThing_144 ?_
    refine Ev.ifeqB (pc := 147) (tgt := 167) dX9_tryThing_147 (by decide) (fun c_15 => ?_) (fun c_15 => ?_)
    · have hr := (if_neg (ntr c_15)).symm.trans hr
      refine Ev.iconst (pc := 167) (v := nI 0) dX9_tryThing_167 (by decide) ?_
      cases hr
      exact Ev.iret rfl rfl dX9_tryThing_168 ⟨rfl, rfl⟩
    · have hr := (if_pos c_15).symm.trans hr
      refine Ev.aload_n (pc := 150) dX9_tryThing_150 rfl ?_
      refine Ev.get (pc := 151) (C0 := RX9) (T := TX9) (N := 31) (fl_29_8 _ _ _ _) rfl inX9_tryThing (by decide) lkX9_tryThing_25 dX9_tryThing_151 ?_
      refine Ev.bipush (pc := 154) (v := nI 35) dX9_tryThing_154 (by decide) ?_
      refine Ev.iload_n (pc := 156) dX9_tryThing_156 rfl ?_
      refine Ev.iadd (pc := 157) dX9_tryThing_157 ?_
      obtain ⟨c_16, hr⟩ := ckB hr
      refine Ev.iald (pc := 158) (ar_35 _ _ _ _) (inb_in c_16) dX9_tryThing_158 ?_
      refine Ev.iload_n (pc := 159) dX9_tryThing_159 rfl ?_
      refine Ev.icmplt (pc := 160) (tgt := 167) dX9_tryThing_160 (by decide) (fun c_17 => ?_) (fun c_17 => ?_)
      · have hr := (if_pos c_17).symm.trans hr
        refine Ev.iconst (pc := 167) (v := nI 0) dX9_tryThing_167 (by decide) ?_
        cases hr
        exact Ev.iret rfl rfl dX9_tryThing_168 ⟨rfl, rfl⟩
      · have hr := (if_neg c_17).symm.trans hr
        refine Ev.iconst (pc := 163) (v := nI 1) dX9_tryThing_163 (by decide) ?_
        refine Ev.goto (pc := 164) (tgt := 168) dX9_tryThing_164 (by decide) ?_
        cases hr
        exact Ev.iret rfl rfl dX9_tryThing_168 ⟨rfl, rfl⟩
  have hr := (if_neg c_14).symm.trans hr
  by_cases c_18 : a1 = nI 5
  · have hr := (if_pos c_18).symm.trans hr
    refine Ev.tableK (pc := 1) (tgt := 169) 5 c_18 (by decide) dX9_tryThing_1 (by decide) rfl (by decide) ?_
    refine Ev.iload_n (pc := 169) dX9_tryThing_169 rfl ?_
    refine Ev.ifne (pc := 170) (tgt := 199) dX9_tryThing_170 (by decide) (fun c_19 => ?_) (fun c_19 => ?_)
    · have hr := (if_neg c_19).symm.trans hr
      refine Ev.iconst (pc := 199) (v := nI 0) dX9_tryThing_199 (by decide) ?_
      cases hr
      exact Ev.iret rfl rfl dX9_tryThing_200 ⟨rfl, rfl⟩
    · have hr := (if_pos c_19).symm.trans hr
      refine Ev.aload_n (pc := 173) dX9_tryThing_173 rfl ?_
      refine Ev.iload_n (pc := 174) dX9_tryThing_174 rfl ?_
      refine Ev.cVi (pc := 175) (As := [.int _]) (kX9_isLark _ _ _ _ _) rfl rfl (ob_29 _) gX9_tryThing_X9_isLark hdX9_isLark rfl ⟨rfl, rfl⟩ ⟨Nat.le_of_ble_eq_true rfl, Nat.le_of_ble_eq_true rfl⟩ (Nat.le_of_ble_eq_true rfl) ⟨Nat.le_of_ble_eq_true rfl, Nat.le_of_ble_eq_true rfl⟩ dX9_tryThing_175 ?_
      refine Ev.ifeqB (pc := 178) (tgt := 199) dX9_tryThing_178 (by decide) (fun c_20 => ?_) (fun c_20 => ?_)
      · have hr := (if_neg (ntr c_20)).symm.trans hr
        refine Ev.iconst (pc := 199) (v := nI 0) dX9_tryThing_199 (by decide) ?_
        cases hr
        exact Ev.iret rfl rfl dX9_tryThing_200 ⟨rfl, rfl⟩
      · have hr := (if_pos c_20).symm.trans hr
        refine Ev.aload_n (pc := 181) dX9_tryThing_181 rfl ?_
        refine Ev.get (pc := 182) (C0 := RX9) (T := TX9) (N := 31) (fl_29_8 _ _ _ _) rfl inX9_tryThing (by decide) lkX9_tryThing_25 dX9_tryThing_182 ?_
        refine Ev.bipush (pc := 185) (v := nI 59) dX9_tryThing_185 (by decide) ?_
        refine Ev.iald (pc := 187) (ar_35 _ _ _ _) (vp_in_nI (n := 59) (N := 62) (by decide) (by decide)) dX9_tryThing_187 ?_
        refine Ev.iload_n (pc := 188) dX9_tryThing_188 rfl ?_
        refine Ev.cSi (pc := 189) (As := [.int _, .int _]) (kX9_has _ _ _ _ _ _) rfl gX9_tryThing_X9_has hdX9_has rfl ⟨rfl, rfl⟩ ⟨Nat.le_of_ble_eq_true rfl, Nat.le_of_ble_eq_true rfl⟩ (Nat.le_of_ble_eq_true rfl) ⟨Nat.le_of_ble_eq_true rfl, Nat.le_of_ble_eq_true rfl⟩ dX9_tryThing_189 ?_
        refine Ev.ifneB (pc := 192) (tgt := 199) dX9_tryThing_192 (by decide) (fun c_21 => ?_) (fun c_21 => ?_)
        · have hr := (if_pos c_21).symm.trans hr
          refine Ev.iconst (pc := 199) (v := nI 0) dX9_tryThing_199 (by decide) ?_
          cases hr
          exact Ev.iret rfl rfl dX9_tryThing_200 ⟨rfl, rfl⟩
        · have hr := (if_neg (ntr c_21)).symm.trans hr
          refine Ev.iconst (pc := 195) (v := nI 1) dX9_tryThing_195 (by decide) ?_
          refine Ev.goto (pc := 196) (tgt := 200) dX9_tryThing_196 (by decide) ?_
          cases hr
          exact Ev.iret rfl rfl dX9_tryThing_200 ⟨rfl, rfl⟩
  have hr := (if_neg c_18).symm.trans hr
  refine Ev.tableD (pc := 1) (tgt := 201) 6 (by decide) (fun j hj => by
      have hj2 : j = 0 ∨ j = 1 ∨ j = 2 ∨ j = 3 ∨ j = 4 ∨ j = 5 := by omega
      rcases hj2 with rfl | rfl | rfl | rfl | rfl | rfl <;> assumption) rfl dX9_tryThing_1 (by decide) ?_
  refine Ev.iconst (pc := 201) (v := nI 0) dX9_tryThing_201 (by decide) ?_
  cases hr
  exact Ev.iret rfl rfl dX9_tryThing_202 ⟨rfl, rfl⟩
/-! X9_thousandTo -/
def sX9_thousandTo_4 (v0 : Int32) : Nat → Int64 → Int32 → Option (Int64)
  | 0, _, _ => none
  | n + 1, v1, v3 => if v0 ≤ v3 then (some v1) else (sX9_thousandTo_4 v0 n (v1 * ((1000 : Int64))) (v3 + (nI 1)))
set_option maxRecDepth 20000 in
set_option maxHeartbeats 1000000 in
theorem kX9_thousandTo_4 (g : Hg) (q : Int64) (g2 : Hg) (q2 : Int64)  (v0 : Int32) (r : Int64) : ∀ (n : Nat) (v1 : Int64) (v3 : Int32), sX9_thousandTo_4 v0 n v1 v3 = some r → Ev (Xl (fun x h' => x = r ∧ h' = (g, q, g2, q2))) MX9_thousandTo 4 [some (.int v0), some (.long v1), none, some (.int v3)] [] (g, q, g2, q2) := by
  intro n
  induction n with
  | zero => intro _ _ hr; cases hr
  | succ n ih =>
    intro v1 v3 hr
    rw [sX9_thousandTo_4] at hr
    refine Ev.iload_n (pc := 4) dX9_thousandTo_4 rfl ?_
    refine Ev.iload_n (pc := 5) dX9_thousandTo_5 rfl ?_
    refine Ev.icmpge (pc := 6) (tgt := 21) dX9_thousandTo_6 (by decide) (fun c_1 => ?_) (fun c_1 => ?_)
    · have hr := (if_pos c_1).symm.trans hr
      refine Ev.lload_n (pc := 21) dX9_thousandTo_21 rfl ?_
      cases hr
      exact Ev.lret rfl dX9_thousandTo_22 ⟨rfl, rfl⟩
    · have hr := (if_neg c_1).symm.trans hr
      refine Ev.lload_n (pc := 9) dX9_thousandTo_9 rfl ?_
      refine Ev.ldc2 (pc := 10) (v := 1000) (by decide +kernel) dX9_thousandTo_10 ?_
      refine Ev.lmul (pc := 13) dX9_thousandTo_13 ?_
      refine Ev.lstore_n (pc := 14) dX9_thousandTo_14 rfl rfl ?_
      refine Ev.iinc (pc := 15) (v := nI 1) dX9_thousandTo_15 rfl rfl rfl rfl ?_
      refine Ev.goto (pc := 18) (tgt := 4) dX9_thousandTo_18 (by decide) ?_
      exact ih _ _ hr
def sX9_thousandTo (a1 : Int32) : Option (Int64) := sX9_thousandTo_4 a1 100 (lN 1) (nI 0)
set_option maxRecDepth 20000 in
set_option maxHeartbeats 1000000 in
theorem kX9_thousandTo (g : Hg) (q : Int64) (g2 : Hg) (q2 : Int64) (a1 : Int32) {r : Int64} (hr : sX9_thousandTo a1 = some r) : CtL MX9_thousandTo [.int a1] (g, q, g2, q2) (fun x h' => x = r ∧ h' = (g, q, g2, q2)) := by
  unfold sX9_thousandTo at hr
  refine CtL_L 3 rfl (by decide +kernel) rfl (Nat.le_of_ble_eq_true rfl) ?_
  show Ev _ _ 0 [some (.int a1), none, none, none] [] _
  refine Ev.lconst (pc := 0) (v := lN 1) dX9_thousandTo_0 rfl ?_
  refine Ev.lstore_n (pc := 1) dX9_thousandTo_1 rfl rfl ?_
  refine Ev.iconst (pc := 2) (v := nI 0) dX9_thousandTo_2 (by decide) ?_
  refine Ev.istore_n (pc := 3) dX9_thousandTo_3 rfl rfl ?_
  exact kX9_thousandTo_4 _ _ _ _ _ _ 100 _ _ hr
/-! X9_judge -/
def sX9_judge_36 (v1 : Int32) (v2 : Int64) : Nat → Hg → Int32 → Option (Int32 × Hg)
  | 0, _, _ => none
  | n + 1, g2, v4 => if v1 ≤ v4 then (some ((-9), g2)) else ((sX9_thousandTo ((v1 - (nI 1)) - v4)).bind fun x_3 => (if nzL x_3 = true then ((sX9_tryThing g2 ((Int64.toInt32 ((v2 / x_3) - (v2 / x_3) / ((1000 : Int64)) * ((1000 : Int64)))) / (nI 100)) (((Int64.toInt32 ((v2 / x_3) - (v2 / x_3) / ((1000 : Int64)) * ((1000 : Int64)))) / (nI 10)) - ((Int64.toInt32 ((v2 / x_3) - (v2 / x_3) / ((1000 : Int64)) * ((1000 : Int64)))) / (nI 10)) / (nI 10) * (nI 10)) ((Int64.toInt32 ((v2 / x_3) - (v2 / x_3) / ((1000 : Int64)) * ((1000 : Int64)))) - (Int64.toInt32 ((v2 / x_3) - (v2 / x_3) / ((1000 : Int64)) * ((1000 : Int64)))) / (nI 10) * (nI 10))).bind fun x_4 => (if x_4.1 = true then (sX9_judge_36 v1 v2 n x_4.2 (v4 + (nI 1))) else (some (v4, x_4.2)))) else none))
set_option maxRecDepth 20000 in
set_option maxHeartbeats 1000000 in
theorem kX9_judge_36 (g : Hg) (q : Int64) (q2 : Int64)  (v1 : Int32) (v2 : Int64) (r : Int32 × Hg) : ∀ (n : Nat) (g2 : Hg) (v4 : Int32), sX9_judge_36 v1 v2 n g2 v4 = some r → Ev (Xi (fun x h' => x = r.1 ∧ h' = (g, q, r.2, q2))) MX9_judge 36 [some (.ref 29), some (.int v1), some (.long v2), none, some (.int v4), none] [] (g, q, g2, q2) := by
  intro n
  induction n with
  | zero => intro _ _ hr; cases hr
  | succ n ih =>
    intro g2 v4 hr
    rw [sX9_judge_36] at hr
    refine Ev.iload (pc := 36) dX9_judge_36 rfl ?_
    refine Ev.iload_n (pc := 38) dX9_judge_38 rfl ?_
    refine Ev.icmpge (pc := 39) (tgt := 94) dX9_judge_39 (by decide) (fun c_3 => ?_) (fun c_3 => ?_)
    · have hr := (if_pos c_3).symm.trans hr
      refine Ev.bipush (pc := 94) (v := (-9)) dX9_judge_94 (by decide) ?_
      cases hr
      exact Ev.iret rfl rfl dX9_judge_96 ⟨rfl, rfl⟩
    · have hr := (if_neg c_3).symm.trans hr
      refine Ev.lload_n (pc := 42) dX9_judge_42 rfl ?_
      refine Ev.iload_n (pc := 43) dX9_judge_43 rfl ?_
      refine Ev.iconst (pc := 44) (v := nI 1) dX9_judge_44 (by decide) ?_
      refine Ev.isub (pc := 45) dX9_judge_45 ?_
      refine Ev.iload (pc := 46) dX9_judge_46 rfl ?_
      refine Ev.isub (pc := 48) dX9_judge_48 ?_
      obtain ⟨x_3, hx_3, hr⟩ := Option.bind_eq_some_iff.mp hr
      refine Ev.cSl (pc := 49) (As := [.int _]) (kX9_thousandTo _ _ _ _ _ hx_3) rfl gX9_judge_X9_thousandTo hdX9_thousandTo rfl ⟨rfl, rfl⟩ ⟨Nat.le_of_ble_eq_true rfl, Nat.le_of_ble_eq_true rfl⟩ (Nat.le_of_ble_eq_true rfl) ⟨Nat.le_of_ble_eq_true rfl, Nat.le_of_ble_eq_true rfl⟩ dX9_judge_49 ?_
      obtain ⟨c_4, hr⟩ := ckB hr
      refine Ev.ldiv (pc := 52) dX9_judge_52 (nzL_ne c_4) ?_
      refine Ev.ldc2 (pc := 53) (v := 1000) (by decide +kernel) dX9_judge_53 ?_
      refine Ev.lrem (pc := 56) dX9_judge_56 (by decide) ?_
      refine Ev.l2i (pc := 57) dX9_judge_57 ?_
      refine Ev.istore (pc := 58) dX9_judge_58 rfl rfl ?_
      refine Ev.aload_n (pc := 60) dX9_judge_60 rfl ?_
      refine Ev.iload (pc := 61) dX9_judge_61 rfl ?_
      refine Ev.bipush (pc := 63) (v := nI 100) dX9_judge_63 (by decide) ?_
      refine Ev.idiv (pc := 65) dX9_judge_65 (by decide) ?_
      refine Ev.iload (pc := 66) dX9_judge_66 rfl ?_
      refine Ev.bipush (pc := 68) (v := nI 10) dX9_judge_68 (by decide) ?_
      refine Ev.idiv (pc := 70) dX9_judge_70 (by decide) ?_
      refine Ev.bipush (pc := 71) (v := nI 10) dX9_judge_71 (by decide) ?_
      refine Ev.irem (pc := 73) dX9_judge_73 (by decide) ?_
      refine Ev.iload (pc := 74) dX9_judge_74 rfl ?_
      refine Ev.bipush (pc := 76) (v := nI 10) dX9_judge_76 (by decide) ?_
      refine Ev.irem (pc := 78) dX9_judge_78 (by decide) ?_
      obtain ⟨x_4, hx_4, hr⟩ := Option.bind_eq_some_iff.mp hr
      refine Ev.cVi (pc := 79) (As := [.int _, .int _, .int _]) (kX9_tryThing _ _ _ _ _ _ _ hx_4) rfl rfl (ob_29 _) gX9_judge_X9_tryThing hdX9_tryThing rfl ⟨rfl, rfl⟩ ⟨Nat.le_of_ble_eq_true rfl, Nat.le_of_ble_eq_true rfl⟩ (Nat.le_of_ble_eq_true rfl) ⟨Nat.le_of_ble_eq_true rfl, Nat.le_of_ble_eq_true rfl⟩ dX9_judge_79 ?_
      refine Ev.ifneB (pc := 82) (tgt := 88) dX9_judge_82 (by decide) (fun c_5 => ?_) (fun c_5 => ?_)
      · have hr := (if_pos c_5).symm.trans hr
        refine Ev.iinc (pc := 88) (v := nI 1) dX9_judge_88 rfl rfl rfl rfl ?_
        refine Ev.goto (pc := 91) (tgt := 36) dX9_judge_91 (by decide) ?_
        refine Ev_drop 5 ?_
        exact ih _ _ hr
      · have hr := (if_neg (ntr c_5)).symm.trans hr
        refine Ev.iload (pc := 85) dX9_judge_85 rfl ?_
        cases hr
        exact Ev.iret rfl rfl dX9_judge_87 ⟨rfl, rfl⟩
def sX9_judge (g2 : Hg) (a1 : Int32) (a2 : Int64) : Option (Int32 × Hg) := if (sX9_in (Int32.toInt64 a1) (lN 1) ((4 : Int64))) = true then ((sX9_thousandTo a1).bind fun x_1 => (if (sX9_in a2 (lN 0) (x_1 - (lN 1))) = true then ((sX9_layTrial g2).bind fun x_2 => (sX9_judge_36 a1 a2 100 x_2 (nI 0))) else (some ((-2), g2)))) else (some ((-2), g2))
set_option maxRecDepth 20000 in
set_option maxHeartbeats 1000000 in
theorem kX9_judge (g : Hg) (q : Int64) (g2 : Hg) (q2 : Int64) (a1 : Int32) (a2 : Int64) {r : Int32 × Hg} (hr : sX9_judge g2 a1 a2 = some r) : CtI MX9_judge [.ref 29, .int a1, .long a2] (g, q, g2, q2) (fun x h' => x = r.1 ∧ h' = (g, q, r.2, q2)) := by
  unfold sX9_judge at hr
  refine CtI_L 2 rfl (by decide +kernel) rfl (Nat.le_of_ble_eq_true rfl) ?_
  show Ev _ _ 0 [some (.ref 29), some (.int a1), some (.long a2), none, none, none] [] _
  refine Ev.iload_n (pc := 0) dX9_judge_0 rfl ?_
  refine Ev.i2l (pc := 1) dX9_judge_1 ?_
  refine Ev.lconst (pc := 2) (v := lN 1) dX9_judge_2 rfl ?_
  refine Ev.ldc2 (pc := 3) (v := 4) (by decide +kernel) dX9_judge_3 ?_
  refine Ev.cSi (pc := 6) (As := [.long _, .long _, .long _]) (kX9_in _ _ _ _ _ _ _) rfl gX9_judge_X9_in hdX9_in rfl ⟨rfl, rfl⟩ ⟨Nat.le_of_ble_eq_true rfl, Nat.le_of_ble_eq_true rfl⟩ (Nat.le_of_ble_eq_true rfl) ⟨Nat.le_of_ble_eq_true rfl, Nat.le_of_ble_eq_true rfl⟩ dX9_judge_6 ?_
  refine Ev.ifeqB (pc := 9) (tgt := 26) dX9_judge_9 (by decide) (fun c_1 => ?_) (fun c_1 => ?_)
  · have hr := (if_neg (ntr c_1)).symm.trans hr
    refine Ev.bipush (pc := 26) (v := (-2)) dX9_judge_26 (by decide) ?_
    cases hr
    exact Ev.iret rfl rfl dX9_judge_28 ⟨rfl, rfl⟩
  · have hr := (if_pos c_1).symm.trans hr
    refine Ev.lload_n (pc := 12) dX9_judge_12 rfl ?_
    refine Ev.lconst (pc := 13) (v := lN 0) dX9_judge_13 rfl ?_
    refine Ev.iload_n (pc := 14) dX9_judge_14 rfl ?_
    obtain ⟨x_1, hx_1, hr⟩ := Option.bind_eq_some_iff.mp hr
    refine Ev.cSl (pc := 15) (As := [.int _]) (kX9_thousandTo _ _ _ _ _ hx_1) rfl gX9_judge_X9_thousandTo hdX9_thousandTo rfl ⟨rfl, rfl⟩ ⟨Nat.le_of_ble_eq_true rfl, Nat.le_of_ble_eq_true rfl⟩ (Nat.le_of_ble_eq_true rfl) ⟨Nat.le_of_ble_eq_true rfl, Nat.le_of_ble_eq_true rfl⟩ dX9_judge_15 ?_
    refine Ev.lconst (pc := 18) (v := lN 1) dX9_judge_18 rfl ?_
    refine Ev.lsub (pc := 19) dX9_judge_19 ?_
    refine Ev.cSi (pc := 20) (As := [.long _, .long _, .long _]) (kX9_in _ _ _ _ _ _ _) rfl gX9_judge_X9_in hdX9_in rfl ⟨rfl, rfl⟩ ⟨Nat.le_of_ble_eq_true rfl, Nat.le_of_ble_eq_true rfl⟩ (Nat.le_of_ble_eq_true rfl) ⟨Nat.le_of_ble_eq_true rfl, Nat.le_of_ble_eq_true rfl⟩ dX9_judge_20 ?_
    refine Ev.ifneB (pc := 23) (tgt := 29) dX9_judge_23 (by decide) (fun c_2 => ?_) (fun c_2 => ?_)
    · have hr := (if_pos c_2).symm.trans hr
      refine Ev.aload_n (pc := 29) dX9_judge_29 rfl ?_
      obtain ⟨x_2, hx_2, hr⟩ := Option.bind_eq_some_iff.mp hr
      refine Ev.cVv (pc := 30) (As := []) (kX9_layTrial _ _ _ _ hx_2) rfl rfl (ob_29 _) gX9_judge_X9_layTrial hdX9_layTrial rfl ⟨rfl, rfl⟩ ⟨Nat.le_of_ble_eq_true rfl, Nat.le_of_ble_eq_true rfl⟩ (Nat.le_of_ble_eq_true rfl) ⟨Nat.le_of_ble_eq_true rfl, Nat.le_of_ble_eq_true rfl⟩ dX9_judge_30 ?_
      refine Ev.iconst (pc := 33) (v := nI 0) dX9_judge_33 (by decide) ?_
      refine Ev.istore (pc := 34) dX9_judge_34 rfl rfl ?_
      exact kX9_judge_36 _ _ _ _ _ _ 100 _ _ hr
    · have hr := (if_neg (ntr c_2)).symm.trans hr
      refine Ev.bipush (pc := 26) (v := (-2)) dX9_judge_26 (by decide) ?_
      cases hr
      exact Ev.iret rfl rfl dX9_judge_28 ⟨rfl, rfl⟩
/-! X9_see -/
def sX9_see (g2 : Hg) (a1 : Int32) (a2 : Int32) (a3 : Int32) : Option (Int32 × Hg) := if (sX9_isCell a1) = true then (if (sX9_in (Int32.toInt64 a2) (lN 0) ((9 : Int64))) = true then (if (sX9_in (Int32.toInt64 a3) (lN 0) (lN 1)) = true then (if (g2 29 23) = (nI 6) then (some ((-4), g2)) else (if inb (g2 29 23) 6 = true then (if inb ((stA g2 42 (Int32.toNatClampNeg (g2 29 23)) a1) 29 23) 6 = true then (if inb ((stA (stA g2 42 (Int32.toNatClampNeg (g2 29 23)) a1) 43 (Int32.toNatClampNeg ((stA g2 42 (Int32.toNatClampNeg (g2 29 23)) a1) 29 23)) a2) 29 23) 6 = true then (some ((stA (stA (stA (stA g2 42 (Int32.toNatClampNeg (g2 29 23)) a1) 43 (Int32.toNatClampNeg ((stA g2 42 (Int32.toNatClampNeg (g2 29 23)) a1) 29 23)) a2) 44 (Int32.toNatClampNeg ((stA (stA g2 42 (Int32.toNatClampNeg (g2 29 23)) a1) 43 (Int32.toNatClampNeg ((stA g2 42 (Int32.toNatClampNeg (g2 29 23)) a1) 29 23)) a2) 29 23)) a3) 29 23 (((stA (stA (stA g2 42 (Int32.toNatClampNeg (g2 29 23)) a1) 43 (Int32.toNatClampNeg ((stA g2 42 (Int32.toNatClampNeg (g2 29 23)) a1) 29 23)) a2) 44 (Int32.toNatClampNeg ((stA (stA g2 42 (Int32.toNatClampNeg (g2 29 23)) a1) 43 (Int32.toNatClampNeg ((stA g2 42 (Int32.toNatClampNeg (g2 29 23)) a1) 29 23)) a2) 29 23)) a3) 29 23) + (nI 1))) 29 23, stA (stA (stA (stA g2 42 (Int32.toNatClampNeg (g2 29 23)) a1) 43 (Int32.toNatClampNeg ((stA g2 42 (Int32.toNatClampNeg (g2 29 23)) a1) 29 23)) a2) 44 (Int32.toNatClampNeg ((stA (stA g2 42 (Int32.toNatClampNeg (g2 29 23)) a1) 43 (Int32.toNatClampNeg ((stA g2 42 (Int32.toNatClampNeg (g2 29 23)) a1) 29 23)) a2) 29 23)) a3) 29 23 (((stA (stA (stA g2 42 (Int32.toNatClampNeg (g2 29 23)) a1) 43 (Int32.toNatClampNeg ((stA g2 42 (Int32.toNatClampNeg (g2 29 23)) a1) 29 23)) a2) 44 (Int32.toNatClampNeg ((stA (stA g2 42 (Int32.toNatClampNeg (g2 29 23)) a1) 43 (Int32.toNatClampNeg ((stA g2 42 (Int32.toNatClampNeg (g2 29 23)) a1) 29 23)) a2) 29 23)) a3) 29 23) + (nI 1)))) else none) else none) else none)) else (some ((-2), g2))) else (some ((-2), g2))) else (some ((-1), g2))
set_option maxRecDepth 20000 in
set_option maxHeartbeats 1000000 in
theorem kX9_see (g : Hg) (q : Int64) (g2 : Hg) (q2 : Int64) (a1 : Int32) (a2 : Int32) (a3 : Int32) {r : Int32 × Hg} (hr : sX9_see g2 a1 a2 a3 = some r) : CtI MX9_see [.ref 29, .int a1, .int a2, .int a3] (g, q, g2, q2) (fun x h' => x = r.1 ∧ h' = (g, q, r.2, q2)) := by
  unfold sX9_see at hr
  refine CtI_L 0 rfl (by decide +kernel) rfl (Nat.le_of_ble_eq_true rfl) ?_
  show Ev _ _ 0 [some (.ref 29), some (.int a1), some (.int a2), some (.int a3)] [] _
  refine Ev.iload_n (pc := 0) dX9_see_0 rfl ?_
  refine Ev.cSi (pc := 1) (As := [.int _]) (kX9_isCell _ _ _ _ _) rfl gX9_see_X9_isCell hdX9_isCell rfl ⟨rfl, rfl⟩ ⟨Nat.le_of_ble_eq_true rfl, Nat.le_of_ble_eq_true rfl⟩ (Nat.le_of_ble_eq_true rfl) ⟨Nat.le_of_ble_eq_true rfl, Nat.le_of_ble_eq_true rfl⟩ dX9_see_1 ?_
  refine Ev.ifneB (pc := 4) (tgt := 9) dX9_see_4 (by decide) (fun c_1 => ?_) (fun c_1 => ?_)
  · have hr := (if_pos c_1).symm.trans hr
    refine Ev.iload_n (pc := 9) dX9_see_9 rfl ?_
    refine Ev.i2l (pc := 10) dX9_see_10 ?_
    refine Ev.lconst (pc := 11) (v := lN 0) dX9_see_11 rfl ?_
    refine Ev.ldc2 (pc := 12) (v := 9) (by decide +kernel) dX9_see_12 ?_
    refine Ev.cSi (pc := 15) (As := [.long _, .long _, .long _]) (kX9_in _ _ _ _ _ _ _) rfl gX9_see_X9_in hdX9_in rfl ⟨rfl, rfl⟩ ⟨Nat.le_of_ble_eq_true rfl, Nat.le_of_ble_eq_true rfl⟩ (Nat.le_of_ble_eq_true rfl) ⟨Nat.le_of_ble_eq_true rfl, Nat.le_of_ble_eq_true rfl⟩ dX9_see_15 ?_
    refine Ev.ifeqB (pc := 18) (tgt := 31) dX9_see_18 (by decide) (fun c_2 => ?_) (fun c_2 => ?_)
    · have hr := (if_neg (ntr c_2)).symm.trans hr
      refine Ev.bipush (pc := 31) (v := (-2)) dX9_see_31 (by decide) ?_
      cases hr
      exact Ev.iret rfl rfl dX9_see_33 ⟨rfl, rfl⟩
    · have hr := (if_pos c_2).symm.trans hr
      refine Ev.iload_n (pc := 21) dX9_see_21 rfl ?_
      refine Ev.i2l (pc := 22) dX9_see_22 ?_
      refine Ev.lconst (pc := 23) (v := lN 0) dX9_see_23 rfl ?_
      refine Ev.lconst (pc := 24) (v := lN 1) dX9_see_24 rfl ?_
      refine Ev.cSi (pc := 25) (As := [.long _, .long _, .long _]) (kX9_in _ _ _ _ _ _ _) rfl gX9_see_X9_in hdX9_in rfl ⟨rfl, rfl⟩ ⟨Nat.le_of_ble_eq_true rfl, Nat.le_of_ble_eq_true rfl⟩ (Nat.le_of_ble_eq_true rfl) ⟨Nat.le_of_ble_eq_true rfl, Nat.le_of_ble_eq_true rfl⟩ dX9_see_25 ?_
      refine Ev.ifneB (pc := 28) (tgt := 34) dX9_see_28 (by decide) (fun c_3 => ?_) (fun c_3 => ?_)
      · have hr := (if_pos c_3).symm.trans hr
        refine Ev.aload_n (pc := 34) dX9_see_34 rfl ?_
        refine Ev.get (pc := 35) (C0 := RX9) (T := TX9) (N := 31) (fl_29_23 _ _ _ _) rfl inX9_see (by decide) lkX9_see_232 dX9_see_35 ?_
        refine Ev.bipush (pc := 38) (v := nI 6) dX9_see_38 (by decide) ?_
        refine Ev.icmpne (pc := 40) (tgt := 46) dX9_see_40 (by decide) (fun c_4 => ?_) (fun c_4 => ?_)
        · have hr := (if_neg c_4).symm.trans hr
          refine Ev.aload_n (pc := 46) dX9_see_46 rfl ?_
          refine Ev.get (pc := 47) (C0 := RX9) (T := TX9) (N := 31) (fl_29_24 _ _ _ _) rfl inX9_see (by decide) lkX9_see_46 dX9_see_47 ?_
          refine Ev.aload_n (pc := 50) dX9_see_50 rfl ?_
          refine Ev.get (pc := 51) (C0 := RX9) (T := TX9) (N := 31) (fl_29_23 _ _ _ _) rfl inX9_see (by decide) lkX9_see_232 dX9_see_51 ?_
          refine Ev.iload_n (pc := 54) dX9_see_54 rfl ?_
          obtain ⟨c_5, hr⟩ := ckB hr
          refine Ev.iast (pc := 55) (ar_42 _ _ _ _) (inb_in c_5) (se_42 _ _ _ _ _) dX9_see_55 ?_
          refine Ev.aload_n (pc := 56) dX9_see_56 rfl ?_
          refine Ev.get (pc := 57) (C0 := RX9) (T := TX9) (N := 31) (fl_29_25 _ _ _ _) rfl inX9_see (by decide) lkX9_see_49 dX9_see_57 ?_
          refine Ev.aload_n (pc := 60) dX9_see_60 rfl ?_
          refine Ev.get (pc := 61) (C0 := RX9) (T := TX9) (N := 31) (fl_29_23 _ _ _ _) rfl inX9_see (by decide) lkX9_see_232 dX9_see_61 ?_
          refine Ev.iload_n (pc := 64) dX9_see_64 rfl ?_
          obtain ⟨c_6, hr⟩ := ckB hr
          refine Ev.iast (pc := 65) (ar_43 _ _ _ _) (inb_in c_6) (se_43 _ _ _ _ _) dX9_see_65 ?_
          refine Ev.aload_n (pc := 66) dX9_see_66 rfl ?_
          refine Ev.get (pc := 67) (C0 := RX9) (T := TX9) (N := 31) (fl_29_26 _ _ _ _) rfl inX9_see (by decide) lkX9_see_52 dX9_see_67 ?_
          refine Ev.aload_n (pc := 70) dX9_see_70 rfl ?_
          refine Ev.get (pc := 71) (C0 := RX9) (T := TX9) (N := 31) (fl_29_23 _ _ _ _) rfl inX9_see (by decide) lkX9_see_232 dX9_see_71 ?_
          refine Ev.iload_n (pc := 74) dX9_see_74 rfl ?_
          obtain ⟨c_7, hr⟩ := ckB hr
          refine Ev.iast (pc := 75) (ar_44 _ _ _ _) (inb_in c_7) (se_44 _ _ _ _ _) dX9_see_75 ?_
          refine Ev.aload_n (pc := 76) dX9_see_76 rfl ?_
          refine Ev.dup (pc := 77) dX9_see_77 rfl ?_
          refine Ev.get (pc := 78) (C0 := RX9) (T := TX9) (N := 31) (fl_29_23 _ _ _ _) rfl inX9_see (by decide) lkX9_see_232 dX9_see_78 ?_
          refine Ev.iconst (pc := 81) (v := nI 1) dX9_see_81 (by decide) ?_
          refine Ev.iadd (pc := 82) dX9_see_82 ?_
          refine Ev.put (pc := 83) (C0 := RX9) (T := TX9) (N := 31) (ty := .int) (pu_29_23 _ _ _ _ _) rfl inX9_see tyX9_ok nmX9 (by decide) lkX9_see_232 rfl (by decide +kernel) (fun _ => rfl) (fun _ => rfl) dX9_see_83 ?_
          refine Ev.aload_n (pc := 86) dX9_see_86 rfl ?_
          refine Ev.get (pc := 87) (C0 := RX9) (T := TX9) (N := 31) (fl_29_23 _ _ _ _) rfl inX9_see (by decide) lkX9_see_232 dX9_see_87 ?_
          cases hr
          exact Ev.iret rfl rfl dX9_see_90 ⟨rfl, rfl⟩
        · have hr := (if_pos c_4).symm.trans hr
          refine Ev.bipush (pc := 43) (v := (-4)) dX9_see_43 (by decide) ?_
          cases hr
          exact Ev.iret rfl rfl dX9_see_45 ⟨rfl, rfl⟩
      · have hr := (if_neg (ntr c_3)).symm.trans hr
        refine Ev.bipush (pc := 31) (v := (-2)) dX9_see_31 (by decide) ?_
        cases hr
        exact Ev.iret rfl rfl dX9_see_33 ⟨rfl, rfl⟩
  · have hr := (if_neg (ntr c_1)).symm.trans hr
    refine Ev.iconst (pc := 7) (v := (-1)) dX9_see_7 (by decide) ?_
    cases hr
    exact Ev.iret rfl rfl dX9_see_8 ⟨rfl, rfl⟩
/-! X9_unsee -/
def sX9_unsee (g2 : Hg) : Int32 × Hg := (g2 29 23, stA g2 29 23 (nI 0))
set_option maxRecDepth 20000 in
set_option maxHeartbeats 1000000 in
theorem kX9_unsee (g : Hg) (q : Int64) (g2 : Hg) (q2 : Int64) : CtI MX9_unsee [.ref 29] (g, q, g2, q2) (fun x h' => x = (sX9_unsee g2).1 ∧ h' = (g, q, (sX9_unsee g2).2, q2)) := by
  generalize hr : sX9_unsee g2 = r
  unfold sX9_unsee at hr
  refine CtI_L 1 rfl (by decide +kernel) rfl (Nat.le_of_ble_eq_true rfl) ?_
  show Ev _ _ 0 [some (.ref 29), none] [] _
  refine Ev.aload_n (pc := 0) dX9_unsee_0 rfl ?_
  refine Ev.get (pc := 1) (C0 := RX9) (T := TX9) (N := 31) (fl_29_23 _ _ _ _) rfl inX9_unsee (by decide) lkX9_unsee_232 dX9_unsee_1 ?_
  refine Ev.istore_n (pc := 4) dX9_unsee_4 rfl rfl ?_
  refine Ev.aload_n (pc := 5) dX9_unsee_5 rfl ?_
  refine Ev.iconst (pc := 6) (v := nI 0) dX9_unsee_6 (by decide) ?_
  refine Ev.put (pc := 7) (C0 := RX9) (T := TX9) (N := 31) (ty := .int) (pu_29_23 _ _ _ _ _) rfl inX9_unsee tyX9_ok nmX9 (by decide) lkX9_unsee_232 rfl (by decide +kernel) (fun _ => rfl) (fun _ => rfl) dX9_unsee_7 ?_
  refine Ev.iload_n (pc := 10) dX9_unsee_10 rfl ?_
  subst hr
  exact Ev.iret rfl rfl dX9_unsee_11 ⟨rfl, rfl⟩
/-! X9_phases -/
def sX9_phases_28 (g2 : Hg) (v1 : Int32) (v2 : Int32) : Nat → Int32 → Int32 → Option (Int32 × Int32)
  | 0, _, _ => none
  | n + 1, v3, v4 => if (g2 29 23) ≤ v4 then (some (v3, v4)) else (if v3 = 0 then (sX9_phases_28 g2 v1 v2 n (nI 0) (v4 + (nI 1))) else (if inb v4 6 = true then (if inb v4 6 = true then ((sX9_isBare g2 (g2 42 (Int32.toNatClampNeg v4)) (v2 + (g2 43 (Int32.toNatClampNeg v4)))).bind fun x_1 => (if inb v4 6 = true then (if (g2 44 (Int32.toNatClampNeg v4)) = (nI 1) then (if (bI x_1) = (nI 1) then (sX9_phases_28 g2 v1 v2 n (nI 1) (v4 + (nI 1))) else (sX9_phases_28 g2 v1 v2 n (nI 0) (v4 + (nI 1)))) else (if (bI x_1) = (nI 0) then (sX9_phases_28 g2 v1 v2 n (nI 1) (v4 + (nI 1))) else (sX9_phases_28 g2 v1 v2 n (nI 0) (v4 + (nI 1))))) else none)) else none) else none))
set_option maxRecDepth 20000 in
set_option maxHeartbeats 1000000 in
theorem kX9_phases_28 (g : Hg) (q : Int64) (g2 : Hg) (q2 : Int64) (v1 : Int32) (v2 : Int32) (X : Xt) (r : Int32 × Int32) : ∀ (n : Nat) (v3 : Int32) (v4 : Int32), sX9_phases_28 g2 v1 v2 n v3 v4 = some r → Ev X MX9_phases 92 [some (.ref 29), some (.int v1), some (.int v2), some (.int r.1), some (.int r.2)] [] (g, q, g2, q2) → Ev X MX9_phases 28 [some (.ref 29), some (.int v1), some (.int v2), some (.int v3), some (.int v4)] [] (g, q, g2, q2) := by
  intro n
  induction n with
  | zero => intro _ _ hr hk; cases hr
  | succ n ih =>
    intro v3 v4 hr hk
    rw [sX9_phases_28] at hr
    refine Ev.iload (pc := 28) dX9_phases_28 rfl ?_
    refine Ev.aload_n (pc := 30) dX9_phases_30 rfl ?_
    refine Ev.get (pc := 31) (C0 := RX9) (T := TX9) (N := 31) (fl_29_23 _ _ _ _) rfl inX9_phases (by decide) lkX9_phases_232 dX9_phases_31 ?_
    refine Ev.icmpge (pc := 34) (tgt := 92) dX9_phases_34 (by decide) (fun c_3 => ?_) (fun c_3 => ?_)
    · have hr := (if_pos c_3).symm.trans hr
      cases hr
      exact hk
    · have hr := (if_neg c_3).symm.trans hr
      refine Ev.iload_n (pc := 37) dX9_phases_37 rfl ?_
      refine Ev.ifeq (pc := 38) (tgt := 84) dX9_phases_38 (by decide) (fun c_4 => ?_) (fun c_4 => ?_)
      · have hr := (if_pos c_4).symm.trans hr
        refine Ev.iconst (pc := 84) (v := nI 0) dX9_phases_84 (by decide) ?_
        refine Ev.istore_n (pc := 85) dX9_phases_85 rfl rfl ?_
        refine Ev.iinc (pc := 86) (v := nI 1) dX9_phases_86 rfl rfl rfl rfl ?_
        refine Ev.goto (pc := 89) (tgt := 28) dX9_phases_89 (by decide) ?_
        exact ih _ _ hr hk
      · have hr := (if_neg c_4).symm.trans hr
        refine Ev.aload_n (pc := 41) dX9_phases_41 rfl ?_
        refine Ev.aload_n (pc := 42) dX9_phases_42 rfl ?_
        refine Ev.get (pc := 43) (C0 := RX9) (T := TX9) (N := 31) (fl_29_24 _ _ _ _) rfl inX9_phases (by decide) lkX9_phases_46 dX9_phases_43 ?_
        refine Ev.iload (pc := 46) dX9_phases_46 rfl ?_
        obtain ⟨c_5, hr⟩ := ckB hr
        refine Ev.iald (pc := 48) (ar_42 _ _ _ _) (inb_in c_5) dX9_phases_48 ?_
        refine Ev.iload_n (pc := 49) dX9_phases_49 rfl ?_
        refine Ev.aload_n (pc := 50) dX9_phases_50 rfl ?_
        refine Ev.get (pc := 51) (C0 := RX9) (T := TX9) (N := 31) (fl_29_25 _ _ _ _) rfl inX9_phases (by decide) lkX9_phases_49 dX9_phases_51 ?_
        refine Ev.iload (pc := 54) dX9_phases_54 rfl ?_
        obtain ⟨c_6, hr⟩ := ckB hr
        refine Ev.iald (pc := 56) (ar_43 _ _ _ _) (inb_in c_6) dX9_phases_56 ?_
        refine Ev.iadd (pc := 57) dX9_phases_57 ?_
        obtain ⟨x_1, hx_1, hr⟩ := Option.bind_eq_some_iff.mp hr
        refine Ev.cVi (pc := 58) (As := [.int _, .int _]) (kX9_isBare _ _ _ _ _ _ hx_1) rfl rfl (ob_29 _) gX9_phases_X9_isBare hdX9_isBare rfl ⟨rfl, rfl⟩ ⟨Nat.le_of_ble_eq_true rfl, Nat.le_of_ble_eq_true rfl⟩ (Nat.le_of_ble_eq_true rfl) ⟨Nat.le_of_ble_eq_true rfl, Nat.le_of_ble_eq_true rfl⟩ dX9_phases_58 ?_
        refine Ev.aload_n (pc := 61) dX9_phases_61 rfl ?_
        refine Ev.get (pc := 62) (C0 := RX9) (T := TX9) (N := 31) (fl_29_26 _ _ _ _) rfl inX9_phases (by decide) lkX9_phases_52 dX9_phases_62 ?_
        refine Ev.iload (pc := 65) dX9_phases_65 rfl ?_
        obtain ⟨c_7, hr⟩ := ckB hr
        refine Ev.iald (pc := 67) (ar_44 _ _ _ _) (inb_in c_7) dX9_phases_67 ?_
        refine Ev.iconst (pc := 68) (v := nI 1) dX9_phases_68 (by decide) ?_
        refine Ev.icmpne (pc := 69) (tgt := 76) dX9_phases_69 (by decide) (fun c_8 => ?_) (fun c_8 => ?_)
        · have hr := (if_neg c_8).symm.trans hr
          refine Ev.iconst (pc := 76) (v := nI 0) dX9_phases_76 (by decide) ?_
          refine Ev.icmpne (pc := 77) (tgt := 84) dX9_phases_77 (by decide) (fun c_9 => ?_) (fun c_9 => ?_)
          · have hr := (if_neg c_9).symm.trans hr
            refine Ev.iconst (pc := 84) (v := nI 0) dX9_phases_84 (by decide) ?_
            refine Ev.istore_n (pc := 85) dX9_phases_85 rfl rfl ?_
            refine Ev.iinc (pc := 86) (v := nI 1) dX9_phases_86 rfl rfl rfl rfl ?_
            refine Ev.goto (pc := 89) (tgt := 28) dX9_phases_89 (by decide) ?_
            exact ih _ _ hr hk
          · have hr := (if_pos c_9).symm.trans hr
            refine Ev.iconst (pc := 80) (v := nI 1) dX9_phases_80 (by decide) ?_
            refine Ev.goto (pc := 81) (tgt := 85) dX9_phases_81 (by decide) ?_
            refine Ev.istore_n (pc := 85) dX9_phases_85 rfl rfl ?_
            refine Ev.iinc (pc := 86) (v := nI 1) dX9_phases_86 rfl rfl rfl rfl ?_
            refine Ev.goto (pc := 89) (tgt := 28) dX9_phases_89 (by decide) ?_
            exact ih _ _ hr hk
        · have hr := (if_pos c_8).symm.trans hr
          refine Ev.iconst (pc := 72) (v := nI 1) dX9_phases_72 (by decide) ?_
          refine Ev.goto (pc := 73) (tgt := 77) dX9_phases_73 (by decide) ?_
          refine Ev.icmpne (pc := 77) (tgt := 84) dX9_phases_77 (by decide) (fun c_10 => ?_) (fun c_10 => ?_)
          · have hr := (if_neg c_10).symm.trans hr
            refine Ev.iconst (pc := 84) (v := nI 0) dX9_phases_84 (by decide) ?_
            refine Ev.istore_n (pc := 85) dX9_phases_85 rfl rfl ?_
            refine Ev.iinc (pc := 86) (v := nI 1) dX9_phases_86 rfl rfl rfl rfl ?_
            refine Ev.goto (pc := 89) (tgt := 28) dX9_phases_89 (by decide) ?_
            exact ih _ _ hr hk
          · have hr := (if_pos c_10).symm.trans hr
            refine Ev.iconst (pc := 80) (v := nI 1) dX9_phases_80 (by decide) ?_
            refine Ev.goto (pc := 81) (tgt := 85) dX9_phases_81 (by decide) ?_
            refine Ev.istore_n (pc := 85) dX9_phases_85 rfl rfl ?_
            refine Ev.iinc (pc := 86) (v := nI 1) dX9_phases_86 rfl rfl rfl rfl ?_
            refine Ev.goto (pc := 89) (tgt := 28) dX9_phases_89 (by decide) ?_
            exact ih _ _ hr hk
def sX9_phases_4 (g2 : Hg) : Nat → Int32 → Int32 → Option (Int32)
  | 0, _, _ => none
  | n + 1, v1, v2 => if (g2 29 0) = 0 then (if (nI 1) ≤ v2 then (some v1) else ((sX9_phases_28 g2 v1 v2 100 (nI 1) (nI 0)).bind fun x_3 => (if x_3.1 = 0 then (sX9_phases_4 g2 n (v1 ||| (nI 0)) (v2 + (nI 1))) else (sX9_phases_4 g2 n (v1 ||| ((nI 1) <<< (v2 &&& 31))) (v2 + (nI 1)))))) else (if (g2 29 0) ≤ v2 then (some v1) else ((sX9_phases_28 g2 v1 v2 100 (nI 1) (nI 0)).bind fun x_2 => (if x_2.1 = 0 then (sX9_phases_4 g2 n (v1 ||| (nI 0)) (v2 + (nI 1))) else (sX9_phases_4 g2 n (v1 ||| ((nI 1) <<< (v2 &&& 31))) (v2 + (nI 1))))))
set_option maxRecDepth 20000 in
set_option maxHeartbeats 1000000 in
theorem kX9_phases_4 (g : Hg) (q : Int64) (g2 : Hg) (q2 : Int64)   (r : Int32) : ∀ (n : Nat) (v1 : Int32) (v2 : Int32), sX9_phases_4 g2 n v1 v2 = some r → Ev (Xi (fun x h' => x = r ∧ h' = (g, q, g2, q2))) MX9_phases 4 [some (.ref 29), some (.int v1), some (.int v2), none, none] [] (g, q, g2, q2) := by
  intro n
  induction n with
  | zero => intro _ _ hr; cases hr
  | succ n ih =>
    intro v1 v2 hr
    rw [sX9_phases_4] at hr
    refine Ev.iload_n (pc := 4) dX9_phases_4 rfl ?_
    refine Ev.aload_n (pc := 5) dX9_phases_5 rfl ?_
    refine Ev.get (pc := 6) (C0 := RX9) (T := TX9) (N := 31) (fl_29_0 _ _ _ _) rfl inX9_phases (by decide) lkX9_phases_102 dX9_phases_6 ?_
    refine Ev.ifne (pc := 9) (tgt := 16) dX9_phases_9 (by decide) (fun c_1 => ?_) (fun c_1 => ?_)
    · have hr := (if_neg c_1).symm.trans hr
      refine Ev.aload_n (pc := 16) dX9_phases_16 rfl ?_
      refine Ev.get (pc := 17) (C0 := RX9) (T := TX9) (N := 31) (fl_29_0 _ _ _ _) rfl inX9_phases (by decide) lkX9_phases_102 dX9_phases_17 ?_
      refine Ev.icmpge (pc := 20) (tgt := 112) dX9_phases_20 (by decide) (fun c_2 => ?_) (fun c_2 => ?_)
      · have hr := (if_pos c_2).symm.trans hr
        refine Ev.iload_n (pc := 112) dX9_phases_112 rfl ?_
        cases hr
        exact Ev.iret rfl rfl dX9_phases_113 ⟨rfl, rfl⟩
      · have hr := (if_neg c_2).symm.trans hr
        refine Ev.iconst (pc := 23) (v := nI 1) dX9_phases_23 (by decide) ?_
        refine Ev.istore_n (pc := 24) dX9_phases_24 rfl rfl ?_
        refine Ev.iconst (pc := 25) (v := nI 0) dX9_phases_25 (by decide) ?_
        refine Ev.istore (pc := 26) dX9_phases_26 rfl rfl ?_
        obtain ⟨x_2, hx_2, hr⟩ := Option.bind_eq_some_iff.mp hr
        refine kX9_phases_28 _ _ _ _ _ _ _ _ 100 _ _ hx_2 ?_
        refine Ev.iload_n (pc := 92) dX9_phases_92 rfl ?_
        refine Ev.iload_n (pc := 93) dX9_phases_93 rfl ?_
        refine Ev.ifeq (pc := 94) (tgt := 103) dX9_phases_94 (by decide) (fun c_11 => ?_) (fun c_11 => ?_)
        · have hr := (if_pos c_11).symm.trans hr
          refine Ev.iconst (pc := 103) (v := nI 0) dX9_phases_103 (by decide) ?_
          refine Ev.ior (pc := 104) dX9_phases_104 ?_
          refine Ev.istore_n (pc := 105) dX9_phases_105 rfl rfl ?_
          refine Ev.iinc (pc := 106) (v := nI 1) dX9_phases_106 rfl rfl rfl rfl ?_
          refine Ev.goto (pc := 109) (tgt := 4) dX9_phases_109 (by decide) ?_
          refine Ev_drop 3 ?_
          refine Ev_drop 4 ?_
          exact ih _ _ hr
        · have hr := (if_neg c_11).symm.trans hr
          refine Ev.iconst (pc := 97) (v := nI 1) dX9_phases_97 (by decide) ?_
          refine Ev.iload_n (pc := 98) dX9_phases_98 rfl ?_
          refine Ev.ishl (pc := 99) dX9_phases_99 ?_
          refine Ev.goto (pc := 100) (tgt := 104) dX9_phases_100 (by decide) ?_
          refine Ev.ior (pc := 104) dX9_phases_104 ?_
          refine Ev.istore_n (pc := 105) dX9_phases_105 rfl rfl ?_
          refine Ev.iinc (pc := 106) (v := nI 1) dX9_phases_106 rfl rfl rfl rfl ?_
          refine Ev.goto (pc := 109) (tgt := 4) dX9_phases_109 (by decide) ?_
          refine Ev_drop 3 ?_
          refine Ev_drop 4 ?_
          exact ih _ _ hr
    · have hr := (if_pos c_1).symm.trans hr
      refine Ev.iconst (pc := 12) (v := nI 1) dX9_phases_12 (by decide) ?_
      refine Ev.goto (pc := 13) (tgt := 20) dX9_phases_13 (by decide) ?_
      refine Ev.icmpge (pc := 20) (tgt := 112) dX9_phases_20 (by decide) (fun c_12 => ?_) (fun c_12 => ?_)
      · have hr := (if_pos c_12).symm.trans hr
        refine Ev.iload_n (pc := 112) dX9_phases_112 rfl ?_
        cases hr
        exact Ev.iret rfl rfl dX9_phases_113 ⟨rfl, rfl⟩
      · have hr := (if_neg c_12).symm.trans hr
        refine Ev.iconst (pc := 23) (v := nI 1) dX9_phases_23 (by decide) ?_
        refine Ev.istore_n (pc := 24) dX9_phases_24 rfl rfl ?_
        refine Ev.iconst (pc := 25) (v := nI 0) dX9_phases_25 (by decide) ?_
        refine Ev.istore (pc := 26) dX9_phases_26 rfl rfl ?_
        obtain ⟨x_3, hx_3, hr⟩ := Option.bind_eq_some_iff.mp hr
        refine kX9_phases_28 _ _ _ _ _ _ _ _ 100 _ _ hx_3 ?_
        refine Ev.iload_n (pc := 92) dX9_phases_92 rfl ?_
        refine Ev.iload_n (pc := 93) dX9_phases_93 rfl ?_
        refine Ev.ifeq (pc := 94) (tgt := 103) dX9_phases_94 (by decide) (fun c_13 => ?_) (fun c_13 => ?_)
        · have hr := (if_pos c_13).symm.trans hr
          refine Ev.iconst (pc := 103) (v := nI 0) dX9_phases_103 (by decide) ?_
          refine Ev.ior (pc := 104) dX9_phases_104 ?_
          refine Ev.istore_n (pc := 105) dX9_phases_105 rfl rfl ?_
          refine Ev.iinc (pc := 106) (v := nI 1) dX9_phases_106 rfl rfl rfl rfl ?_
          refine Ev.goto (pc := 109) (tgt := 4) dX9_phases_109 (by decide) ?_
          refine Ev_drop 3 ?_
          refine Ev_drop 4 ?_
          exact ih _ _ hr
        · have hr := (if_neg c_13).symm.trans hr
          refine Ev.iconst (pc := 97) (v := nI 1) dX9_phases_97 (by decide) ?_
          refine Ev.iload_n (pc := 98) dX9_phases_98 rfl ?_
          refine Ev.ishl (pc := 99) dX9_phases_99 ?_
          refine Ev.goto (pc := 100) (tgt := 104) dX9_phases_100 (by decide) ?_
          refine Ev.ior (pc := 104) dX9_phases_104 ?_
          refine Ev.istore_n (pc := 105) dX9_phases_105 rfl rfl ?_
          refine Ev.iinc (pc := 106) (v := nI 1) dX9_phases_106 rfl rfl rfl rfl ?_
          refine Ev.goto (pc := 109) (tgt := 4) dX9_phases_109 (by decide) ?_
          refine Ev_drop 3 ?_
          refine Ev_drop 4 ?_
          exact ih _ _ hr
def sX9_phases (g2 : Hg) : Option (Int32) := sX9_phases_4 g2 100 (nI 0) (nI 0)
set_option maxRecDepth 20000 in
set_option maxHeartbeats 1000000 in
theorem kX9_phases (g : Hg) (q : Int64) (g2 : Hg) (q2 : Int64) {r : Int32} (hr : sX9_phases g2 = some r) : CtI MX9_phases [.ref 29] (g, q, g2, q2) (fun x h' => x = r ∧ h' = (g, q, g2, q2)) := by
  unfold sX9_phases at hr
  refine CtI_L 4 rfl (by decide +kernel) rfl (Nat.le_of_ble_eq_true rfl) ?_
  show Ev _ _ 0 [some (.ref 29), none, none, none, none] [] _
  refine Ev.iconst (pc := 0) (v := nI 0) dX9_phases_0 (by decide) ?_
  refine Ev.istore_n (pc := 1) dX9_phases_1 rfl rfl ?_
  refine Ev.iconst (pc := 2) (v := nI 0) dX9_phases_2 (by decide) ?_
  refine Ev.istore_n (pc := 3) dX9_phases_3 rfl rfl ?_
  exact kX9_phases_4 _ _ _ _  _ 100 _ _ hr
/-! X9_factorial -/
def sX9_factorial_4 (v0 : Int32) : Nat → Int32 → Int32 → Option (Int32)
  | 0, _, _ => none
  | n + 1, v1, v2 => if v0 < v2 then (some v1) else (sX9_factorial_4 v0 n (v1 * v2) (v2 + (nI 1)))
set_option maxRecDepth 20000 in
set_option maxHeartbeats 1000000 in
theorem kX9_factorial_4 (g : Hg) (q : Int64) (g2 : Hg) (q2 : Int64)  (v0 : Int32) (r : Int32) : ∀ (n : Nat) (v1 : Int32) (v2 : Int32), sX9_factorial_4 v0 n v1 v2 = some r → Ev (Xi (fun x h' => x = r ∧ h' = (g, q, g2, q2))) MX9_factorial 4 [some (.int v0), some (.int v1), some (.int v2)] [] (g, q, g2, q2) := by
  intro n
  induction n with
  | zero => intro _ _ hr; cases hr
  | succ n ih =>
    intro v1 v2 hr
    rw [sX9_factorial_4] at hr
    refine Ev.iload_n (pc := 4) dX9_factorial_4 rfl ?_
    refine Ev.iload_n (pc := 5) dX9_factorial_5 rfl ?_
    refine Ev.icmpgt (pc := 6) (tgt := 19) dX9_factorial_6 (by decide) (fun c_1 => ?_) (fun c_1 => ?_)
    · have hr := (if_pos c_1).symm.trans hr
      refine Ev.iload_n (pc := 19) dX9_factorial_19 rfl ?_
      cases hr
      exact Ev.iret rfl rfl dX9_factorial_20 ⟨rfl, rfl⟩
    · have hr := (if_neg c_1).symm.trans hr
      refine Ev.iload_n (pc := 9) dX9_factorial_9 rfl ?_
      refine Ev.iload_n (pc := 10) dX9_factorial_10 rfl ?_
      refine Ev.imul (pc := 11) dX9_factorial_11 ?_
      refine Ev.istore_n (pc := 12) dX9_factorial_12 rfl rfl ?_
      refine Ev.iinc (pc := 13) (v := nI 1) dX9_factorial_13 rfl rfl rfl rfl ?_
      refine Ev.goto (pc := 16) (tgt := 4) dX9_factorial_16 (by decide) ?_
      exact ih _ _ hr
def sX9_factorial (a1 : Int32) : Option (Int32) := sX9_factorial_4 a1 100 (nI 1) (nI 2)
set_option maxRecDepth 20000 in
set_option maxHeartbeats 1000000 in
theorem kX9_factorial (g : Hg) (q : Int64) (g2 : Hg) (q2 : Int64) (a1 : Int32) {r : Int32} (hr : sX9_factorial a1 = some r) : CtI MX9_factorial [.int a1] (g, q, g2, q2) (fun x h' => x = r ∧ h' = (g, q, g2, q2)) := by
  unfold sX9_factorial at hr
  refine CtI_L 2 rfl (by decide +kernel) rfl (Nat.le_of_ble_eq_true rfl) ?_
  show Ev _ _ 0 [some (.int a1), none, none] [] _
  refine Ev.iconst (pc := 0) (v := nI 1) dX9_factorial_0 (by decide) ?_
  refine Ev.istore_n (pc := 1) dX9_factorial_1 rfl rfl ?_
  refine Ev.iconst (pc := 2) (v := nI 2) dX9_factorial_2 (by decide) ?_
  refine Ev.istore_n (pc := 3) dX9_factorial_3 rfl rfl ?_
  exact kX9_factorial_4 _ _ _ _ _ _ 100 _ _ hr
/-! X9_common -/
def sX9_common_13 (v0 : Int32) (v1 : Int32) : Nat → Int32 → Int32 → Option (Int32)
  | 0, _, _ => none
  | n + 1, v2, v3 => if v3 = 0 then (some v2) else (if nz v3 = true then (sX9_common_13 v0 v1 n v3 (v2 - v2 / v3 * v3)) else none)
set_option maxRecDepth 20000 in
set_option maxHeartbeats 1000000 in
theorem kX9_common_13 (g : Hg) (q : Int64) (g2 : Hg) (q2 : Int64)  (v0 : Int32) (v1 : Int32) (r : Int32) : ∀ (n : Nat) (v2 : Int32) (v3 : Int32), sX9_common_13 v0 v1 n v2 v3 = some r → Ev (Xi (fun x h' => x = r ∧ h' = (g, q, g2, q2))) MX9_common 13 [some (.int v0), some (.int v1), some (.int v2), some (.int v3), none] [] (g, q, g2, q2) := by
  intro n
  induction n with
  | zero => intro _ _ hr; cases hr
  | succ n ih =>
    intro v2 v3 hr
    rw [sX9_common_13] at hr
    refine Ev.iload_n (pc := 13) dX9_common_13 rfl ?_
    refine Ev.ifeq (pc := 14) (tgt := 30) dX9_common_14 (by decide) (fun c_2 => ?_) (fun c_2 => ?_)
    · have hr := (if_pos c_2).symm.trans hr
      refine Ev.iload_n (pc := 30) dX9_common_30 rfl ?_
      cases hr
      exact Ev.iret rfl rfl dX9_common_31 ⟨rfl, rfl⟩
    · have hr := (if_neg c_2).symm.trans hr
      refine Ev.iload_n (pc := 17) dX9_common_17 rfl ?_
      refine Ev.iload_n (pc := 18) dX9_common_18 rfl ?_
      obtain ⟨c_3, hr⟩ := ckB hr
      refine Ev.irem (pc := 19) dX9_common_19 (nz_ne c_3) ?_
      refine Ev.istore (pc := 20) dX9_common_20 rfl rfl ?_
      refine Ev.iload_n (pc := 22) dX9_common_22 rfl ?_
      refine Ev.istore_n (pc := 23) dX9_common_23 rfl rfl ?_
      refine Ev.iload (pc := 24) dX9_common_24 rfl ?_
      refine Ev.istore_n (pc := 26) dX9_common_26 rfl rfl ?_
      refine Ev.goto (pc := 27) (tgt := 13) dX9_common_27 (by decide) ?_
      refine Ev_drop 4 ?_
      exact ih _ _ hr
def sX9_common (a1 : Int32) (a2 : Int32) : Option (Int32) := if 0 ≤ a1 then (sX9_common_13 a1 a2 100 a1 a2) else (sX9_common_13 a1 a2 100 (-a1) a2)
set_option maxRecDepth 20000 in
set_option maxHeartbeats 1000000 in
theorem kX9_common (g : Hg) (q : Int64) (g2 : Hg) (q2 : Int64) (a1 : Int32) (a2 : Int32) {r : Int32} (hr : sX9_common a1 a2 = some r) : CtI MX9_common [.int a1, .int a2] (g, q, g2, q2) (fun x h' => x = r ∧ h' = (g, q, g2, q2)) := by
  unfold sX9_common at hr
  refine CtI_L 3 rfl (by decide +kernel) rfl (Nat.le_of_ble_eq_true rfl) ?_
  show Ev _ _ 0 [some (.int a1), some (.int a2), none, none, none] [] _
  refine Ev.iload_n (pc := 0) dX9_common_0 rfl ?_
  refine Ev.ifge (pc := 1) (tgt := 9) dX9_common_1 (by decide) (fun c_1 => ?_) (fun c_1 => ?_)
  · have hr := (if_pos c_1).symm.trans hr
    refine Ev.iload_n (pc := 9) dX9_common_9 rfl ?_
    refine Ev.istore_n (pc := 10) dX9_common_10 rfl rfl ?_
    refine Ev.iload_n (pc := 11) dX9_common_11 rfl ?_
    refine Ev.istore_n (pc := 12) dX9_common_12 rfl rfl ?_
    exact kX9_common_13 _ _ _ _ _ _ _ 100 _ _ hr
  · have hr := (if_neg c_1).symm.trans hr
    refine Ev.iload_n (pc := 4) dX9_common_4 rfl ?_
    refine Ev.ineg (pc := 5) dX9_common_5 ?_
    refine Ev.goto (pc := 6) (tgt := 10) dX9_common_6 (by decide) ?_
    refine Ev.istore_n (pc := 10) dX9_common_10 rfl rfl ?_
    refine Ev.iload_n (pc := 11) dX9_common_11 rfl ?_
    refine Ev.istore_n (pc := 12) dX9_common_12 rfl rfl ?_
    exact kX9_common_13 _ _ _ _ _ _ _ 100 _ _ hr
/-! X9_gotBy -/
def sX9_gotBy_4 (g2 : Hg) (v1 : Int32) : Nat → Int32 → Int32 → Option (Int32)
  | 0, _, _ => none
  | n + 1, v2, v3 => if (g2 29 2) ≤ v3 then ((sX9_ones v2).bind fun x_1 => (some x_1)) else (if (sX9_has v1 v3) = true then (if inb v3 4 = true then (sX9_gotBy_4 g2 v1 n (v2 ||| (g2 45 (Int32.toNatClampNeg v3))) (v3 + (nI 1))) else none) else (sX9_gotBy_4 g2 v1 n (v2 ||| (nI 0)) (v3 + (nI 1))))
set_option maxRecDepth 20000 in
set_option maxHeartbeats 1000000 in
theorem kX9_gotBy_4 (g : Hg) (q : Int64) (g2 : Hg) (q2 : Int64)  (v1 : Int32) (r : Int32) : ∀ (n : Nat) (v2 : Int32) (v3 : Int32), sX9_gotBy_4 g2 v1 n v2 v3 = some r → Ev (Xi (fun x h' => x = r ∧ h' = (g, q, g2, q2))) MX9_gotBy 4 [some (.ref 29), some (.int v1), some (.int v2), some (.int v3)] [] (g, q, g2, q2) := by
  intro n
  induction n with
  | zero => intro _ _ hr; cases hr
  | succ n ih =>
    intro v2 v3 hr
    rw [sX9_gotBy_4] at hr
    refine Ev.iload_n (pc := 4) dX9_gotBy_4 rfl ?_
    refine Ev.aload_n (pc := 5) dX9_gotBy_5 rfl ?_
    refine Ev.get (pc := 6) (C0 := RX9) (T := TX9) (N := 31) (fl_29_2 _ _ _ _) rfl inX9_gotBy (by decide) lkX9_gotBy_108 dX9_gotBy_6 ?_
    refine Ev.icmpge (pc := 9) (tgt := 39) dX9_gotBy_9 (by decide) (fun c_1 => ?_) (fun c_1 => ?_)
    · have hr := (if_pos c_1).symm.trans hr
      refine Ev.iload_n (pc := 39) dX9_gotBy_39 rfl ?_
      obtain ⟨x_1, hx_1, hr⟩ := Option.bind_eq_some_iff.mp hr
      refine Ev.cSi (pc := 40) (As := [.int _]) (kX9_ones _ _ _ _ _ hx_1) rfl gX9_gotBy_X9_ones hdX9_ones rfl ⟨rfl, rfl⟩ ⟨Nat.le_of_ble_eq_true rfl, Nat.le_of_ble_eq_true rfl⟩ (Nat.le_of_ble_eq_true rfl) ⟨Nat.le_of_ble_eq_true rfl, Nat.le_of_ble_eq_true rfl⟩ dX9_gotBy_40 ?_
      cases hr
      exact Ev.iret rfl rfl dX9_gotBy_43 ⟨rfl, rfl⟩
    · have hr := (if_neg c_1).symm.trans hr
      refine Ev.iload_n (pc := 12) dX9_gotBy_12 rfl ?_
      refine Ev.iload_n (pc := 13) dX9_gotBy_13 rfl ?_
      refine Ev.iload_n (pc := 14) dX9_gotBy_14 rfl ?_
      refine Ev.cSi (pc := 15) (As := [.int _, .int _]) (kX9_has _ _ _ _ _ _) rfl gX9_gotBy_X9_has hdX9_has rfl ⟨rfl, rfl⟩ ⟨Nat.le_of_ble_eq_true rfl, Nat.le_of_ble_eq_true rfl⟩ (Nat.le_of_ble_eq_true rfl) ⟨Nat.le_of_ble_eq_true rfl, Nat.le_of_ble_eq_true rfl⟩ dX9_gotBy_15 ?_
      refine Ev.ifeqB (pc := 18) (tgt := 30) dX9_gotBy_18 (by decide) (fun c_2 => ?_) (fun c_2 => ?_)
      · have hr := (if_neg (ntr c_2)).symm.trans hr
        refine Ev.iconst (pc := 30) (v := nI 0) dX9_gotBy_30 (by decide) ?_
        refine Ev.ior (pc := 31) dX9_gotBy_31 ?_
        refine Ev.istore_n (pc := 32) dX9_gotBy_32 rfl rfl ?_
        refine Ev.iinc (pc := 33) (v := nI 1) dX9_gotBy_33 rfl rfl rfl rfl ?_
        refine Ev.goto (pc := 36) (tgt := 4) dX9_gotBy_36 (by decide) ?_
        exact ih _ _ hr
      · have hr := (if_pos c_2).symm.trans hr
        refine Ev.aload_n (pc := 21) dX9_gotBy_21 rfl ?_
        refine Ev.get (pc := 22) (C0 := RX9) (T := TX9) (N := 31) (fl_29_27 _ _ _ _) rfl inX9_gotBy (by decide) lkX9_gotBy_55 dX9_gotBy_22 ?_
        refine Ev.iload_n (pc := 25) dX9_gotBy_25 rfl ?_
        obtain ⟨c_3, hr⟩ := ckB hr
        refine Ev.iald (pc := 26) (ar_45 _ _ _ _) (inb_in c_3) dX9_gotBy_26 ?_
        refine Ev.goto (pc := 27) (tgt := 31) dX9_gotBy_27 (by decide) ?_
        refine Ev.ior (pc := 31) dX9_gotBy_31 ?_
        refine Ev.istore_n (pc := 32) dX9_gotBy_32 rfl rfl ?_
        refine Ev.iinc (pc := 33) (v := nI 1) dX9_gotBy_33 rfl rfl rfl rfl ?_
        refine Ev.goto (pc := 36) (tgt := 4) dX9_gotBy_36 (by decide) ?_
        exact ih _ _ hr
def sX9_gotBy (g2 : Hg) (a1 : Int32) : Option (Int32) := sX9_gotBy_4 g2 a1 100 (nI 0) (nI 0)
set_option maxRecDepth 20000 in
set_option maxHeartbeats 1000000 in
theorem kX9_gotBy (g : Hg) (q : Int64) (g2 : Hg) (q2 : Int64) (a1 : Int32) {r : Int32} (hr : sX9_gotBy g2 a1 = some r) : CtI MX9_gotBy [.ref 29, .int a1] (g, q, g2, q2) (fun x h' => x = r ∧ h' = (g, q, g2, q2)) := by
  unfold sX9_gotBy at hr
  refine CtI_L 2 rfl (by decide +kernel) rfl (Nat.le_of_ble_eq_true rfl) ?_
  show Ev _ _ 0 [some (.ref 29), some (.int a1), none, none] [] _
  refine Ev.iconst (pc := 0) (v := nI 0) dX9_gotBy_0 (by decide) ?_
  refine Ev.istore_n (pc := 1) dX9_gotBy_1 rfl rfl ?_
  refine Ev.iconst (pc := 2) (v := nI 0) dX9_gotBy_2 (by decide) ?_
  refine Ev.istore_n (pc := 3) dX9_gotBy_3 rfl rfl ?_
  exact kX9_gotBy_4 _ _ _ _ _ _ 100 _ _ hr
/-! X9_share -/
def sX9_share_44 (g2 : Hg) (v1 : Int32) (v2 : Int32) : Nat → Int32 → Int32 → Option (Int32 × Hg)
  | 0, _, _ => none
  | n + 1, v3, v4 => if ((nI 1) <<< ((g2 29 2) &&& 31)) ≤ v4 then ((sX9_factorial (g2 29 2)).bind fun x_1 => ((sX9_common v3 x_1).bind fun x_2 => (if v2 = 0 then ((sX9_factorial (g2 29 2)).bind fun x_3 => (if nz x_2 = true then (some (x_3 / x_2, g2)) else none)) else (if nz x_2 = true then (some (v3 / x_2, g2)) else none)))) else (if (sX9_has v4 v1) = true then (sX9_share_44 g2 v1 v2 n v3 (v4 + (nI 1))) else ((sX9_ones v4).bind fun x_4 => ((sX9_factorial x_4).bind fun x_5 => ((sX9_ones v4).bind fun x_6 => ((sX9_factorial (((g2 29 2) - (nI 1)) - x_6)).bind fun x_7 => ((sX9_gotBy g2 (v4 ||| ((nI 1) <<< (v1 &&& 31)))).bind fun x_8 => ((sX9_gotBy g2 v4).bind fun x_9 => (sX9_share_44 g2 v1 v2 n (v3 + ((x_5 * x_7) * (x_8 - x_9))) (v4 + (nI 1))))))))))
set_option maxRecDepth 20000 in
set_option maxHeartbeats 1000000 in
theorem kX9_share_44 (g : Hg) (q : Int64) (g2 : Hg) (q2 : Int64)  (v1 : Int32) (v2 : Int32) (r : Int32 × Hg) : ∀ (n : Nat) (v3 : Int32) (v4 : Int32), sX9_share_44 g2 v1 v2 n v3 v4 = some r → Ev (Xi (fun x h' => x = r.1 ∧ h' = (g, q, r.2, q2))) MX9_share 44 [some (.ref 29), some (.int v1), some (.int v2), some (.int v3), some (.int v4), none] [] (g, q, g2, q2) := by
  intro n
  induction n with
  | zero => intro _ _ hr; cases hr
  | succ n ih =>
    intro v3 v4 hr
    rw [sX9_share_44] at hr
    refine Ev.iload (pc := 44) dX9_share_44 rfl ?_
    refine Ev.iconst (pc := 46) (v := nI 1) dX9_share_46 (by decide) ?_
    refine Ev.aload_n (pc := 47) dX9_share_47 rfl ?_
    refine Ev.get (pc := 48) (C0 := RX9) (T := TX9) (N := 31) (fl_29_2 _ _ _ _) rfl inX9_share (by decide) lkX9_share_108 dX9_share_48 ?_
    refine Ev.ishl (pc := 51) dX9_share_51 ?_
    refine Ev.icmpge (pc := 52) (tgt := 119) dX9_share_52 (by decide) (fun c_3 => ?_) (fun c_3 => ?_)
    · have hr := (if_pos c_3).symm.trans hr
      refine Ev.iload_n (pc := 119) dX9_share_119 rfl ?_
      refine Ev.aload_n (pc := 120) dX9_share_120 rfl ?_
      refine Ev.get (pc := 121) (C0 := RX9) (T := TX9) (N := 31) (fl_29_2 _ _ _ _) rfl inX9_share (by decide) lkX9_share_108 dX9_share_121 ?_
      obtain ⟨x_1, hx_1, hr⟩ := Option.bind_eq_some_iff.mp hr
      refine Ev.cSi (pc := 124) (As := [.int _]) (kX9_factorial _ _ _ _ _ hx_1) rfl gX9_share_X9_factorial hdX9_factorial rfl ⟨rfl, rfl⟩ ⟨Nat.le_of_ble_eq_true rfl, Nat.le_of_ble_eq_true rfl⟩ (Nat.le_of_ble_eq_true rfl) ⟨Nat.le_of_ble_eq_true rfl, Nat.le_of_ble_eq_true rfl⟩ dX9_share_124 ?_
      obtain ⟨x_2, hx_2, hr⟩ := Option.bind_eq_some_iff.mp hr
      refine Ev.cSi (pc := 127) (As := [.int _, .int _]) (kX9_common _ _ _ _ _ _ hx_2) rfl gX9_share_X9_common hdX9_common rfl ⟨rfl, rfl⟩ ⟨Nat.le_of_ble_eq_true rfl, Nat.le_of_ble_eq_true rfl⟩ (Nat.le_of_ble_eq_true rfl) ⟨Nat.le_of_ble_eq_true rfl, Nat.le_of_ble_eq_true rfl⟩ dX9_share_127 ?_
      refine Ev.istore (pc := 130) dX9_share_130 rfl rfl ?_
      refine Ev.iload_n (pc := 132) dX9_share_132 rfl ?_
      refine Ev.ifeq (pc := 133) (tgt := 143) dX9_share_133 (by decide) (fun c_4 => ?_) (fun c_4 => ?_)
      · have hr := (if_pos c_4).symm.trans hr
        refine Ev.aload_n (pc := 143) dX9_share_143 rfl ?_
        refine Ev.get (pc := 144) (C0 := RX9) (T := TX9) (N := 31) (fl_29_2 _ _ _ _) rfl inX9_share (by decide) lkX9_share_108 dX9_share_144 ?_
        obtain ⟨x_3, hx_3, hr⟩ := Option.bind_eq_some_iff.mp hr
        refine Ev.cSi (pc := 147) (As := [.int _]) (kX9_factorial _ _ _ _ _ hx_3) rfl gX9_share_X9_factorial hdX9_factorial rfl ⟨rfl, rfl⟩ ⟨Nat.le_of_ble_eq_true rfl, Nat.le_of_ble_eq_true rfl⟩ (Nat.le_of_ble_eq_true rfl) ⟨Nat.le_of_ble_eq_true rfl, Nat.le_of_ble_eq_true rfl⟩ dX9_share_147 ?_
        refine Ev.iload (pc := 150) dX9_share_150 rfl ?_
        obtain ⟨c_5, hr⟩ := ckB hr
        refine Ev.idiv (pc := 152) dX9_share_152 (nz_ne c_5) ?_
        cases hr
        exact Ev.iret rfl rfl dX9_share_153 ⟨rfl, rfl⟩
      · have hr := (if_neg c_4).symm.trans hr
        refine Ev.iload_n (pc := 136) dX9_share_136 rfl ?_
        refine Ev.iload (pc := 137) dX9_share_137 rfl ?_
        obtain ⟨c_6, hr⟩ := ckB hr
        refine Ev.idiv (pc := 139) dX9_share_139 (nz_ne c_6) ?_
        refine Ev.goto (pc := 140) (tgt := 153) dX9_share_140 (by decide) ?_
        cases hr
        exact Ev.iret rfl rfl dX9_share_153 ⟨rfl, rfl⟩
    · have hr := (if_neg c_3).symm.trans hr
      refine Ev.iload (pc := 55) dX9_share_55 rfl ?_
      refine Ev.iload_n (pc := 57) dX9_share_57 rfl ?_
      refine Ev.cSi (pc := 58) (As := [.int _, .int _]) (kX9_has _ _ _ _ _ _) rfl gX9_share_X9_has hdX9_has rfl ⟨rfl, rfl⟩ ⟨Nat.le_of_ble_eq_true rfl, Nat.le_of_ble_eq_true rfl⟩ (Nat.le_of_ble_eq_true rfl) ⟨Nat.le_of_ble_eq_true rfl, Nat.le_of_ble_eq_true rfl⟩ dX9_share_58 ?_
      refine Ev.ifneB (pc := 61) (tgt := 113) dX9_share_61 (by decide) (fun c_7 => ?_) (fun c_7 => ?_)
      · have hr := (if_pos c_7).symm.trans hr
        refine Ev.iinc (pc := 113) (v := nI 1) dX9_share_113 rfl rfl rfl rfl ?_
        refine Ev.goto (pc := 116) (tgt := 44) dX9_share_116 (by decide) ?_
        exact ih _ _ hr
      · have hr := (if_neg (ntr c_7)).symm.trans hr
        refine Ev.iload (pc := 64) dX9_share_64 rfl ?_
        obtain ⟨x_4, hx_4, hr⟩ := Option.bind_eq_some_iff.mp hr
        refine Ev.cSi (pc := 66) (As := [.int _]) (kX9_ones _ _ _ _ _ hx_4) rfl gX9_share_X9_ones hdX9_ones rfl ⟨rfl, rfl⟩ ⟨Nat.le_of_ble_eq_true rfl, Nat.le_of_ble_eq_true rfl⟩ (Nat.le_of_ble_eq_true rfl) ⟨Nat.le_of_ble_eq_true rfl, Nat.le_of_ble_eq_true rfl⟩ dX9_share_66 ?_
        obtain ⟨x_5, hx_5, hr⟩ := Option.bind_eq_some_iff.mp hr
        refine Ev.cSi (pc := 69) (As := [.int _]) (kX9_factorial _ _ _ _ _ hx_5) rfl gX9_share_X9_factorial hdX9_factorial rfl ⟨rfl, rfl⟩ ⟨Nat.le_of_ble_eq_true rfl, Nat.le_of_ble_eq_true rfl⟩ (Nat.le_of_ble_eq_true rfl) ⟨Nat.le_of_ble_eq_true rfl, Nat.le_of_ble_eq_true rfl⟩ dX9_share_69 ?_
        refine Ev.aload_n (pc := 72) dX9_share_72 rfl ?_
        refine Ev.get (pc := 73) (C0 := RX9) (T := TX9) (N := 31) (fl_29_2 _ _ _ _) rfl inX9_share (by decide) lkX9_share_108 dX9_share_73 ?_
        refine Ev.iconst (pc := 76) (v := nI 1) dX9_share_76 (by decide) ?_
        refine Ev.isub (pc := 77) dX9_share_77 ?_
        refine Ev.iload (pc := 78) dX9_share_78 rfl ?_
        obtain ⟨x_6, hx_6, hr⟩ := Option.bind_eq_some_iff.mp hr
        refine Ev.cSi (pc := 80) (As := [.int _]) (kX9_ones _ _ _ _ _ hx_6) rfl gX9_share_X9_ones hdX9_ones rfl ⟨rfl, rfl⟩ ⟨Nat.le_of_ble_eq_true rfl, Nat.le_of_ble_eq_true rfl⟩ (Nat.le_of_ble_eq_true rfl) ⟨Nat.le_of_ble_eq_true rfl, Nat.le_of_ble_eq_true rfl⟩ dX9_share_80 ?_
        refine Ev.isub (pc := 83) dX9_share_83 ?_
        obtain ⟨x_7, hx_7, hr⟩ := Option.bind_eq_some_iff.mp hr
        refine Ev.cSi (pc := 84) (As := [.int _]) (kX9_factorial _ _ _ _ _ hx_7) rfl gX9_share_X9_factorial hdX9_factorial rfl ⟨rfl, rfl⟩ ⟨Nat.le_of_ble_eq_true rfl, Nat.le_of_ble_eq_true rfl⟩ (Nat.le_of_ble_eq_true rfl) ⟨Nat.le_of_ble_eq_true rfl, Nat.le_of_ble_eq_true rfl⟩ dX9_share_84 ?_
        refine Ev.imul (pc := 87) dX9_share_87 ?_
        refine Ev.istore (pc := 88) dX9_share_88 rfl rfl ?_
        refine Ev.iload_n (pc := 90) dX9_share_90 rfl ?_
        refine Ev.iload (pc := 91) dX9_share_91 rfl ?_
        refine Ev.aload_n (pc := 93) dX9_share_93 rfl ?_
        refine Ev.iload (pc := 94) dX9_share_94 rfl ?_
        refine Ev.iconst (pc := 96) (v := nI 1) dX9_share_96 (by decide) ?_
        refine Ev.iload_n (pc := 97) dX9_share_97 rfl ?_
        refine Ev.ishl (pc := 98) dX9_share_98 ?_
        refine Ev.ior (pc := 99) dX9_share_99 ?_
        obtain ⟨x_8, hx_8, hr⟩ := Option.bind_eq_some_iff.mp hr
        refine Ev.cVi (pc := 100) (As := [.int _]) (kX9_gotBy _ _ _ _ _ hx_8) rfl rfl (ob_29 _) gX9_share_X9_gotBy hdX9_gotBy rfl ⟨rfl, rfl⟩ ⟨Nat.le_of_ble_eq_true rfl, Nat.le_of_ble_eq_true rfl⟩ (Nat.le_of_ble_eq_true rfl) ⟨Nat.le_of_ble_eq_true rfl, Nat.le_of_ble_eq_true rfl⟩ dX9_share_100 ?_
        refine Ev.aload_n (pc := 103) dX9_share_103 rfl ?_
        refine Ev.iload (pc := 104) dX9_share_104 rfl ?_
        obtain ⟨x_9, hx_9, hr⟩ := Option.bind_eq_some_iff.mp hr
        refine Ev.cVi (pc := 106) (As := [.int _]) (kX9_gotBy _ _ _ _ _ hx_9) rfl rfl (ob_29 _) gX9_share_X9_gotBy hdX9_gotBy rfl ⟨rfl, rfl⟩ ⟨Nat.le_of_ble_eq_true rfl, Nat.le_of_ble_eq_true rfl⟩ (Nat.le_of_ble_eq_true rfl) ⟨Nat.le_of_ble_eq_true rfl, Nat.le_of_ble_eq_true rfl⟩ dX9_share_106 ?_
        refine Ev.isub (pc := 109) dX9_share_109 ?_
        refine Ev.imul (pc := 110) dX9_share_110 ?_
        refine Ev.iadd (pc := 111) dX9_share_111 ?_
        refine Ev.istore_n (pc := 112) dX9_share_112 rfl rfl ?_
        refine Ev.iinc (pc := 113) (v := nI 1) dX9_share_113 rfl rfl rfl rfl ?_
        refine Ev.goto (pc := 116) (tgt := 44) dX9_share_116 (by decide) ?_
        refine Ev_drop 5 ?_
        exact ih _ _ hr
def sX9_share_12 (v1 : Int32) (v2 : Int32) : Nat → Hg → Int32 → Option (Int32 × Hg)
  | 0, _, _ => none
  | n + 1, g2, v3 => if (g2 29 2) ≤ v3 then (sX9_share_44 g2 v1 v2 100 (nI 0) (nI 0)) else ((sX9_getsOf g2 v3 (nI 6)).bind fun x_10 => (if inb v3 4 = true then (sX9_share_12 v1 v2 n (stA g2 45 (Int32.toNatClampNeg v3) x_10) (v3 + (nI 1))) else none))
set_option maxRecDepth 20000 in
set_option maxHeartbeats 1000000 in
theorem kX9_share_12 (g : Hg) (q : Int64) (q2 : Int64)  (v1 : Int32) (v2 : Int32) (r : Int32 × Hg) : ∀ (n : Nat) (g2 : Hg) (v3 : Int32), sX9_share_12 v1 v2 n g2 v3 = some r → Ev (Xi (fun x h' => x = r.1 ∧ h' = (g, q, r.2, q2))) MX9_share 12 [some (.ref 29), some (.int v1), some (.int v2), some (.int v3), none, none] [] (g, q, g2, q2) := by
  intro n
  induction n with
  | zero => intro _ _ hr; cases hr
  | succ n ih =>
    intro g2 v3 hr
    rw [sX9_share_12] at hr
    refine Ev.iload_n (pc := 12) dX9_share_12 rfl ?_
    refine Ev.aload_n (pc := 13) dX9_share_13 rfl ?_
    refine Ev.get (pc := 14) (C0 := RX9) (T := TX9) (N := 31) (fl_29_2 _ _ _ _) rfl inX9_share (by decide) lkX9_share_108 dX9_share_14 ?_
    refine Ev.icmpge (pc := 17) (tgt := 39) dX9_share_17 (by decide) (fun c_2 => ?_) (fun c_2 => ?_)
    · have hr := (if_pos c_2).symm.trans hr
      refine Ev.iconst (pc := 39) (v := nI 0) dX9_share_39 (by decide) ?_
      refine Ev.istore_n (pc := 40) dX9_share_40 rfl rfl ?_
      refine Ev.iconst (pc := 41) (v := nI 0) dX9_share_41 (by decide) ?_
      refine Ev.istore (pc := 42) dX9_share_42 rfl rfl ?_
      exact kX9_share_44 _ _ _ _ _ _ _ 100 _ _ hr
    · have hr := (if_neg c_2).symm.trans hr
      refine Ev.aload_n (pc := 20) dX9_share_20 rfl ?_
      refine Ev.get (pc := 21) (C0 := RX9) (T := TX9) (N := 31) (fl_29_27 _ _ _ _) rfl inX9_share (by decide) lkX9_share_55 dX9_share_21 ?_
      refine Ev.iload_n (pc := 24) dX9_share_24 rfl ?_
      refine Ev.aload_n (pc := 25) dX9_share_25 rfl ?_
      refine Ev.iload_n (pc := 26) dX9_share_26 rfl ?_
      refine Ev.bipush (pc := 27) (v := nI 6) dX9_share_27 (by decide) ?_
      obtain ⟨x_10, hx_10, hr⟩ := Option.bind_eq_some_iff.mp hr
      refine Ev.cVi (pc := 29) (As := [.int _, .int _]) (kX9_getsOf _ _ _ _ _ _ hx_10) rfl rfl (ob_29 _) gX9_share_X9_getsOf hdX9_getsOf rfl ⟨rfl, rfl⟩ ⟨Nat.le_of_ble_eq_true rfl, Nat.le_of_ble_eq_true rfl⟩ (Nat.le_of_ble_eq_true rfl) ⟨Nat.le_of_ble_eq_true rfl, Nat.le_of_ble_eq_true rfl⟩ dX9_share_29 ?_
      obtain ⟨c_8, hr⟩ := ckB hr
      refine Ev.iast (pc := 32) (ar_45 _ _ _ _) (inb_in c_8) (se_45 _ _ _ _ _) dX9_share_32 ?_
      refine Ev.iinc (pc := 33) (v := nI 1) dX9_share_33 rfl rfl rfl rfl ?_
      refine Ev.goto (pc := 36) (tgt := 12) dX9_share_36 (by decide) ?_
      exact ih _ _ hr
def sX9_share (g2 : Hg) (a1 : Int32) (a2 : Int32) : Option (Int32 × Hg) := if (sX9_isLark g2 a1) = true then (sX9_share_12 a1 a2 100 g2 (nI 0)) else (some ((-1), g2))
set_option maxRecDepth 20000 in
set_option maxHeartbeats 1000000 in
theorem kX9_share (g : Hg) (q : Int64) (g2 : Hg) (q2 : Int64) (a1 : Int32) (a2 : Int32) {r : Int32 × Hg} (hr : sX9_share g2 a1 a2 = some r) : CtI MX9_share [.ref 29, .int a1, .int a2] (g, q, g2, q2) (fun x h' => x = r.1 ∧ h' = (g, q, r.2, q2)) := by
  unfold sX9_share at hr
  refine CtI_L 3 rfl (by decide +kernel) rfl (Nat.le_of_ble_eq_true rfl) ?_
  show Ev _ _ 0 [some (.ref 29), some (.int a1), some (.int a2), none, none, none] [] _
  refine Ev.aload_n (pc := 0) dX9_share_0 rfl ?_
  refine Ev.iload_n (pc := 1) dX9_share_1 rfl ?_
  refine Ev.cVi (pc := 2) (As := [.int _]) (kX9_isLark _ _ _ _ _) rfl rfl (ob_29 _) gX9_share_X9_isLark hdX9_isLark rfl ⟨rfl, rfl⟩ ⟨Nat.le_of_ble_eq_true rfl, Nat.le_of_ble_eq_true rfl⟩ (Nat.le_of_ble_eq_true rfl) ⟨Nat.le_of_ble_eq_true rfl, Nat.le_of_ble_eq_true rfl⟩ dX9_share_2 ?_
  refine Ev.ifneB (pc := 5) (tgt := 10) dX9_share_5 (by decide) (fun c_1 => ?_) (fun c_1 => ?_)
  · have hr := (if_pos c_1).symm.trans hr
    refine Ev.iconst (pc := 10) (v := nI 0) dX9_share_10 (by decide) ?_
    refine Ev.istore_n (pc := 11) dX9_share_11 rfl rfl ?_
    exact kX9_share_12 _ _ _ _ _ _ 100 _ _ hr
  · have hr := (if_neg (ntr c_1)).symm.trans hr
    refine Ev.iconst (pc := 8) (v := (-1)) dX9_share_8 (by decide) ?_
    cases hr
    exact Ev.iret rfl rfl dX9_share_9 ⟨rfl, rfl⟩
/-! X9_eldestAt -/
def sX9_eldestAt_12 (g2 : Hg) (v1 : Int32) (v2 : Int32) : Nat → Int32 → Int32 → Option (Int32)
  | 0, _, _ => none
  | n + 1, v3, v4 => if (g2 29 1) ≤ v4 then ((sX9_isBare g2 v1 (g2 35 (Int32.toNatClampNeg (nI 61)))).bind fun x_2 => (if x_2 = true then (some v3) else (some (nI 0)))) else (if (sX9_has v2 v4) = true then (if inb v4 5 = true then (if (g2 32 (Int32.toNatClampNeg v4)) ≤ v3 then (sX9_eldestAt_12 g2 v1 v2 n v3 (v4 + (nI 1))) else (if inb v4 5 = true then (sX9_eldestAt_12 g2 v1 v2 n (g2 32 (Int32.toNatClampNeg v4)) (v4 + (nI 1))) else none)) else none) else (sX9_eldestAt_12 g2 v1 v2 n v3 (v4 + (nI 1))))
set_option maxRecDepth 20000 in
set_option maxHeartbeats 1000000 in
theorem kX9_eldestAt_12 (g : Hg) (q : Int64) (g2 : Hg) (q2 : Int64)  (v1 : Int32) (v2 : Int32) (r : Int32) : ∀ (n : Nat) (v3 : Int32) (v4 : Int32), sX9_eldestAt_12 g2 v1 v2 n v3 v4 = some r → Ev (Xi (fun x h' => x = r ∧ h' = (g, q, g2, q2))) MX9_eldestAt 12 [some (.ref 29), some (.int v1), some (.int v2), some (.int v3), some (.int v4)] [] (g, q, g2, q2) := by
  intro n
  induction n with
  | zero => intro _ _ hr; cases hr
  | succ n ih =>
    intro v3 v4 hr
    rw [sX9_eldestAt_12] at hr
    refine Ev.iload (pc := 12) dX9_eldestAt_12 rfl ?_
    refine Ev.aload_n (pc := 14) dX9_eldestAt_14 rfl ?_
    refine Ev.get (pc := 15) (C0 := RX9) (T := TX9) (N := 31) (fl_29_1 _ _ _ _) rfl inX9_eldestAt (by decide) lkX9_eldestAt_105 dX9_eldestAt_15 ?_
    refine Ev.icmpge (pc := 18) (tgt := 59) dX9_eldestAt_18 (by decide) (fun c_1 => ?_) (fun c_1 => ?_)
    · have hr := (if_pos c_1).symm.trans hr
      refine Ev.aload_n (pc := 59) dX9_eldestAt_59 rfl ?_
      refine Ev.iload_n (pc := 60) dX9_eldestAt_60 rfl ?_
      refine Ev.aload_n (pc := 61) dX9_eldestAt_61 rfl ?_
      refine Ev.get (pc := 62) (C0 := RX9) (T := TX9) (N := 31) (fl_29_8 _ _ _ _) rfl inX9_eldestAt (by decide) lkX9_eldestAt_25 dX9_eldestAt_62 ?_
      refine Ev.bipush (pc := 65) (v := nI 61) dX9_eldestAt_65 (by decide) ?_
      refine Ev.iald (pc := 67) (ar_35 _ _ _ _) (vp_in_nI (n := 61) (N := 62) (by decide) (by decide)) dX9_eldestAt_67 ?_
      obtain ⟨x_2, hx_2, hr⟩ := Option.bind_eq_some_iff.mp hr
      refine Ev.cVi (pc := 68) (As := [.int _, .int _]) (kX9_isBare _ _ _ _ _ _ hx_2) rfl rfl (ob_29 _) gX9_eldestAt_X9_isBare hdX9_isBare rfl ⟨rfl, rfl⟩ ⟨Nat.le_of_ble_eq_true rfl, Nat.le_of_ble_eq_true rfl⟩ (Nat.le_of_ble_eq_true rfl) ⟨Nat.le_of_ble_eq_true rfl, Nat.le_of_ble_eq_true rfl⟩ dX9_eldestAt_68 ?_
      refine Ev.ifeqB (pc := 71) (tgt := 78) dX9_eldestAt_71 (by decide) (fun c_2 => ?_) (fun c_2 => ?_)
      · have hr := (if_neg (ntr c_2)).symm.trans hr
        refine Ev.iconst (pc := 78) (v := nI 0) dX9_eldestAt_78 (by decide) ?_
        cases hr
        exact Ev.iret rfl rfl dX9_eldestAt_79 ⟨rfl, rfl⟩
      · have hr := (if_pos c_2).symm.trans hr
        refine Ev.iload_n (pc := 74) dX9_eldestAt_74 rfl ?_
        refine Ev.goto (pc := 75) (tgt := 79) dX9_eldestAt_75 (by decide) ?_
        cases hr
        exact Ev.iret rfl rfl dX9_eldestAt_79 ⟨rfl, rfl⟩
    · have hr := (if_neg c_1).symm.trans hr
      refine Ev.iload_n (pc := 21) dX9_eldestAt_21 rfl ?_
      refine Ev.iload (pc := 22) dX9_eldestAt_22 rfl ?_
      refine Ev.cSi (pc := 24) (As := [.int _, .int _]) (kX9_has _ _ _ _ _ _) rfl gX9_eldestAt_X9_has hdX9_has rfl ⟨rfl, rfl⟩ ⟨Nat.le_of_ble_eq_true rfl, Nat.le_of_ble_eq_true rfl⟩ (Nat.le_of_ble_eq_true rfl) ⟨Nat.le_of_ble_eq_true rfl, Nat.le_of_ble_eq_true rfl⟩ dX9_eldestAt_24 ?_
      refine Ev.ifeqB (pc := 27) (tgt := 51) dX9_eldestAt_27 (by decide) (fun c_3 => ?_) (fun c_3 => ?_)
      · have hr := (if_neg (ntr c_3)).symm.trans hr
        refine Ev.iload_n (pc := 51) dX9_eldestAt_51 rfl ?_
        refine Ev.istore_n (pc := 52) dX9_eldestAt_52 rfl rfl ?_
        refine Ev.iinc (pc := 53) (v := nI 1) dX9_eldestAt_53 rfl rfl rfl rfl ?_
        refine Ev.goto (pc := 56) (tgt := 12) dX9_eldestAt_56 (by decide) ?_
        exact ih _ _ hr
      · have hr := (if_pos c_3).symm.trans hr
        refine Ev.aload_n (pc := 30) dX9_eldestAt_30 rfl ?_
        refine Ev.get (pc := 31) (C0 := RX9) (T := TX9) (N := 31) (fl_29_5 _ _ _ _) rfl inX9_eldestAt (by decide) lkX9_eldestAt_16 dX9_eldestAt_31 ?_
        refine Ev.iload (pc := 34) dX9_eldestAt_34 rfl ?_
        obtain ⟨c_4, hr⟩ := ckB hr
        refine Ev.iald (pc := 36) (ar_32 _ _ _ _) (inb_in c_4) dX9_eldestAt_36 ?_
        refine Ev.iload_n (pc := 37) dX9_eldestAt_37 rfl ?_
        refine Ev.icmple (pc := 38) (tgt := 51) dX9_eldestAt_38 (by decide) (fun c_5 => ?_) (fun c_5 => ?_)
        · have hr := (if_pos c_5).symm.trans hr
          refine Ev.iload_n (pc := 51) dX9_eldestAt_51 rfl ?_
          refine Ev.istore_n (pc := 52) dX9_eldestAt_52 rfl rfl ?_
          refine Ev.iinc (pc := 53) (v := nI 1) dX9_eldestAt_53 rfl rfl rfl rfl ?_
          refine Ev.goto (pc := 56) (tgt := 12) dX9_eldestAt_56 (by decide) ?_
          exact ih _ _ hr
        · have hr := (if_neg c_5).symm.trans hr
          refine Ev.aload_n (pc := 41) dX9_eldestAt_41 rfl ?_
          refine Ev.get (pc := 42) (C0 := RX9) (T := TX9) (N := 31) (fl_29_5 _ _ _ _) rfl inX9_eldestAt (by decide) lkX9_eldestAt_16 dX9_eldestAt_42 ?_
          refine Ev.iload (pc := 45) dX9_eldestAt_45 rfl ?_
          obtain ⟨c_6, hr⟩ := ckB hr
          refine Ev.iald (pc := 47) (ar_32 _ _ _ _) (inb_in c_6) dX9_eldestAt_47 ?_
          refine Ev.goto (pc := 48) (tgt := 52) dX9_eldestAt_48 (by decide) ?_
          refine Ev.istore_n (pc := 52) dX9_eldestAt_52 rfl rfl ?_
          refine Ev.iinc (pc := 53) (v := nI 1) dX9_eldestAt_53 rfl rfl rfl rfl ?_
          refine Ev.goto (pc := 56) (tgt := 12) dX9_eldestAt_56 (by decide) ?_
          exact ih _ _ hr
def sX9_eldestAt (g2 : Hg) (a1 : Int32) : Option (Int32) := (sX9_lieAt g2 (nI 1) a1).bind fun x_1 => (sX9_eldestAt_12 g2 a1 x_1 100 (nI 0) (nI 0))
set_option maxRecDepth 20000 in
set_option maxHeartbeats 1000000 in
theorem kX9_eldestAt (g : Hg) (q : Int64) (g2 : Hg) (q2 : Int64) (a1 : Int32) {r : Int32} (hr : sX9_eldestAt g2 a1 = some r) : CtI MX9_eldestAt [.ref 29, .int a1] (g, q, g2, q2) (fun x h' => x = r ∧ h' = (g, q, g2, q2)) := by
  unfold sX9_eldestAt at hr
  refine CtI_L 3 rfl (by decide +kernel) rfl (Nat.le_of_ble_eq_true rfl) ?_
  show Ev _ _ 0 [some (.ref 29), some (.int a1), none, none, none] [] _
  refine Ev.aload_n (pc := 0) dX9_eldestAt_0 rfl ?_
  refine Ev.iconst (pc := 1) (v := nI 1) dX9_eldestAt_1 (by decide) ?_
  refine Ev.iload_n (pc := 2) dX9_eldestAt_2 rfl ?_
  obtain ⟨x_1, hx_1, hr⟩ := Option.bind_eq_some_iff.mp hr
  refine Ev.cVi (pc := 3) (As := [.int _, .int _]) (kX9_lieAt _ _ _ _ _ _ hx_1) rfl rfl (ob_29 _) gX9_eldestAt_X9_lieAt hdX9_lieAt rfl ⟨rfl, rfl⟩ ⟨Nat.le_of_ble_eq_true rfl, Nat.le_of_ble_eq_true rfl⟩ (Nat.le_of_ble_eq_true rfl) ⟨Nat.le_of_ble_eq_true rfl, Nat.le_of_ble_eq_true rfl⟩ dX9_eldestAt_3 ?_
  refine Ev.istore_n (pc := 6) dX9_eldestAt_6 rfl rfl ?_
  refine Ev.iconst (pc := 7) (v := nI 0) dX9_eldestAt_7 (by decide) ?_
  refine Ev.istore_n (pc := 8) dX9_eldestAt_8 rfl rfl ?_
  refine Ev.iconst (pc := 9) (v := nI 0) dX9_eldestAt_9 (by decide) ?_
  refine Ev.istore (pc := 10) dX9_eldestAt_10 rfl rfl ?_
  exact kX9_eldestAt_12 _ _ _ _ _ _ _ 100 _ _ hr
