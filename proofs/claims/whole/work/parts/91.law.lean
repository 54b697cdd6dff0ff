/-! ===== the law's loop ===== -/
abbrev MLaw : Mi := (yL_law, lw_tbl, cL_law, RL, 4, ret, room_1)
/-- the law: its room is used; the script lies at the place 48, outside the world; its end is the claim's -/
def XL (xs : Nat → Int32) (Ln : Nat) : Xt := (48, 1461, fun s args G A => (∃ b, args = #[Value.ref b]) ∧ va_X (G.2.1 48) Ln xs s s.heap ∧ G.2.1 48 < s.heap.size ∧ ¬ A (G.2.1 48) ∧ ∀ q, A q → s.heap.size ≤ q, fun below args s _ _ => lw_Z below args s)
theorem Ev.sld {xs : Nat → Int32} {Ln pc : Nat} {L : List (Option Value)} {st : List Value} {h : Hp} {i : Int32} (hin : vp_in i Ln) (d : decode (mB MLaw) pc = .ok (.iaload, 1)) (k : Ev (XL xs Ln) MLaw (pc + 1) L (.int (xs i.toNatClampNeg) :: st) h) : Ev (XL xs Ln) MLaw pc L (.int i :: .ref 48 :: st) h := by
  intro p l e s m args below meth c G A H locs ls C E hl hP hS
  exact va_sld C.1 C.2.1 E.2.1 E.2.2.1 E.2.2.2.1 hS hin d (k p l e s m args below meth c G A H locs ls C E hl hP hS)
theorem Ev.slen {xs : Nat → Int32} {Ln pc : Nat} {L : List (Option Value)} {st : List Value} {h : Hp} (d : decode (mB MLaw) pc = .ok (.arraylength, 1)) (k : Ev (XL xs Ln) MLaw (pc + 1) L (.int (nI Ln) :: st) h) : Ev (XL xs Ln) MLaw pc L (.ref 48 :: st) h := by
  intro p l e s m args below meth c G A H locs ls C E hl hP hS
  exact va_slen C.1 C.2.1 E.2.1 E.2.2.1 E.2.2.2.1 hS d (k p l e s m args below meth c G A H locs ls C E hl hP hS)
theorem Ev.lawret {xs : Nat → Int32} {Ln pc : Nat} {L : List (Option Value)} {h : Hp} (d : decode (mB MLaw) pc = .ok (.ireturn, 1)) : Ev (XL xs Ln) MLaw pc L [.int (nI 1)] h := by
  intro p l e s m args below meth c G A H locs ls C E hl hP hS
  obtain ⟨⟨b, rfl⟩, -, -, -, hA⟩ := E
  refine va_forget (fun q hq => hA _ (hS.2.2 q hq)) ?_
  exact lw_ret C.1 C.2.1 C.2.2.1 C.2.2.2.2.2.2.1 d
def sL (xs : Nat → Int32) (Ln : Nat) : Nat → Hg → Int64 → Hg → Int64 → Int32 → Option Unit
  | 0, _, _, _, _, _ => none
  | n + 1, g, q, g2, q2, v3 => if ((nI Ln) - (nI 5)) < v3 then (some ()) else (if inb v3 Ln = true then (if ((xs (Int32.toNatClampNeg v3)) &&& (nI 31)) = nI 0 then (if inb (v3 + (nI 1)) Ln = true then ((sX8_write g (xs (Int32.toNatClampNeg (v3 + (nI 1))))).bind fun x_1 => (if inb (v3 + (nI 1)) Ln = true then ((sX9_write g2 (xs (Int32.toNatClampNeg (v3 + (nI 1))))).bind fun x_2 => (if x_1.1 = x_2.1 then (sL xs Ln n x_1.2 q x_2.2 q2 (v3 + (nI 5))) else (none))) else none)) else none) else (if ((xs (Int32.toNatClampNeg v3)) &&& (nI 31)) = nI 1 then (if ((sX8_wipe g).1) = ((sX9_wipe g2).1) then (sL xs Ln n ((sX8_wipe g).2) q ((sX9_wipe g2).2) q2 (v3 + (nI 5))) else (none)) else (if ((xs (Int32.toNatClampNeg v3)) &&& (nI 31)) = nI 2 then ((sX8_fault g).bind fun x_3 => ((sX9_fault g2).bind fun x_4 => (if x_3.1 = x_4.1 then (sL xs Ln n x_3.2 q x_4.2 q2 (v3 + (nI 5))) else (none)))) else (if ((xs (Int32.toNatClampNeg v3)) &&& (nI 31)) = nI 3 then ((sX8_flat g).bind fun x_5 => ((sX9_flat g2).bind fun x_6 => (if x_5.1 = x_6.1 then (sL xs Ln n x_5.2 q x_6.2 q2 (v3 + (nI 5))) else (none)))) else (if ((xs (Int32.toNatClampNeg v3)) &&& (nI 31)) = nI 4 then (if inb (v3 + (nI 1)) Ln = true then (if inb (v3 + (nI 2)) Ln = true then ((sX8_cell g (xs (Int32.toNatClampNeg (v3 + (nI 1)))) (xs (Int32.toNatClampNeg (v3 + (nI 2))))).bind fun x_7 => (if inb (v3 + (nI 1)) Ln = true then (if inb (v3 + (nI 2)) Ln = true then ((sX9_cell g2 (xs (Int32.toNatClampNeg (v3 + (nI 1)))) (xs (Int32.toNatClampNeg (v3 + (nI 2))))).bind fun x_8 => (if x_7 = x_8 then (sL xs Ln n g q g2 q2 (v3 + (nI 5))) else (none))) else none) else none)) else none) else none) else (if ((xs (Int32.toNatClampNeg v3)) &&& (nI 31)) = nI 5 then (if inb (v3 + (nI 1)) Ln = true then (if inb (v3 + (nI 2)) Ln = true then ((sX8_find g (xs (Int32.toNatClampNeg (v3 + (nI 1)))) (xs (Int32.toNatClampNeg (v3 + (nI 2))))).bind fun x_9 => (if inb (v3 + (nI 1)) Ln = true then (if inb (v3 + (nI 2)) Ln = true then ((sX9_find g2 (xs (Int32.toNatClampNeg (v3 + (nI 1)))) (xs (Int32.toNatClampNeg (v3 + (nI 2))))).bind fun x_10 => (if x_9 = x_10 then (sL xs Ln n g q g2 q2 (v3 + (nI 5))) else (none))) else none) else none)) else none) else none) else (if ((xs (Int32.toNatClampNeg v3)) &&& (nI 31)) = nI 6 then (if inb (v3 + (nI 1)) Ln = true then (if inb (v3 + (nI 2)) Ln = true then ((sX8_lark g (xs (Int32.toNatClampNeg (v3 + (nI 1)))) (xs (Int32.toNatClampNeg (v3 + (nI 2))))).bind fun x_11 => (if inb (v3 + (nI 1)) Ln = true then (if inb (v3 + (nI 2)) Ln = true then ((sX9_lark g2 (xs (Int32.toNatClampNeg (v3 + (nI 1)))) (xs (Int32.toNatClampNeg (v3 + (nI 2))))).bind fun x_12 => (if x_11 = x_12 then (sL xs Ln n g q g2 q2 (v3 + (nI 5))) else (none))) else none) else none)) else none) else none) else (if ((xs (Int32.toNatClampNeg v3)) &&& (nI 31)) = nI 7 then (if inb (v3 + (nI 1)) Ln = true then (if inb (v3 + (nI 2)) Ln = true then ((sX8_walk g (xs (Int32.toNatClampNeg (v3 + (nI 1)))) (xs (Int32.toNatClampNeg (v3 + (nI 2))))).bind fun x_13 => (if inb (v3 + (nI 1)) Ln = true then (if inb (v3 + (nI 2)) Ln = true then ((sX9_walk g2 (xs (Int32.toNatClampNeg (v3 + (nI 1)))) (xs (Int32.toNatClampNeg (v3 + (nI 2))))).bind fun x_14 => (if x_13.1 = x_14.1 then (sL xs Ln n x_13.2 q x_14.2 q2 (v3 + (nI 5))) else (none))) else none) else none)) else none) else none) else (if ((xs (Int32.toNatClampNeg v3)) &&& (nI 31)) = nI 8 then ((sX8_hour g).bind fun x_15 => ((sX9_hour g2).bind fun x_16 => (if x_15.1 = x_16.1 then (sL xs Ln n x_15.2 q x_16.2 q2 (v3 + (nI 5))) else (none)))) else (if ((xs (Int32.toNatClampNeg v3)) &&& (nI 31)) = nI 9 then (if inb (v3 + (nI 1)) Ln = true then (if inb (v3 + (nI 2)) Ln = true then ((sX8_dig g (xs (Int32.toNatClampNeg (v3 + (nI 1)))) (xs (Int32.toNatClampNeg (v3 + (nI 2))))).bind fun x_17 => (if inb (v3 + (nI 1)) Ln = true then (if inb (v3 + (nI 2)) Ln = true then ((sX9_dig g2 (xs (Int32.toNatClampNeg (v3 + (nI 1)))) (xs (Int32.toNatClampNeg (v3 + (nI 2))))).bind fun x_18 => (if x_17.1 = x_18.1 then (sL xs Ln n x_17.2 q x_18.2 q2 (v3 + (nI 5))) else (none))) else none) else none)) else none) else none) else (if ((xs (Int32.toNatClampNeg v3)) &&& (nI 31)) = nI 10 then (if inb (v3 + (nI 1)) Ln = true then ((sX8_put g (xs (Int32.toNatClampNeg (v3 + (nI 1))))).bind fun x_19 => (if inb (v3 + (nI 1)) Ln = true then ((sX9_put g2 (xs (Int32.toNatClampNeg (v3 + (nI 1))))).bind fun x_20 => (if x_19.1 = x_20.1 then (sL xs Ln n x_19.2 q x_20.2 q2 (v3 + (nI 5))) else (none))) else none)) else none) else (if ((xs (Int32.toNatClampNeg v3)) &&& (nI 31)) = nI 11 then (if inb (v3 + (nI 1)) Ln = true then ((sX8_sell g (xs (Int32.toNatClampNeg (v3 + (nI 1))))).bind fun x_21 => (if inb (v3 + (nI 1)) Ln = true then ((sX9_sell g2 (xs (Int32.toNatClampNeg (v3 + (nI 1))))).bind fun x_22 => (if x_21.1 = x_22.1 then (sL xs Ln n x_21.2 q x_22.2 q2 (v3 + (nI 5))) else (none))) else none)) else none) else (if ((xs (Int32.toNatClampNeg v3)) &&& (nI 31)) = nI 12 then ((sX8_undo g).bind fun x_23 => ((sX9_undo g2).bind fun x_24 => (if x_23.1 = x_24.1 then (sL xs Ln n x_23.2 q x_24.2 q2 (v3 + (nI 5))) else (none)))) else (if ((xs (Int32.toNatClampNeg v3)) &&& (nI 31)) = nI 13 then (if inb (v3 + (nI 1)) Ln = true then ((sX8_bared g (xs (Int32.toNatClampNeg (v3 + (nI 1))))).bind fun x_25 => (if inb (v3 + (nI 1)) Ln = true then ((sX9_bared g2 (xs (Int32.toNatClampNeg (v3 + (nI 1))))).bind fun x_26 => (if x_25 = x_26 then (sL xs Ln n g q g2 q2 (v3 + (nI 5))) else (none))) else none)) else none) else (if ((xs (Int32.toNatClampNeg v3)) &&& (nI 31)) = nI 14 then (if inb (v3 + (nI 1)) Ln = true then ((sX8_flooded g (xs (Int32.toNatClampNeg (v3 + (nI 1))))).bind fun x_27 => (if inb (v3 + (nI 1)) Ln = true then ((sX9_flooded g2 (xs (Int32.toNatClampNeg (v3 + (nI 1))))).bind fun x_28 => (if x_27 = x_28 then (sL xs Ln n g q g2 q2 (v3 + (nI 5))) else (none))) else none)) else none) else (if ((xs (Int32.toNatClampNeg v3)) &&& (nI 31)) = nI 15 then (if inb (v3 + (nI 1)) Ln = true then (if inb (v3 + (nI 2)) Ln = true then ((sX8_reach g (xs (Int32.toNatClampNeg (v3 + (nI 1)))) (xs (Int32.toNatClampNeg (v3 + (nI 2))))).bind fun x_29 => (if inb (v3 + (nI 1)) Ln = true then (if inb (v3 + (nI 2)) Ln = true then ((sX9_reach g2 (xs (Int32.toNatClampNeg (v3 + (nI 1)))) (xs (Int32.toNatClampNeg (v3 + (nI 2))))).bind fun x_30 => (if x_29 = x_30 then (sL xs Ln n g q g2 q2 (v3 + (nI 5))) else (none))) else none) else none)) else none) else none) else (if ((xs (Int32.toNatClampNeg v3)) &&& (nI 31)) = nI 16 then (if inb (v3 + (nI 1)) Ln = true then ((sX8_home g (xs (Int32.toNatClampNeg (v3 + (nI 1))))).bind fun x_31 => (if inb (v3 + (nI 1)) Ln = true then ((sX9_home g2 (xs (Int32.toNatClampNeg (v3 + (nI 1))))).bind fun x_32 => (if x_31 = x_32 then (sL xs Ln n g q g2 q2 (v3 + (nI 5))) else (none))) else none)) else none) else (if ((xs (Int32.toNatClampNeg v3)) &&& (nI 31)) = nI 17 then (if inb (v3 + (nI 1)) Ln = true then (if inb (v3 + (nI 2)) Ln = true then (if inb (v3 + (nI 3)) Ln = true then ((sX8_gets g (xs (Int32.toNatClampNeg (v3 + (nI 1)))) (xs (Int32.toNatClampNeg (v3 + (nI 2)))) (xs (Int32.toNatClampNeg (v3 + (nI 3))))).bind fun x_33 => (if inb (v3 + (nI 1)) Ln = true then (if inb (v3 + (nI 2)) Ln = true then (if inb (v3 + (nI 3)) Ln = true then ((sX9_gets g2 (xs (Int32.toNatClampNeg (v3 + (nI 1)))) (xs (Int32.toNatClampNeg (v3 + (nI 2)))) (xs (Int32.toNatClampNeg (v3 + (nI 3))))).bind fun x_34 => (if x_33.1 = x_34 then (sL xs Ln n x_33.2 q g2 q2 (v3 + (nI 5))) else (none))) else none) else none) else none)) else none) else none) else none) else (if ((xs (Int32.toNatClampNeg v3)) &&& (nI 31)) = nI 18 then (if inb (v3 + (nI 1)) Ln = true then (if inb (v3 + (nI 2)) Ln = true then (if inb (v3 + (nI 3)) Ln = true then ((sX8_judge g (xs (Int32.toNatClampNeg (v3 + (nI 1)))) (((Int32.toInt64 (xs (Int32.toNatClampNeg (v3 + (nI 2))))) <<< (Int32.toInt64 (nI 32) &&& 63)) ||| ((Int32.toInt64 (xs (Int32.toNatClampNeg (v3 + (nI 3))))) &&& ((4294967295 : Int64))))).bind fun x_35 => (if inb (v3 + (nI 1)) Ln = true then (if inb (v3 + (nI 2)) Ln = true then (if inb (v3 + (nI 3)) Ln = true then ((sX9_judge g2 (xs (Int32.toNatClampNeg (v3 + (nI 1)))) (((Int32.toInt64 (xs (Int32.toNatClampNeg (v3 + (nI 2))))) <<< (Int32.toInt64 (nI 32) &&& 63)) ||| ((Int32.toInt64 (xs (Int32.toNatClampNeg (v3 + (nI 3))))) &&& ((4294967295 : Int64))))).bind fun x_36 => (if x_35.1 = x_36.1 then (sL xs Ln n x_35.2 q x_36.2 q2 (v3 + (nI 5))) else (none))) else none) else none) else none)) else none) else none) else none) else (if ((xs (Int32.toNatClampNeg v3)) &&& (nI 31)) = nI 19 then (if inb (v3 + (nI 1)) Ln = true then (if inb (v3 + (nI 2)) Ln = true then (if inb (v3 + (nI 3)) Ln = true then ((sX8_see g (xs (Int32.toNatClampNeg (v3 + (nI 1)))) (xs (Int32.toNatClampNeg (v3 + (nI 2)))) (xs (Int32.toNatClampNeg (v3 + (nI 3))))).bind fun x_37 => (if inb (v3 + (nI 1)) Ln = true then (if inb (v3 + (nI 2)) Ln = true then (if inb (v3 + (nI 3)) Ln = true then ((sX9_see g2 (xs (Int32.toNatClampNeg (v3 + (nI 1)))) (xs (Int32.toNatClampNeg (v3 + (nI 2)))) (xs (Int32.toNatClampNeg (v3 + (nI 3))))).bind fun x_38 => (if x_37.1 = x_38.1 then (sL xs Ln n x_37.2 q x_38.2 q2 (v3 + (nI 5))) else (none))) else none) else none) else none)) else none) else none) else none) else (if ((xs (Int32.toNatClampNeg v3)) &&& (nI 31)) = nI 20 then (if ((sX8_unsee g).1) = ((sX9_unsee g2).1) then (sL xs Ln n ((sX8_unsee g).2) q ((sX9_unsee g2).2) q2 (v3 + (nI 5))) else (none)) else (if ((xs (Int32.toNatClampNeg v3)) &&& (nI 31)) = nI 21 then ((sX8_phases g).bind fun x_39 => ((sX9_phases g2).bind fun x_40 => (if x_39 = x_40 then (sL xs Ln n g q g2 q2 (v3 + (nI 5))) else (none)))) else (if ((xs (Int32.toNatClampNeg v3)) &&& (nI 31)) = nI 22 then (if inb (v3 + (nI 1)) Ln = true then (if inb (v3 + (nI 2)) Ln = true then (if (xs (Int32.toNatClampNeg (v3 + (nI 2)))) = 0 then ((sX8_share g (xs (Int32.toNatClampNeg (v3 + (nI 1)))) (nI 0)).bind fun x_41 => (if inb (v3 + (nI 1)) Ln = true then (if inb (v3 + (nI 2)) Ln = true then (if (xs (Int32.toNatClampNeg (v3 + (nI 2)))) = 0 then ((sX9_share g2 (xs (Int32.toNatClampNeg (v3 + (nI 1)))) (nI 0)).bind fun x_42 => (if x_41.1 = x_42.1 then (sL xs Ln n x_41.2 q x_42.2 q2 (v3 + (nI 5))) else (none))) else ((sX9_share g2 (xs (Int32.toNatClampNeg (v3 + (nI 1)))) (nI 1)).bind fun x_43 => (if x_41.1 = x_43.1 then (sL xs Ln n x_41.2 q x_43.2 q2 (v3 + (nI 5))) else (none)))) else none) else none)) else ((sX8_share g (xs (Int32.toNatClampNeg (v3 + (nI 1)))) (nI 1)).bind fun x_44 => (if inb (v3 + (nI 1)) Ln = true then (if inb (v3 + (nI 2)) Ln = true then (if (xs (Int32.toNatClampNeg (v3 + (nI 2)))) = 0 then ((sX9_share g2 (xs (Int32.toNatClampNeg (v3 + (nI 1)))) (nI 0)).bind fun x_45 => (if x_44.1 = x_45.1 then (sL xs Ln n x_44.2 q x_45.2 q2 (v3 + (nI 5))) else (none))) else ((sX9_share g2 (xs (Int32.toNatClampNeg (v3 + (nI 1)))) (nI 1)).bind fun x_46 => (if x_44.1 = x_46.1 then (sL xs Ln n x_44.2 q x_46.2 q2 (v3 + (nI 5))) else (none)))) else none) else none))) else none) else none) else (if ((xs (Int32.toNatClampNeg v3)) &&& (nI 31)) = nI 23 then (if inb (v3 + (nI 1)) Ln = true then (if inb (v3 + (nI 2)) Ln = true then (if inb (v3 + (nI 3)) Ln = true then ((sX8_rests g (xs (Int32.toNatClampNeg (v3 + (nI 1)))) (xs (Int32.toNatClampNeg (v3 + (nI 2)))) (xs (Int32.toNatClampNeg (v3 + (nI 3))))).bind fun x_47 => (if inb (v3 + (nI 1)) Ln = true then (if inb (v3 + (nI 2)) Ln = true then (if inb (v3 + (nI 3)) Ln = true then ((sX9_rests g2 (xs (Int32.toNatClampNeg (v3 + (nI 1)))) (xs (Int32.toNatClampNeg (v3 + (nI 2)))) (xs (Int32.toNatClampNeg (v3 + (nI 3))))).bind fun x_48 => (if x_47.1 = x_48.1 then (sL xs Ln n x_47.2 q x_48.2 q2 (v3 + (nI 5))) else (none))) else none) else none) else none)) else none) else none) else none) else (if ((xs (Int32.toNatClampNeg v3)) &&& (nI 31)) = nI 24 then (if inb (v3 + (nI 1)) Ln = true then (if inb (v3 + (nI 2)) Ln = true then (if inb (v3 + (nI 3)) Ln = true then (if inb (v3 + (nI 4)) Ln = true then (if (xs (Int32.toNatClampNeg (v3 + (nI 4)))) = 0 then ((sX8_storms g (xs (Int32.toNatClampNeg (v3 + (nI 1)))) (xs (Int32.toNatClampNeg (v3 + (nI 2)))) (xs (Int32.toNatClampNeg (v3 + (nI 3)))) (nI 0)).bind fun x_49 => (if inb (v3 + (nI 1)) Ln = true then (if inb (v3 + (nI 2)) Ln = true then (if inb (v3 + (nI 3)) Ln = true then (if inb (v3 + (nI 4)) Ln = true then (if (xs (Int32.toNatClampNeg (v3 + (nI 4)))) = 0 then ((sX9_storms g2 (xs (Int32.toNatClampNeg (v3 + (nI 1)))) (xs (Int32.toNatClampNeg (v3 + (nI 2)))) (xs (Int32.toNatClampNeg (v3 + (nI 3)))) (nI 0)).bind fun x_50 => (if x_49 = x_50 then (sL xs Ln n g q g2 q2 (v3 + (nI 5))) else (none))) else ((sX9_storms g2 (xs (Int32.toNatClampNeg (v3 + (nI 1)))) (xs (Int32.toNatClampNeg (v3 + (nI 2)))) (xs (Int32.toNatClampNeg (v3 + (nI 3)))) (nI 1)).bind fun x_51 => (if x_49 = x_51 then (sL xs Ln n g q g2 q2 (v3 + (nI 5))) else (none)))) else none) else none) else none) else none)) else ((sX8_storms g (xs (Int32.toNatClampNeg (v3 + (nI 1)))) (xs (Int32.toNatClampNeg (v3 + (nI 2)))) (xs (Int32.toNatClampNeg (v3 + (nI 3)))) (nI 1)).bind fun x_52 => (if inb (v3 + (nI 1)) Ln = true then (if inb (v3 + (nI 2)) Ln = true then (if inb (v3 + (nI 3)) Ln = true then (if inb (v3 + (nI 4)) Ln = true then (if (xs (Int32.toNatClampNeg (v3 + (nI 4)))) = 0 then ((sX9_storms g2 (xs (Int32.toNatClampNeg (v3 + (nI 1)))) (xs (Int32.toNatClampNeg (v3 + (nI 2)))) (xs (Int32.toNatClampNeg (v3 + (nI 3)))) (nI 0)).bind fun x_53 => (if x_52 = x_53 then (sL xs Ln n g q g2 q2 (v3 + (nI 5))) else (none))) else ((sX9_storms g2 (xs (Int32.toNatClampNeg (v3 + (nI 1)))) (xs (Int32.toNatClampNeg (v3 + (nI 2)))) (xs (Int32.toNatClampNeg (v3 + (nI 3)))) (nI 1)).bind fun x_54 => (if x_52 = x_54 then (sL xs Ln n g q g2 q2 (v3 + (nI 5))) else (none)))) else none) else none) else none) else none))) else none) else none) else none) else none) else (if ((xs (Int32.toNatClampNeg v3)) &&& (nI 31)) = nI 25 then (if inb (v3 + (nI 1)) Ln = true then (if inb (v3 + (nI 2)) Ln = true then (if inb (v3 + (nI 1)) Ln = true then (if inb (v3 + (nI 2)) Ln = true then (if (lg_cmp ((sX8_seed g q (((Int32.toInt64 (xs (Int32.toNatClampNeg (v3 + (nI 1))))) <<< (Int32.toInt64 (nI 32) &&& 63)) ||| ((Int32.toInt64 (xs (Int32.toNatClampNeg (v3 + (nI 2))))) &&& ((4294967295 : Int64))))).1) ((sX9_seed g2 q2 (((Int32.toInt64 (xs (Int32.toNatClampNeg (v3 + (nI 1))))) <<< (Int32.toInt64 (nI 32) &&& 63)) ||| ((Int32.toInt64 (xs (Int32.toNatClampNeg (v3 + (nI 2))))) &&& ((4294967295 : Int64))))).1)) = 0 then (sL xs Ln n ((sX8_seed g q (((Int32.toInt64 (xs (Int32.toNatClampNeg (v3 + (nI 1))))) <<< (Int32.toInt64 (nI 32) &&& 63)) ||| ((Int32.toInt64 (xs (Int32.toNatClampNeg (v3 + (nI 2))))) &&& ((4294967295 : Int64))))).2.1) ((sX8_seed g q (((Int32.toInt64 (xs (Int32.toNatClampNeg (v3 + (nI 1))))) <<< (Int32.toInt64 (nI 32) &&& 63)) ||| ((Int32.toInt64 (xs (Int32.toNatClampNeg (v3 + (nI 2))))) &&& ((4294967295 : Int64))))).2.2) ((sX9_seed g2 q2 (((Int32.toInt64 (xs (Int32.toNatClampNeg (v3 + (nI 1))))) <<< (Int32.toInt64 (nI 32) &&& 63)) ||| ((Int32.toInt64 (xs (Int32.toNatClampNeg (v3 + (nI 2))))) &&& ((4294967295 : Int64))))).2.1) ((sX9_seed g2 q2 (((Int32.toInt64 (xs (Int32.toNatClampNeg (v3 + (nI 1))))) <<< (Int32.toInt64 (nI 32) &&& 63)) ||| ((Int32.toInt64 (xs (Int32.toNatClampNeg (v3 + (nI 2))))) &&& ((4294967295 : Int64))))).2.2) (v3 + (nI 5))) else (none)) else none) else none) else none) else none) else (if ((xs (Int32.toNatClampNeg v3)) &&& (nI 31)) = nI 26 then (if inb (v3 + (nI 1)) Ln = true then ((sX8_springs g q (xs (Int32.toNatClampNeg (v3 + (nI 1))))).bind fun x_55 => (if inb (v3 + (nI 1)) Ln = true then ((sX9_springs g2 q2 (xs (Int32.toNatClampNeg (v3 + (nI 1))))).bind fun x_56 => (if x_55.1 = x_56.1 then (sL xs Ln n x_55.2.1 x_55.2.2 x_56.2.1 x_56.2.2 (v3 + (nI 5))) else (none))) else none)) else none) else (if ((xs (Int32.toNatClampNeg v3)) &&& (nI 31)) = nI 27 then (if inb (v3 + (nI 1)) Ln = true then ((sX8_keep g (xs (Int32.toNatClampNeg (v3 + (nI 1))))).bind fun x_57 => (if inb (v3 + (nI 1)) Ln = true then ((sX9_keep g2 (xs (Int32.toNatClampNeg (v3 + (nI 1))))).bind fun x_58 => (if x_57.1 = x_58.1 then (sL xs Ln n x_57.2 q x_58.2 q2 (v3 + (nI 5))) else (none))) else none)) else none) else (if ((xs (Int32.toNatClampNeg v3)) &&& (nI 31)) = nI 28 then (if inb (v3 + (nI 1)) Ln = true then ((sX8_again g (xs (Int32.toNatClampNeg (v3 + (nI 1))))).bind fun x_59 => (if inb (v3 + (nI 1)) Ln = true then ((sX9_again g2 (xs (Int32.toNatClampNeg (v3 + (nI 1))))).bind fun x_60 => (if x_59.1 = x_60.1 then (sL xs Ln n x_59.2 q x_60.2 q2 (v3 + (nI 5))) else (none))) else none)) else none) else (if ((xs (Int32.toNatClampNeg v3)) &&& (nI 31)) = nI 29 then (if inb (v3 + (nI 1)) Ln = true then ((sX8_count g (xs (Int32.toNatClampNeg (v3 + (nI 1))))).bind fun x_61 => (if inb (v3 + (nI 1)) Ln = true then ((sX9_count g2 (xs (Int32.toNatClampNeg (v3 + (nI 1))))).bind fun x_62 => (if x_61 = x_62 then (sL xs Ln n g q g2 q2 (v3 + (nI 5))) else (none))) else none)) else none) else (sL xs Ln n g q g2 q2 (v3 + (nI 5))))))))))))))))))))))))))))))))) else none)
set_option maxRecDepth 100000 in
set_option maxHeartbeats 4000000 in
theorem kL (xs : Nat → Int32) (Ln : Nat) : ∀ (n : Nat) (g : Hg) (q : Int64) (g2 : Hg) (q2 : Int64) (v3 : Int32), sL xs Ln n g q g2 q2 v3 = some () → Ev (XL xs Ln) MLaw 18 [some (.ref 48), some (.ref 0), some (.ref 29), some (.int v3)] [] (g, q, g2, q2) := by
  intro n
  induction n with
  | zero => intro _ _ _ _ _ hr; cases hr
  | succ n ih =>
    intro g q g2 q2 v3 hr
    rw [sL] at hr
    refine Ev.iload_n (pc := 18) dL_law_18 rfl ?_
    refine Ev.aload_n (pc := 19) dL_law_19 rfl ?_
    refine Ev.slen (pc := 20) dL_law_20 ?_
    refine Ev.iconst (pc := 21) (v := nI 5) dL_law_21 (by decide) ?_
    refine Ev.isub (pc := 22) dL_law_22 ?_
    refine Ev.icmpgt (pc := 23) (tgt := 1057) dL_law_23 (by decide) (fun c_1 => ?_) (fun c_1 => ?_)
    · have hr := ifp hr c_1
      refine Ev.iconst (pc := 1057) (v := nI 1) dL_law_1057 (by decide) ?_
      exact Ev.lawret dL_law_1058
    · have hr := ifn hr c_1
      refine Ev.aload_n (pc := 26) dL_law_26 rfl ?_
      refine Ev.iload_n (pc := 27) dL_law_27 rfl ?_
      obtain ⟨c_2, hr⟩ := ckB hr
      refine Ev.sld (pc := 28) (inb_in c_2) dL_law_28 ?_
      refine Ev.bipush (pc := 29) (v := nI 31) dL_law_29 (by decide) ?_
      refine Ev.iand (pc := 31) dL_law_31 ?_
      by_cases c_3 : ((xs (Int32.toNatClampNeg v3)) &&& (nI 31)) = nI 0
      · have hr := ifp hr c_3
        refine Ev.tableK (pc := 32) (tgt := 168) 0 c_3 (by decide) dL_law_32 (by decide) rfl (by decide) ?_
        refine Ev.aload_n (pc := 168) dL_law_168 rfl ?_
        refine Ev.aload_n (pc := 169) dL_law_169 rfl ?_
        refine Ev.iload_n (pc := 170) dL_law_170 rfl ?_
        refine Ev.iconst (pc := 171) (v := nI 1) dL_law_171 (by decide) ?_
        refine Ev.iadd (pc := 172) dL_law_172 ?_
        obtain ⟨c_4, hr⟩ := ckB hr
        refine Ev.sld (pc := 173) (inb_in c_4) dL_law_173 ?_
        obtain ⟨x_1, hx_1, hr⟩ := Option.bind_eq_some_iff.mp hr
        refine Ev.cVi (pc := 174) (As := [.int _]) (kX8_write _ _ _ _ _ hx_1) rfl rfl (ob_0 _) gL_law_X8_write hdX8_write rfl ⟨rfl, rfl⟩ ⟨Nat.le_of_ble_eq_true rfl, Nat.le_of_ble_eq_true rfl⟩ (Nat.le_of_ble_eq_true rfl) ⟨Nat.le_of_ble_eq_true rfl, Nat.le_of_ble_eq_true rfl⟩ dL_law_174 ?_
        refine Ev.aload_n (pc := 177) dL_law_177 rfl ?_
        refine Ev.aload_n (pc := 178) dL_law_178 rfl ?_
        refine Ev.iload_n (pc := 179) dL_law_179 rfl ?_
        refine Ev.iconst (pc := 180) (v := nI 1) dL_law_180 (by decide) ?_
        refine Ev.iadd (pc := 181) dL_law_181 ?_
        obtain ⟨c_5, hr⟩ := ckB hr
        refine Ev.sld (pc := 182) (inb_in c_5) dL_law_182 ?_
        obtain ⟨x_2, hx_2, hr⟩ := Option.bind_eq_some_iff.mp hr
        refine Ev.cVi (pc := 183) (As := [.int _]) (kX9_write _ _ _ _ _ hx_2) rfl rfl (ob_29 _) gL_law_X9_write hdX9_write rfl ⟨rfl, rfl⟩ ⟨Nat.le_of_ble_eq_true rfl, Nat.le_of_ble_eq_true rfl⟩ (Nat.le_of_ble_eq_true rfl) ⟨Nat.le_of_ble_eq_true rfl, Nat.le_of_ble_eq_true rfl⟩ dL_law_183 ?_
        refine Ev.icmpeq (pc := 186) (tgt := 1051) dL_law_186 (by decide) (fun c_6 => ?_) (fun c_6 => ?_)
        · have hr := ifp hr c_6
          refine Ev.iinc (pc := 1051) (v := nI 5) dL_law_1051 rfl rfl rfl rfl ?_
          refine Ev.goto (pc := 1054) (tgt := 18) dL_law_1054 (by decide) ?_
          exact ih _ _ _ _ _ hr
        · have hr := ifn hr c_6
          refine Ev.iconst (pc := 189) (v := nI 0) dL_law_189 (by decide) ?_
          cases hr
      have hr := ifn hr c_3
      by_cases c_7 : ((xs (Int32.toNatClampNeg v3)) &&& (nI 31)) = nI 1
      · have hr := ifp hr c_7
        refine Ev.tableK (pc := 32) (tgt := 191) 1 c_7 (by decide) dL_law_32 (by decide) rfl (by decide) ?_
        refine Ev.aload_n (pc := 191) dL_law_191 rfl ?_
        refine Ev.cVi (pc := 192) (As := []) (kX8_wipe _ _ _ _ ) rfl rfl (ob_0 _) gL_law_X8_wipe hdX8_wipe rfl ⟨rfl, rfl⟩ ⟨Nat.le_of_ble_eq_true rfl, Nat.le_of_ble_eq_true rfl⟩ (Nat.le_of_ble_eq_true rfl) ⟨Nat.le_of_ble_eq_true rfl, Nat.le_of_ble_eq_true rfl⟩ dL_law_192 ?_
        refine Ev.aload_n (pc := 195) dL_law_195 rfl ?_
        refine Ev.cVi (pc := 196) (As := []) (kX9_wipe _ _ _ _ ) rfl rfl (ob_29 _) gL_law_X9_wipe hdX9_wipe rfl ⟨rfl, rfl⟩ ⟨Nat.le_of_ble_eq_true rfl, Nat.le_of_ble_eq_true rfl⟩ (Nat.le_of_ble_eq_true rfl) ⟨Nat.le_of_ble_eq_true rfl, Nat.le_of_ble_eq_true rfl⟩ dL_law_196 ?_
        refine Ev.icmpeq (pc := 199) (tgt := 1051) dL_law_199 (by decide) (fun c_8 => ?_) (fun c_8 => ?_)
        · have hr := ifp hr c_8
          refine Ev.iinc (pc := 1051) (v := nI 5) dL_law_1051 rfl rfl rfl rfl ?_
          refine Ev.goto (pc := 1054) (tgt := 18) dL_law_1054 (by decide) ?_
          exact ih _ _ _ _ _ hr
        · have hr := ifn hr c_8
          refine Ev.iconst (pc := 202) (v := nI 0) dL_law_202 (by decide) ?_
          cases hr
      have hr := ifn hr c_7
      by_cases c_9 : ((xs (Int32.toNatClampNeg v3)) &&& (nI 31)) = nI 2
      · have hr := ifp hr c_9
        refine Ev.tableK (pc := 32) (tgt := 204) 2 c_9 (by decide) dL_law_32 (by decide) rfl (by decide) ?_
        refine Ev.aload_n (pc := 204) dL_law_204 rfl ?_
        obtain ⟨x_3, hx_3, hr⟩ := Option.bind_eq_some_iff.mp hr
        refine Ev.cVi (pc := 205) (As := []) (kX8_fault _ _ _ _  hx_3) rfl rfl (ob_0 _) gL_law_X8_fault hdX8_fault rfl ⟨rfl, rfl⟩ ⟨Nat.le_of_ble_eq_true rfl, Nat.le_of_ble_eq_true rfl⟩ (Nat.le_of_ble_eq_true rfl) ⟨Nat.le_of_ble_eq_true rfl, Nat.le_of_ble_eq_true rfl⟩ dL_law_205 ?_
        refine Ev.aload_n (pc := 208) dL_law_208 rfl ?_
        obtain ⟨x_4, hx_4, hr⟩ := Option.bind_eq_some_iff.mp hr
        refine Ev.cVi (pc := 209) (As := []) (kX9_fault _ _ _ _  hx_4) rfl rfl (ob_29 _) gL_law_X9_fault hdX9_fault rfl ⟨rfl, rfl⟩ ⟨Nat.le_of_ble_eq_true rfl, Nat.le_of_ble_eq_true rfl⟩ (Nat.le_of_ble_eq_true rfl) ⟨Nat.le_of_ble_eq_true rfl, Nat.le_of_ble_eq_true rfl⟩ dL_law_209 ?_
        refine Ev.icmpeq (pc := 212) (tgt := 1051) dL_law_212 (by decide) (fun c_10 => ?_) (fun c_10 => ?_)
        · have hr := ifp hr c_10
          refine Ev.iinc (pc := 1051) (v := nI 5) dL_law_1051 rfl rfl rfl rfl ?_
          refine Ev.goto (pc := 1054) (tgt := 18) dL_law_1054 (by decide) ?_
          exact ih _ _ _ _ _ hr
        · have hr := ifn hr c_10
          refine Ev.iconst (pc := 215) (v := nI 0) dL_law_215 (by decide) ?_
          cases hr
      have hr := ifn hr c_9
      by_cases c_11 : ((xs (Int32.toNatClampNeg v3)) &&& (nI 31)) = nI 3
      · have hr := ifp hr c_11
        refine Ev.tableK (pc := 32) (tgt := 217) 3 c_11 (by decide) dL_law_32 (by decide) rfl (by decide) ?_
        refine Ev.aload_n (pc := 217) dL_law_217 rfl ?_
        obtain ⟨x_5, hx_5, hr⟩ := Option.bind_eq_some_iff.mp hr
        refine Ev.cVi (pc := 218) (As := []) (kX8_flat _ _ _ _  hx_5) rfl rfl (ob_0 _) gL_law_X8_flat hdX8_flat rfl ⟨rfl, rfl⟩ ⟨Nat.le_of_ble_eq_true rfl, Nat.le_of_ble_eq_true rfl⟩ (Nat.le_of_ble_eq_true rfl) ⟨Nat.le_of_ble_eq_true rfl, Nat.le_of_ble_eq_true rfl⟩ dL_law_218 ?_
        refine Ev.aload_n (pc := 221) dL_law_221 rfl ?_
        obtain ⟨x_6, hx_6, hr⟩ := Option.bind_eq_some_iff.mp hr
        refine Ev.cVi (pc := 222) (As := []) (kX9_flat _ _ _ _  hx_6) rfl rfl (ob_29 _) gL_law_X9_flat hdX9_flat rfl ⟨rfl, rfl⟩ ⟨Nat.le_of_ble_eq_true rfl, Nat.le_of_ble_eq_true rfl⟩ (Nat.le_of_ble_eq_true rfl) ⟨Nat.le_of_ble_eq_true rfl, Nat.le_of_ble_eq_true rfl⟩ dL_law_222 ?_
        refine Ev.icmpeq (pc := 225) (tgt := 1051) dL_law_225 (by decide) (fun c_12 => ?_) (fun c_12 => ?_)
        · have hr := ifp hr c_12
          refine Ev.iinc (pc := 1051) (v := nI 5) dL_law_1051 rfl rfl rfl rfl ?_
          refine Ev.goto (pc := 1054) (tgt := 18) dL_law_1054 (by decide) ?_
          exact ih _ _ _ _ _ hr
        · have hr := ifn hr c_12
          refine Ev.iconst (pc := 228) (v := nI 0) dL_law_228 (by decide) ?_
          cases hr
      have hr := ifn hr c_11
      by_cases c_13 : ((xs (Int32.toNatClampNeg v3)) &&& (nI 31)) = nI 4
      · have hr := ifp hr c_13
        refine Ev.tableK (pc := 32) (tgt := 230) 4 c_13 (by decide) dL_law_32 (by decide) rfl (by decide) ?_
        refine Ev.aload_n (pc := 230) dL_law_230 rfl ?_
        refine Ev.aload_n (pc := 231) dL_law_231 rfl ?_
        refine Ev.iload_n (pc := 232) dL_law_232 rfl ?_
        refine Ev.iconst (pc := 233) (v := nI 1) dL_law_233 (by decide) ?_
        refine Ev.iadd (pc := 234) dL_law_234 ?_
        obtain ⟨c_14, hr⟩ := ckB hr
        refine Ev.sld (pc := 235) (inb_in c_14) dL_law_235 ?_
        refine Ev.aload_n (pc := 236) dL_law_236 rfl ?_
        refine Ev.iload_n (pc := 237) dL_law_237 rfl ?_
        refine Ev.iconst (pc := 238) (v := nI 2) dL_law_238 (by decide) ?_
        refine Ev.iadd (pc := 239) dL_law_239 ?_
        obtain ⟨c_15, hr⟩ := ckB hr
        refine Ev.sld (pc := 240) (inb_in c_15) dL_law_240 ?_
        obtain ⟨x_7, hx_7, hr⟩ := Option.bind_eq_some_iff.mp hr
        refine Ev.cVi (pc := 241) (As := [.int _, .int _]) (kX8_cell _ _ _ _ _ _ hx_7) rfl rfl (ob_0 _) gL_law_X8_cell hdX8_cell rfl ⟨rfl, rfl⟩ ⟨Nat.le_of_ble_eq_true rfl, Nat.le_of_ble_eq_true rfl⟩ (Nat.le_of_ble_eq_true rfl) ⟨Nat.le_of_ble_eq_true rfl, Nat.le_of_ble_eq_true rfl⟩ dL_law_241 ?_
        refine Ev.aload_n (pc := 244) dL_law_244 rfl ?_
        refine Ev.aload_n (pc := 245) dL_law_245 rfl ?_
        refine Ev.iload_n (pc := 246) dL_law_246 rfl ?_
        refine Ev.iconst (pc := 247) (v := nI 1) dL_law_247 (by decide) ?_
        refine Ev.iadd (pc := 248) dL_law_248 ?_
        obtain ⟨c_16, hr⟩ := ckB hr
        refine Ev.sld (pc := 249) (inb_in c_16) dL_law_249 ?_
        refine Ev.aload_n (pc := 250) dL_law_250 rfl ?_
        refine Ev.iload_n (pc := 251) dL_law_251 rfl ?_
        refine Ev.iconst (pc := 252) (v := nI 2) dL_law_252 (by decide) ?_
        refine Ev.iadd (pc := 253) dL_law_253 ?_
        obtain ⟨c_17, hr⟩ := ckB hr
        refine Ev.sld (pc := 254) (inb_in c_17) dL_law_254 ?_
        obtain ⟨x_8, hx_8, hr⟩ := Option.bind_eq_some_iff.mp hr
        refine Ev.cVi (pc := 255) (As := [.int _, .int _]) (kX9_cell _ _ _ _ _ _ hx_8) rfl rfl (ob_29 _) gL_law_X9_cell hdX9_cell rfl ⟨rfl, rfl⟩ ⟨Nat.le_of_ble_eq_true rfl, Nat.le_of_ble_eq_true rfl⟩ (Nat.le_of_ble_eq_true rfl) ⟨Nat.le_of_ble_eq_true rfl, Nat.le_of_ble_eq_true rfl⟩ dL_law_255 ?_
        refine Ev.icmpeq (pc := 258) (tgt := 1051) dL_law_258 (by decide) (fun c_18 => ?_) (fun c_18 => ?_)
        · have hr := ifp hr c_18
          refine Ev.iinc (pc := 1051) (v := nI 5) dL_law_1051 rfl rfl rfl rfl ?_
          refine Ev.goto (pc := 1054) (tgt := 18) dL_law_1054 (by decide) ?_
          exact ih _ _ _ _ _ hr
        · have hr := ifn hr c_18
          refine Ev.iconst (pc := 261) (v := nI 0) dL_law_261 (by decide) ?_
          cases hr
      have hr := ifn hr c_13
      by_cases c_19 : ((xs (Int32.toNatClampNeg v3)) &&& (nI 31)) = nI 5
      · have hr := ifp hr c_19
        refine Ev.tableK (pc := 32) (tgt := 263) 5 c_19 (by decide) dL_law_32 (by decide) rfl (by decide) ?_
        refine Ev.aload_n (pc := 263) dL_law_263 rfl ?_
        refine Ev.aload_n (pc := 264) dL_law_264 rfl ?_
        refine Ev.iload_n (pc := 265) dL_law_265 rfl ?_
        refine Ev.iconst (pc := 266) (v := nI 1) dL_law_266 (by decide) ?_
        refine Ev.iadd (pc := 267) dL_law_267 ?_
        obtain ⟨c_20, hr⟩ := ckB hr
        refine Ev.sld (pc := 268) (inb_in c_20) dL_law_268 ?_
        refine Ev.aload_n (pc := 269) dL_law_269 rfl ?_
        refine Ev.iload_n (pc := 270) dL_law_270 rfl ?_
        refine Ev.iconst (pc := 271) (v := nI 2) dL_law_271 (by decide) ?_
        refine Ev.iadd (pc := 272) dL_law_272 ?_
        obtain ⟨c_21, hr⟩ := ckB hr
        refine Ev.sld (pc := 273) (inb_in c_21) dL_law_273 ?_
        obtain ⟨x_9, hx_9, hr⟩ := Option.bind_eq_some_iff.mp hr
        refine Ev.cVi (pc := 274) (As := [.int _, .int _]) (kX8_find _ _ _ _ _ _ hx_9) rfl rfl (ob_0 _) gL_law_X8_find hdX8_find rfl ⟨rfl, rfl⟩ ⟨Nat.le_of_ble_eq_true rfl, Nat.le_of_ble_eq_true rfl⟩ (Nat.le_of_ble_eq_true rfl) ⟨Nat.le_of_ble_eq_true rfl, Nat.le_of_ble_eq_true rfl⟩ dL_law_274 ?_
        refine Ev.aload_n (pc := 277) dL_law_277 rfl ?_
        refine Ev.aload_n (pc := 278) dL_law_278 rfl ?_
        refine Ev.iload_n (pc := 279) dL_law_279 rfl ?_
        refine Ev.iconst (pc := 280) (v := nI 1) dL_law_280 (by decide) ?_
        refine Ev.iadd (pc := 281) dL_law_281 ?_
        obtain ⟨c_22, hr⟩ := ckB hr
        refine Ev.sld (pc := 282) (inb_in c_22) dL_law_282 ?_
        refine Ev.aload_n (pc := 283) dL_law_283 rfl ?_
        refine Ev.iload_n (pc := 284) dL_law_284 rfl ?_
        refine Ev.iconst (pc := 285) (v := nI 2) dL_law_285 (by decide) ?_
        refine Ev.iadd (pc := 286) dL_law_286 ?_
        obtain ⟨c_23, hr⟩ := ckB hr
        refine Ev.sld (pc := 287) (inb_in c_23) dL_law_287 ?_
        obtain ⟨x_10, hx_10, hr⟩ := Option.bind_eq_some_iff.mp hr
        refine Ev.cVi (pc := 288) (As := [.int _, .int _]) (kX9_find _ _ _ _ _ _ hx_10) rfl rfl (ob_29 _) gL_law_X9_find hdX9_find rfl ⟨rfl, rfl⟩ ⟨Nat.le_of_ble_eq_true rfl, Nat.le_of_ble_eq_true rfl⟩ (Nat.le_of_ble_eq_true rfl) ⟨Nat.le_of_ble_eq_true rfl, Nat.le_of_ble_eq_true rfl⟩ dL_law_288 ?_
        refine Ev.icmpeq (pc := 291) (tgt := 1051) dL_law_291 (by decide) (fun c_24 => ?_) (fun c_24 => ?_)
        · have hr := ifp hr c_24
          refine Ev.iinc (pc := 1051) (v := nI 5) dL_law_1051 rfl rfl rfl rfl ?_
          refine Ev.goto (pc := 1054) (tgt := 18) dL_law_1054 (by decide) ?_
          exact ih _ _ _ _ _ hr
        · have hr := ifn hr c_24
          refine Ev.iconst (pc := 294) (v := nI 0) dL_law_294 (by decide) ?_
          cases hr
      have hr := ifn hr c_19
      by_cases c_25 : ((xs (Int32.toNatClampNeg v3)) &&& (nI 31)) = nI 6
      · have hr := ifp hr c_25
        refine Ev.tableK (pc := 32) (tgt := 296) 6 c_25 (by decide) dL_law_32 (by decide) rfl (by decide) ?_
        refine Ev.aload_n (pc := 296) dL_law_296 rfl ?_
        refine Ev.aload_n (pc := 297) dL_law_297 rfl ?_
        refine Ev.iload_n (pc := 298) dL_law_298 rfl ?_
        refine Ev.iconst (pc := 299) (v := nI 1) dL_law_299 (by decide) ?_
        refine Ev.iadd (pc := 300) dL_law_300 ?_
        obtain ⟨c_26, hr⟩ := ckB hr
        refine Ev.sld (pc := 301) (inb_in c_26) dL_law_301 ?_
        refine Ev.aload_n (pc := 302) dL_law_302 rfl ?_
        refine Ev.iload_n (pc := 303) dL_law_303 rfl ?_
        refine Ev.iconst (pc := 304) (v := nI 2) dL_law_304 (by decide) ?_
        refine Ev.iadd (pc := 305) dL_law_305 ?_
        obtain ⟨c_27, hr⟩ := ckB hr
        refine Ev.sld (pc := 306) (inb_in c_27) dL_law_306 ?_
        obtain ⟨x_11, hx_11, hr⟩ := Option.bind_eq_some_iff.mp hr
        refine Ev.cVi (pc := 307) (As := [.int _, .int _]) (kX8_lark _ _ _ _ _ _ hx_11) rfl rfl (ob_0 _) gL_law_X8_lark hdX8_lark rfl ⟨rfl, rfl⟩ ⟨Nat.le_of_ble_eq_true rfl, Nat.le_of_ble_eq_true rfl⟩ (Nat.le_of_ble_eq_true rfl) ⟨Nat.le_of_ble_eq_true rfl, Nat.le_of_ble_eq_true rfl⟩ dL_law_307 ?_
        refine Ev.aload_n (pc := 310) dL_law_310 rfl ?_
        refine Ev.aload_n (pc := 311) dL_law_311 rfl ?_
        refine Ev.iload_n (pc := 312) dL_law_312 rfl ?_
        refine Ev.iconst (pc := 313) (v := nI 1) dL_law_313 (by decide) ?_
        refine Ev.iadd (pc := 314) dL_law_314 ?_
        obtain ⟨c_28, hr⟩ := ckB hr
        refine Ev.sld (pc := 315) (inb_in c_28) dL_law_315 ?_
        refine Ev.aload_n (pc := 316) dL_law_316 rfl ?_
        refine Ev.iload_n (pc := 317) dL_law_317 rfl ?_
        refine Ev.iconst (pc := 318) (v := nI 2) dL_law_318 (by decide) ?_
        refine Ev.iadd (pc := 319) dL_law_319 ?_
        obtain ⟨c_29, hr⟩ := ckB hr
        refine Ev.sld (pc := 320) (inb_in c_29) dL_law_320 ?_
        obtain ⟨x_12, hx_12, hr⟩ := Option.bind_eq_some_iff.mp hr
        refine Ev.cVi (pc := 321) (As := [.int _, .int _]) (kX9_lark _ _ _ _ _ _ hx_12) rfl rfl (ob_29 _) gL_law_X9_lark hdX9_lark rfl ⟨rfl, rfl⟩ ⟨Nat.le_of_ble_eq_true rfl, Nat.le_of_ble_eq_true rfl⟩ (Nat.le_of_ble_eq_true rfl) ⟨Nat.le_of_ble_eq_true rfl, Nat.le_of_ble_eq_true rfl⟩ dL_law_321 ?_
        refine Ev.icmpeq (pc := 324) (tgt := 1051) dL_law_324 (by decide) (fun c_30 => ?_) (fun c_30 => ?_)
        · have hr := ifp hr c_30
          refine Ev.iinc (pc := 1051) (v := nI 5) dL_law_1051 rfl rfl rfl rfl ?_
          refine Ev.goto (pc := 1054) (tgt := 18) dL_law_1054 (by decide) ?_
          exact ih _ _ _ _ _ hr
        · have hr := ifn hr c_30
          refine Ev.iconst (pc := 327) (v := nI 0) dL_law_327 (by decide) ?_
          cases hr
      have hr := ifn hr c_25
      by_cases c_31 : ((xs (Int32.toNatClampNeg v3)) &&& (nI 31)) = nI 7
      · have hr := ifp hr c_31
        refine Ev.tableK (pc := 32) (tgt := 329) 7 c_31 (by decide) dL_law_32 (by decide) rfl (by decide) ?_
        refine Ev.aload_n (pc := 329) dL_law_329 rfl ?_
        refine Ev.aload_n (pc := 330) dL_law_330 rfl ?_
        refine Ev.iload_n (pc := 331) dL_law_331 rfl ?_
        refine Ev.iconst (pc := 332) (v := nI 1) dL_law_332 (by decide) ?_
        refine Ev.iadd (pc := 333) dL_law_333 ?_
        obtain ⟨c_32, hr⟩ := ckB hr
        refine Ev.sld (pc := 334) (inb_in c_32) dL_law_334 ?_
        refine Ev.aload_n (pc := 335) dL_law_335 rfl ?_
        refine Ev.iload_n (pc := 336) dL_law_336 rfl ?_
        refine Ev.iconst (pc := 337) (v := nI 2) dL_law_337 (by decide) ?_
        refine Ev.iadd (pc := 338) dL_law_338 ?_
        obtain ⟨c_33, hr⟩ := ckB hr
        refine Ev.sld (pc := 339) (inb_in c_33) dL_law_339 ?_
        obtain ⟨x_13, hx_13, hr⟩ := Option.bind_eq_some_iff.mp hr
        refine Ev.cVi (pc := 340) (As := [.int _, .int _]) (kX8_walk _ _ _ _ _ _ hx_13) rfl rfl (ob_0 _) gL_law_X8_walk hdX8_walk rfl ⟨rfl, rfl⟩ ⟨Nat.le_of_ble_eq_true rfl, Nat.le_of_ble_eq_true rfl⟩ (Nat.le_of_ble_eq_true rfl) ⟨Nat.le_of_ble_eq_true rfl, Nat.le_of_ble_eq_true rfl⟩ dL_law_340 ?_
        refine Ev.aload_n (pc := 343) dL_law_343 rfl ?_
        refine Ev.aload_n (pc := 344) dL_law_344 rfl ?_
        refine Ev.iload_n (pc := 345) dL_law_345 rfl ?_
        refine Ev.iconst (pc := 346) (v := nI 1) dL_law_346 (by decide) ?_
        refine Ev.iadd (pc := 347) dL_law_347 ?_
        obtain ⟨c_34, hr⟩ := ckB hr
        refine Ev.sld (pc := 348) (inb_in c_34) dL_law_348 ?_
        refine Ev.aload_n (pc := 349) dL_law_349 rfl ?_
        refine Ev.iload_n (pc := 350) dL_law_350 rfl ?_
        refine Ev.iconst (pc := 351) (v := nI 2) dL_law_351 (by decide) ?_
        refine Ev.iadd (pc := 352) dL_law_352 ?_
        obtain ⟨c_35, hr⟩ := ckB hr
        refine Ev.sld (pc := 353) (inb_in c_35) dL_law_353 ?_
        obtain ⟨x_14, hx_14, hr⟩ := Option.bind_eq_some_iff.mp hr
        refine Ev.cVi (pc := 354) (As := [.int _, .int _]) (kX9_walk _ _ _ _ _ _ hx_14) rfl rfl (ob_29 _) gL_law_X9_walk hdX9_walk rfl ⟨rfl, rfl⟩ ⟨Nat.le_of_ble_eq_true rfl, Nat.le_of_ble_eq_true rfl⟩ (Nat.le_of_ble_eq_true rfl) ⟨Nat.le_of_ble_eq_true rfl, Nat.le_of_ble_eq_true rfl⟩ dL_law_354 ?_
        refine Ev.icmpeq (pc := 357) (tgt := 1051) dL_law_357 (by decide) (fun c_36 => ?_) (fun c_36 => ?_)
        · have hr := ifp hr c_36
          refine Ev.iinc (pc := 1051) (v := nI 5) dL_law_1051 rfl rfl rfl rfl ?_
          refine Ev.goto (pc := 1054) (tgt := 18) dL_law_1054 (by decide) ?_
          exact ih _ _ _ _ _ hr
        · have hr := ifn hr c_36
          refine Ev.iconst (pc := 360) (v := nI 0) dL_law_360 (by decide) ?_
          cases hr
      have hr := ifn hr c_31
      by_cases c_37 : ((xs (Int32.toNatClampNeg v3)) &&& (nI 31)) = nI 8
      · have hr := ifp hr c_37
        refine Ev.tableK (pc := 32) (tgt := 362) 8 c_37 (by decide) dL_law_32 (by decide) rfl (by decide) ?_
        refine Ev.aload_n (pc := 362) dL_law_362 rfl ?_
        obtain ⟨x_15, hx_15, hr⟩ := Option.bind_eq_some_iff.mp hr
        refine Ev.cVi (pc := 363) (As := []) (kX8_hour _ _ _ _  hx_15) rfl rfl (ob_0 _) gL_law_X8_hour hdX8_hour rfl ⟨rfl, rfl⟩ ⟨Nat.le_of_ble_eq_true rfl, Nat.le_of_ble_eq_true rfl⟩ (Nat.le_of_ble_eq_true rfl) ⟨Nat.le_of_ble_eq_true rfl, Nat.le_of_ble_eq_true rfl⟩ dL_law_363 ?_
        refine Ev.aload_n (pc := 366) dL_law_366 rfl ?_
        obtain ⟨x_16, hx_16, hr⟩ := Option.bind_eq_some_iff.mp hr
        refine Ev.cVi (pc := 367) (As := []) (kX9_hour _ _ _ _  hx_16) rfl rfl (ob_29 _) gL_law_X9_hour hdX9_hour rfl ⟨rfl, rfl⟩ ⟨Nat.le_of_ble_eq_true rfl, Nat.le_of_ble_eq_true rfl⟩ (Nat.le_of_ble_eq_true rfl) ⟨Nat.le_of_ble_eq_true rfl, Nat.le_of_ble_eq_true rfl⟩ dL_law_367 ?_
        refine Ev.icmpeq (pc := 370) (tgt := 1051) dL_law_370 (by decide) (fun c_38 => ?_) (fun c_38 => ?_)
        · have hr := ifp hr c_38
          refine Ev.iinc (pc := 1051) (v := nI 5) dL_law_1051 rfl rfl rfl rfl ?_
          refine Ev.goto (pc := 1054) (tgt := 18) dL_law_1054 (by decide) ?_
          exact ih _ _ _ _ _ hr
        · have hr := ifn hr c_38
          refine Ev.iconst (pc := 373) (v := nI 0) dL_law_373 (by decide) ?_
          cases hr
      have hr := ifn hr c_37
      by_cases c_39 : ((xs (Int32.toNatClampNeg v3)) &&& (nI 31)) = nI 9
      · have hr := ifp hr c_39
        refine Ev.tableK (pc := 32) (tgt := 375) 9 c_39 (by decide) dL_law_32 (by decide) rfl (by decide) ?_
        refine Ev.aload_n (pc := 375) dL_law_375 rfl ?_
        refine Ev.aload_n (pc := 376) dL_law_376 rfl ?_
        refine Ev.iload_n (pc := 377) dL_law_377 rfl ?_
        refine Ev.iconst (pc := 378) (v := nI 1) dL_law_378 (by decide) ?_
        refine Ev.iadd (pc := 379) dL_law_379 ?_
        obtain ⟨c_40, hr⟩ := ckB hr
        refine Ev.sld (pc := 380) (inb_in c_40) dL_law_380 ?_
        refine Ev.aload_n (pc := 381) dL_law_381 rfl ?_
        refine Ev.iload_n (pc := 382) dL_law_382 rfl ?_
        refine Ev.iconst (pc := 383) (v := nI 2) dL_law_383 (by decide) ?_
        refine Ev.iadd (pc := 384) dL_law_384 ?_
        obtain ⟨c_41, hr⟩ := ckB hr
        refine Ev.sld (pc := 385) (inb_in c_41) dL_law_385 ?_
        obtain ⟨x_17, hx_17, hr⟩ := Option.bind_eq_some_iff.mp hr
        refine Ev.cVi (pc := 386) (As := [.int _, .int _]) (kX8_dig _ _ _ _ _ _ hx_17) rfl rfl (ob_0 _) gL_law_X8_dig hdX8_dig rfl ⟨rfl, rfl⟩ ⟨Nat.le_of_ble_eq_true rfl, Nat.le_of_ble_eq_true rfl⟩ (Nat.le_of_ble_eq_true rfl) ⟨Nat.le_of_ble_eq_true rfl, Nat.le_of_ble_eq_true rfl⟩ dL_law_386 ?_
        refine Ev.aload_n (pc := 389) dL_law_389 rfl ?_
        refine Ev.aload_n (pc := 390) dL_law_390 rfl ?_
        refine Ev.iload_n (pc := 391) dL_law_391 rfl ?_
        refine Ev.iconst (pc := 392) (v := nI 1) dL_law_392 (by decide) ?_
        refine Ev.iadd (pc := 393) dL_law_393 ?_
        obtain ⟨c_42, hr⟩ := ckB hr
        refine Ev.sld (pc := 394) (inb_in c_42) dL_law_394 ?_
        refine Ev.aload_n (pc := 395) dL_law_395 rfl ?_
        refine Ev.iload_n (pc := 396) dL_law_396 rfl ?_
        refine Ev.iconst (pc := 397) (v := nI 2) dL_law_397 (by decide) ?_
        refine Ev.iadd (pc := 398) dL_law_398 ?_
        obtain ⟨c_43, hr⟩ := ckB hr
        refine Ev.sld (pc := 399) (inb_in c_43) dL_law_399 ?_
        obtain ⟨x_18, hx_18, hr⟩ := Option.bind_eq_some_iff.mp hr
        refine Ev.cVi (pc := 400) (As := [.int _, .int _]) (kX9_dig _ _ _ _ _ _ hx_18) rfl rfl (ob_29 _) gL_law_X9_dig hdX9_dig rfl ⟨rfl, rfl⟩ ⟨Nat.le_of_ble_eq_true rfl, Nat.le_of_ble_eq_true rfl⟩ (Nat.le_of_ble_eq_true rfl) ⟨Nat.le_of_ble_eq_true rfl, Nat.le_of_ble_eq_true rfl⟩ dL_law_400 ?_
        refine Ev.icmpeq (pc := 403) (tgt := 1051) dL_law_403 (by decide) (fun c_44 => ?_) (fun c_44 => ?_)
        · have hr := ifp hr c_44
          refine Ev.iinc (pc := 1051) (v := nI 5) dL_law_1051 rfl rfl rfl rfl ?_
          refine Ev.goto (pc := 1054) (tgt := 18) dL_law_1054 (by decide) ?_
          exact ih _ _ _ _ _ hr
        · have hr := ifn hr c_44
          refine Ev.iconst (pc := 406) (v := nI 0) dL_law_406 (by decide) ?_
          cases hr
      have hr := ifn hr c_39
      by_cases c_45 : ((xs (Int32.toNatClampNeg v3)) &&& (nI 31)) = nI 10
      · have hr := ifp hr c_45
        refine Ev.tableK (pc := 32) (tgt := 408) 10 c_45 (by decide) dL_law_32 (by decide) rfl (by decide) ?_
        refine Ev.aload_n (pc := 408) dL_law_408 rfl ?_
        refine Ev.aload_n (pc := 409) dL_law_409 rfl ?_
        refine Ev.iload_n (pc := 410) dL_law_410 rfl ?_
        refine Ev.iconst (pc := 411) (v := nI 1) dL_law_411 (by decide) ?_
        refine Ev.iadd (pc := 412) dL_law_412 ?_
        obtain ⟨c_46, hr⟩ := ckB hr
        refine Ev.sld (pc := 413) (inb_in c_46) dL_law_413 ?_
        obtain ⟨x_19, hx_19, hr⟩ := Option.bind_eq_some_iff.mp hr
        refine Ev.cVi (pc := 414) (As := [.int _]) (kX8_put _ _ _ _ _ hx_19) rfl rfl (ob_0 _) gL_law_X8_put hdX8_put rfl ⟨rfl, rfl⟩ ⟨Nat.le_of_ble_eq_true rfl, Nat.le_of_ble_eq_true rfl⟩ (Nat.le_of_ble_eq_true rfl) ⟨Nat.le_of_ble_eq_true rfl, Nat.le_of_ble_eq_true rfl⟩ dL_law_414 ?_
        refine Ev.aload_n (pc := 417) dL_law_417 rfl ?_
        refine Ev.aload_n (pc := 418) dL_law_418 rfl ?_
        refine Ev.iload_n (pc := 419) dL_law_419 rfl ?_
        refine Ev.iconst (pc := 420) (v := nI 1) dL_law_420 (by decide) ?_
        refine Ev.iadd (pc := 421) dL_law_421 ?_
        obtain ⟨c_47, hr⟩ := ckB hr
        refine Ev.sld (pc := 422) (inb_in c_47) dL_law_422 ?_
        obtain ⟨x_20, hx_20, hr⟩ := Option.bind_eq_some_iff.mp hr
        refine Ev.cVi (pc := 423) (As := [.int _]) (kX9_put _ _ _ _ _ hx_20) rfl rfl (ob_29 _) gL_law_X9_put hdX9_put rfl ⟨rfl, rfl⟩ ⟨Nat.le_of_ble_eq_true rfl, Nat.le_of_ble_eq_true rfl⟩ (Nat.le_of_ble_eq_true rfl) ⟨Nat.le_of_ble_eq_true rfl, Nat.le_of_ble_eq_true rfl⟩ dL_law_423 ?_
        refine Ev.icmpeq (pc := 426) (tgt := 1051) dL_law_426 (by decide) (fun c_48 => ?_) (fun c_48 => ?_)
        · have hr := ifp hr c_48
          refine Ev.iinc (pc := 1051) (v := nI 5) dL_law_1051 rfl rfl rfl rfl ?_
          refine Ev.goto (pc := 1054) (tgt := 18) dL_law_1054 (by decide) ?_
          exact ih _ _ _ _ _ hr
        · have hr := ifn hr c_48
          refine Ev.iconst (pc := 429) (v := nI 0) dL_law_429 (by decide) ?_
          cases hr
      have hr := ifn hr c_45
      by_cases c_49 : ((xs (Int32.toNatClampNeg v3)) &&& (nI 31)) = nI 11
      · have hr := ifp hr c_49
        refine Ev.tableK (pc := 32) (tgt := 431) 11 c_49 (by decide) dL_law_32 (by decide) rfl (by decide) ?_
        refine Ev.aload_n (pc := 431) dL_law_431 rfl ?_
        refine Ev.aload_n (pc := 432) dL_law_432 rfl ?_
        refine Ev.iload_n (pc := 433) dL_law_433 rfl ?_
        refine Ev.iconst (pc := 434) (v := nI 1) dL_law_434 (by decide) ?_
        refine Ev.iadd (pc := 435) dL_law_435 ?_
        obtain ⟨c_50, hr⟩ := ckB hr
        refine Ev.sld (pc := 436) (inb_in c_50) dL_law_436 ?_
        obtain ⟨x_21, hx_21, hr⟩ := Option.bind_eq_some_iff.mp hr
        refine Ev.cVi (pc := 437) (As := [.int _]) (kX8_sell _ _ _ _ _ hx_21) rfl rfl (ob_0 _) gL_law_X8_sell hdX8_sell rfl ⟨rfl, rfl⟩ ⟨Nat.le_of_ble_eq_true rfl, Nat.le_of_ble_eq_true rfl⟩ (Nat.le_of_ble_eq_true rfl) ⟨Nat.le_of_ble_eq_true rfl, Nat.le_of_ble_eq_true rfl⟩ dL_law_437 ?_
        refine Ev.aload_n (pc := 440) dL_law_440 rfl ?_
        refine Ev.aload_n (pc := 441) dL_law_441 rfl ?_
        refine Ev.iload_n (pc := 442) dL_law_442 rfl ?_
        refine Ev.iconst (pc := 443) (v := nI 1) dL_law_443 (by decide) ?_
        refine Ev.iadd (pc := 444) dL_law_444 ?_
        obtain ⟨c_51, hr⟩ := ckB hr
        refine Ev.sld (pc := 445) (inb_in c_51) dL_law_445 ?_
        obtain ⟨x_22, hx_22, hr⟩ := Option.bind_eq_some_iff.mp hr
        refine Ev.cVi (pc := 446) (As := [.int _]) (kX9_sell _ _ _ _ _ hx_22) rfl rfl (ob_29 _) gL_law_X9_sell hdX9_sell rfl ⟨rfl, rfl⟩ ⟨Nat.le_of_ble_eq_true rfl, Nat.le_of_ble_eq_true rfl⟩ (Nat.le_of_ble_eq_true rfl) ⟨Nat.le_of_ble_eq_true rfl, Nat.le_of_ble_eq_true rfl⟩ dL_law_446 ?_
        refine Ev.icmpeq (pc := 449) (tgt := 1051) dL_law_449 (by decide) (fun c_52 => ?_) (fun c_52 => ?_)
        · have hr := ifp hr c_52
          refine Ev.iinc (pc := 1051) (v := nI 5) dL_law_1051 rfl rfl rfl rfl ?_
          refine Ev.goto (pc := 1054) (tgt := 18) dL_law_1054 (by decide) ?_
          exact ih _ _ _ _ _ hr
        · have hr := ifn hr c_52
          refine Ev.iconst (pc := 452) (v := nI 0) dL_law_452 (by decide) ?_
          cases hr
      have hr := ifn hr c_49
      by_cases c_53 : ((xs (Int32.toNatClampNeg v3)) &&& (nI 31)) = nI 12
      · have hr := ifp hr c_53
        refine Ev.tableK (pc := 32) (tgt := 454) 12 c_53 (by decide) dL_law_32 (by decide) rfl (by decide) ?_
        refine Ev.aload_n (pc := 454) dL_law_454 rfl ?_
        obtain ⟨x_23, hx_23, hr⟩ := Option.bind_eq_some_iff.mp hr
        refine Ev.cVi (pc := 455) (As := []) (kX8_undo _ _ _ _  hx_23) rfl rfl (ob_0 _) gL_law_X8_undo hdX8_undo rfl ⟨rfl, rfl⟩ ⟨Nat.le_of_ble_eq_true rfl, Nat.le_of_ble_eq_true rfl⟩ (Nat.le_of_ble_eq_true rfl) ⟨Nat.le_of_ble_eq_true rfl, Nat.le_of_ble_eq_true rfl⟩ dL_law_455 ?_
        refine Ev.aload_n (pc := 458) dL_law_458 rfl ?_
        obtain ⟨x_24, hx_24, hr⟩ := Option.bind_eq_some_iff.mp hr
        refine Ev.cVi (pc := 459) (As := []) (kX9_undo _ _ _ _  hx_24) rfl rfl (ob_29 _) gL_law_X9_undo hdX9_undo rfl ⟨rfl, rfl⟩ ⟨Nat.le_of_ble_eq_true rfl, Nat.le_of_ble_eq_true rfl⟩ (Nat.le_of_ble_eq_true rfl) ⟨Nat.le_of_ble_eq_true rfl, Nat.le_of_ble_eq_true rfl⟩ dL_law_459 ?_
        refine Ev.icmpeq (pc := 462) (tgt := 1051) dL_law_462 (by decide) (fun c_54 => ?_) (fun c_54 => ?_)
        · have hr := ifp hr c_54
          refine Ev.iinc (pc := 1051) (v := nI 5) dL_law_1051 rfl rfl rfl rfl ?_
          refine Ev.goto (pc := 1054) (tgt := 18) dL_law_1054 (by decide) ?_
          exact ih _ _ _ _ _ hr
        · have hr := ifn hr c_54
          refine Ev.iconst (pc := 465) (v := nI 0) dL_law_465 (by decide) ?_
          cases hr
      have hr := ifn hr c_53
      by_cases c_55 : ((xs (Int32.toNatClampNeg v3)) &&& (nI 31)) = nI 13
      · have hr := ifp hr c_55
        refine Ev.tableK (pc := 32) (tgt := 467) 13 c_55 (by decide) dL_law_32 (by decide) rfl (by decide) ?_
        refine Ev.aload_n (pc := 467) dL_law_467 rfl ?_
        refine Ev.aload_n (pc := 468) dL_law_468 rfl ?_
        refine Ev.iload_n (pc := 469) dL_law_469 rfl ?_
        refine Ev.iconst (pc := 470) (v := nI 1) dL_law_470 (by decide) ?_
        refine Ev.iadd (pc := 471) dL_law_471 ?_
        obtain ⟨c_56, hr⟩ := ckB hr
        refine Ev.sld (pc := 472) (inb_in c_56) dL_law_472 ?_
        obtain ⟨x_25, hx_25, hr⟩ := Option.bind_eq_some_iff.mp hr
        refine Ev.cVi (pc := 473) (As := [.int _]) (kX8_bared _ _ _ _ _ hx_25) rfl rfl (ob_0 _) gL_law_X8_bared hdX8_bared rfl ⟨rfl, rfl⟩ ⟨Nat.le_of_ble_eq_true rfl, Nat.le_of_ble_eq_true rfl⟩ (Nat.le_of_ble_eq_true rfl) ⟨Nat.le_of_ble_eq_true rfl, Nat.le_of_ble_eq_true rfl⟩ dL_law_473 ?_
        refine Ev.aload_n (pc := 476) dL_law_476 rfl ?_
        refine Ev.aload_n (pc := 477) dL_law_477 rfl ?_
        refine Ev.iload_n (pc := 478) dL_law_478 rfl ?_
        refine Ev.iconst (pc := 479) (v := nI 1) dL_law_479 (by decide) ?_
        refine Ev.iadd (pc := 480) dL_law_480 ?_
        obtain ⟨c_57, hr⟩ := ckB hr
        refine Ev.sld (pc := 481) (inb_in c_57) dL_law_481 ?_
        obtain ⟨x_26, hx_26, hr⟩ := Option.bind_eq_some_iff.mp hr
        refine Ev.cVi (pc := 482) (As := [.int _]) (kX9_bared _ _ _ _ _ hx_26) rfl rfl (ob_29 _) gL_law_X9_bared hdX9_bared rfl ⟨rfl, rfl⟩ ⟨Nat.le_of_ble_eq_true rfl, Nat.le_of_ble_eq_true rfl⟩ (Nat.le_of_ble_eq_true rfl) ⟨Nat.le_of_ble_eq_true rfl, Nat.le_of_ble_eq_true rfl⟩ dL_law_482 ?_
        refine Ev.icmpeq (pc := 485) (tgt := 1051) dL_law_485 (by decide) (fun c_58 => ?_) (fun c_58 => ?_)
        · have hr := ifp hr c_58
          refine Ev.iinc (pc := 1051) (v := nI 5) dL_law_1051 rfl rfl rfl rfl ?_
          refine Ev.goto (pc := 1054) (tgt := 18) dL_law_1054 (by decide) ?_
          exact ih _ _ _ _ _ hr
        · have hr := ifn hr c_58
          refine Ev.iconst (pc := 488) (v := nI 0) dL_law_488 (by decide) ?_
          cases hr
      have hr := ifn hr c_55
      by_cases c_59 : ((xs (Int32.toNatClampNeg v3)) &&& (nI 31)) = nI 14
      · have hr := ifp hr c_59
        refine Ev.tableK (pc := 32) (tgt := 490) 14 c_59 (by decide) dL_law_32 (by decide) rfl (by decide) ?_
        refine Ev.aload_n (pc := 490) dL_law_490 rfl ?_
        refine Ev.aload_n (pc := 491) dL_law_491 rfl ?_
        refine Ev.iload_n (pc := 492) dL_law_492 rfl ?_
        refine Ev.iconst (pc := 493) (v := nI 1) dL_law_493 (by decide) ?_
        refine Ev.iadd (pc := 494) dL_law_494 ?_
        obtain ⟨c_60, hr⟩ := ckB hr
        refine Ev.sld (pc := 495) (inb_in c_60) dL_law_495 ?_
        obtain ⟨x_27, hx_27, hr⟩ := Option.bind_eq_some_iff.mp hr
        refine Ev.cVi (pc := 496) (As := [.int _]) (kX8_flooded _ _ _ _ _ hx_27) rfl rfl (ob_0 _) gL_law_X8_flooded hdX8_flooded rfl ⟨rfl, rfl⟩ ⟨Nat.le_of_ble_eq_true rfl, Nat.le_of_ble_eq_true rfl⟩ (Nat.le_of_ble_eq_true rfl) ⟨Nat.le_of_ble_eq_true rfl, Nat.le_of_ble_eq_true rfl⟩ dL_law_496 ?_
        refine Ev.aload_n (pc := 499) dL_law_499 rfl ?_
        refine Ev.aload_n (pc := 500) dL_law_500 rfl ?_
        refine Ev.iload_n (pc := 501) dL_law_501 rfl ?_
        refine Ev.iconst (pc := 502) (v := nI 1) dL_law_502 (by decide) ?_
        refine Ev.iadd (pc := 503) dL_law_503 ?_
        obtain ⟨c_61, hr⟩ := ckB hr
        refine Ev.sld (pc := 504) (inb_in c_61) dL_law_504 ?_
        obtain ⟨x_28, hx_28, hr⟩ := Option.bind_eq_some_iff.mp hr
        refine Ev.cVi (pc := 505) (As := [.int _]) (kX9_flooded _ _ _ _ _ hx_28) rfl rfl (ob_29 _) gL_law_X9_flooded hdX9_flooded rfl ⟨rfl, rfl⟩ ⟨Nat.le_of_ble_eq_true rfl, Nat.le_of_ble_eq_true rfl⟩ (Nat.le_of_ble_eq_true rfl) ⟨Nat.le_of_ble_eq_true rfl, Nat.le_of_ble_eq_true rfl⟩ dL_law_505 ?_
        refine Ev.icmpeq (pc := 508) (tgt := 1051) dL_law_508 (by decide) (fun c_62 => ?_) (fun c_62 => ?_)
        · have hr := ifp hr c_62
          refine Ev.iinc (pc := 1051) (v := nI 5) dL_law_1051 rfl rfl rfl rfl ?_
          refine Ev.goto (pc := 1054) (tgt := 18) dL_law_1054 (by decide) ?_
          exact ih _ _ _ _ _ hr
        · have hr := ifn hr c_62
          refine Ev.iconst (pc := 511) (v := nI 0) dL_law_511 (by decide) ?_
          cases hr
      have hr := ifn hr c_59
      by_cases c_63 : ((xs (Int32.toNatClampNeg v3)) &&& (nI 31)) = nI 15
      · have hr := ifp hr c_63
        refine Ev.tableK (pc := 32) (tgt := 513) 15 c_63 (by decide) dL_law_32 (by decide) rfl (by decide) ?_
        refine Ev.aload_n (pc := 513) dL_law_513 rfl ?_
        refine Ev.aload_n (pc := 514) dL_law_514 rfl ?_
        refine Ev.iload_n (pc := 515) dL_law_515 rfl ?_
        refine Ev.iconst (pc := 516) (v := nI 1) dL_law_516 (by decide) ?_
        refine Ev.iadd (pc := 517) dL_law_517 ?_
        obtain ⟨c_64, hr⟩ := ckB hr
        refine Ev.sld (pc := 518) (inb_in c_64) dL_law_518 ?_
        refine Ev.aload_n (pc := 519) dL_law_519 rfl ?_
        refine Ev.iload_n (pc := 520) dL_law_520 rfl ?_
        refine Ev.iconst (pc := 521) (v := nI 2) dL_law_521 (by decide) ?_
        refine Ev.iadd (pc := 522) dL_law_522 ?_
        obtain ⟨c_65, hr⟩ := ckB hr
        refine Ev.sld (pc := 523) (inb_in c_65) dL_law_523 ?_
        obtain ⟨x_29, hx_29, hr⟩ := Option.bind_eq_some_iff.mp hr
        refine Ev.cVi (pc := 524) (As := [.int _, .int _]) (kX8_reach _ _ _ _ _ _ hx_29) rfl rfl (ob_0 _) gL_law_X8_reach hdX8_reach rfl ⟨rfl, rfl⟩ ⟨Nat.le_of_ble_eq_true rfl, Nat.le_of_ble_eq_true rfl⟩ (Nat.le_of_ble_eq_true rfl) ⟨Nat.le_of_ble_eq_true rfl, Nat.le_of_ble_eq_true rfl⟩ dL_law_524 ?_
        refine Ev.aload_n (pc := 527) dL_law_527 rfl ?_
        refine Ev.aload_n (pc := 528) dL_law_528 rfl ?_
        refine Ev.iload_n (pc := 529) dL_law_529 rfl ?_
        refine Ev.iconst (pc := 530) (v := nI 1) dL_law_530 (by decide) ?_
        refine Ev.iadd (pc := 531) dL_law_531 ?_
        obtain ⟨c_66, hr⟩ := ckB hr
        refine Ev.sld (pc := 532) (inb_in c_66) dL_law_532 ?_
        refine Ev.aload_n (pc := 533) dL_law_533 rfl ?_
        refine Ev.iload_n (pc := 534) dL_law_534 rfl ?_
        refine Ev.iconst (pc := 535) (v := nI 2) dL_law_535 (by decide) ?_
        refine Ev.iadd (pc := 536) dL_law_536 ?_
        obtain ⟨c_67, hr⟩ := ckB hr
        refine Ev.sld (pc := 537) (inb_in c_67) dL_law_537 ?_
        obtain ⟨x_30, hx_30, hr⟩ := Option.bind_eq_some_iff.mp hr
        refine Ev.cVi (pc := 538) (As := [.int _, .int _]) (kX9_reach _ _ _ _ _ _ hx_30) rfl rfl (ob_29 _) gL_law_X9_reach hdX9_reach rfl ⟨rfl, rfl⟩ ⟨Nat.le_of_ble_eq_true rfl, Nat.le_of_ble_eq_true rfl⟩ (Nat.le_of_ble_eq_true rfl) ⟨Nat.le_of_ble_eq_true rfl, Nat.le_of_ble_eq_true rfl⟩ dL_law_538 ?_
        refine Ev.icmpeq (pc := 541) (tgt := 1051) dL_law_541 (by decide) (fun c_68 => ?_) (fun c_68 => ?_)
        · have hr := ifp hr c_68
          refine Ev.iinc (pc := 1051) (v := nI 5) dL_law_1051 rfl rfl rfl rfl ?_
          refine Ev.goto (pc := 1054) (tgt := 18) dL_law_1054 (by decide) ?_
          exact ih _ _ _ _ _ hr
        · have hr := ifn hr c_68
          refine Ev.iconst (pc := 544) (v := nI 0) dL_law_544 (by decide) ?_
          cases hr
      have hr := ifn hr c_63
      by_cases c_69 : ((xs (Int32.toNatClampNeg v3)) &&& (nI 31)) = nI 16
      · have hr := ifp hr c_69
        refine Ev.tableK (pc := 32) (tgt := 546) 16 c_69 (by decide) dL_law_32 (by decide) rfl (by decide) ?_
        refine Ev.aload_n (pc := 546) dL_law_546 rfl ?_
        refine Ev.aload_n (pc := 547) dL_law_547 rfl ?_
        refine Ev.iload_n (pc := 548) dL_law_548 rfl ?_
        refine Ev.iconst (pc := 549) (v := nI 1) dL_law_549 (by decide) ?_
        refine Ev.iadd (pc := 550) dL_law_550 ?_
        obtain ⟨c_70, hr⟩ := ckB hr
        refine Ev.sld (pc := 551) (inb_in c_70) dL_law_551 ?_
        obtain ⟨x_31, hx_31, hr⟩ := Option.bind_eq_some_iff.mp hr
        refine Ev.cVi (pc := 552) (As := [.int _]) (kX8_home _ _ _ _ _ hx_31) rfl rfl (ob_0 _) gL_law_X8_home hdX8_home rfl ⟨rfl, rfl⟩ ⟨Nat.le_of_ble_eq_true rfl, Nat.le_of_ble_eq_true rfl⟩ (Nat.le_of_ble_eq_true rfl) ⟨Nat.le_of_ble_eq_true rfl, Nat.le_of_ble_eq_true rfl⟩ dL_law_552 ?_
        refine Ev.aload_n (pc := 555) dL_law_555 rfl ?_
        refine Ev.aload_n (pc := 556) dL_law_556 rfl ?_
        refine Ev.iload_n (pc := 557) dL_law_557 rfl ?_
        refine Ev.iconst (pc := 558) (v := nI 1) dL_law_558 (by decide) ?_
        refine Ev.iadd (pc := 559) dL_law_559 ?_
        obtain ⟨c_71, hr⟩ := ckB hr
        refine Ev.sld (pc := 560) (inb_in c_71) dL_law_560 ?_
        obtain ⟨x_32, hx_32, hr⟩ := Option.bind_eq_some_iff.mp hr
        refine Ev.cVi (pc := 561) (As := [.int _]) (kX9_home _ _ _ _ _ hx_32) rfl rfl (ob_29 _) gL_law_X9_home hdX9_home rfl ⟨rfl, rfl⟩ ⟨Nat.le_of_ble_eq_true rfl, Nat.le_of_ble_eq_true rfl⟩ (Nat.le_of_ble_eq_true rfl) ⟨Nat.le_of_ble_eq_true rfl, Nat.le_of_ble_eq_true rfl⟩ dL_law_561 ?_
        refine Ev.icmpeq (pc := 564) (tgt := 1051) dL_law_564 (by decide) (fun c_72 => ?_) (fun c_72 => ?_)
        · have hr := ifp hr c_72
          refine Ev.iinc (pc := 1051) (v := nI 5) dL_law_1051 rfl rfl rfl rfl ?_
          refine Ev.goto (pc := 1054) (tgt := 18) dL_law_1054 (by decide) ?_
          exact ih _ _ _ _ _ hr
        · have hr := ifn hr c_72
          refine Ev.iconst (pc := 567) (v := nI 0) dL_law_567 (by decide) ?_
          cases hr
      have hr := ifn hr c_69
      by_cases c_73 : ((xs (Int32.toNatClampNeg v3)) &&& (nI 31)) = nI 17
      · have hr := ifp hr c_73
        refine Ev.tableK (pc := 32) (tgt := 569) 17 c_73 (by decide) dL_law_32 (by decide) rfl (by decide) ?_
        refine Ev.aload_n (pc := 569) dL_law_569 rfl ?_
        refine Ev.aload_n (pc := 570) dL_law_570 rfl ?_
        refine Ev.iload_n (pc := 571) dL_law_571 rfl ?_
        refine Ev.iconst (pc := 572) (v := nI 1) dL_law_572 (by decide) ?_
        refine Ev.iadd (pc := 573) dL_law_573 ?_
        obtain ⟨c_74, hr⟩ := ckB hr
        refine Ev.sld (pc := 574) (inb_in c_74) dL_law_574 ?_
        refine Ev.aload_n (pc := 575) dL_law_575 rfl ?_
        refine Ev.iload_n (pc := 576) dL_law_576 rfl ?_
        refine Ev.iconst (pc := 577) (v := nI 2) dL_law_577 (by decide) ?_
        refine Ev.iadd (pc := 578) dL_law_578 ?_
        obtain ⟨c_75, hr⟩ := ckB hr
        refine Ev.sld (pc := 579) (inb_in c_75) dL_law_579 ?_
        refine Ev.aload_n (pc := 580) dL_law_580 rfl ?_
        refine Ev.iload_n (pc := 581) dL_law_581 rfl ?_
        refine Ev.iconst (pc := 582) (v := nI 3) dL_law_582 (by decide) ?_
        refine Ev.iadd (pc := 583) dL_law_583 ?_
        obtain ⟨c_76, hr⟩ := ckB hr
        refine Ev.sld (pc := 584) (inb_in c_76) dL_law_584 ?_
        obtain ⟨x_33, hx_33, hr⟩ := Option.bind_eq_some_iff.mp hr
        refine Ev.cVi (pc := 585) (As := [.int _, .int _, .int _]) (kX8_gets _ _ _ _ _ _ _ hx_33) rfl rfl (ob_0 _) gL_law_X8_gets hdX8_gets rfl ⟨rfl, rfl⟩ ⟨Nat.le_of_ble_eq_true rfl, Nat.le_of_ble_eq_true rfl⟩ (Nat.le_of_ble_eq_true rfl) ⟨Nat.le_of_ble_eq_true rfl, Nat.le_of_ble_eq_true rfl⟩ dL_law_585 ?_
        refine Ev.aload_n (pc := 588) dL_law_588 rfl ?_
        refine Ev.aload_n (pc := 589) dL_law_589 rfl ?_
        refine Ev.iload_n (pc := 590) dL_law_590 rfl ?_
        refine Ev.iconst (pc := 591) (v := nI 1) dL_law_591 (by decide) ?_
        refine Ev.iadd (pc := 592) dL_law_592 ?_
        obtain ⟨c_77, hr⟩ := ckB hr
        refine Ev.sld (pc := 593) (inb_in c_77) dL_law_593 ?_
        refine Ev.aload_n (pc := 594) dL_law_594 rfl ?_
        refine Ev.iload_n (pc := 595) dL_law_595 rfl ?_
        refine Ev.iconst (pc := 596) (v := nI 2) dL_law_596 (by decide) ?_
        refine Ev.iadd (pc := 597) dL_law_597 ?_
        obtain ⟨c_78, hr⟩ := ckB hr
        refine Ev.sld (pc := 598) (inb_in c_78) dL_law_598 ?_
        refine Ev.aload_n (pc := 599) dL_law_599 rfl ?_
        refine Ev.iload_n (pc := 600) dL_law_600 rfl ?_
        refine Ev.iconst (pc := 601) (v := nI 3) dL_law_601 (by decide) ?_
        refine Ev.iadd (pc := 602) dL_law_602 ?_
        obtain ⟨c_79, hr⟩ := ckB hr
        refine Ev.sld (pc := 603) (inb_in c_79) dL_law_603 ?_
        obtain ⟨x_34, hx_34, hr⟩ := Option.bind_eq_some_iff.mp hr
        refine Ev.cVi (pc := 604) (As := [.int _, .int _, .int _]) (kX9_gets _ _ _ _ _ _ _ hx_34) rfl rfl (ob_29 _) gL_law_X9_gets hdX9_gets rfl ⟨rfl, rfl⟩ ⟨Nat.le_of_ble_eq_true rfl, Nat.le_of_ble_eq_true rfl⟩ (Nat.le_of_ble_eq_true rfl) ⟨Nat.le_of_ble_eq_true rfl, Nat.le_of_ble_eq_true rfl⟩ dL_law_604 ?_
        refine Ev.icmpeq (pc := 607) (tgt := 1051) dL_law_607 (by decide) (fun c_80 => ?_) (fun c_80 => ?_)
        · have hr := ifp hr c_80
          refine Ev.iinc (pc := 1051) (v := nI 5) dL_law_1051 rfl rfl rfl rfl ?_
          refine Ev.goto (pc := 1054) (tgt := 18) dL_law_1054 (by decide) ?_
          exact ih _ _ _ _ _ hr
        · have hr := ifn hr c_80
          refine Ev.iconst (pc := 610) (v := nI 0) dL_law_610 (by decide) ?_
          cases hr
      have hr := ifn hr c_73
      by_cases c_81 : ((xs (Int32.toNatClampNeg v3)) &&& (nI 31)) = nI 18
      · have hr := ifp hr c_81
        refine Ev.tableK (pc := 32) (tgt := 612) 18 c_81 (by decide) dL_law_32 (by decide) rfl (by decide) ?_
        refine Ev.aload_n (pc := 612) dL_law_612 rfl ?_
        refine Ev.aload_n (pc := 613) dL_law_613 rfl ?_
        refine Ev.iload_n (pc := 614) dL_law_614 rfl ?_
        refine Ev.iconst (pc := 615) (v := nI 1) dL_law_615 (by decide) ?_
        refine Ev.iadd (pc := 616) dL_law_616 ?_
        obtain ⟨c_82, hr⟩ := ckB hr
        refine Ev.sld (pc := 617) (inb_in c_82) dL_law_617 ?_
        refine Ev.aload_n (pc := 618) dL_law_618 rfl ?_
        refine Ev.iload_n (pc := 619) dL_law_619 rfl ?_
        refine Ev.iconst (pc := 620) (v := nI 2) dL_law_620 (by decide) ?_
        refine Ev.iadd (pc := 621) dL_law_621 ?_
        obtain ⟨c_83, hr⟩ := ckB hr
        refine Ev.sld (pc := 622) (inb_in c_83) dL_law_622 ?_
        refine Ev.i2l (pc := 623) dL_law_623 ?_
        refine Ev.bipush (pc := 624) (v := nI 32) dL_law_624 (by decide) ?_
        refine Ev.lshl (pc := 626) dL_law_626 ?_
        refine Ev.aload_n (pc := 627) dL_law_627 rfl ?_
        refine Ev.iload_n (pc := 628) dL_law_628 rfl ?_
        refine Ev.iconst (pc := 629) (v := nI 3) dL_law_629 (by decide) ?_
        refine Ev.iadd (pc := 630) dL_law_630 ?_
        obtain ⟨c_84, hr⟩ := ckB hr
        refine Ev.sld (pc := 631) (inb_in c_84) dL_law_631 ?_
        refine Ev.i2l (pc := 632) dL_law_632 ?_
        refine Ev.ldc2 (pc := 633) (v := 4294967295) (by decide +kernel) dL_law_633 ?_
        refine Ev.land (pc := 636) dL_law_636 ?_
        refine Ev.lor (pc := 637) dL_law_637 ?_
        obtain ⟨x_35, hx_35, hr⟩ := Option.bind_eq_some_iff.mp hr
        refine Ev.cVi (pc := 638) (As := [.int _, .long _]) (kX8_judge _ _ _ _ _ _ hx_35) rfl rfl (ob_0 _) gL_law_X8_judge hdX8_judge rfl ⟨rfl, rfl⟩ ⟨Nat.le_of_ble_eq_true rfl, Nat.le_of_ble_eq_true rfl⟩ (Nat.le_of_ble_eq_true rfl) ⟨Nat.le_of_ble_eq_true rfl, Nat.le_of_ble_eq_true rfl⟩ dL_law_638 ?_
        refine Ev.aload_n (pc := 641) dL_law_641 rfl ?_
        refine Ev.aload_n (pc := 642) dL_law_642 rfl ?_
        refine Ev.iload_n (pc := 643) dL_law_643 rfl ?_
        refine Ev.iconst (pc := 644) (v := nI 1) dL_law_644 (by decide) ?_
        refine Ev.iadd (pc := 645) dL_law_645 ?_
        obtain ⟨c_85, hr⟩ := ckB hr
        refine Ev.sld (pc := 646) (inb_in c_85) dL_law_646 ?_
        refine Ev.aload_n (pc := 647) dL_law_647 rfl ?_
        refine Ev.iload_n (pc := 648) dL_law_648 rfl ?_
        refine Ev.iconst (pc := 649) (v := nI 2) dL_law_649 (by decide) ?_
        refine Ev.iadd (pc := 650) dL_law_650 ?_
        obtain ⟨c_86, hr⟩ := ckB hr
        refine Ev.sld (pc := 651) (inb_in c_86) dL_law_651 ?_
        refine Ev.i2l (pc := 652) dL_law_652 ?_
        refine Ev.bipush (pc := 653) (v := nI 32) dL_law_653 (by decide) ?_
        refine Ev.lshl (pc := 655) dL_law_655 ?_
        refine Ev.aload_n (pc := 656) dL_law_656 rfl ?_
        refine Ev.iload_n (pc := 657) dL_law_657 rfl ?_
        refine Ev.iconst (pc := 658) (v := nI 3) dL_law_658 (by decide) ?_
        refine Ev.iadd (pc := 659) dL_law_659 ?_
        obtain ⟨c_87, hr⟩ := ckB hr
        refine Ev.sld (pc := 660) (inb_in c_87) dL_law_660 ?_
        refine Ev.i2l (pc := 661) dL_law_661 ?_
        refine Ev.ldc2 (pc := 662) (v := 4294967295) (by decide +kernel) dL_law_662 ?_
        refine Ev.land (pc := 665) dL_law_665 ?_
        refine Ev.lor (pc := 666) dL_law_666 ?_
        obtain ⟨x_36, hx_36, hr⟩ := Option.bind_eq_some_iff.mp hr
        refine Ev.cVi (pc := 667) (As := [.int _, .long _]) (kX9_judge _ _ _ _ _ _ hx_36) rfl rfl (ob_29 _) gL_law_X9_judge hdX9_judge rfl ⟨rfl, rfl⟩ ⟨Nat.le_of_ble_eq_true rfl, Nat.le_of_ble_eq_true rfl⟩ (Nat.le_of_ble_eq_true rfl) ⟨Nat.le_of_ble_eq_true rfl, Nat.le_of_ble_eq_true rfl⟩ dL_law_667 ?_
        refine Ev.icmpeq (pc := 670) (tgt := 1051) dL_law_670 (by decide) (fun c_88 => ?_) (fun c_88 => ?_)
        · have hr := ifp hr c_88
          refine Ev.iinc (pc := 1051) (v := nI 5) dL_law_1051 rfl rfl rfl rfl ?_
          refine Ev.goto (pc := 1054) (tgt := 18) dL_law_1054 (by decide) ?_
          exact ih _ _ _ _ _ hr
        · have hr := ifn hr c_88
          refine Ev.iconst (pc := 673) (v := nI 0) dL_law_673 (by decide) ?_
          cases hr
      have hr := ifn hr c_81
      by_cases c_89 : ((xs (Int32.toNatClampNeg v3)) &&& (nI 31)) = nI 19
      · have hr := ifp hr c_89
        refine Ev.tableK (pc := 32) (tgt := 675) 19 c_89 (by decide) dL_law_32 (by decide) rfl (by decide) ?_
        refine Ev.aload_n (pc := 675) dL_law_675 rfl ?_
        refine Ev.aload_n (pc := 676) dL_law_676 rfl ?_
        refine Ev.iload_n (pc := 677) dL_law_677 rfl ?_
        refine Ev.iconst (pc := 678) (v := nI 1) dL_law_678 (by decide) ?_
        refine Ev.iadd (pc := 679) dL_law_679 ?_
        obtain ⟨c_90, hr⟩ := ckB hr
        refine Ev.sld (pc := 680) (inb_in c_90) dL_law_680 ?_
        refine Ev.aload_n (pc := 681) dL_law_681 rfl ?_
        refine Ev.iload_n (pc := 682) dL_law_682 rfl ?_
        refine Ev.iconst (pc := 683) (v := nI 2) dL_law_683 (by decide) ?_
        refine Ev.iadd (pc := 684) dL_law_684 ?_
        obtain ⟨c_91, hr⟩ := ckB hr
        refine Ev.sld (pc := 685) (inb_in c_91) dL_law_685 ?_
        refine Ev.aload_n (pc := 686) dL_law_686 rfl ?_
        refine Ev.iload_n (pc := 687) dL_law_687 rfl ?_
        refine Ev.iconst (pc := 688) (v := nI 3) dL_law_688 (by decide) ?_
        refine Ev.iadd (pc := 689) dL_law_689 ?_
        obtain ⟨c_92, hr⟩ := ckB hr
        refine Ev.sld (pc := 690) (inb_in c_92) dL_law_690 ?_
        obtain ⟨x_37, hx_37, hr⟩ := Option.bind_eq_some_iff.mp hr
        refine Ev.cVi (pc := 691) (As := [.int _, .int _, .int _]) (kX8_see _ _ _ _ _ _ _ hx_37) rfl rfl (ob_0 _) gL_law_X8_see hdX8_see rfl ⟨rfl, rfl⟩ ⟨Nat.le_of_ble_eq_true rfl, Nat.le_of_ble_eq_true rfl⟩ (Nat.le_of_ble_eq_true rfl) ⟨Nat.le_of_ble_eq_true rfl, Nat.le_of_ble_eq_true rfl⟩ dL_law_691 ?_
        refine Ev.aload_n (pc := 694) dL_law_694 rfl ?_
        refine Ev.aload_n (pc := 695) dL_law_695 rfl ?_
        refine Ev.iload_n (pc := 696) dL_law_696 rfl ?_
        refine Ev.iconst (pc := 697) (v := nI 1) dL_law_697 (by decide) ?_
        refine Ev.iadd (pc := 698) dL_law_698 ?_
        obtain ⟨c_93, hr⟩ := ckB hr
        refine Ev.sld (pc := 699) (inb_in c_93) dL_law_699 ?_
        refine Ev.aload_n (pc := 700) dL_law_700 rfl ?_
        refine Ev.iload_n (pc := 701) dL_law_701 rfl ?_
        refine Ev.iconst (pc := 702) (v := nI 2) dL_law_702 (by decide) ?_
        refine Ev.iadd (pc := 703) dL_law_703 ?_
        obtain ⟨c_94, hr⟩ := ckB hr
        refine Ev.sld (pc := 704) (inb_in c_94) dL_law_704 ?_
        refine Ev.aload_n (pc := 705) dL_law_705 rfl ?_
        refine Ev.iload_n (pc := 706) dL_law_706 rfl ?_
        refine Ev.iconst (pc := 707) (v := nI 3) dL_law_707 (by decide) ?_
        refine Ev.iadd (pc := 708) dL_law_708 ?_
        obtain ⟨c_95, hr⟩ := ckB hr
        refine Ev.sld (pc := 709) (inb_in c_95) dL_law_709 ?_
        obtain ⟨x_38, hx_38, hr⟩ := Option.bind_eq_some_iff.mp hr
        refine Ev.cVi (pc := 710) (As := [.int _, .int _, .int _]) (kX9_see _ _ _ _ _ _ _ hx_38) rfl rfl (ob_29 _) gL_law_X9_see hdX9_see rfl ⟨rfl, rfl⟩ ⟨Nat.le_of_ble_eq_true rfl, Nat.le_of_ble_eq_true rfl⟩ (Nat.le_of_ble_eq_true rfl) ⟨Nat.le_of_ble_eq_true rfl, Nat.le_of_ble_eq_true rfl⟩ dL_law_710 ?_
        refine Ev.icmpeq (pc := 713) (tgt := 1051) dL_law_713 (by decide) (fun c_96 => ?_) (fun c_96 => ?_)
        · have hr := ifp hr c_96
          refine Ev.iinc (pc := 1051) (v := nI 5) dL_law_1051 rfl rfl rfl rfl ?_
          refine Ev.goto (pc := 1054) (tgt := 18) dL_law_1054 (by decide) ?_
          exact ih _ _ _ _ _ hr
        · have hr := ifn hr c_96
          refine Ev.iconst (pc := 716) (v := nI 0) dL_law_716 (by decide) ?_
          cases hr
      have hr := ifn hr c_89
      by_cases c_97 : ((xs (Int32.toNatClampNeg v3)) &&& (nI 31)) = nI 20
      · have hr := ifp hr c_97
        refine Ev.tableK (pc := 32) (tgt := 718) 20 c_97 (by decide) dL_law_32 (by decide) rfl (by decide) ?_
        refine Ev.aload_n (pc := 718) dL_law_718 rfl ?_
        refine Ev.cVi (pc := 719) (As := []) (kX8_unsee _ _ _ _ ) rfl rfl (ob_0 _) gL_law_X8_unsee hdX8_unsee rfl ⟨rfl, rfl⟩ ⟨Nat.le_of_ble_eq_true rfl, Nat.le_of_ble_eq_true rfl⟩ (Nat.le_of_ble_eq_true rfl) ⟨Nat.le_of_ble_eq_true rfl, Nat.le_of_ble_eq_true rfl⟩ dL_law_719 ?_
        refine Ev.aload_n (pc := 722) dL_law_722 rfl ?_
        refine Ev.cVi (pc := 723) (As := []) (kX9_unsee _ _ _ _ ) rfl rfl (ob_29 _) gL_law_X9_unsee hdX9_unsee rfl ⟨rfl, rfl⟩ ⟨Nat.le_of_ble_eq_true rfl, Nat.le_of_ble_eq_true rfl⟩ (Nat.le_of_ble_eq_true rfl) ⟨Nat.le_of_ble_eq_true rfl, Nat.le_of_ble_eq_true rfl⟩ dL_law_723 ?_
        refine Ev.icmpeq (pc := 726) (tgt := 1051) dL_law_726 (by decide) (fun c_98 => ?_) (fun c_98 => ?_)
        · have hr := ifp hr c_98
          refine Ev.iinc (pc := 1051) (v := nI 5) dL_law_1051 rfl rfl rfl rfl ?_
          refine Ev.goto (pc := 1054) (tgt := 18) dL_law_1054 (by decide) ?_
          exact ih _ _ _ _ _ hr
        · have hr := ifn hr c_98
          refine Ev.iconst (pc := 729) (v := nI 0) dL_law_729 (by decide) ?_
          cases hr
      have hr := ifn hr c_97
      by_cases c_99 : ((xs (Int32.toNatClampNeg v3)) &&& (nI 31)) = nI 21
      · have hr := ifp hr c_99
        refine Ev.tableK (pc := 32) (tgt := 731) 21 c_99 (by decide) dL_law_32 (by decide) rfl (by decide) ?_
        refine Ev.aload_n (pc := 731) dL_law_731 rfl ?_
        obtain ⟨x_39, hx_39, hr⟩ := Option.bind_eq_some_iff.mp hr
        refine Ev.cVi (pc := 732) (As := []) (kX8_phases _ _ _ _  hx_39) rfl rfl (ob_0 _) gL_law_X8_phases hdX8_phases rfl ⟨rfl, rfl⟩ ⟨Nat.le_of_ble_eq_true rfl, Nat.le_of_ble_eq_true rfl⟩ (Nat.le_of_ble_eq_true rfl) ⟨Nat.le_of_ble_eq_true rfl, Nat.le_of_ble_eq_true rfl⟩ dL_law_732 ?_
        refine Ev.aload_n (pc := 735) dL_law_735 rfl ?_
        obtain ⟨x_40, hx_40, hr⟩ := Option.bind_eq_some_iff.mp hr
        refine Ev.cVi (pc := 736) (As := []) (kX9_phases _ _ _ _  hx_40) rfl rfl (ob_29 _) gL_law_X9_phases hdX9_phases rfl ⟨rfl, rfl⟩ ⟨Nat.le_of_ble_eq_true rfl, Nat.le_of_ble_eq_true rfl⟩ (Nat.le_of_ble_eq_true rfl) ⟨Nat.le_of_ble_eq_true rfl, Nat.le_of_ble_eq_true rfl⟩ dL_law_736 ?_
        refine Ev.icmpeq (pc := 739) (tgt := 1051) dL_law_739 (by decide) (fun c_100 => ?_) (fun c_100 => ?_)
        · have hr := ifp hr c_100
          refine Ev.iinc (pc := 1051) (v := nI 5) dL_law_1051 rfl rfl rfl rfl ?_
          refine Ev.goto (pc := 1054) (tgt := 18) dL_law_1054 (by decide) ?_
          exact ih _ _ _ _ _ hr
        · have hr := ifn hr c_100
          refine Ev.iconst (pc := 742) (v := nI 0) dL_law_742 (by decide) ?_
          cases hr
      have hr := ifn hr c_99
      by_cases c_101 : ((xs (Int32.toNatClampNeg v3)) &&& (nI 31)) = nI 22
      · have hr := ifp hr c_101
        refine Ev.tableK (pc := 32) (tgt := 744) 22 c_101 (by decide) dL_law_32 (by decide) rfl (by decide) ?_
        refine Ev.aload_n (pc := 744) dL_law_744 rfl ?_
        refine Ev.aload_n (pc := 745) dL_law_745 rfl ?_
        refine Ev.iload_n (pc := 746) dL_law_746 rfl ?_
        refine Ev.iconst (pc := 747) (v := nI 1) dL_law_747 (by decide) ?_
        refine Ev.iadd (pc := 748) dL_law_748 ?_
        obtain ⟨c_102, hr⟩ := ckB hr
        refine Ev.sld (pc := 749) (inb_in c_102) dL_law_749 ?_
        refine Ev.aload_n (pc := 750) dL_law_750 rfl ?_
        refine Ev.iload_n (pc := 751) dL_law_751 rfl ?_
        refine Ev.iconst (pc := 752) (v := nI 2) dL_law_752 (by decide) ?_
        refine Ev.iadd (pc := 753) dL_law_753 ?_
        obtain ⟨c_103, hr⟩ := ckB hr
        refine Ev.sld (pc := 754) (inb_in c_103) dL_law_754 ?_
        refine Ev.ifeq (pc := 755) (tgt := 762) dL_law_755 (by decide) (fun c_104 => ?_) (fun c_104 => ?_)
        · have hr := ifp hr c_104
          refine Ev.iconst (pc := 762) (v := nI 0) dL_law_762 (by decide) ?_
          obtain ⟨x_41, hx_41, hr⟩ := Option.bind_eq_some_iff.mp hr
          refine Ev.cVi (pc := 763) (As := [.int _, .int _]) (kX8_share _ _ _ _ _ _ hx_41) rfl rfl (ob_0 _) gL_law_X8_share hdX8_share rfl ⟨rfl, rfl⟩ ⟨Nat.le_of_ble_eq_true rfl, Nat.le_of_ble_eq_true rfl⟩ (Nat.le_of_ble_eq_true rfl) ⟨Nat.le_of_ble_eq_true rfl, Nat.le_of_ble_eq_true rfl⟩ dL_law_763 ?_
          refine Ev.aload_n (pc := 766) dL_law_766 rfl ?_
          refine Ev.aload_n (pc := 767) dL_law_767 rfl ?_
          refine Ev.iload_n (pc := 768) dL_law_768 rfl ?_
          refine Ev.iconst (pc := 769) (v := nI 1) dL_law_769 (by decide) ?_
          refine Ev.iadd (pc := 770) dL_law_770 ?_
          obtain ⟨c_105, hr⟩ := ckB hr
          refine Ev.sld (pc := 771) (inb_in c_105) dL_law_771 ?_
          refine Ev.aload_n (pc := 772) dL_law_772 rfl ?_
          refine Ev.iload_n (pc := 773) dL_law_773 rfl ?_
          refine Ev.iconst (pc := 774) (v := nI 2) dL_law_774 (by decide) ?_
          refine Ev.iadd (pc := 775) dL_law_775 ?_
          obtain ⟨c_106, hr⟩ := ckB hr
          refine Ev.sld (pc := 776) (inb_in c_106) dL_law_776 ?_
          refine Ev.ifeq (pc := 777) (tgt := 784) dL_law_777 (by decide) (fun c_107 => ?_) (fun c_107 => ?_)
          · have hr := ifp hr c_107
            refine Ev.iconst (pc := 784) (v := nI 0) dL_law_784 (by decide) ?_
            obtain ⟨x_42, hx_42, hr⟩ := Option.bind_eq_some_iff.mp hr
            refine Ev.cVi (pc := 785) (As := [.int _, .int _]) (kX9_share _ _ _ _ _ _ hx_42) rfl rfl (ob_29 _) gL_law_X9_share hdX9_share rfl ⟨rfl, rfl⟩ ⟨Nat.le_of_ble_eq_true rfl, Nat.le_of_ble_eq_true rfl⟩ (Nat.le_of_ble_eq_true rfl) ⟨Nat.le_of_ble_eq_true rfl, Nat.le_of_ble_eq_true rfl⟩ dL_law_785 ?_
            refine Ev.icmpeq (pc := 788) (tgt := 1051) dL_law_788 (by decide) (fun c_108 => ?_) (fun c_108 => ?_)
            · have hr := ifp hr c_108
              refine Ev.iinc (pc := 1051) (v := nI 5) dL_law_1051 rfl rfl rfl rfl ?_
              refine Ev.goto (pc := 1054) (tgt := 18) dL_law_1054 (by decide) ?_
              exact ih _ _ _ _ _ hr
            · have hr := ifn hr c_108
              refine Ev.iconst (pc := 791) (v := nI 0) dL_law_791 (by decide) ?_
              cases hr
          · have hr := ifn hr c_107
            refine Ev.iconst (pc := 780) (v := nI 1) dL_law_780 (by decide) ?_
            refine Ev.goto (pc := 781) (tgt := 785) dL_law_781 (by decide) ?_
            obtain ⟨x_43, hx_43, hr⟩ := Option.bind_eq_some_iff.mp hr
            refine Ev.cVi (pc := 785) (As := [.int _, .int _]) (kX9_share _ _ _ _ _ _ hx_43) rfl rfl (ob_29 _) gL_law_X9_share hdX9_share rfl ⟨rfl, rfl⟩ ⟨Nat.le_of_ble_eq_true rfl, Nat.le_of_ble_eq_true rfl⟩ (Nat.le_of_ble_eq_true rfl) ⟨Nat.le_of_ble_eq_true rfl, Nat.le_of_ble_eq_true rfl⟩ dL_law_785 ?_
            refine Ev.icmpeq (pc := 788) (tgt := 1051) dL_law_788 (by decide) (fun c_109 => ?_) (fun c_109 => ?_)
            · have hr := ifp hr c_109
              refine Ev.iinc (pc := 1051) (v := nI 5) dL_law_1051 rfl rfl rfl rfl ?_
              refine Ev.goto (pc := 1054) (tgt := 18) dL_law_1054 (by decide) ?_
              exact ih _ _ _ _ _ hr
            · have hr := ifn hr c_109
              refine Ev.iconst (pc := 791) (v := nI 0) dL_law_791 (by decide) ?_
              cases hr
        · have hr := ifn hr c_104
          refine Ev.iconst (pc := 758) (v := nI 1) dL_law_758 (by decide) ?_
          refine Ev.goto (pc := 759) (tgt := 763) dL_law_759 (by decide) ?_
          obtain ⟨x_44, hx_44, hr⟩ := Option.bind_eq_some_iff.mp hr
          refine Ev.cVi (pc := 763) (As := [.int _, .int _]) (kX8_share _ _ _ _ _ _ hx_44) rfl rfl (ob_0 _) gL_law_X8_share hdX8_share rfl ⟨rfl, rfl⟩ ⟨Nat.le_of_ble_eq_true rfl, Nat.le_of_ble_eq_true rfl⟩ (Nat.le_of_ble_eq_true rfl) ⟨Nat.le_of_ble_eq_true rfl, Nat.le_of_ble_eq_true rfl⟩ dL_law_763 ?_
          refine Ev.aload_n (pc := 766) dL_law_766 rfl ?_
          refine Ev.aload_n (pc := 767) dL_law_767 rfl ?_
          refine Ev.iload_n (pc := 768) dL_law_768 rfl ?_
          refine Ev.iconst (pc := 769) (v := nI 1) dL_law_769 (by decide) ?_
          refine Ev.iadd (pc := 770) dL_law_770 ?_
          obtain ⟨c_110, hr⟩ := ckB hr
          refine Ev.sld (pc := 771) (inb_in c_110) dL_law_771 ?_
          refine Ev.aload_n (pc := 772) dL_law_772 rfl ?_
          refine Ev.iload_n (pc := 773) dL_law_773 rfl ?_
          refine Ev.iconst (pc := 774) (v := nI 2) dL_law_774 (by decide) ?_
          refine Ev.iadd (pc := 775) dL_law_775 ?_
          obtain ⟨c_111, hr⟩ := ckB hr
          refine Ev.sld (pc := 776) (inb_in c_111) dL_law_776 ?_
          refine Ev.ifeq (pc := 777) (tgt := 784) dL_law_777 (by decide) (fun c_112 => ?_) (fun c_112 => ?_)
          · have hr := ifp hr c_112
            refine Ev.iconst (pc := 784) (v := nI 0) dL_law_784 (by decide) ?_
            obtain ⟨x_45, hx_45, hr⟩ := Option.bind_eq_some_iff.mp hr
            refine Ev.cVi (pc := 785) (As := [.int _, .int _]) (kX9_share _ _ _ _ _ _ hx_45) rfl rfl (ob_29 _) gL_law_X9_share hdX9_share rfl ⟨rfl, rfl⟩ ⟨Nat.le_of_ble_eq_true rfl, Nat.le_of_ble_eq_true rfl⟩ (Nat.le_of_ble_eq_true rfl) ⟨Nat.le_of_ble_eq_true rfl, Nat.le_of_ble_eq_true rfl⟩ dL_law_785 ?_
            refine Ev.icmpeq (pc := 788) (tgt := 1051) dL_law_788 (by decide) (fun c_113 => ?_) (fun c_113 => ?_)
            · have hr := ifp hr c_113
              refine Ev.iinc (pc := 1051) (v := nI 5) dL_law_1051 rfl rfl rfl rfl ?_
              refine Ev.goto (pc := 1054) (tgt := 18) dL_law_1054 (by decide) ?_
              exact ih _ _ _ _ _ hr
            · have hr := ifn hr c_113
              refine Ev.iconst (pc := 791) (v := nI 0) dL_law_791 (by decide) ?_
              cases hr
          · have hr := ifn hr c_112
            refine Ev.iconst (pc := 780) (v := nI 1) dL_law_780 (by decide) ?_
            refine Ev.goto (pc := 781) (tgt := 785) dL_law_781 (by decide) ?_
            obtain ⟨x_46, hx_46, hr⟩ := Option.bind_eq_some_iff.mp hr
            refine Ev.cVi (pc := 785) (As := [.int _, .int _]) (kX9_share _ _ _ _ _ _ hx_46) rfl rfl (ob_29 _) gL_law_X9_share hdX9_share rfl ⟨rfl, rfl⟩ ⟨Nat.le_of_ble_eq_true rfl, Nat.le_of_ble_eq_true rfl⟩ (Nat.le_of_ble_eq_true rfl) ⟨Nat.le_of_ble_eq_true rfl, Nat.le_of_ble_eq_true rfl⟩ dL_law_785 ?_
            refine Ev.icmpeq (pc := 788) (tgt := 1051) dL_law_788 (by decide) (fun c_114 => ?_) (fun c_114 => ?_)
            · have hr := ifp hr c_114
              refine Ev.iinc (pc := 1051) (v := nI 5) dL_law_1051 rfl rfl rfl rfl ?_
              refine Ev.goto (pc := 1054) (tgt := 18) dL_law_1054 (by decide) ?_
              exact ih _ _ _ _ _ hr
            · have hr := ifn hr c_114
              refine Ev.iconst (pc := 791) (v := nI 0) dL_law_791 (by decide) ?_
              cases hr
      have hr := ifn hr c_101
      by_cases c_115 : ((xs (Int32.toNatClampNeg v3)) &&& (nI 31)) = nI 23
      · have hr := ifp hr c_115
        refine Ev.tableK (pc := 32) (tgt := 793) 23 c_115 (by decide) dL_law_32 (by decide) rfl (by decide) ?_
        refine Ev.aload_n (pc := 793) dL_law_793 rfl ?_
        refine Ev.aload_n (pc := 794) dL_law_794 rfl ?_
        refine Ev.iload_n (pc := 795) dL_law_795 rfl ?_
        refine Ev.iconst (pc := 796) (v := nI 1) dL_law_796 (by decide) ?_
        refine Ev.iadd (pc := 797) dL_law_797 ?_
        obtain ⟨c_116, hr⟩ := ckB hr
        refine Ev.sld (pc := 798) (inb_in c_116) dL_law_798 ?_
        refine Ev.aload_n (pc := 799) dL_law_799 rfl ?_
        refine Ev.iload_n (pc := 800) dL_law_800 rfl ?_
        refine Ev.iconst (pc := 801) (v := nI 2) dL_law_801 (by decide) ?_
        refine Ev.iadd (pc := 802) dL_law_802 ?_
        obtain ⟨c_117, hr⟩ := ckB hr
        refine Ev.sld (pc := 803) (inb_in c_117) dL_law_803 ?_
        refine Ev.aload_n (pc := 804) dL_law_804 rfl ?_
        refine Ev.iload_n (pc := 805) dL_law_805 rfl ?_
        refine Ev.iconst (pc := 806) (v := nI 3) dL_law_806 (by decide) ?_
        refine Ev.iadd (pc := 807) dL_law_807 ?_
        obtain ⟨c_118, hr⟩ := ckB hr
        refine Ev.sld (pc := 808) (inb_in c_118) dL_law_808 ?_
        obtain ⟨x_47, hx_47, hr⟩ := Option.bind_eq_some_iff.mp hr
        refine Ev.cVi (pc := 809) (As := [.int _, .int _, .int _]) (kX8_rests _ _ _ _ _ _ _ hx_47) rfl rfl (ob_0 _) gL_law_X8_rests hdX8_rests rfl ⟨rfl, rfl⟩ ⟨Nat.le_of_ble_eq_true rfl, Nat.le_of_ble_eq_true rfl⟩ (Nat.le_of_ble_eq_true rfl) ⟨Nat.le_of_ble_eq_true rfl, Nat.le_of_ble_eq_true rfl⟩ dL_law_809 ?_
        refine Ev.aload_n (pc := 812) dL_law_812 rfl ?_
        refine Ev.aload_n (pc := 813) dL_law_813 rfl ?_
        refine Ev.iload_n (pc := 814) dL_law_814 rfl ?_
        refine Ev.iconst (pc := 815) (v := nI 1) dL_law_815 (by decide) ?_
        refine Ev.iadd (pc := 816) dL_law_816 ?_
        obtain ⟨c_119, hr⟩ := ckB hr
        refine Ev.sld (pc := 817) (inb_in c_119) dL_law_817 ?_
        refine Ev.aload_n (pc := 818) dL_law_818 rfl ?_
        refine Ev.iload_n (pc := 819) dL_law_819 rfl ?_
        refine Ev.iconst (pc := 820) (v := nI 2) dL_law_820 (by decide) ?_
        refine Ev.iadd (pc := 821) dL_law_821 ?_
        obtain ⟨c_120, hr⟩ := ckB hr
        refine Ev.sld (pc := 822) (inb_in c_120) dL_law_822 ?_
        refine Ev.aload_n (pc := 823) dL_law_823 rfl ?_
        refine Ev.iload_n (pc := 824) dL_law_824 rfl ?_
        refine Ev.iconst (pc := 825) (v := nI 3) dL_law_825 (by decide) ?_
        refine Ev.iadd (pc := 826) dL_law_826 ?_
        obtain ⟨c_121, hr⟩ := ckB hr
        refine Ev.sld (pc := 827) (inb_in c_121) dL_law_827 ?_
        obtain ⟨x_48, hx_48, hr⟩ := Option.bind_eq_some_iff.mp hr
        refine Ev.cVi (pc := 828) (As := [.int _, .int _, .int _]) (kX9_rests _ _ _ _ _ _ _ hx_48) rfl rfl (ob_29 _) gL_law_X9_rests hdX9_rests rfl ⟨rfl, rfl⟩ ⟨Nat.le_of_ble_eq_true rfl, Nat.le_of_ble_eq_true rfl⟩ (Nat.le_of_ble_eq_true rfl) ⟨Nat.le_of_ble_eq_true rfl, Nat.le_of_ble_eq_true rfl⟩ dL_law_828 ?_
        refine Ev.icmpeq (pc := 831) (tgt := 1051) dL_law_831 (by decide) (fun c_122 => ?_) (fun c_122 => ?_)
        · have hr := ifp hr c_122
          refine Ev.iinc (pc := 1051) (v := nI 5) dL_law_1051 rfl rfl rfl rfl ?_
          refine Ev.goto (pc := 1054) (tgt := 18) dL_law_1054 (by decide) ?_
          exact ih _ _ _ _ _ hr
        · have hr := ifn hr c_122
          refine Ev.iconst (pc := 834) (v := nI 0) dL_law_834 (by decide) ?_
          cases hr
      have hr := ifn hr c_115
      by_cases c_123 : ((xs (Int32.toNatClampNeg v3)) &&& (nI 31)) = nI 24
      · have hr := ifp hr c_123
        refine Ev.tableK (pc := 32) (tgt := 836) 24 c_123 (by decide) dL_law_32 (by decide) rfl (by decide) ?_
        refine Ev.aload_n (pc := 836) dL_law_836 rfl ?_
        refine Ev.aload_n (pc := 837) dL_law_837 rfl ?_
        refine Ev.iload_n (pc := 838) dL_law_838 rfl ?_
        refine Ev.iconst (pc := 839) (v := nI 1) dL_law_839 (by decide) ?_
        refine Ev.iadd (pc := 840) dL_law_840 ?_
        obtain ⟨c_124, hr⟩ := ckB hr
        refine Ev.sld (pc := 841) (inb_in c_124) dL_law_841 ?_
        refine Ev.aload_n (pc := 842) dL_law_842 rfl ?_
        refine Ev.iload_n (pc := 843) dL_law_843 rfl ?_
        refine Ev.iconst (pc := 844) (v := nI 2) dL_law_844 (by decide) ?_
        refine Ev.iadd (pc := 845) dL_law_845 ?_
        obtain ⟨c_125, hr⟩ := ckB hr
        refine Ev.sld (pc := 846) (inb_in c_125) dL_law_846 ?_
        refine Ev.aload_n (pc := 847) dL_law_847 rfl ?_
        refine Ev.iload_n (pc := 848) dL_law_848 rfl ?_
        refine Ev.iconst (pc := 849) (v := nI 3) dL_law_849 (by decide) ?_
        refine Ev.iadd (pc := 850) dL_law_850 ?_
        obtain ⟨c_126, hr⟩ := ckB hr
        refine Ev.sld (pc := 851) (inb_in c_126) dL_law_851 ?_
        refine Ev.aload_n (pc := 852) dL_law_852 rfl ?_
        refine Ev.iload_n (pc := 853) dL_law_853 rfl ?_
        refine Ev.iconst (pc := 854) (v := nI 4) dL_law_854 (by decide) ?_
        refine Ev.iadd (pc := 855) dL_law_855 ?_
        obtain ⟨c_127, hr⟩ := ckB hr
        refine Ev.sld (pc := 856) (inb_in c_127) dL_law_856 ?_
        refine Ev.ifeq (pc := 857) (tgt := 864) dL_law_857 (by decide) (fun c_128 => ?_) (fun c_128 => ?_)
        · have hr := ifp hr c_128
          refine Ev.iconst (pc := 864) (v := nI 0) dL_law_864 (by decide) ?_
          obtain ⟨x_49, hx_49, hr⟩ := Option.bind_eq_some_iff.mp hr
          refine Ev.cVi (pc := 865) (As := [.int _, .int _, .int _, .int _]) (kX8_storms _ _ _ _ _ _ _ _ hx_49) rfl rfl (ob_0 _) gL_law_X8_storms hdX8_storms rfl ⟨rfl, rfl⟩ ⟨Nat.le_of_ble_eq_true rfl, Nat.le_of_ble_eq_true rfl⟩ (Nat.le_of_ble_eq_true rfl) ⟨Nat.le_of_ble_eq_true rfl, Nat.le_of_ble_eq_true rfl⟩ dL_law_865 ?_
          refine Ev.aload_n (pc := 868) dL_law_868 rfl ?_
          refine Ev.aload_n (pc := 869) dL_law_869 rfl ?_
          refine Ev.iload_n (pc := 870) dL_law_870 rfl ?_
          refine Ev.iconst (pc := 871) (v := nI 1) dL_law_871 (by decide) ?_
          refine Ev.iadd (pc := 872) dL_law_872 ?_
          obtain ⟨c_129, hr⟩ := ckB hr
          refine Ev.sld (pc := 873) (inb_in c_129) dL_law_873 ?_
          refine Ev.aload_n (pc := 874) dL_law_874 rfl ?_
          refine Ev.iload_n (pc := 875) dL_law_875 rfl ?_
          refine Ev.iconst (pc := 876) (v := nI 2) dL_law_876 (by decide) ?_
          refine Ev.iadd (pc := 877) dL_law_877 ?_
          obtain ⟨c_130, hr⟩ := ckB hr
          refine Ev.sld (pc := 878) (inb_in c_130) dL_law_878 ?_
          refine Ev.aload_n (pc := 879) dL_law_879 rfl ?_
          refine Ev.iload_n (pc := 880) dL_law_880 rfl ?_
          refine Ev.iconst (pc := 881) (v := nI 3) dL_law_881 (by decide) ?_
          refine Ev.iadd (pc := 882) dL_law_882 ?_
          obtain ⟨c_131, hr⟩ := ckB hr
          refine Ev.sld (pc := 883) (inb_in c_131) dL_law_883 ?_
          refine Ev.aload_n (pc := 884) dL_law_884 rfl ?_
          refine Ev.iload_n (pc := 885) dL_law_885 rfl ?_
          refine Ev.iconst (pc := 886) (v := nI 4) dL_law_886 (by decide) ?_
          refine Ev.iadd (pc := 887) dL_law_887 ?_
          obtain ⟨c_132, hr⟩ := ckB hr
          refine Ev.sld (pc := 888) (inb_in c_132) dL_law_888 ?_
          refine Ev.ifeq (pc := 889) (tgt := 896) dL_law_889 (by decide) (fun c_133 => ?_) (fun c_133 => ?_)
          · have hr := ifp hr c_133
            refine Ev.iconst (pc := 896) (v := nI 0) dL_law_896 (by decide) ?_
            obtain ⟨x_50, hx_50, hr⟩ := Option.bind_eq_some_iff.mp hr
            refine Ev.cVi (pc := 897) (As := [.int _, .int _, .int _, .int _]) (kX9_storms _ _ _ _ _ _ _ _ hx_50) rfl rfl (ob_29 _) gL_law_X9_storms hdX9_storms rfl ⟨rfl, rfl⟩ ⟨Nat.le_of_ble_eq_true rfl, Nat.le_of_ble_eq_true rfl⟩ (Nat.le_of_ble_eq_true rfl) ⟨Nat.le_of_ble_eq_true rfl, Nat.le_of_ble_eq_true rfl⟩ dL_law_897 ?_
            refine Ev.icmpeq (pc := 900) (tgt := 1051) dL_law_900 (by decide) (fun c_134 => ?_) (fun c_134 => ?_)
            · have hr := ifp hr c_134
              refine Ev.iinc (pc := 1051) (v := nI 5) dL_law_1051 rfl rfl rfl rfl ?_
              refine Ev.goto (pc := 1054) (tgt := 18) dL_law_1054 (by decide) ?_
              exact ih _ _ _ _ _ hr
            · have hr := ifn hr c_134
              refine Ev.iconst (pc := 903) (v := nI 0) dL_law_903 (by decide) ?_
              cases hr
          · have hr := ifn hr c_133
            refine Ev.iconst (pc := 892) (v := nI 1) dL_law_892 (by decide) ?_
            refine Ev.goto (pc := 893) (tgt := 897) dL_law_893 (by decide) ?_
            obtain ⟨x_51, hx_51, hr⟩ := Option.bind_eq_some_iff.mp hr
            refine Ev.cVi (pc := 897) (As := [.int _, .int _, .int _, .int _]) (kX9_storms _ _ _ _ _ _ _ _ hx_51) rfl rfl (ob_29 _) gL_law_X9_storms hdX9_storms rfl ⟨rfl, rfl⟩ ⟨Nat.le_of_ble_eq_true rfl, Nat.le_of_ble_eq_true rfl⟩ (Nat.le_of_ble_eq_true rfl) ⟨Nat.le_of_ble_eq_true rfl, Nat.le_of_ble_eq_true rfl⟩ dL_law_897 ?_
            refine Ev.icmpeq (pc := 900) (tgt := 1051) dL_law_900 (by decide) (fun c_135 => ?_) (fun c_135 => ?_)
            · have hr := ifp hr c_135
              refine Ev.iinc (pc := 1051) (v := nI 5) dL_law_1051 rfl rfl rfl rfl ?_
              refine Ev.goto (pc := 1054) (tgt := 18) dL_law_1054 (by decide) ?_
              exact ih _ _ _ _ _ hr
            · have hr := ifn hr c_135
              refine Ev.iconst (pc := 903) (v := nI 0) dL_law_903 (by decide) ?_
              cases hr
        · have hr := ifn hr c_128
          refine Ev.iconst (pc := 860) (v := nI 1) dL_law_860 (by decide) ?_
          refine Ev.goto (pc := 861) (tgt := 865) dL_law_861 (by decide) ?_
          obtain ⟨x_52, hx_52, hr⟩ := Option.bind_eq_some_iff.mp hr
          refine Ev.cVi (pc := 865) (As := [.int _, .int _, .int _, .int _]) (kX8_storms _ _ _ _ _ _ _ _ hx_52) rfl rfl (ob_0 _) gL_law_X8_storms hdX8_storms rfl ⟨rfl, rfl⟩ ⟨Nat.le_of_ble_eq_true rfl, Nat.le_of_ble_eq_true rfl⟩ (Nat.le_of_ble_eq_true rfl) ⟨Nat.le_of_ble_eq_true rfl, Nat.le_of_ble_eq_true rfl⟩ dL_law_865 ?_
          refine Ev.aload_n (pc := 868) dL_law_868 rfl ?_
          refine Ev.aload_n (pc := 869) dL_law_869 rfl ?_
          refine Ev.iload_n (pc := 870) dL_law_870 rfl ?_
          refine Ev.iconst (pc := 871) (v := nI 1) dL_law_871 (by decide) ?_
          refine Ev.iadd (pc := 872) dL_law_872 ?_
          obtain ⟨c_136, hr⟩ := ckB hr
          refine Ev.sld (pc := 873) (inb_in c_136) dL_law_873 ?_
          refine Ev.aload_n (pc := 874) dL_law_874 rfl ?_
          refine Ev.iload_n (pc := 875) dL_law_875 rfl ?_
          refine Ev.iconst (pc := 876) (v := nI 2) dL_law_876 (by decide) ?_
          refine Ev.iadd (pc := 877) dL_law_877 ?_
          obtain ⟨c_137, hr⟩ := ckB hr
          refine Ev.sld (pc := 878) (inb_in c_137) dL_law_878 ?_
          refine Ev.aload_n (pc := 879) dL_law_879 rfl ?_
          refine Ev.iload_n (pc := 880) dL_law_880 rfl ?_
          refine Ev.iconst (pc := 881) (v := nI 3) dL_law_881 (by decide) ?_
          refine Ev.iadd (pc := 882) dL_law_882 ?_
          obtain ⟨c_138, hr⟩ := ckB hr
          refine Ev.sld (pc := 883) (inb_in c_138) dL_law_883 ?_
          refine Ev.aload_n (pc := 884) dL_law_884 rfl ?_
          refine Ev.iload_n (pc := 885) dL_law_885 rfl ?_
          refine Ev.iconst (pc := 886) (v := nI 4) dL_law_886 (by decide) ?_
          refine Ev.iadd (pc := 887) dL_law_887 ?_
          obtain ⟨c_139, hr⟩ := ckB hr
          refine Ev.sld (pc := 888) (inb_in c_139) dL_law_888 ?_
          refine Ev.ifeq (pc := 889) (tgt := 896) dL_law_889 (by decide) (fun c_140 => ?_) (fun c_140 => ?_)
          · have hr := ifp hr c_140
            refine Ev.iconst (pc := 896) (v := nI 0) dL_law_896 (by decide) ?_
            obtain ⟨x_53, hx_53, hr⟩ := Option.bind_eq_some_iff.mp hr
            refine Ev.cVi (pc := 897) (As := [.int _, .int _, .int _, .int _]) (kX9_storms _ _ _ _ _ _ _ _ hx_53) rfl rfl (ob_29 _) gL_law_X9_storms hdX9_storms rfl ⟨rfl, rfl⟩ ⟨Nat.le_of_ble_eq_true rfl, Nat.le_of_ble_eq_true rfl⟩ (Nat.le_of_ble_eq_true rfl) ⟨Nat.le_of_ble_eq_true rfl, Nat.le_of_ble_eq_true rfl⟩ dL_law_897 ?_
            refine Ev.icmpeq (pc := 900) (tgt := 1051) dL_law_900 (by decide) (fun c_141 => ?_) (fun c_141 => ?_)
            · have hr := ifp hr c_141
              refine Ev.iinc (pc := 1051) (v := nI 5) dL_law_1051 rfl rfl rfl rfl ?_
              refine Ev.goto (pc := 1054) (tgt := 18) dL_law_1054 (by decide) ?_
              exact ih _ _ _ _ _ hr
            · have hr := ifn hr c_141
              refine Ev.iconst (pc := 903) (v := nI 0) dL_law_903 (by decide) ?_
              cases hr
          · have hr := ifn hr c_140
            refine Ev.iconst (pc := 892) (v := nI 1) dL_law_892 (by decide) ?_
            refine Ev.goto (pc := 893) (tgt := 897) dL_law_893 (by decide) ?_
            obtain ⟨x_54, hx_54, hr⟩ := Option.bind_eq_some_iff.mp hr
            refine Ev.cVi (pc := 897) (As := [.int _, .int _, .int _, .int _]) (kX9_storms _ _ _ _ _ _ _ _ hx_54) rfl rfl (ob_29 _) gL_law_X9_storms hdX9_storms rfl ⟨rfl, rfl⟩ ⟨Nat.le_of_ble_eq_true rfl, Nat.le_of_ble_eq_true rfl⟩ (Nat.le_of_ble_eq_true rfl) ⟨Nat.le_of_ble_eq_true rfl, Nat.le_of_ble_eq_true rfl⟩ dL_law_897 ?_
            refine Ev.icmpeq (pc := 900) (tgt := 1051) dL_law_900 (by decide) (fun c_142 => ?_) (fun c_142 => ?_)
            · have hr := ifp hr c_142
              refine Ev.iinc (pc := 1051) (v := nI 5) dL_law_1051 rfl rfl rfl rfl ?_
              refine Ev.goto (pc := 1054) (tgt := 18) dL_law_1054 (by decide) ?_
              exact ih _ _ _ _ _ hr
            · have hr := ifn hr c_142
              refine Ev.iconst (pc := 903) (v := nI 0) dL_law_903 (by decide) ?_
              cases hr
      have hr := ifn hr c_123
      by_cases c_143 : ((xs (Int32.toNatClampNeg v3)) &&& (nI 31)) = nI 25
      · have hr := ifp hr c_143
        refine Ev.tableK (pc := 32) (tgt := 905) 25 c_143 (by decide) dL_law_32 (by decide) rfl (by decide) ?_
        refine Ev.aload_n (pc := 905) dL_law_905 rfl ?_
        refine Ev.aload_n (pc := 906) dL_law_906 rfl ?_
        refine Ev.iload_n (pc := 907) dL_law_907 rfl ?_
        refine Ev.iconst (pc := 908) (v := nI 1) dL_law_908 (by decide) ?_
        refine Ev.iadd (pc := 909) dL_law_909 ?_
        obtain ⟨c_144, hr⟩ := ckB hr
        refine Ev.sld (pc := 910) (inb_in c_144) dL_law_910 ?_
        refine Ev.i2l (pc := 911) dL_law_911 ?_
        refine Ev.bipush (pc := 912) (v := nI 32) dL_law_912 (by decide) ?_
        refine Ev.lshl (pc := 914) dL_law_914 ?_
        refine Ev.aload_n (pc := 915) dL_law_915 rfl ?_
        refine Ev.iload_n (pc := 916) dL_law_916 rfl ?_
        refine Ev.iconst (pc := 917) (v := nI 2) dL_law_917 (by decide) ?_
        refine Ev.iadd (pc := 918) dL_law_918 ?_
        obtain ⟨c_145, hr⟩ := ckB hr
        refine Ev.sld (pc := 919) (inb_in c_145) dL_law_919 ?_
        refine Ev.i2l (pc := 920) dL_law_920 ?_
        refine Ev.ldc2 (pc := 921) (v := 4294967295) (by decide +kernel) dL_law_921 ?_
        refine Ev.land (pc := 924) dL_law_924 ?_
        refine Ev.lor (pc := 925) dL_law_925 ?_
        refine Ev.cVl (pc := 926) (As := [.long _]) (kX8_seed _ _ _ _ _) rfl rfl (ob_0 _) gL_law_X8_seed hdX8_seed rfl ⟨rfl, rfl⟩ ⟨Nat.le_of_ble_eq_true rfl, Nat.le_of_ble_eq_true rfl⟩ (Nat.le_of_ble_eq_true rfl) ⟨Nat.le_of_ble_eq_true rfl, Nat.le_of_ble_eq_true rfl⟩ dL_law_926 ?_
        refine Ev.aload_n (pc := 929) dL_law_929 rfl ?_
        refine Ev.aload_n (pc := 930) dL_law_930 rfl ?_
        refine Ev.iload_n (pc := 931) dL_law_931 rfl ?_
        refine Ev.iconst (pc := 932) (v := nI 1) dL_law_932 (by decide) ?_
        refine Ev.iadd (pc := 933) dL_law_933 ?_
        obtain ⟨c_146, hr⟩ := ckB hr
        refine Ev.sld (pc := 934) (inb_in c_146) dL_law_934 ?_
        refine Ev.i2l (pc := 935) dL_law_935 ?_
        refine Ev.bipush (pc := 936) (v := nI 32) dL_law_936 (by decide) ?_
        refine Ev.lshl (pc := 938) dL_law_938 ?_
        refine Ev.aload_n (pc := 939) dL_law_939 rfl ?_
        refine Ev.iload_n (pc := 940) dL_law_940 rfl ?_
        refine Ev.iconst (pc := 941) (v := nI 2) dL_law_941 (by decide) ?_
        refine Ev.iadd (pc := 942) dL_law_942 ?_
        obtain ⟨c_147, hr⟩ := ckB hr
        refine Ev.sld (pc := 943) (inb_in c_147) dL_law_943 ?_
        refine Ev.i2l (pc := 944) dL_law_944 ?_
        refine Ev.ldc2 (pc := 945) (v := 4294967295) (by decide +kernel) dL_law_945 ?_
        refine Ev.land (pc := 948) dL_law_948 ?_
        refine Ev.lor (pc := 949) dL_law_949 ?_
        refine Ev.cVl (pc := 950) (As := [.long _]) (kX9_seed _ _ _ _ _) rfl rfl (ob_29 _) gL_law_X9_seed hdX9_seed rfl ⟨rfl, rfl⟩ ⟨Nat.le_of_ble_eq_true rfl, Nat.le_of_ble_eq_true rfl⟩ (Nat.le_of_ble_eq_true rfl) ⟨Nat.le_of_ble_eq_true rfl, Nat.le_of_ble_eq_true rfl⟩ dL_law_950 ?_
        refine Ev.lcmp (pc := 953) dL_law_953 ?_
        refine Ev.ifeq (pc := 954) (tgt := 1051) dL_law_954 (by decide) (fun c_148 => ?_) (fun c_148 => ?_)
        · have hr := ifp hr c_148
          refine Ev.iinc (pc := 1051) (v := nI 5) dL_law_1051 rfl rfl rfl rfl ?_
          refine Ev.goto (pc := 1054) (tgt := 18) dL_law_1054 (by decide) ?_
          exact ih _ _ _ _ _ hr
        · have hr := ifn hr c_148
          refine Ev.iconst (pc := 957) (v := nI 0) dL_law_957 (by decide) ?_
          cases hr
      have hr := ifn hr c_143
      by_cases c_149 : ((xs (Int32.toNatClampNeg v3)) &&& (nI 31)) = nI 26
      · have hr := ifp hr c_149
        refine Ev.tableK (pc := 32) (tgt := 959) 26 c_149 (by decide) dL_law_32 (by decide) rfl (by decide) ?_
        refine Ev.aload_n (pc := 959) dL_law_959 rfl ?_
        refine Ev.aload_n (pc := 960) dL_law_960 rfl ?_
        refine Ev.iload_n (pc := 961) dL_law_961 rfl ?_
        refine Ev.iconst (pc := 962) (v := nI 1) dL_law_962 (by decide) ?_
        refine Ev.iadd (pc := 963) dL_law_963 ?_
        obtain ⟨c_150, hr⟩ := ckB hr
        refine Ev.sld (pc := 964) (inb_in c_150) dL_law_964 ?_
        obtain ⟨x_55, hx_55, hr⟩ := Option.bind_eq_some_iff.mp hr
        refine Ev.cVi (pc := 965) (As := [.int _]) (kX8_springs _ _ _ _ _ hx_55) rfl rfl (ob_0 _) gL_law_X8_springs hdX8_springs rfl ⟨rfl, rfl⟩ ⟨Nat.le_of_ble_eq_true rfl, Nat.le_of_ble_eq_true rfl⟩ (Nat.le_of_ble_eq_true rfl) ⟨Nat.le_of_ble_eq_true rfl, Nat.le_of_ble_eq_true rfl⟩ dL_law_965 ?_
        refine Ev.aload_n (pc := 968) dL_law_968 rfl ?_
        refine Ev.aload_n (pc := 969) dL_law_969 rfl ?_
        refine Ev.iload_n (pc := 970) dL_law_970 rfl ?_
        refine Ev.iconst (pc := 971) (v := nI 1) dL_law_971 (by decide) ?_
        refine Ev.iadd (pc := 972) dL_law_972 ?_
        obtain ⟨c_151, hr⟩ := ckB hr
        refine Ev.sld (pc := 973) (inb_in c_151) dL_law_973 ?_
        obtain ⟨x_56, hx_56, hr⟩ := Option.bind_eq_some_iff.mp hr
        refine Ev.cVi (pc := 974) (As := [.int _]) (kX9_springs _ _ _ _ _ hx_56) rfl rfl (ob_29 _) gL_law_X9_springs hdX9_springs rfl ⟨rfl, rfl⟩ ⟨Nat.le_of_ble_eq_true rfl, Nat.le_of_ble_eq_true rfl⟩ (Nat.le_of_ble_eq_true rfl) ⟨Nat.le_of_ble_eq_true rfl, Nat.le_of_ble_eq_true rfl⟩ dL_law_974 ?_
        refine Ev.icmpeq (pc := 977) (tgt := 1051) dL_law_977 (by decide) (fun c_152 => ?_) (fun c_152 => ?_)
        · have hr := ifp hr c_152
          refine Ev.iinc (pc := 1051) (v := nI 5) dL_law_1051 rfl rfl rfl rfl ?_
          refine Ev.goto (pc := 1054) (tgt := 18) dL_law_1054 (by decide) ?_
          exact ih _ _ _ _ _ hr
        · have hr := ifn hr c_152
          refine Ev.iconst (pc := 980) (v := nI 0) dL_law_980 (by decide) ?_
          cases hr
      have hr := ifn hr c_149
      by_cases c_153 : ((xs (Int32.toNatClampNeg v3)) &&& (nI 31)) = nI 27
      · have hr := ifp hr c_153
        refine Ev.tableK (pc := 32) (tgt := 982) 27 c_153 (by decide) dL_law_32 (by decide) rfl (by decide) ?_
        refine Ev.aload_n (pc := 982) dL_law_982 rfl ?_
        refine Ev.aload_n (pc := 983) dL_law_983 rfl ?_
        refine Ev.iload_n (pc := 984) dL_law_984 rfl ?_
        refine Ev.iconst (pc := 985) (v := nI 1) dL_law_985 (by decide) ?_
        refine Ev.iadd (pc := 986) dL_law_986 ?_
        obtain ⟨c_154, hr⟩ := ckB hr
        refine Ev.sld (pc := 987) (inb_in c_154) dL_law_987 ?_
        obtain ⟨x_57, hx_57, hr⟩ := Option.bind_eq_some_iff.mp hr
        refine Ev.cVi (pc := 988) (As := [.int _]) (kX8_keep _ _ _ _ _ hx_57) rfl rfl (ob_0 _) gL_law_X8_keep hdX8_keep rfl ⟨rfl, rfl⟩ ⟨Nat.le_of_ble_eq_true rfl, Nat.le_of_ble_eq_true rfl⟩ (Nat.le_of_ble_eq_true rfl) ⟨Nat.le_of_ble_eq_true rfl, Nat.le_of_ble_eq_true rfl⟩ dL_law_988 ?_
        refine Ev.aload_n (pc := 991) dL_law_991 rfl ?_
        refine Ev.aload_n (pc := 992) dL_law_992 rfl ?_
        refine Ev.iload_n (pc := 993) dL_law_993 rfl ?_
        refine Ev.iconst (pc := 994) (v := nI 1) dL_law_994 (by decide) ?_
        refine Ev.iadd (pc := 995) dL_law_995 ?_
        obtain ⟨c_155, hr⟩ := ckB hr
        refine Ev.sld (pc := 996) (inb_in c_155) dL_law_996 ?_
        obtain ⟨x_58, hx_58, hr⟩ := Option.bind_eq_some_iff.mp hr
        refine Ev.cVi (pc := 997) (As := [.int _]) (kX9_keep _ _ _ _ _ hx_58) rfl rfl (ob_29 _) gL_law_X9_keep hdX9_keep rfl ⟨rfl, rfl⟩ ⟨Nat.le_of_ble_eq_true rfl, Nat.le_of_ble_eq_true rfl⟩ (Nat.le_of_ble_eq_true rfl) ⟨Nat.le_of_ble_eq_true rfl, Nat.le_of_ble_eq_true rfl⟩ dL_law_997 ?_
        refine Ev.icmpeq (pc := 1000) (tgt := 1051) dL_law_1000 (by decide) (fun c_156 => ?_) (fun c_156 => ?_)
        · have hr := ifp hr c_156
          refine Ev.iinc (pc := 1051) (v := nI 5) dL_law_1051 rfl rfl rfl rfl ?_
          refine Ev.goto (pc := 1054) (tgt := 18) dL_law_1054 (by decide) ?_
          exact ih _ _ _ _ _ hr
        · have hr := ifn hr c_156
          refine Ev.iconst (pc := 1003) (v := nI 0) dL_law_1003 (by decide) ?_
          cases hr
      have hr := ifn hr c_153
      by_cases c_157 : ((xs (Int32.toNatClampNeg v3)) &&& (nI 31)) = nI 28
      · have hr := ifp hr c_157
        refine Ev.tableK (pc := 32) (tgt := 1005) 28 c_157 (by decide) dL_law_32 (by decide) rfl (by decide) ?_
        refine Ev.aload_n (pc := 1005) dL_law_1005 rfl ?_
        refine Ev.aload_n (pc := 1006) dL_law_1006 rfl ?_
        refine Ev.iload_n (pc := 1007) dL_law_1007 rfl ?_
        refine Ev.iconst (pc := 1008) (v := nI 1) dL_law_1008 (by decide) ?_
        refine Ev.iadd (pc := 1009) dL_law_1009 ?_
        obtain ⟨c_158, hr⟩ := ckB hr
        refine Ev.sld (pc := 1010) (inb_in c_158) dL_law_1010 ?_
        obtain ⟨x_59, hx_59, hr⟩ := Option.bind_eq_some_iff.mp hr
        refine Ev.cVi (pc := 1011) (As := [.int _]) (kX8_again _ _ _ _ _ hx_59) rfl rfl (ob_0 _) gL_law_X8_again hdX8_again rfl ⟨rfl, rfl⟩ ⟨Nat.le_of_ble_eq_true rfl, Nat.le_of_ble_eq_true rfl⟩ (Nat.le_of_ble_eq_true rfl) ⟨Nat.le_of_ble_eq_true rfl, Nat.le_of_ble_eq_true rfl⟩ dL_law_1011 ?_
        refine Ev.aload_n (pc := 1014) dL_law_1014 rfl ?_
        refine Ev.aload_n (pc := 1015) dL_law_1015 rfl ?_
        refine Ev.iload_n (pc := 1016) dL_law_1016 rfl ?_
        refine Ev.iconst (pc := 1017) (v := nI 1) dL_law_1017 (by decide) ?_
        refine Ev.iadd (pc := 1018) dL_law_1018 ?_
        obtain ⟨c_159, hr⟩ := ckB hr
        refine Ev.sld (pc := 1019) (inb_in c_159) dL_law_1019 ?_
        obtain ⟨x_60, hx_60, hr⟩ := Option.bind_eq_some_iff.mp hr
        refine Ev.cVi (pc := 1020) (As := [.int _]) (kX9_again _ _ _ _ _ hx_60) rfl rfl (ob_29 _) gL_law_X9_again hdX9_again rfl ⟨rfl, rfl⟩ ⟨Nat.le_of_ble_eq_true rfl, Nat.le_of_ble_eq_true rfl⟩ (Nat.le_of_ble_eq_true rfl) ⟨Nat.le_of_ble_eq_true rfl, Nat.le_of_ble_eq_true rfl⟩ dL_law_1020 ?_
        refine Ev.icmpeq (pc := 1023) (tgt := 1051) dL_law_1023 (by decide) (fun c_160 => ?_) (fun c_160 => ?_)
        · have hr := ifp hr c_160
          refine Ev.iinc (pc := 1051) (v := nI 5) dL_law_1051 rfl rfl rfl rfl ?_
          refine Ev.goto (pc := 1054) (tgt := 18) dL_law_1054 (by decide) ?_
          exact ih _ _ _ _ _ hr
        · have hr := ifn hr c_160
          refine Ev.iconst (pc := 1026) (v := nI 0) dL_law_1026 (by decide) ?_
          cases hr
      have hr := ifn hr c_157
      by_cases c_161 : ((xs (Int32.toNatClampNeg v3)) &&& (nI 31)) = nI 29
      · have hr := ifp hr c_161
        refine Ev.tableK (pc := 32) (tgt := 1028) 29 c_161 (by decide) dL_law_32 (by decide) rfl (by decide) ?_
        refine Ev.aload_n (pc := 1028) dL_law_1028 rfl ?_
        refine Ev.aload_n (pc := 1029) dL_law_1029 rfl ?_
        refine Ev.iload_n (pc := 1030) dL_law_1030 rfl ?_
        refine Ev.iconst (pc := 1031) (v := nI 1) dL_law_1031 (by decide) ?_
        refine Ev.iadd (pc := 1032) dL_law_1032 ?_
        obtain ⟨c_162, hr⟩ := ckB hr
        refine Ev.sld (pc := 1033) (inb_in c_162) dL_law_1033 ?_
        obtain ⟨x_61, hx_61, hr⟩ := Option.bind_eq_some_iff.mp hr
        refine Ev.cVi (pc := 1034) (As := [.int _]) (kX8_count _ _ _ _ _ hx_61) rfl rfl (ob_0 _) gL_law_X8_count hdX8_count rfl ⟨rfl, rfl⟩ ⟨Nat.le_of_ble_eq_true rfl, Nat.le_of_ble_eq_true rfl⟩ (Nat.le_of_ble_eq_true rfl) ⟨Nat.le_of_ble_eq_true rfl, Nat.le_of_ble_eq_true rfl⟩ dL_law_1034 ?_
        refine Ev.aload_n (pc := 1037) dL_law_1037 rfl ?_
        refine Ev.aload_n (pc := 1038) dL_law_1038 rfl ?_
        refine Ev.iload_n (pc := 1039) dL_law_1039 rfl ?_
        refine Ev.iconst (pc := 1040) (v := nI 1) dL_law_1040 (by decide) ?_
        refine Ev.iadd (pc := 1041) dL_law_1041 ?_
        obtain ⟨c_163, hr⟩ := ckB hr
        refine Ev.sld (pc := 1042) (inb_in c_163) dL_law_1042 ?_
        obtain ⟨x_62, hx_62, hr⟩ := Option.bind_eq_some_iff.mp hr
        refine Ev.cVi (pc := 1043) (As := [.int _]) (kX9_count _ _ _ _ _ hx_62) rfl rfl (ob_29 _) gL_law_X9_count hdX9_count rfl ⟨rfl, rfl⟩ ⟨Nat.le_of_ble_eq_true rfl, Nat.le_of_ble_eq_true rfl⟩ (Nat.le_of_ble_eq_true rfl) ⟨Nat.le_of_ble_eq_true rfl, Nat.le_of_ble_eq_true rfl⟩ dL_law_1043 ?_
        refine Ev.icmpeq (pc := 1046) (tgt := 1051) dL_law_1046 (by decide) (fun c_164 => ?_) (fun c_164 => ?_)
        · have hr := ifp hr c_164
          refine Ev.iinc (pc := 1051) (v := nI 5) dL_law_1051 rfl rfl rfl rfl ?_
          refine Ev.goto (pc := 1054) (tgt := 18) dL_law_1054 (by decide) ?_
          exact ih _ _ _ _ _ hr
        · have hr := ifn hr c_164
          refine Ev.iconst (pc := 1049) (v := nI 0) dL_law_1049 (by decide) ?_
          cases hr
      have hr := ifn hr c_161
      refine Ev.tableD (pc := 32) (tgt := 1051) 30 (by decide) (fun j hj => by
          have hj2 : j = 0 ∨ j = 1 ∨ j = 2 ∨ j = 3 ∨ j = 4 ∨ j = 5 ∨ j = 6 ∨ j = 7 ∨ j = 8 ∨ j = 9 ∨ j = 10 ∨ j = 11 ∨ j = 12 ∨ j = 13 ∨ j = 14 ∨ j = 15 ∨ j = 16 ∨ j = 17 ∨ j = 18 ∨ j = 19 ∨ j = 20 ∨ j = 21 ∨ j = 22 ∨ j = 23 ∨ j = 24 ∨ j = 25 ∨ j = 26 ∨ j = 27 ∨ j = 28 ∨ j = 29 := by omega
          rcases hj2 with rfl | rfl | rfl | rfl | rfl | rfl | rfl | rfl | rfl | rfl | rfl | rfl | rfl | rfl | rfl | rfl | rfl | rfl | rfl | rfl | rfl | rfl | rfl | rfl | rfl | rfl | rfl | rfl | rfl | rfl <;> assumption) rfl dL_law_32 (by decide) ?_
      refine Ev.iinc (pc := 1051) (v := nI 5) dL_law_1051 rfl rfl rfl rfl ?_
      refine Ev.goto (pc := 1054) (tgt := 18) dL_law_1054 (by decide) ?_
      exact ih _ _ _ _ _ hr
