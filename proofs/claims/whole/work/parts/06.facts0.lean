theorem fl_0_0 (g : Hg) (q : Int64) (g2 : Hg) (q2 : Int64) : Fld (g, q, g2, q2) 0 8 0 (.ref 1) := ⟨by decide, fun G => ⟨_, rfl, rfl⟩⟩
theorem fl_0_1 (g : Hg) (q : Int64) (g2 : Hg) (q2 : Int64) : Fld (g, q, g2, q2) 0 8 1 (.ref 2) := ⟨by decide, fun G => ⟨_, rfl, rfl⟩⟩
theorem fl_0_2 (g : Hg) (q : Int64) (g2 : Hg) (q2 : Int64) : Fld (g, q, g2, q2) 0 8 2 (.ref 3) := ⟨by decide, fun G => ⟨_, rfl, rfl⟩⟩
theorem fl_0_3 (g : Hg) (q : Int64) (g2 : Hg) (q2 : Int64) : Fld (g, q, g2, q2) 0 8 3 (.ref 4) := ⟨by decide, fun G => ⟨_, rfl, rfl⟩⟩
theorem fl_0_4 (g : Hg) (q : Int64) (g2 : Hg) (q2 : Int64) : Fld (g, q, g2, q2) 0 8 4 (.ref 5) := ⟨by decide, fun G => ⟨_, rfl, rfl⟩⟩
theorem fl_0_5 (g : Hg) (q : Int64) (g2 : Hg) (q2 : Int64) : Fld (g, q, g2, q2) 0 8 5 (.ref 6) := ⟨by decide, fun G => ⟨_, rfl, rfl⟩⟩
theorem fl_0_6 (g : Hg) (q : Int64) (g2 : Hg) (q2 : Int64) : Fld (g, q, g2, q2) 0 8 6 (.ref 7) := ⟨by decide, fun G => ⟨_, rfl, rfl⟩⟩
theorem fl_0_7 (g : Hg) (q : Int64) (g2 : Hg) (q2 : Int64) : Fld (g, q, g2, q2) 0 8 7 (.ref 8) := ⟨by decide, fun G => ⟨_, rfl, rfl⟩⟩
theorem fl_0_8 (g : Hg) (q : Int64) (g2 : Hg) (q2 : Int64) : Fld (g, q, g2, q2) 0 8 8 (.ref 9) := ⟨by decide, fun G => ⟨_, rfl, rfl⟩⟩
theorem fl_0_9 (g : Hg) (q : Int64) (g2 : Hg) (q2 : Int64) : Fld (g, q, g2, q2) 0 8 9 (.long q) := ⟨by decide, fun G => ⟨_, rfl, rfl⟩⟩
theorem pu_0_9 (g : Hg) (q : Int64) (g2 : Hg) (q2 : Int64) (x : Int64) : Put (g, q, g2, q2) (g, x, g2, q2) 0 8 9 (.long x) := ⟨by decide, fun G => ⟨_, rfl, Nat.le_of_ble_eq_true rfl, rfl, wK_q⟩⟩
theorem ob_0 (h : Hp) : 0 < 48 ∧ ∀ G : Gx, ∃ fs, wK G h 0 = .inr (8, fs) := ⟨by decide, fun G => ⟨_, rfl⟩⟩
theorem fl_1_0 (g : Hg) (q : Int64) (g2 : Hg) (q2 : Int64) : Fld (g, q, g2, q2) 1 7 0 (.ref 10) := ⟨by decide, fun G => ⟨_, rfl, rfl⟩⟩
theorem fl_1_1 (g : Hg) (q : Int64) (g2 : Hg) (q2 : Int64) : Fld (g, q, g2, q2) 1 7 1 (.int (g 1 1)) := ⟨by decide, fun G => ⟨_, rfl, rfl⟩⟩
theorem pu_1_1 (g : Hg) (q : Int64) (g2 : Hg) (q2 : Int64) (x : Int32) : Put (g, q, g2, q2) (stA g 1 1 x, q, g2, q2) 1 7 1 (.int x) := ⟨by decide, fun G => ⟨_, rfl, Nat.le_of_ble_eq_true rfl, rfl, wK_A _⟩⟩
theorem fl_1_2 (g : Hg) (q : Int64) (g2 : Hg) (q2 : Int64) : Fld (g, q, g2, q2) 1 7 2 (.int (g 1 2)) := ⟨by decide, fun G => ⟨_, rfl, rfl⟩⟩
theorem pu_1_2 (g : Hg) (q : Int64) (g2 : Hg) (q2 : Int64) (x : Int32) : Put (g, q, g2, q2) (stA g 1 2 x, q, g2, q2) 1 7 2 (.int x) := ⟨by decide, fun G => ⟨_, rfl, Nat.le_of_ble_eq_true rfl, rfl, wK_A _⟩⟩
theorem fl_1_3 (g : Hg) (q : Int64) (g2 : Hg) (q2 : Int64) : Fld (g, q, g2, q2) 1 7 3 (.int (g 1 3)) := ⟨by decide, fun G => ⟨_, rfl, rfl⟩⟩
theorem pu_1_3 (g : Hg) (q : Int64) (g2 : Hg) (q2 : Int64) (x : Int32) : Put (g, q, g2, q2) (stA g 1 3 x, q, g2, q2) 1 7 3 (.int x) := ⟨by decide, fun G => ⟨_, rfl, Nat.le_of_ble_eq_true rfl, rfl, wK_A _⟩⟩
theorem fl_1_4 (g : Hg) (q : Int64) (g2 : Hg) (q2 : Int64) : Fld (g, q, g2, q2) 1 7 4 (.int (g 1 4)) := ⟨by decide, fun G => ⟨_, rfl, rfl⟩⟩
theorem pu_1_4 (g : Hg) (q : Int64) (g2 : Hg) (q2 : Int64) (x : Int32) : Put (g, q, g2, q2) (stA g 1 4 x, q, g2, q2) 1 7 4 (.int x) := ⟨by decide, fun G => ⟨_, rfl, Nat.le_of_ble_eq_true rfl, rfl, wK_A _⟩⟩
theorem ob_1 (h : Hp) : 1 < 48 ∧ ∀ G : Gx, ∃ fs, wK G h 1 = .inr (7, fs) := ⟨by decide, fun G => ⟨_, rfl⟩⟩
theorem fl_2_0 (g : Hg) (q : Int64) (g2 : Hg) (q2 : Int64) : Fld (g, q, g2, q2) 2 1 0 (.ref 11) := ⟨by decide, fun G => ⟨_, rfl, rfl⟩⟩
theorem fl_2_1 (g : Hg) (q : Int64) (g2 : Hg) (q2 : Int64) : Fld (g, q, g2, q2) 2 1 1 (.ref 12) := ⟨by decide, fun G => ⟨_, rfl, rfl⟩⟩
theorem fl_2_2 (g : Hg) (q : Int64) (g2 : Hg) (q2 : Int64) : Fld (g, q, g2, q2) 2 1 2 (.ref 13) := ⟨by decide, fun G => ⟨_, rfl, rfl⟩⟩
theorem fl_2_3 (g : Hg) (q : Int64) (g2 : Hg) (q2 : Int64) : Fld (g, q, g2, q2) 2 1 3 (.ref 14) := ⟨by decide, fun G => ⟨_, rfl, rfl⟩⟩
theorem fl_2_4 (g : Hg) (q : Int64) (g2 : Hg) (q2 : Int64) : Fld (g, q, g2, q2) 2 1 4 (.ref 15) := ⟨by decide, fun G => ⟨_, rfl, rfl⟩⟩
theorem fl_2_5 (g : Hg) (q : Int64) (g2 : Hg) (q2 : Int64) : Fld (g, q, g2, q2) 2 1 5 (.ref 16) := ⟨by decide, fun G => ⟨_, rfl, rfl⟩⟩
theorem fl_2_6 (g : Hg) (q : Int64) (g2 : Hg) (q2 : Int64) : Fld (g, q, g2, q2) 2 1 6 (.ref 17) := ⟨by decide, fun G => ⟨_, rfl, rfl⟩⟩
theorem fl_2_7 (g : Hg) (q : Int64) (g2 : Hg) (q2 : Int64) : Fld (g, q, g2, q2) 2 1 7 (.int (g 2 7)) := ⟨by decide, fun G => ⟨_, rfl, rfl⟩⟩
theorem pu_2_7 (g : Hg) (q : Int64) (g2 : Hg) (q2 : Int64) (x : Int32) : Put (g, q, g2, q2) (stA g 2 7 x, q, g2, q2) 2 1 7 (.int x) := ⟨by decide, fun G => ⟨_, rfl, Nat.le_of_ble_eq_true rfl, rfl, wK_A _⟩⟩
theorem fl_2_8 (g : Hg) (q : Int64) (g2 : Hg) (q2 : Int64) : Fld (g, q, g2, q2) 2 1 8 (.int (g 2 8)) := ⟨by decide, fun G => ⟨_, rfl, rfl⟩⟩
theorem pu_2_8 (g : Hg) (q : Int64) (g2 : Hg) (q2 : Int64) (x : Int32) : Put (g, q, g2, q2) (stA g 2 8 x, q, g2, q2) 2 1 8 (.int x) := ⟨by decide, fun G => ⟨_, rfl, Nat.le_of_ble_eq_true rfl, rfl, wK_A _⟩⟩
theorem fl_2_9 (g : Hg) (q : Int64) (g2 : Hg) (q2 : Int64) : Fld (g, q, g2, q2) 2 1 9 (.int (g 2 9)) := ⟨by decide, fun G => ⟨_, rfl, rfl⟩⟩
theorem pu_2_9 (g : Hg) (q : Int64) (g2 : Hg) (q2 : Int64) (x : Int32) : Put (g, q, g2, q2) (stA g 2 9 x, q, g2, q2) 2 1 9 (.int x) := ⟨by decide, fun G => ⟨_, rfl, Nat.le_of_ble_eq_true rfl, rfl, wK_A _⟩⟩
theorem ob_2 (h : Hp) : 2 < 48 ∧ ∀ G : Gx, ∃ fs, wK G h 2 = .inr (1, fs) := ⟨by decide, fun G => ⟨_, rfl⟩⟩
theorem fl_3_0 (g : Hg) (q : Int64) (g2 : Hg) (q2 : Int64) : Fld (g, q, g2, q2) 3 4 0 (.ref 2) := ⟨by decide, fun G => ⟨_, rfl, rfl⟩⟩
theorem fl_3_1 (g : Hg) (q : Int64) (g2 : Hg) (q2 : Int64) : Fld (g, q, g2, q2) 3 4 1 (.ref 18) := ⟨by decide, fun G => ⟨_, rfl, rfl⟩⟩
theorem ob_3 (h : Hp) : 3 < 48 ∧ ∀ G : Gx, ∃ fs, wK G h 3 = .inr (4, fs) := ⟨by decide, fun G => ⟨_, rfl⟩⟩
theorem fl_4_0 (g : Hg) (q : Int64) (g2 : Hg) (q2 : Int64) : Fld (g, q, g2, q2) 4 4 0 (.ref 2) := ⟨by decide, fun G => ⟨_, rfl, rfl⟩⟩
theorem fl_4_1 (g : Hg) (q : Int64) (g2 : Hg) (q2 : Int64) : Fld (g, q, g2, q2) 4 4 1 (.ref 19) := ⟨by decide, fun G => ⟨_, rfl, rfl⟩⟩
theorem ob_4 (h : Hp) : 4 < 48 ∧ ∀ G : Gx, ∃ fs, wK G h 4 = .inr (4, fs) := ⟨by decide, fun G => ⟨_, rfl⟩⟩
theorem fl_5_0 (g : Hg) (q : Int64) (g2 : Hg) (q2 : Int64) : Fld (g, q, g2, q2) 5 0 0 (.ref 20) := ⟨by decide, fun G => ⟨_, rfl, rfl⟩⟩
theorem fl_5_1 (g : Hg) (q : Int64) (g2 : Hg) (q2 : Int64) : Fld (g, q, g2, q2) 5 0 1 (.int (g 5 1)) := ⟨by decide, fun G => ⟨_, rfl, rfl⟩⟩
theorem pu_5_1 (g : Hg) (q : Int64) (g2 : Hg) (q2 : Int64) (x : Int32) : Put (g, q, g2, q2) (stA g 5 1 x, q, g2, q2) 5 0 1 (.int x) := ⟨by decide, fun G => ⟨_, rfl, Nat.le_of_ble_eq_true rfl, rfl, wK_A _⟩⟩
theorem ob_5 (h : Hp) : 5 < 48 ∧ ∀ G : Gx, ∃ fs, wK G h 5 = .inr (0, fs) := ⟨by decide, fun G => ⟨_, rfl⟩⟩
theorem fl_6_0 (g : Hg) (q : Int64) (g2 : Hg) (q2 : Int64) : Fld (g, q, g2, q2) 6 6 0 (.ref 21) := ⟨by decide, fun G => ⟨_, rfl, rfl⟩⟩
theorem fl_6_1 (g : Hg) (q : Int64) (g2 : Hg) (q2 : Int64) : Fld (g, q, g2, q2) 6 6 1 (.int (g 6 1)) := ⟨by decide, fun G => ⟨_, rfl, rfl⟩⟩
theorem pu_6_1 (g : Hg) (q : Int64) (g2 : Hg) (q2 : Int64) (x : Int32) : Put (g, q, g2, q2) (stA g 6 1 x, q, g2, q2) 6 6 1 (.int x) := ⟨by decide, fun G => ⟨_, rfl, Nat.le_of_ble_eq_true rfl, rfl, wK_A _⟩⟩
theorem ob_6 (h : Hp) : 6 < 48 ∧ ∀ G : Gx, ∃ fs, wK G h 6 = .inr (6, fs) := ⟨by decide, fun G => ⟨_, rfl⟩⟩
theorem fl_7_0 (g : Hg) (q : Int64) (g2 : Hg) (q2 : Int64) : Fld (g, q, g2, q2) 7 5 0 (.ref 22) := ⟨by decide, fun G => ⟨_, rfl, rfl⟩⟩
theorem fl_7_1 (g : Hg) (q : Int64) (g2 : Hg) (q2 : Int64) : Fld (g, q, g2, q2) 7 5 1 (.ref 23) := ⟨by decide, fun G => ⟨_, rfl, rfl⟩⟩
theorem fl_7_2 (g : Hg) (q : Int64) (g2 : Hg) (q2 : Int64) : Fld (g, q, g2, q2) 7 5 2 (.ref 24) := ⟨by decide, fun G => ⟨_, rfl, rfl⟩⟩
theorem fl_7_3 (g : Hg) (q : Int64) (g2 : Hg) (q2 : Int64) : Fld (g, q, g2, q2) 7 5 3 (.int (g 7 3)) := ⟨by decide, fun G => ⟨_, rfl, rfl⟩⟩
theorem pu_7_3 (g : Hg) (q : Int64) (g2 : Hg) (q2 : Int64) (x : Int32) : Put (g, q, g2, q2) (stA g 7 3 x, q, g2, q2) 7 5 3 (.int x) := ⟨by decide, fun G => ⟨_, rfl, Nat.le_of_ble_eq_true rfl, rfl, wK_A _⟩⟩
theorem ob_7 (h : Hp) : 7 < 48 ∧ ∀ G : Gx, ∃ fs, wK G h 7 = .inr (5, fs) := ⟨by decide, fun G => ⟨_, rfl⟩⟩
theorem fl_8_0 (g : Hg) (q : Int64) (g2 : Hg) (q2 : Int64) : Fld (g, q, g2, q2) 8 3 0 (.ref 2) := ⟨by decide, fun G => ⟨_, rfl, rfl⟩⟩
theorem fl_8_1 (g : Hg) (q : Int64) (g2 : Hg) (q2 : Int64) : Fld (g, q, g2, q2) 8 3 1 (.ref 3) := ⟨by decide, fun G => ⟨_, rfl, rfl⟩⟩
theorem fl_8_2 (g : Hg) (q : Int64) (g2 : Hg) (q2 : Int64) : Fld (g, q, g2, q2) 8 3 2 (.ref 25) := ⟨by decide, fun G => ⟨_, rfl, rfl⟩⟩
theorem fl_8_3 (g : Hg) (q : Int64) (g2 : Hg) (q2 : Int64) : Fld (g, q, g2, q2) 8 3 3 (.ref 26) := ⟨by decide, fun G => ⟨_, rfl, rfl⟩⟩
theorem ob_8 (h : Hp) : 8 < 48 ∧ ∀ G : Gx, ∃ fs, wK G h 8 = .inr (3, fs) := ⟨by decide, fun G => ⟨_, rfl⟩⟩
theorem fl_9_0 (g : Hg) (q : Int64) (g2 : Hg) (q2 : Int64) : Fld (g, q, g2, q2) 9 2 0 (.ref 2) := ⟨by decide, fun G => ⟨_, rfl, rfl⟩⟩
theorem fl_9_1 (g : Hg) (q : Int64) (g2 : Hg) (q2 : Int64) : Fld (g, q, g2, q2) 9 2 1 (.ref 3) := ⟨by decide, fun G => ⟨_, rfl, rfl⟩⟩
theorem fl_9_2 (g : Hg) (q : Int64) (g2 : Hg) (q2 : Int64) : Fld (g, q, g2, q2) 9 2 2 (.ref 4) := ⟨by decide, fun G => ⟨_, rfl, rfl⟩⟩
theorem fl_9_3 (g : Hg) (q : Int64) (g2 : Hg) (q2 : Int64) : Fld (g, q, g2, q2) 9 2 3 (.ref 27) := ⟨by decide, fun G => ⟨_, rfl, rfl⟩⟩
theorem fl_9_4 (g : Hg) (q : Int64) (g2 : Hg) (q2 : Int64) : Fld (g, q, g2, q2) 9 2 4 (.ref 28) := ⟨by decide, fun G => ⟨_, rfl, rfl⟩⟩
theorem ob_9 (h : Hp) : 9 < 48 ∧ ∀ G : Gx, ∃ fs, wK G h 9 = .inr (2, fs) := ⟨by decide, fun G => ⟨_, rfl⟩⟩
theorem fl_29_0 (g : Hg) (q : Int64) (g2 : Hg) (q2 : Int64) : Fld (g, q, g2, q2) 29 9 0 (.int (g2 29 0)) := ⟨by decide, fun G => ⟨_, rfl, rfl⟩⟩
theorem pu_29_0 (g : Hg) (q : Int64) (g2 : Hg) (q2 : Int64) (x : Int32) : Put (g, q, g2, q2) (g, q, stA g2 29 0 x, q2) 29 9 0 (.int x) := ⟨by decide, fun G => ⟨_, rfl, Nat.le_of_ble_eq_true rfl, rfl, wK_B _⟩⟩
theorem fl_29_1 (g : Hg) (q : Int64) (g2 : Hg) (q2 : Int64) : Fld (g, q, g2, q2) 29 9 1 (.int (g2 29 1)) := ⟨by decide, fun G => ⟨_, rfl, rfl⟩⟩
theorem pu_29_1 (g : Hg) (q : Int64) (g2 : Hg) (q2 : Int64) (x : Int32) : Put (g, q, g2, q2) (g, q, stA g2 29 1 x, q2) 29 9 1 (.int x) := ⟨by decide, fun G => ⟨_, rfl, Nat.le_of_ble_eq_true rfl, rfl, wK_B _⟩⟩
theorem fl_29_2 (g : Hg) (q : Int64) (g2 : Hg) (q2 : Int64) : Fld (g, q, g2, q2) 29 9 2 (.int (g2 29 2)) := ⟨by decide, fun G => ⟨_, rfl, rfl⟩⟩
theorem pu_29_2 (g : Hg) (q : Int64) (g2 : Hg) (q2 : Int64) (x : Int32) : Put (g, q, g2, q2) (g, q, stA g2 29 2 x, q2) 29 9 2 (.int x) := ⟨by decide, fun G => ⟨_, rfl, Nat.le_of_ble_eq_true rfl, rfl, wK_B _⟩⟩
theorem fl_29_3 (g : Hg) (q : Int64) (g2 : Hg) (q2 : Int64) : Fld (g, q, g2, q2) 29 9 3 (.ref 30) := ⟨by decide, fun G => ⟨_, rfl, rfl⟩⟩
theorem fl_29_4 (g : Hg) (q : Int64) (g2 : Hg) (q2 : Int64) : Fld (g, q, g2, q2) 29 9 4 (.ref 31) := ⟨by decide, fun G => ⟨_, rfl, rfl⟩⟩
theorem fl_29_5 (g : Hg) (q : Int64) (g2 : Hg) (q2 : Int64) : Fld (g, q, g2, q2) 29 9 5 (.ref 32) := ⟨by decide, fun G => ⟨_, rfl, rfl⟩⟩
theorem fl_29_6 (g : Hg) (q : Int64) (g2 : Hg) (q2 : Int64) : Fld (g, q, g2, q2) 29 9 6 (.ref 33) := ⟨by decide, fun G => ⟨_, rfl, rfl⟩⟩
theorem fl_29_7 (g : Hg) (q : Int64) (g2 : Hg) (q2 : Int64) : Fld (g, q, g2, q2) 29 9 7 (.ref 34) := ⟨by decide, fun G => ⟨_, rfl, rfl⟩⟩
theorem fl_29_8 (g : Hg) (q : Int64) (g2 : Hg) (q2 : Int64) : Fld (g, q, g2, q2) 29 9 8 (.ref 35) := ⟨by decide, fun G => ⟨_, rfl, rfl⟩⟩
theorem fl_29_9 (g : Hg) (q : Int64) (g2 : Hg) (q2 : Int64) : Fld (g, q, g2, q2) 29 9 9 (.ref 36) := ⟨by decide, fun G => ⟨_, rfl, rfl⟩⟩
theorem fl_29_10 (g : Hg) (q : Int64) (g2 : Hg) (q2 : Int64) : Fld (g, q, g2, q2) 29 9 10 (.ref 37) := ⟨by decide, fun G => ⟨_, rfl, rfl⟩⟩
theorem fl_29_11 (g : Hg) (q : Int64) (g2 : Hg) (q2 : Int64) : Fld (g, q, g2, q2) 29 9 11 (.ref 38) := ⟨by decide, fun G => ⟨_, rfl, rfl⟩⟩
theorem fl_29_12 (g : Hg) (q : Int64) (g2 : Hg) (q2 : Int64) : Fld (g, q, g2, q2) 29 9 12 (.ref 39) := ⟨by decide, fun G => ⟨_, rfl, rfl⟩⟩
theorem fl_29_13 (g : Hg) (q : Int64) (g2 : Hg) (q2 : Int64) : Fld (g, q, g2, q2) 29 9 13 (.int (g2 29 13)) := ⟨by decide, fun G => ⟨_, rfl, rfl⟩⟩
theorem pu_29_13 (g : Hg) (q : Int64) (g2 : Hg) (q2 : Int64) (x : Int32) : Put (g, q, g2, q2) (g, q, stA g2 29 13 x, q2) 29 9 13 (.int x) := ⟨by decide, fun G => ⟨_, rfl, Nat.le_of_ble_eq_true rfl, rfl, wK_B _⟩⟩
theorem fl_29_14 (g : Hg) (q : Int64) (g2 : Hg) (q2 : Int64) : Fld (g, q, g2, q2) 29 9 14 (.int (g2 29 14)) := ⟨by decide, fun G => ⟨_, rfl, rfl⟩⟩
theorem pu_29_14 (g : Hg) (q : Int64) (g2 : Hg) (q2 : Int64) (x : Int32) : Put (g, q, g2, q2) (g, q, stA g2 29 14 x, q2) 29 9 14 (.int x) := ⟨by decide, fun G => ⟨_, rfl, Nat.le_of_ble_eq_true rfl, rfl, wK_B _⟩⟩
theorem fl_29_15 (g : Hg) (q : Int64) (g2 : Hg) (q2 : Int64) : Fld (g, q, g2, q2) 29 9 15 (.int (g2 29 15)) := ⟨by decide, fun G => ⟨_, rfl, rfl⟩⟩
theorem pu_29_15 (g : Hg) (q : Int64) (g2 : Hg) (q2 : Int64) (x : Int32) : Put (g, q, g2, q2) (g, q, stA g2 29 15 x, q2) 29 9 15 (.int x) := ⟨by decide, fun G => ⟨_, rfl, Nat.le_of_ble_eq_true rfl, rfl, wK_B _⟩⟩
theorem fl_29_16 (g : Hg) (q : Int64) (g2 : Hg) (q2 : Int64) : Fld (g, q, g2, q2) 29 9 16 (.ref 40) := ⟨by decide, fun G => ⟨_, rfl, rfl⟩⟩
theorem fl_29_17 (g : Hg) (q : Int64) (g2 : Hg) (q2 : Int64) : Fld (g, q, g2, q2) 29 9 17 (.int (g2 29 17)) := ⟨by decide, fun G => ⟨_, rfl, rfl⟩⟩
theorem pu_29_17 (g : Hg) (q : Int64) (g2 : Hg) (q2 : Int64) (x : Int32) : Put (g, q, g2, q2) (g, q, stA g2 29 17 x, q2) 29 9 17 (.int x) := ⟨by decide, fun G => ⟨_, rfl, Nat.le_of_ble_eq_true rfl, rfl, wK_B _⟩⟩
theorem fl_29_18 (g : Hg) (q : Int64) (g2 : Hg) (q2 : Int64) : Fld (g, q, g2, q2) 29 9 18 (.int (g2 29 18)) := ⟨by decide, fun G => ⟨_, rfl, rfl⟩⟩
theorem pu_29_18 (g : Hg) (q : Int64) (g2 : Hg) (q2 : Int64) (x : Int32) : Put (g, q, g2, q2) (g, q, stA g2 29 18 x, q2) 29 9 18 (.int x) := ⟨by decide, fun G => ⟨_, rfl, Nat.le_of_ble_eq_true rfl, rfl, wK_B _⟩⟩
theorem fl_29_19 (g : Hg) (q : Int64) (g2 : Hg) (q2 : Int64) : Fld (g, q, g2, q2) 29 9 19 (.int (g2 29 19)) := ⟨by decide, fun G => ⟨_, rfl, rfl⟩⟩
theorem pu_29_19 (g : Hg) (q : Int64) (g2 : Hg) (q2 : Int64) (x : Int32) : Put (g, q, g2, q2) (g, q, stA g2 29 19 x, q2) 29 9 19 (.int x) := ⟨by decide, fun G => ⟨_, rfl, Nat.le_of_ble_eq_true rfl, rfl, wK_B _⟩⟩
theorem fl_29_20 (g : Hg) (q : Int64) (g2 : Hg) (q2 : Int64) : Fld (g, q, g2, q2) 29 9 20 (.int (g2 29 20)) := ⟨by decide, fun G => ⟨_, rfl, rfl⟩⟩
theorem pu_29_20 (g : Hg) (q : Int64) (g2 : Hg) (q2 : Int64) (x : Int32) : Put (g, q, g2, q2) (g, q, stA g2 29 20 x, q2) 29 9 20 (.int x) := ⟨by decide, fun G => ⟨_, rfl, Nat.le_of_ble_eq_true rfl, rfl, wK_B _⟩⟩
theorem fl_29_21 (g : Hg) (q : Int64) (g2 : Hg) (q2 : Int64) : Fld (g, q, g2, q2) 29 9 21 (.int (g2 29 21)) := ⟨by decide, fun G => ⟨_, rfl, rfl⟩⟩
theorem pu_29_21 (g : Hg) (q : Int64) (g2 : Hg) (q2 : Int64) (x : Int32) : Put (g, q, g2, q2) (g, q, stA g2 29 21 x, q2) 29 9 21 (.int x) := ⟨by decide, fun G => ⟨_, rfl, Nat.le_of_ble_eq_true rfl, rfl, wK_B _⟩⟩
theorem fl_29_22 (g : Hg) (q : Int64) (g2 : Hg) (q2 : Int64) : Fld (g, q, g2, q2) 29 9 22 (.ref 41) := ⟨by decide, fun G => ⟨_, rfl, rfl⟩⟩
theorem fl_29_23 (g : Hg) (q : Int64) (g2 : Hg) (q2 : Int64) : Fld (g, q, g2, q2) 29 9 23 (.int (g2 29 23)) := ⟨by decide, fun G => ⟨_, rfl, rfl⟩⟩
theorem pu_29_23 (g : Hg) (q : Int64) (g2 : Hg) (q2 : Int64) (x : Int32) : Put (g, q, g2, q2) (g, q, stA g2 29 23 x, q2) 29 9 23 (.int x) := ⟨by decide, fun G => ⟨_, rfl, Nat.le_of_ble_eq_true rfl, rfl, wK_B _⟩⟩
theorem fl_29_24 (g : Hg) (q : Int64) (g2 : Hg) (q2 : Int64) : Fld (g, q, g2, q2) 29 9 24 (.ref 42) := ⟨by decide, fun G => ⟨_, rfl, rfl⟩⟩
theorem fl_29_25 (g : Hg) (q : Int64) (g2 : Hg) (q2 : Int64) : Fld (g, q, g2, q2) 29 9 25 (.ref 43) := ⟨by decide, fun G => ⟨_, rfl, rfl⟩⟩
theorem fl_29_26 (g : Hg) (q : Int64) (g2 : Hg) (q2 : Int64) : Fld (g, q, g2, q2) 29 9 26 (.ref 44) := ⟨by decide, fun G => ⟨_, rfl, rfl⟩⟩
theorem fl_29_27 (g : Hg) (q : Int64) (g2 : Hg) (q2 : Int64) : Fld (g, q, g2, q2) 29 9 27 (.ref 45) := ⟨by decide, fun G => ⟨_, rfl, rfl⟩⟩
theorem fl_29_28 (g : Hg) (q : Int64) (g2 : Hg) (q2 : Int64) : Fld (g, q, g2, q2) 29 9 28 (.long q2) := ⟨by decide, fun G => ⟨_, rfl, rfl⟩⟩
theorem pu_29_28 (g : Hg) (q : Int64) (g2 : Hg) (q2 : Int64) (x : Int64) : Put (g, q, g2, q2) (g, q, g2, x) 29 9 28 (.long x) := ⟨by decide, fun G => ⟨_, rfl, Nat.le_of_ble_eq_true rfl, rfl, wK_q2⟩⟩
theorem fl_29_29 (g : Hg) (q : Int64) (g2 : Hg) (q2 : Int64) : Fld (g, q, g2, q2) 29 9 29 (.ref 46) := ⟨by decide, fun G => ⟨_, rfl, rfl⟩⟩
theorem fl_29_30 (g : Hg) (q : Int64) (g2 : Hg) (q2 : Int64) : Fld (g, q, g2, q2) 29 9 30 (.ref 47) := ⟨by decide, fun G => ⟨_, rfl, rfl⟩⟩
theorem ob_29 (h : Hp) : 29 < 48 ∧ ∀ G : Gx, ∃ fs, wK G h 29 = .inr (9, fs) := ⟨by decide, fun G => ⟨_, rfl⟩⟩
theorem fl_t_0 {t : Nat} (ht : t = 3 ∨ t = 4) (g : Hg) (q : Int64) (g2 : Hg) (q2 : Int64) : Fld (g, q, g2, q2) t 4 0 (.ref 2) := by
  rcases ht with rfl | rfl
  · exact fl_3_0 _ _ _ _
  · exact fl_4_0 _ _ _ _
theorem fl_t_1 {t : Nat} (ht : t = 3 ∨ t = 4) (g : Hg) (q : Int64) (g2 : Hg) (q2 : Int64) : Fld (g, q, g2, q2) t 4 1 (.ref (t + 15)) := by
  rcases ht with rfl | rfl
  · exact fl_3_1 _ _ _ _
  · exact fl_4_1 _ _ _ _
theorem ob_t {t : Nat} (ht : t = 3 ∨ t = 4) (h : Hp) : t < 48 ∧ ∀ G : Gx, ∃ fs, wK G h t = .inr (4, fs) := by
  rcases ht with rfl | rfl
  · exact ob_3 _
  · exact ob_4 _
theorem ar_10 (g : Hg) (q : Int64) (g2 : Hg) (q2 : Int64) : Arr (g, q, g2, q2) 10 60 (g 10) := ⟨by decide, fun G => rfl⟩
theorem se_10 (g : Hg) (q : Int64) (g2 : Hg) (q2 : Int64) (r : Nat → Int32) : Sets (g, q, g2, q2) (setA g 10 r, q, g2, q2) 10 60 r := ⟨⟨by decide, fun G => rfl⟩, fun G => wK_A r⟩
theorem ar_11 (g : Hg) (q : Int64) (g2 : Hg) (q2 : Int64) : Arr (g, q, g2, q2) 11 12 (g 11) := ⟨by decide, fun G => rfl⟩
theorem se_11 (g : Hg) (q : Int64) (g2 : Hg) (q2 : Int64) (r : Nat → Int32) : Sets (g, q, g2, q2) (setA g 11 r, q, g2, q2) 11 12 r := ⟨⟨by decide, fun G => rfl⟩, fun G => wK_A r⟩
theorem ar_12 (g : Hg) (q : Int64) (g2 : Hg) (q2 : Int64) : Arr (g, q, g2, q2) 12 6 (g 12) := ⟨by decide, fun G => rfl⟩
theorem se_12 (g : Hg) (q : Int64) (g2 : Hg) (q2 : Int64) (r : Nat → Int32) : Sets (g, q, g2, q2) (setA g 12 r, q, g2, q2) 12 6 r := ⟨⟨by decide, fun G => rfl⟩, fun G => wK_A r⟩
theorem ar_13 (g : Hg) (q : Int64) (g2 : Hg) (q2 : Int64) : Arr (g, q, g2, q2) 13 5 (g 13) := ⟨by decide, fun G => rfl⟩
theorem se_13 (g : Hg) (q : Int64) (g2 : Hg) (q2 : Int64) (r : Nat → Int32) : Sets (g, q, g2, q2) (setA g 13 r, q, g2, q2) 13 5 r := ⟨⟨by decide, fun G => rfl⟩, fun G => wK_A r⟩
theorem ar_14 (g : Hg) (q : Int64) (g2 : Hg) (q2 : Int64) : Arr (g, q, g2, q2) 14 5 (g 14) := ⟨by decide, fun G => rfl⟩
theorem se_14 (g : Hg) (q : Int64) (g2 : Hg) (q2 : Int64) (r : Nat → Int32) : Sets (g, q, g2, q2) (setA g 14 r, q, g2, q2) 14 5 r := ⟨⟨by decide, fun G => rfl⟩, fun G => wK_A r⟩
theorem ar_15 (g : Hg) (q : Int64) (g2 : Hg) (q2 : Int64) : Arr (g, q, g2, q2) 15 5 (g 15) := ⟨by decide, fun G => rfl⟩
theorem se_15 (g : Hg) (q : Int64) (g2 : Hg) (q2 : Int64) (r : Nat → Int32) : Sets (g, q, g2, q2) (setA g 15 r, q, g2, q2) 15 5 r := ⟨⟨by decide, fun G => rfl⟩, fun G => wK_A r⟩
theorem ar_16 (g : Hg) (q : Int64) (g2 : Hg) (q2 : Int64) : Arr (g, q, g2, q2) 16 4 (g 16) := ⟨by decide, fun G => rfl⟩
theorem se_16 (g : Hg) (q : Int64) (g2 : Hg) (q2 : Int64) (r : Nat → Int32) : Sets (g, q, g2, q2) (setA g 16 r, q, g2, q2) 16 4 r := ⟨⟨by decide, fun G => rfl⟩, fun G => wK_A r⟩
theorem ar_17 (g : Hg) (q : Int64) (g2 : Hg) (q2 : Int64) : Arr (g, q, g2, q2) 17 4 (g 17) := ⟨by decide, fun G => rfl⟩
theorem se_17 (g : Hg) (q : Int64) (g2 : Hg) (q2 : Int64) (r : Nat → Int32) : Sets (g, q, g2, q2) (setA g 17 r, q, g2, q2) 17 4 r := ⟨⟨by decide, fun G => rfl⟩, fun G => wK_A r⟩
theorem ar_18 (g : Hg) (q : Int64) (g2 : Hg) (q2 : Int64) : Arr (g, q, g2, q2) 18 27 (g 18) := ⟨by decide, fun G => rfl⟩
theorem se_18 (g : Hg) (q : Int64) (g2 : Hg) (q2 : Int64) (r : Nat → Int32) : Sets (g, q, g2, q2) (setA g 18 r, q, g2, q2) 18 27 r := ⟨⟨by decide, fun G => rfl⟩, fun G => wK_A r⟩
theorem ar_19 (g : Hg) (q : Int64) (g2 : Hg) (q2 : Int64) : Arr (g, q, g2, q2) 19 27 (g 19) := ⟨by decide, fun G => rfl⟩
theorem se_19 (g : Hg) (q : Int64) (g2 : Hg) (q2 : Int64) (r : Nat → Int32) : Sets (g, q, g2, q2) (setA g 19 r, q, g2, q2) 19 27 r := ⟨⟨by decide, fun G => rfl⟩, fun G => wK_A r⟩
theorem ar_20 (g : Hg) (q : Int64) (g2 : Hg) (q2 : Int64) : Arr (g, q, g2, q2) 20 378 (g 20) := ⟨by decide, fun G => rfl⟩
theorem se_20 (g : Hg) (q : Int64) (g2 : Hg) (q2 : Int64) (r : Nat → Int32) : Sets (g, q, g2, q2) (setA g 20 r, q, g2, q2) 20 378 r := ⟨⟨by decide, fun G => rfl⟩, fun G => wK_A r⟩
theorem ar_21 (g : Hg) (q : Int64) (g2 : Hg) (q2 : Int64) : Arr (g, q, g2, q2) 21 54 (g 21) := ⟨by decide, fun G => rfl⟩
theorem se_21 (g : Hg) (q : Int64) (g2 : Hg) (q2 : Int64) (r : Nat → Int32) : Sets (g, q, g2, q2) (setA g 21 r, q, g2, q2) 21 54 r := ⟨⟨by decide, fun G => rfl⟩, fun G => wK_A r⟩
theorem ar_22 (g : Hg) (q : Int64) (g2 : Hg) (q2 : Int64) : Arr (g, q, g2, q2) 22 6 (g 22) := ⟨by decide, fun G => rfl⟩
theorem se_22 (g : Hg) (q : Int64) (g2 : Hg) (q2 : Int64) (r : Nat → Int32) : Sets (g, q, g2, q2) (setA g 22 r, q, g2, q2) 22 6 r := ⟨⟨by decide, fun G => rfl⟩, fun G => wK_A r⟩
theorem ar_23 (g : Hg) (q : Int64) (g2 : Hg) (q2 : Int64) : Arr (g, q, g2, q2) 23 6 (g 23) := ⟨by decide, fun G => rfl⟩
theorem se_23 (g : Hg) (q : Int64) (g2 : Hg) (q2 : Int64) (r : Nat → Int32) : Sets (g, q, g2, q2) (setA g 23 r, q, g2, q2) 23 6 r := ⟨⟨by decide, fun G => rfl⟩, fun G => wK_A r⟩
theorem ar_24 (g : Hg) (q : Int64) (g2 : Hg) (q2 : Int64) : ArrZ (g, q, g2, q2) 24 6 (g 24) := ⟨by decide, fun G => rfl⟩
theorem se_24 (g : Hg) (q : Int64) (g2 : Hg) (q2 : Int64) (r : Nat → Int32) : SetsZ (g, q, g2, q2) (setA g 24 r, q, g2, q2) 24 6 r := ⟨⟨by decide, fun G => rfl⟩, fun G => wK_A r⟩
theorem ar_25 (g : Hg) (q : Int64) (g2 : Hg) (q2 : Int64) : Arr (g, q, g2, q2) 25 10 (g 25) := ⟨by decide, fun G => rfl⟩
theorem se_25 (g : Hg) (q : Int64) (g2 : Hg) (q2 : Int64) (r : Nat → Int32) : Sets (g, q, g2, q2) (setA g 25 r, q, g2, q2) 25 10 r := ⟨⟨by decide, fun G => rfl⟩, fun G => wK_A r⟩
theorem ar_26 (g : Hg) (q : Int64) (g2 : Hg) (q2 : Int64) : Arr (g, q, g2, q2) 26 4 (g 26) := ⟨by decide, fun G => rfl⟩
theorem se_26 (g : Hg) (q : Int64) (g2 : Hg) (q2 : Int64) (r : Nat → Int32) : Sets (g, q, g2, q2) (setA g 26 r, q, g2, q2) 26 4 r := ⟨⟨by decide, fun G => rfl⟩, fun G => wK_A r⟩
theorem ar_27 (g : Hg) (q : Int64) (g2 : Hg) (q2 : Int64) : Arr (g, q, g2, q2) 27 25 (g 27) := ⟨by decide, fun G => rfl⟩
theorem se_27 (g : Hg) (q : Int64) (g2 : Hg) (q2 : Int64) (r : Nat → Int32) : Sets (g, q, g2, q2) (setA g 27 r, q, g2, q2) 27 25 r := ⟨⟨by decide, fun G => rfl⟩, fun G => wK_A r⟩
theorem ar_28 (g : Hg) (q : Int64) (g2 : Hg) (q2 : Int64) : Arr (g, q, g2, q2) 28 25 (g 28) := ⟨by decide, fun G => rfl⟩
theorem se_28 (g : Hg) (q : Int64) (g2 : Hg) (q2 : Int64) (r : Nat → Int32) : Sets (g, q, g2, q2) (setA g 28 r, q, g2, q2) 28 25 r := ⟨⟨by decide, fun G => rfl⟩, fun G => wK_A r⟩
theorem ar_30 (g : Hg) (q : Int64) (g2 : Hg) (q2 : Int64) : Arr (g, q, g2, q2) 30 12 (g2 30) := ⟨by decide, fun G => rfl⟩
theorem se_30 (g : Hg) (q : Int64) (g2 : Hg) (q2 : Int64) (r : Nat → Int32) : Sets (g, q, g2, q2) (g, q, setA g2 30 r, q2) 30 12 r := ⟨⟨by decide, fun G => rfl⟩, fun G => wK_B r⟩
theorem ar_31 (g : Hg) (q : Int64) (g2 : Hg) (q2 : Int64) : Arr (g, q, g2, q2) 31 6 (g2 31) := ⟨by decide, fun G => rfl⟩
theorem se_31 (g : Hg) (q : Int64) (g2 : Hg) (q2 : Int64) (r : Nat → Int32) : Sets (g, q, g2, q2) (g, q, setA g2 31 r, q2) 31 6 r := ⟨⟨by decide, fun G => rfl⟩, fun G => wK_B r⟩
theorem ar_32 (g : Hg) (q : Int64) (g2 : Hg) (q2 : Int64) : Arr (g, q, g2, q2) 32 5 (g2 32) := ⟨by decide, fun G => rfl⟩
theorem se_32 (g : Hg) (q : Int64) (g2 : Hg) (q2 : Int64) (r : Nat → Int32) : Sets (g, q, g2, q2) (g, q, setA g2 32 r, q2) 32 5 r := ⟨⟨by decide, fun G => rfl⟩, fun G => wK_B r⟩
theorem ar_33 (g : Hg) (q : Int64) (g2 : Hg) (q2 : Int64) : Arr (g, q, g2, q2) 33 5 (g2 33) := ⟨by decide, fun G => rfl⟩
theorem se_33 (g : Hg) (q : Int64) (g2 : Hg) (q2 : Int64) (r : Nat → Int32) : Sets (g, q, g2, q2) (g, q, setA g2 33 r, q2) 33 5 r := ⟨⟨by decide, fun G => rfl⟩, fun G => wK_B r⟩
theorem ar_34 (g : Hg) (q : Int64) (g2 : Hg) (q2 : Int64) : Arr (g, q, g2, q2) 34 4 (g2 34) := ⟨by decide, fun G => rfl⟩
theorem se_34 (g : Hg) (q : Int64) (g2 : Hg) (q2 : Int64) (r : Nat → Int32) : Sets (g, q, g2, q2) (g, q, setA g2 34 r, q2) 34 4 r := ⟨⟨by decide, fun G => rfl⟩, fun G => wK_B r⟩
theorem ar_35 (g : Hg) (q : Int64) (g2 : Hg) (q2 : Int64) : Arr (g, q, g2, q2) 35 62 (g2 35) := ⟨by decide, fun G => rfl⟩
theorem se_35 (g : Hg) (q : Int64) (g2 : Hg) (q2 : Int64) (r : Nat → Int32) : Sets (g, q, g2, q2) (g, q, setA g2 35 r, q2) 35 62 r := ⟨⟨by decide, fun G => rfl⟩, fun G => wK_B r⟩
theorem ar_36 (g : Hg) (q : Int64) (g2 : Hg) (q2 : Int64) : Arr (g, q, g2, q2) 36 12 (g2 36) := ⟨by decide, fun G => rfl⟩
theorem se_36 (g : Hg) (q : Int64) (g2 : Hg) (q2 : Int64) (r : Nat → Int32) : Sets (g, q, g2, q2) (g, q, setA g2 36 r, q2) 36 12 r := ⟨⟨by decide, fun G => rfl⟩, fun G => wK_B r⟩
theorem ar_37 (g : Hg) (q : Int64) (g2 : Hg) (q2 : Int64) : Arr (g, q, g2, q2) 37 6 (g2 37) := ⟨by decide, fun G => rfl⟩
theorem se_37 (g : Hg) (q : Int64) (g2 : Hg) (q2 : Int64) (r : Nat → Int32) : Sets (g, q, g2, q2) (g, q, setA g2 37 r, q2) 37 6 r := ⟨⟨by decide, fun G => rfl⟩, fun G => wK_B r⟩
theorem ar_38 (g : Hg) (q : Int64) (g2 : Hg) (q2 : Int64) : Arr (g, q, g2, q2) 38 15 (g2 38) := ⟨by decide, fun G => rfl⟩
theorem se_38 (g : Hg) (q : Int64) (g2 : Hg) (q2 : Int64) (r : Nat → Int32) : Sets (g, q, g2, q2) (g, q, setA g2 38 r, q2) 38 15 r := ⟨⟨by decide, fun G => rfl⟩, fun G => wK_B r⟩
theorem ar_39 (g : Hg) (q : Int64) (g2 : Hg) (q2 : Int64) : Arr (g, q, g2, q2) 39 8 (g2 39) := ⟨by decide, fun G => rfl⟩
theorem se_39 (g : Hg) (q : Int64) (g2 : Hg) (q2 : Int64) (r : Nat → Int32) : Sets (g, q, g2, q2) (g, q, setA g2 39 r, q2) 39 8 r := ⟨⟨by decide, fun G => rfl⟩, fun G => wK_B r⟩
theorem ar_40 (g : Hg) (q : Int64) (g2 : Hg) (q2 : Int64) : Arr (g, q, g2, q2) 40 60 (g2 40) := ⟨by decide, fun G => rfl⟩
theorem se_40 (g : Hg) (q : Int64) (g2 : Hg) (q2 : Int64) (r : Nat → Int32) : Sets (g, q, g2, q2) (g, q, setA g2 40 r, q2) 40 60 r := ⟨⟨by decide, fun G => rfl⟩, fun G => wK_B r⟩
theorem ar_41 (g : Hg) (q : Int64) (g2 : Hg) (q2 : Int64) : Arr (g, q, g2, q2) 41 434 (g2 41) := ⟨by decide, fun G => rfl⟩
theorem se_41 (g : Hg) (q : Int64) (g2 : Hg) (q2 : Int64) (r : Nat → Int32) : Sets (g, q, g2, q2) (g, q, setA g2 41 r, q2) 41 434 r := ⟨⟨by decide, fun G => rfl⟩, fun G => wK_B r⟩
theorem ar_42 (g : Hg) (q : Int64) (g2 : Hg) (q2 : Int64) : Arr (g, q, g2, q2) 42 6 (g2 42) := ⟨by decide, fun G => rfl⟩
theorem se_42 (g : Hg) (q : Int64) (g2 : Hg) (q2 : Int64) (r : Nat → Int32) : Sets (g, q, g2, q2) (g, q, setA g2 42 r, q2) 42 6 r := ⟨⟨by decide, fun G => rfl⟩, fun G => wK_B r⟩
theorem ar_43 (g : Hg) (q : Int64) (g2 : Hg) (q2 : Int64) : Arr (g, q, g2, q2) 43 6 (g2 43) := ⟨by decide, fun G => rfl⟩
theorem se_43 (g : Hg) (q : Int64) (g2 : Hg) (q2 : Int64) (r : Nat → Int32) : Sets (g, q, g2, q2) (g, q, setA g2 43 r, q2) 43 6 r := ⟨⟨by decide, fun G => rfl⟩, fun G => wK_B r⟩
theorem ar_44 (g : Hg) (q : Int64) (g2 : Hg) (q2 : Int64) : Arr (g, q, g2, q2) 44 6 (g2 44) := ⟨by decide, fun G => rfl⟩
theorem se_44 (g : Hg) (q : Int64) (g2 : Hg) (q2 : Int64) (r : Nat → Int32) : Sets (g, q, g2, q2) (g, q, setA g2 44 r, q2) 44 6 r := ⟨⟨by decide, fun G => rfl⟩, fun G => wK_B r⟩
theorem ar_45 (g : Hg) (q : Int64) (g2 : Hg) (q2 : Int64) : Arr (g, q, g2, q2) 45 4 (g2 45) := ⟨by decide, fun G => rfl⟩
theorem se_45 (g : Hg) (q : Int64) (g2 : Hg) (q2 : Int64) (r : Nat → Int32) : Sets (g, q, g2, q2) (g, q, setA g2 45 r, q2) 45 4 r := ⟨⟨by decide, fun G => rfl⟩, fun G => wK_B r⟩
theorem ar_46 (g : Hg) (q : Int64) (g2 : Hg) (q2 : Int64) : ArrZ (g, q, g2, q2) 46 2 (g2 46) := ⟨by decide, fun G => rfl⟩
theorem se_46 (g : Hg) (q : Int64) (g2 : Hg) (q2 : Int64) (r : Nat → Int32) : SetsZ (g, q, g2, q2) (g, q, setA g2 46 r, q2) 46 2 r := ⟨⟨by decide, fun G => rfl⟩, fun G => wK_B r⟩
theorem ar_47 (g : Hg) (q : Int64) (g2 : Hg) (q2 : Int64) : Arr (g, q, g2, q2) 47 62 (g2 47) := ⟨by decide, fun G => rfl⟩
theorem se_47 (g : Hg) (q : Int64) (g2 : Hg) (q2 : Int64) (r : Nat → Int32) : Sets (g, q, g2, q2) (g, q, setA g2 47 r, q2) 47 62 r := ⟨⟨by decide, fun G => rfl⟩, fun G => wK_B r⟩
theorem ar_t {t : Nat} (ht : t = 3 ∨ t = 4) (g : Hg) (q : Int64) (g2 : Hg) (q2 : Int64) : Arr (g, q, g2, q2) (t + 15) 27 (g (t + 15)) := by
  rcases ht with rfl | rfl
  · exact ar_18 _ _ _ _
  · exact ar_19 _ _ _ _
theorem se_t {t : Nat} (ht : t = 3 ∨ t = 4) (g : Hg) (q : Int64) (g2 : Hg) (q2 : Int64) (r : Nat → Int32) : Sets (g, q, g2, q2) (setA g (t + 15) r, q, g2, q2) (t + 15) 27 r := by
  rcases ht with rfl | rfl
  · exact se_18 _ _ _ _ _
  · exact se_19 _ _ _ _ _
theorem ar_c {c n : Nat} (hc : (c = 20 ∧ n = 378) ∨ (c = 21 ∧ n = 54)) (g : Hg) (q : Int64) (g2 : Hg) (q2 : Int64) : Arr (g, q, g2, q2) c n (g c) := by
  rcases hc with ⟨rfl, rfl⟩ | ⟨rfl, rfl⟩
  · exact ar_20 _ _ _ _
  · exact ar_21 _ _ _ _
theorem se_c {c n : Nat} (hc : (c = 20 ∧ n = 378) ∨ (c = 21 ∧ n = 54)) (g : Hg) (q : Int64) (g2 : Hg) (q2 : Int64) (r : Nat → Int32) : Sets (g, q, g2, q2) (setA g c r, q, g2, q2) c n r := by
  rcases hc with ⟨rfl, rfl⟩ | ⟨rfl, rfl⟩
  · exact se_20 _ _ _ _ _
  · exact se_21 _ _ _ _ _
