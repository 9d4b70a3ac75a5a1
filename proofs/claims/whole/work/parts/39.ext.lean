/-! ===== the code as functions, by program ===== -/
theorem vc_260 : v_code 260 = k_260 := rfl
theorem rc_260 (x1 : Int32) (x2 : Int32) : v_rcv 260 [.inr (.inr (11, 0, 0)), .inl x1, .inl x2] = true := rfl
def b_260_60 : Nat → Int32 → Int32 → Int32 → Int32 → QS → Option ((Int32) × QS)
  | 0, _, _, _, _, _ => none
  | n + 1, x1, x2, x4, x5, S => if x2 ≤ x5 then (q_let (q_set S (11, 0, 0) 8 x2) (fun S_5 => q_bd (f_190 x1 0 S_5) (fun r_6 S_7 => q_ck (decide (¬ x2 = 0)) (q_bd (f_187 (r_6 / x2) S_7) (fun r_8 S_9 => some (r_8, S_9)))))) else (q_let (x2 - x5) (fun y_10 => q_ck (decide (¬ y_10 = 0)) (q_ck (v_in x5 100) (q_let (q_set S (43, 0, 0) x5.toNatClampNeg (((x4 + y_10) - 1) / y_10)) (fun S_11 => q_ck (v_in x5 100) (q_let (S_11.1 (43, 0, 0) x5.toNatClampNeg) (fun y_12 => q_let (x4 - y_12) (fun y_13 => b_260_60 n x1 x2 y_13 (x5 + 1) S_11))))))))
theorem sb_260_60 : ∀ (n : Nat) (x1 : Int32) (x2 : Int32) (x4 : Int32) (x5 : Int32) (S : QS), q_Sim 260 60 [(0, .inr (.inr (11, 0, 0))), (1, .inl x1), (2, .inl x2), (4, .inl x4), (5, .inl x5)] [] (q_V S) q_I (b_260_60 n x1 x2 x4 x5 S)
  | 0, _, _, _, _, _ => q_Sim.none
  | n + 1, x1, x2, x4, x5, S => by
    rw [b_260_60]
    refine q_Sim.steps vc_260 2 (pc' := 63) (lv' := [(0, .inr (.inr (11, 0, 0))), (1, .inl x1), (2, .inl x2), (4, .inl x4), (5, .inl x5)]) (st' := [.inl x2, .inl x5]) (V' := q_V S) rfl ?_
    refine q_Sim.br vc_260 (c := x2 ≤ x5) (t := 107) (f := 66) (lv' := [(0, .inr (.inr (11, 0, 0))), (1, .inl x1), (2, .inl x2), (4, .inl x4), (5, .inl x5)]) (st' := []) (V' := q_V S) rfl ?_ ?_
    · refine q_Sim.steps vc_260 2 (pc' := 109) (lv' := [(0, .inr (.inr (11, 0, 0))), (1, .inl x1), (2, .inl x2), (4, .inl x4), (5, .inl x5)]) (st' := [.inl x2, .inr (.inr (11, 0, 0))]) (V' := q_V S) rfl ?_
      refine q_Sim.steps vc_260 1 (pc' := 112) (lv' := [(0, .inr (.inr (11, 0, 0))), (1, .inl x1), (2, .inl x2), (4, .inl x4), (5, .inl x5)]) (st' := []) (V' := q_V (q_set S (11, 0, 0) 8 x2)) rfl ?_
      refine q_Sim.letS (fun S_5 => ?_)
      refine q_Sim.steps vc_260 4 (pc' := 116) (lv' := [(0, .inr (.inr (11, 0, 0))), (1, .inl x1), (2, .inl x2), (4, .inl x4), (5, .inl x5)]) (st' := [.inl 0, .inl x1, .inr (.inr (11, 0, 0)), .inr (.inr (11, 0, 0))]) (V' := q_V S_5) rfl ?_
      refine q_Sim.call vc_260 (as := [.inr (.inr (11, 0, 0)), .inl x1, .inl 0]) (pc' := 119) (lv' := [(0, .inr (.inr (11, 0, 0))), (1, .inl x1), (2, .inl x2), (4, .inl x4), (5, .inl x5)]) (st' := [.inr (.inr (11, 0, 0))]) (S := S_5) rfl (rc_190 x1 0) (s_190 x1 0 S_5) (fun r_6 S_7 => ?_)
      refine q_Sim.steps vc_260 1 (pc' := 120) (lv' := [(0, .inr (.inr (11, 0, 0))), (1, .inl x1), (2, .inl x2), (4, .inl x4), (5, .inl x5)]) (st' := [.inl x2, .inl r_6, .inr (.inr (11, 0, 0))]) (V' := q_V S_7) rfl ?_
      refine q_Sim.ck vc_260 (c := decide (¬ x2 = 0)) (pc' := 121) (lv' := [(0, .inr (.inr (11, 0, 0))), (1, .inl x1), (2, .inl x2), (4, .inl x4), (5, .inl x5)]) (st' := [.inl (r_6 / x2), .inr (.inr (11, 0, 0))]) (V' := q_V S_7) rfl ?_
      refine q_Sim.call vc_260 (as := [.inr (.inr (11, 0, 0)), .inl (r_6 / x2)]) (pc' := 124) (lv' := [(0, .inr (.inr (11, 0, 0))), (1, .inl x1), (2, .inl x2), (4, .inl x4), (5, .inl x5)]) (st' := []) (S := S_7) rfl (rc_187 (r_6 / x2)) (s_187 (r_6 / x2) S_7) (fun r_8 S_9 => ?_)
      exact q_Sim.ret vc_260 rfl
    · refine q_Sim.steps vc_260 3 (pc' := 70) (lv' := [(0, .inr (.inr (11, 0, 0))), (1, .inl x1), (2, .inl x2), (4, .inl x4), (5, .inl x5)]) (st' := [.inl (x2 - x5)]) (V' := q_V S) rfl ?_
      refine q_Sim.letI (fun y_10 => ?_)
      refine q_Sim.steps vc_260 10 (pc' := 87) (lv' := [(6, .inl y_10), (0, .inr (.inr (11, 0, 0))), (1, .inl x1), (2, .inl x2), (4, .inl x4), (5, .inl x5)]) (st' := [.inl y_10, .inl ((x4 + y_10) - 1), .inl x5, .inr (.inr (43, 0, 0))]) (V' := q_V S) rfl ?_
      refine q_Sim.ck vc_260 (c := decide (¬ y_10 = 0)) (pc' := 88) (lv' := [(6, .inl y_10), (0, .inr (.inr (11, 0, 0))), (1, .inl x1), (2, .inl x2), (4, .inl x4), (5, .inl x5)]) (st' := [.inl (((x4 + y_10) - 1) / y_10), .inl x5, .inr (.inr (43, 0, 0))]) (V' := q_V S) rfl ?_
      refine q_Sim.ck vc_260 (c := v_in x5 100) (pc' := 89) (lv' := [(6, .inl y_10), (0, .inr (.inr (11, 0, 0))), (1, .inl x1), (2, .inl x2), (4, .inl x4), (5, .inl x5)]) (st' := []) (V' := q_V (q_set S (43, 0, 0) x5.toNatClampNeg (((x4 + y_10) - 1) / y_10))) rfl ?_
      refine q_Sim.letS (fun S_11 => ?_)
      refine q_Sim.steps vc_260 4 (pc' := 97) (lv' := [(6, .inl y_10), (0, .inr (.inr (11, 0, 0))), (1, .inl x1), (2, .inl x2), (4, .inl x4), (5, .inl x5)]) (st' := [.inl x5, .inr (.inr (43, 0, 0)), .inl x4]) (V' := q_V S_11) rfl ?_
      refine q_Sim.ck vc_260 (c := v_in x5 100) (pc' := 98) (lv' := [(6, .inl y_10), (0, .inr (.inr (11, 0, 0))), (1, .inl x1), (2, .inl x2), (4, .inl x4), (5, .inl x5)]) (st' := [.inl (S_11.1 (43, 0, 0) x5.toNatClampNeg), .inl x4]) (V' := q_V S_11) rfl ?_
      refine q_Sim.letI (fun y_12 => ?_)
      refine q_Sim.steps vc_260 1 (pc' := 99) (lv' := [(6, .inl y_10), (0, .inr (.inr (11, 0, 0))), (1, .inl x1), (2, .inl x2), (4, .inl x4), (5, .inl x5)]) (st' := [.inl (x4 - y_12)]) (V' := q_V S_11) rfl ?_
      refine q_Sim.letI (fun y_13 => ?_)
      refine q_Sim.steps vc_260 3 (pc' := 60) (lv' := [(5, .inl (x5 + 1)), (4, .inl y_13), (6, .inl y_10), (0, .inr (.inr (11, 0, 0))), (1, .inl x1), (2, .inl x2)]) (st' := []) (V' := q_V S_11) rfl ?_
      exact q_Sim.sub2 (lv' := [(0, .inr (.inr (11, 0, 0))), (1, .inl x1), (2, .inl x2), (4, .inl y_13), (5, .inl (x5 + 1))]) [0, 1, 2, 4, 5] rfl (by decide) ⟨rfl, rfl, rfl, rfl, rfl, trivial⟩ (sb_260_60 n x1 x2 y_13 (x5 + 1) S_11)
def b_260_39 (x1 : Int32) (x2 : Int32) (x3 : Int32) (S : QS) : Option ((Int32) × QS) := if x3 ≤ 0 then (q_bd (f_190 x1 0 S) (fun r_3 S_4 => b_260_60 q_N x1 x2 r_3 0 S_4)) else (q_bd (f_186 x3 S) (fun r_14 S_15 => some (r_14, S_15)))
theorem sb_260_39 (x1 : Int32) (x2 : Int32) (x3 : Int32) (S : QS) : q_Sim 260 39 [(0, .inr (.inr (11, 0, 0))), (1, .inl x1), (2, .inl x2), (3, .inl x3)] [] (q_V S) q_I (b_260_39 x1 x2 x3 S) := by
  unfold b_260_39
  refine q_Sim.steps vc_260 1 (pc' := 40) (lv' := [(0, .inr (.inr (11, 0, 0))), (1, .inl x1), (2, .inl x2), (3, .inl x3)]) (st' := [.inl x3]) (V' := q_V S) rfl ?_
  refine q_Sim.br vc_260 (c := x3 ≤ 0) (t := 49) (f := 43) (lv' := [(0, .inr (.inr (11, 0, 0))), (1, .inl x1), (2, .inl x2), (3, .inl x3)]) (st' := []) (V' := q_V S) rfl ?_ ?_
  · refine q_Sim.steps vc_260 3 (pc' := 52) (lv' := [(0, .inr (.inr (11, 0, 0))), (1, .inl x1), (2, .inl x2), (3, .inl x3)]) (st' := [.inl 0, .inl x1, .inr (.inr (11, 0, 0))]) (V' := q_V S) rfl ?_
    refine q_Sim.call vc_260 (as := [.inr (.inr (11, 0, 0)), .inl x1, .inl 0]) (pc' := 55) (lv' := [(0, .inr (.inr (11, 0, 0))), (1, .inl x1), (2, .inl x2), (3, .inl x3)]) (st' := []) (S := S) rfl (rc_190 x1 0) (s_190 x1 0 S) (fun r_3 S_4 => ?_)
    refine q_Sim.steps vc_260 3 (pc' := 60) (lv' := [(5, .inl 0), (4, .inl r_3), (0, .inr (.inr (11, 0, 0))), (1, .inl x1), (2, .inl x2), (3, .inl x3)]) (st' := []) (V' := q_V S_4) rfl ?_
    exact q_Sim.sub2 (lv' := [(0, .inr (.inr (11, 0, 0))), (1, .inl x1), (2, .inl x2), (4, .inl r_3), (5, .inl 0)]) [0, 1, 2, 4, 5] rfl (by decide) ⟨rfl, rfl, rfl, rfl, rfl, trivial⟩ (sb_260_60 q_N x1 x2 r_3 0 S_4)
  · refine q_Sim.steps vc_260 2 (pc' := 45) (lv' := [(0, .inr (.inr (11, 0, 0))), (1, .inl x1), (2, .inl x2), (3, .inl x3)]) (st' := [.inl x3, .inr (.inr (11, 0, 0))]) (V' := q_V S) rfl ?_
    refine q_Sim.call vc_260 (as := [.inr (.inr (11, 0, 0)), .inl x3]) (pc' := 48) (lv' := [(0, .inr (.inr (11, 0, 0))), (1, .inl x1), (2, .inl x2), (3, .inl x3)]) (st' := []) (S := S) rfl (rc_186 x3) (s_186 x3 S) (fun r_14 S_15 => ?_)
    exact q_Sim.ret vc_260 rfl
def b_260_38 (x1 : Int32) (x2 : Int32) (xs0 : Int32) (S : QS) : Option ((Int32) × QS) := b_260_39 x1 x2 xs0 S
theorem sb_260_38 (x1 : Int32) (x2 : Int32) (xs0 : Int32) (S : QS) : q_Sim 260 38 [(0, .inr (.inr (11, 0, 0))), (1, .inl x1), (2, .inl x2)] [.inl xs0] (q_V S) q_I (b_260_38 x1 x2 xs0 S) := by
  unfold b_260_38
  refine q_Sim.steps vc_260 1 (pc' := 39) (lv' := [(3, .inl xs0), (0, .inr (.inr (11, 0, 0))), (1, .inl x1), (2, .inl x2)]) (st' := []) (V' := q_V S) rfl ?_
  exact q_Sim.sub2 (lv' := [(0, .inr (.inr (11, 0, 0))), (1, .inl x1), (2, .inl x2), (3, .inl xs0)]) [0, 1, 2, 3] rfl (by decide) ⟨rfl, rfl, rfl, rfl, trivial⟩ (sb_260_39 x1 x2 xs0 S)
def f_260 (x1 : Int32) (x2 : Int32) (S : QS) : Option ((Int32) × QS) := q_bd (f_198 x1 S) (fun r_1 S_2 => if ¬ r_1 = 0 then (b_260_39 x1 x2 r_1 S_2) else (if x2 ≤ 100 then (if 0 ≤ x2 then (if ¬ x2 = 0 then (b_260_38 x1 x2 0 S_2) else (b_260_38 x1 x2 4 S_2)) else (b_260_38 x1 x2 5 S_2)) else (b_260_38 x1 x2 6 S_2)))
theorem s_260 (x1 : Int32) (x2 : Int32) (S : QS) : q_Sim 260 0 [(0, .inr (.inr (11, 0, 0))), (1, .inl x1), (2, .inl x2)] [] (q_V S) q_I (f_260 x1 x2 S) := by
  unfold f_260
  refine q_Sim.steps vc_260 2 (pc' := 2) (lv' := [(0, .inr (.inr (11, 0, 0))), (1, .inl x1), (2, .inl x2)]) (st' := [.inl x1, .inr (.inr (11, 0, 0))]) (V' := q_V S) rfl ?_
  refine q_Sim.call vc_260 (as := [.inr (.inr (11, 0, 0)), .inl x1]) (pc' := 5) (lv' := [(0, .inr (.inr (11, 0, 0))), (1, .inl x1), (2, .inl x2)]) (st' := []) (S := S) rfl (rc_198 x1) (s_198 x1 S) (fun r_1 S_2 => ?_)
  refine q_Sim.steps vc_260 2 (pc' := 7) (lv' := [(3, .inl r_1), (0, .inr (.inr (11, 0, 0))), (1, .inl x1), (2, .inl x2)]) (st' := [.inl r_1]) (V' := q_V S_2) rfl ?_
  refine q_Sim.br vc_260 (c := ¬ r_1 = 0) (t := 39) (f := 10) (lv' := [(3, .inl r_1), (0, .inr (.inr (11, 0, 0))), (1, .inl x1), (2, .inl x2)]) (st' := []) (V' := q_V S_2) rfl ?_ ?_
  · exact q_Sim.sub2 (lv' := [(0, .inr (.inr (11, 0, 0))), (1, .inl x1), (2, .inl x2), (3, .inl r_1)]) [0, 1, 2, 3] rfl (by decide) ⟨rfl, rfl, rfl, rfl, trivial⟩ (sb_260_39 x1 x2 r_1 S_2)
  · refine q_Sim.steps vc_260 2 (pc' := 13) (lv' := [(3, .inl r_1), (0, .inr (.inr (11, 0, 0))), (1, .inl x1), (2, .inl x2)]) (st' := [.inl 100, .inl x2]) (V' := q_V S_2) rfl ?_
    refine q_Sim.br vc_260 (c := x2 ≤ 100) (t := 21) (f := 16) (lv' := [(3, .inl r_1), (0, .inr (.inr (11, 0, 0))), (1, .inl x1), (2, .inl x2)]) (st' := []) (V' := q_V S_2) rfl ?_ ?_
    · refine q_Sim.steps vc_260 1 (pc' := 22) (lv' := [(3, .inl r_1), (0, .inr (.inr (11, 0, 0))), (1, .inl x1), (2, .inl x2)]) (st' := [.inl x2]) (V' := q_V S_2) rfl ?_
      refine q_Sim.br vc_260 (c := 0 ≤ x2) (t := 29) (f := 25) (lv' := [(3, .inl r_1), (0, .inr (.inr (11, 0, 0))), (1, .inl x1), (2, .inl x2)]) (st' := []) (V' := q_V S_2) rfl ?_ ?_
      · refine q_Sim.steps vc_260 1 (pc' := 30) (lv' := [(3, .inl r_1), (0, .inr (.inr (11, 0, 0))), (1, .inl x1), (2, .inl x2)]) (st' := [.inl x2]) (V' := q_V S_2) rfl ?_
        refine q_Sim.br vc_260 (c := ¬ x2 = 0) (t := 37) (f := 33) (lv' := [(3, .inl r_1), (0, .inr (.inr (11, 0, 0))), (1, .inl x1), (2, .inl x2)]) (st' := []) (V' := q_V S_2) rfl ?_ ?_
        · refine q_Sim.steps vc_260 1 (pc' := 38) (lv' := [(3, .inl r_1), (0, .inr (.inr (11, 0, 0))), (1, .inl x1), (2, .inl x2)]) (st' := [.inl 0]) (V' := q_V S_2) rfl ?_
          exact q_Sim.sub2 (lv' := [(0, .inr (.inr (11, 0, 0))), (1, .inl x1), (2, .inl x2)]) [0, 1, 2] rfl (by decide) ⟨rfl, rfl, rfl, trivial⟩ (sb_260_38 x1 x2 0 S_2)
        · refine q_Sim.steps vc_260 2 (pc' := 38) (lv' := [(3, .inl r_1), (0, .inr (.inr (11, 0, 0))), (1, .inl x1), (2, .inl x2)]) (st' := [.inl 4]) (V' := q_V S_2) rfl ?_
          exact q_Sim.sub2 (lv' := [(0, .inr (.inr (11, 0, 0))), (1, .inl x1), (2, .inl x2)]) [0, 1, 2] rfl (by decide) ⟨rfl, rfl, rfl, trivial⟩ (sb_260_38 x1 x2 4 S_2)
      · refine q_Sim.steps vc_260 2 (pc' := 38) (lv' := [(3, .inl r_1), (0, .inr (.inr (11, 0, 0))), (1, .inl x1), (2, .inl x2)]) (st' := [.inl 5]) (V' := q_V S_2) rfl ?_
        exact q_Sim.sub2 (lv' := [(0, .inr (.inr (11, 0, 0))), (1, .inl x1), (2, .inl x2)]) [0, 1, 2] rfl (by decide) ⟨rfl, rfl, rfl, trivial⟩ (sb_260_38 x1 x2 5 S_2)
    · refine q_Sim.steps vc_260 2 (pc' := 38) (lv' := [(3, .inl r_1), (0, .inr (.inr (11, 0, 0))), (1, .inl x1), (2, .inl x2)]) (st' := [.inl 6]) (V' := q_V S_2) rfl ?_
      exact q_Sim.sub2 (lv' := [(0, .inr (.inr (11, 0, 0))), (1, .inl x1), (2, .inl x2)]) [0, 1, 2] rfl (by decide) ⟨rfl, rfl, rfl, trivial⟩ (sb_260_38 x1 x2 6 S_2)
theorem vc_261 : v_code 261 = k_261 := rfl
theorem rc_261 (x1 : Int32) : v_rcv 261 [.inr (.inr (11, 0, 0)), .inl x1] = true := rfl
def f_261 (x1 : Int32) (S : QS) : Option ((Int32) × QS) := if 0 ≤ (S.1 (11, 0, 0) 8) then (q_bd (f_189 x1 0 ((S.1 (11, 0, 0) 8) - 1) S) (fun r_1 S_2 => if r_1 = 0 then (q_bd (f_186 2 S_2) (fun r_3 S_4 => some (r_3, S_4))) else (q_ck (v_in x1 100) (q_let (S_2.1 (43, 0, 0) x1.toNatClampNeg) (fun y_5 => q_bd (f_187 y_5 S_2) (fun r_6 S_7 => some (r_6, S_7))))))) else (q_bd (f_186 1 S) (fun r_8 S_9 => some (r_8, S_9)))
theorem s_261 (x1 : Int32) (S : QS) : q_Sim 261 0 [(0, .inr (.inr (11, 0, 0))), (1, .inl x1)] [] (q_V S) q_I (f_261 x1 S) := by
  unfold f_261
  refine q_Sim.steps vc_261 2 (pc' := 4) (lv' := [(0, .inr (.inr (11, 0, 0))), (1, .inl x1)]) (st' := [.inl (S.1 (11, 0, 0) 8)]) (V' := q_V S) rfl ?_
  refine q_Sim.br vc_261 (c := 0 ≤ (S.1 (11, 0, 0) 8)) (t := 15) (f := 7) (lv' := [(0, .inr (.inr (11, 0, 0))), (1, .inl x1)]) (st' := []) (V' := q_V S) rfl ?_ ?_
  · refine q_Sim.steps vc_261 6 (pc' := 23) (lv' := [(0, .inr (.inr (11, 0, 0))), (1, .inl x1)]) (st' := [.inl ((S.1 (11, 0, 0) 8) - 1), .inl 0, .inl x1]) (V' := q_V S) rfl ?_
    refine q_Sim.call vc_261 (as := [.inl x1, .inl 0, .inl ((S.1 (11, 0, 0) 8) - 1)]) (pc' := 26) (lv' := [(0, .inr (.inr (11, 0, 0))), (1, .inl x1)]) (st' := []) (S := S) rfl (rc_189 x1 0 ((S.1 (11, 0, 0) 8) - 1)) (s_189 x1 0 ((S.1 (11, 0, 0) 8) - 1) S) (fun r_1 S_2 => ?_)
    refine q_Sim.br vc_261 (c := r_1 = 0) (t := 42) (f := 29) (lv' := [(0, .inr (.inr (11, 0, 0))), (1, .inl x1)]) (st' := []) (V' := q_V S_2) rfl ?_ ?_
    · refine q_Sim.steps vc_261 2 (pc' := 44) (lv' := [(0, .inr (.inr (11, 0, 0))), (1, .inl x1)]) (st' := [.inl 2, .inr (.inr (11, 0, 0))]) (V' := q_V S_2) rfl ?_
      refine q_Sim.call vc_261 (as := [.inr (.inr (11, 0, 0)), .inl 2]) (pc' := 47) (lv' := [(0, .inr (.inr (11, 0, 0))), (1, .inl x1)]) (st' := []) (S := S_2) rfl (rc_186 2) (s_186 2 S_2) (fun r_3 S_4 => ?_)
      exact q_Sim.ret vc_261 rfl
    · refine q_Sim.steps vc_261 4 (pc' := 35) (lv' := [(0, .inr (.inr (11, 0, 0))), (1, .inl x1)]) (st' := [.inl x1, .inr (.inr (43, 0, 0)), .inr (.inr (11, 0, 0))]) (V' := q_V S_2) rfl ?_
      refine q_Sim.ck vc_261 (c := v_in x1 100) (pc' := 36) (lv' := [(0, .inr (.inr (11, 0, 0))), (1, .inl x1)]) (st' := [.inl (S_2.1 (43, 0, 0) x1.toNatClampNeg), .inr (.inr (11, 0, 0))]) (V' := q_V S_2) rfl ?_
      refine q_Sim.letI (fun y_5 => ?_)
      refine q_Sim.call vc_261 (as := [.inr (.inr (11, 0, 0)), .inl y_5]) (pc' := 39) (lv' := [(0, .inr (.inr (11, 0, 0))), (1, .inl x1)]) (st' := []) (S := S_2) rfl (rc_187 y_5) (s_187 y_5 S_2) (fun r_6 S_7 => ?_)
      refine q_Sim.steps vc_261 1 (pc' := 47) (lv' := [(0, .inr (.inr (11, 0, 0))), (1, .inl x1)]) (st' := [.inl r_6]) (V' := q_V S_7) rfl ?_
      exact q_Sim.ret vc_261 rfl
  · refine q_Sim.steps vc_261 2 (pc' := 9) (lv' := [(0, .inr (.inr (11, 0, 0))), (1, .inl x1)]) (st' := [.inl 1, .inr (.inr (11, 0, 0))]) (V' := q_V S) rfl ?_
    refine q_Sim.call vc_261 (as := [.inr (.inr (11, 0, 0)), .inl 1]) (pc' := 12) (lv' := [(0, .inr (.inr (11, 0, 0))), (1, .inl x1)]) (st' := []) (S := S) rfl (rc_186 1) (s_186 1 S) (fun r_8 S_9 => ?_)
    refine q_Sim.steps vc_261 1 (pc' := 47) (lv' := [(0, .inr (.inr (11, 0, 0))), (1, .inl x1)]) (st' := [.inl r_8]) (V' := q_V S_9) rfl ?_
    exact q_Sim.ret vc_261 rfl
theorem vc_262 : v_code 262 = k_262 := rfl
theorem rc_262 (x1 : Int32) (x2 : Int32) (x3 : Int32) : v_rcv 262 [.inr (.inr (11, 0, 0)), .inl x1, .inl x2, .inl x3] = true := rfl
def b_262_50 (x1 : Int32) (x2 : Int32) (x3 : Int32) (x4 : Int32) (S : QS) : Option ((Int32) × QS) := if x4 ≤ 0 then (q_bd (f_188  S) (fun r_3 S_4 => q_bd (f_190 x1 4 S_4) (fun r_5 S_6 => q_bd (f_191 x1 4 (r_5 + 1) S_6) (fun r_7 S_8 => q_bd (f_190 x1 5 S_8) (fun r_9 S_10 => q_bd (f_191 x1 5 (r_9 + x2) S_10) (fun r_11 S_12 => q_bd (f_190 x1 6 S_12) (fun r_13 S_14 => q_bd (f_191 x1 6 (r_13 + x3) S_14) (fun r_15 S_16 => q_bd (f_190 x1 4 S_16) (fun r_17 S_18 => q_bd (f_187 r_17 S_18) (fun r_19 S_20 => some (r_19, S_20))))))))))) else (q_bd (f_186 x4 S) (fun r_21 S_22 => some (r_21, S_22)))
theorem sb_262_50 (x1 : Int32) (x2 : Int32) (x3 : Int32) (x4 : Int32) (S : QS) : q_Sim 262 50 [(0, .inr (.inr (11, 0, 0))), (1, .inl x1), (2, .inl x2), (3, .inl x3), (4, .inl x4)] [] (q_V S) q_I (b_262_50 x1 x2 x3 x4 S) := by
  unfold b_262_50
  refine q_Sim.steps vc_262 1 (pc' := 52) (lv' := [(0, .inr (.inr (11, 0, 0))), (1, .inl x1), (2, .inl x2), (3, .inl x3), (4, .inl x4)]) (st' := [.inl x4]) (V' := q_V S) rfl ?_
  refine q_Sim.br vc_262 (c := x4 ≤ 0) (t := 62) (f := 55) (lv' := [(0, .inr (.inr (11, 0, 0))), (1, .inl x1), (2, .inl x2), (3, .inl x3), (4, .inl x4)]) (st' := []) (V' := q_V S) rfl ?_ ?_
  · refine q_Sim.steps vc_262 1 (pc' := 63) (lv' := [(0, .inr (.inr (11, 0, 0))), (1, .inl x1), (2, .inl x2), (3, .inl x3), (4, .inl x4)]) (st' := [.inr (.inr (11, 0, 0))]) (V' := q_V S) rfl ?_
    refine q_Sim.call vc_262 (as := [.inr (.inr (11, 0, 0))]) (pc' := 66) (lv' := [(0, .inr (.inr (11, 0, 0))), (1, .inl x1), (2, .inl x2), (3, .inl x3), (4, .inl x4)]) (st' := []) (S := S) rfl (rc_188 ) (s_188  S) (fun r_3 S_4 => ?_)
    refine q_Sim.steps vc_262 6 (pc' := 72) (lv' := [(0, .inr (.inr (11, 0, 0))), (1, .inl x1), (2, .inl x2), (3, .inl x3), (4, .inl x4)]) (st' := [.inl 4, .inl x1, .inr (.inr (11, 0, 0)), .inl 4, .inl x1, .inr (.inr (11, 0, 0))]) (V' := q_V S_4) rfl ?_
    refine q_Sim.call vc_262 (as := [.inr (.inr (11, 0, 0)), .inl x1, .inl 4]) (pc' := 75) (lv' := [(0, .inr (.inr (11, 0, 0))), (1, .inl x1), (2, .inl x2), (3, .inl x3), (4, .inl x4)]) (st' := [.inl 4, .inl x1, .inr (.inr (11, 0, 0))]) (S := S_4) rfl (rc_190 x1 4) (s_190 x1 4 S_4) (fun r_5 S_6 => ?_)
    refine q_Sim.steps vc_262 2 (pc' := 77) (lv' := [(0, .inr (.inr (11, 0, 0))), (1, .inl x1), (2, .inl x2), (3, .inl x3), (4, .inl x4)]) (st' := [.inl (r_5 + 1), .inl 4, .inl x1, .inr (.inr (11, 0, 0))]) (V' := q_V S_6) rfl ?_
    refine q_Sim.call vc_262 (as := [.inr (.inr (11, 0, 0)), .inl x1, .inl 4, .inl (r_5 + 1)]) (pc' := 80) (lv' := [(0, .inr (.inr (11, 0, 0))), (1, .inl x1), (2, .inl x2), (3, .inl x3), (4, .inl x4)]) (st' := []) (S := S_6) rfl (rc_191 x1 4 (r_5 + 1)) (s_191 x1 4 (r_5 + 1) S_6) (fun r_7 S_8 => ?_)
    refine q_Sim.steps vc_262 6 (pc' := 86) (lv' := [(0, .inr (.inr (11, 0, 0))), (1, .inl x1), (2, .inl x2), (3, .inl x3), (4, .inl x4)]) (st' := [.inl 5, .inl x1, .inr (.inr (11, 0, 0)), .inl 5, .inl x1, .inr (.inr (11, 0, 0))]) (V' := q_V S_8) rfl ?_
    refine q_Sim.call vc_262 (as := [.inr (.inr (11, 0, 0)), .inl x1, .inl 5]) (pc' := 89) (lv' := [(0, .inr (.inr (11, 0, 0))), (1, .inl x1), (2, .inl x2), (3, .inl x3), (4, .inl x4)]) (st' := [.inl 5, .inl x1, .inr (.inr (11, 0, 0))]) (S := S_8) rfl (rc_190 x1 5) (s_190 x1 5 S_8) (fun r_9 S_10 => ?_)
    refine q_Sim.steps vc_262 2 (pc' := 91) (lv' := [(0, .inr (.inr (11, 0, 0))), (1, .inl x1), (2, .inl x2), (3, .inl x3), (4, .inl x4)]) (st' := [.inl (r_9 + x2), .inl 5, .inl x1, .inr (.inr (11, 0, 0))]) (V' := q_V S_10) rfl ?_
    refine q_Sim.call vc_262 (as := [.inr (.inr (11, 0, 0)), .inl x1, .inl 5, .inl (r_9 + x2)]) (pc' := 94) (lv' := [(0, .inr (.inr (11, 0, 0))), (1, .inl x1), (2, .inl x2), (3, .inl x3), (4, .inl x4)]) (st' := []) (S := S_10) rfl (rc_191 x1 5 (r_9 + x2)) (s_191 x1 5 (r_9 + x2) S_10) (fun r_11 S_12 => ?_)
    refine q_Sim.steps vc_262 6 (pc' := 102) (lv' := [(0, .inr (.inr (11, 0, 0))), (1, .inl x1), (2, .inl x2), (3, .inl x3), (4, .inl x4)]) (st' := [.inl 6, .inl x1, .inr (.inr (11, 0, 0)), .inl 6, .inl x1, .inr (.inr (11, 0, 0))]) (V' := q_V S_12) rfl ?_
    refine q_Sim.call vc_262 (as := [.inr (.inr (11, 0, 0)), .inl x1, .inl 6]) (pc' := 105) (lv' := [(0, .inr (.inr (11, 0, 0))), (1, .inl x1), (2, .inl x2), (3, .inl x3), (4, .inl x4)]) (st' := [.inl 6, .inl x1, .inr (.inr (11, 0, 0))]) (S := S_12) rfl (rc_190 x1 6) (s_190 x1 6 S_12) (fun r_13 S_14 => ?_)
    refine q_Sim.steps vc_262 2 (pc' := 107) (lv' := [(0, .inr (.inr (11, 0, 0))), (1, .inl x1), (2, .inl x2), (3, .inl x3), (4, .inl x4)]) (st' := [.inl (r_13 + x3), .inl 6, .inl x1, .inr (.inr (11, 0, 0))]) (V' := q_V S_14) rfl ?_
    refine q_Sim.call vc_262 (as := [.inr (.inr (11, 0, 0)), .inl x1, .inl 6, .inl (r_13 + x3)]) (pc' := 110) (lv' := [(0, .inr (.inr (11, 0, 0))), (1, .inl x1), (2, .inl x2), (3, .inl x3), (4, .inl x4)]) (st' := []) (S := S_14) rfl (rc_191 x1 6 (r_13 + x3)) (s_191 x1 6 (r_13 + x3) S_14) (fun r_15 S_16 => ?_)
    refine q_Sim.steps vc_262 4 (pc' := 114) (lv' := [(0, .inr (.inr (11, 0, 0))), (1, .inl x1), (2, .inl x2), (3, .inl x3), (4, .inl x4)]) (st' := [.inl 4, .inl x1, .inr (.inr (11, 0, 0)), .inr (.inr (11, 0, 0))]) (V' := q_V S_16) rfl ?_
    refine q_Sim.call vc_262 (as := [.inr (.inr (11, 0, 0)), .inl x1, .inl 4]) (pc' := 117) (lv' := [(0, .inr (.inr (11, 0, 0))), (1, .inl x1), (2, .inl x2), (3, .inl x3), (4, .inl x4)]) (st' := [.inr (.inr (11, 0, 0))]) (S := S_16) rfl (rc_190 x1 4) (s_190 x1 4 S_16) (fun r_17 S_18 => ?_)
    refine q_Sim.call vc_262 (as := [.inr (.inr (11, 0, 0)), .inl r_17]) (pc' := 120) (lv' := [(0, .inr (.inr (11, 0, 0))), (1, .inl x1), (2, .inl x2), (3, .inl x3), (4, .inl x4)]) (st' := []) (S := S_18) rfl (rc_187 r_17) (s_187 r_17 S_18) (fun r_19 S_20 => ?_)
    exact q_Sim.ret vc_262 rfl
  · refine q_Sim.steps vc_262 2 (pc' := 58) (lv' := [(0, .inr (.inr (11, 0, 0))), (1, .inl x1), (2, .inl x2), (3, .inl x3), (4, .inl x4)]) (st' := [.inl x4, .inr (.inr (11, 0, 0))]) (V' := q_V S) rfl ?_
    refine q_Sim.call vc_262 (as := [.inr (.inr (11, 0, 0)), .inl x4]) (pc' := 61) (lv' := [(0, .inr (.inr (11, 0, 0))), (1, .inl x1), (2, .inl x2), (3, .inl x3), (4, .inl x4)]) (st' := []) (S := S) rfl (rc_186 x4) (s_186 x4 S) (fun r_21 S_22 => ?_)
    exact q_Sim.ret vc_262 rfl
def b_262_38 (x1 : Int32) (x2 : Int32) (x3 : Int32) (x4 : Int32) (S : QS) : Option ((Int32) × QS) := if ¬ x4 = 0 then (b_262_50 x1 x2 x3 x4 S) else (if ¬ x3 = 0 then (b_262_50 x1 x2 x3 x4 S) else (b_262_50 x1 x2 x3 4 S))
theorem sb_262_38 (x1 : Int32) (x2 : Int32) (x3 : Int32) (x4 : Int32) (S : QS) : q_Sim 262 38 [(0, .inr (.inr (11, 0, 0))), (1, .inl x1), (2, .inl x2), (3, .inl x3), (4, .inl x4)] [] (q_V S) q_I (b_262_38 x1 x2 x3 x4 S) := by
  unfold b_262_38
  refine q_Sim.steps vc_262 1 (pc' := 40) (lv' := [(0, .inr (.inr (11, 0, 0))), (1, .inl x1), (2, .inl x2), (3, .inl x3), (4, .inl x4)]) (st' := [.inl x4]) (V' := q_V S) rfl ?_
  refine q_Sim.br vc_262 (c := ¬ x4 = 0) (t := 50) (f := 43) (lv' := [(0, .inr (.inr (11, 0, 0))), (1, .inl x1), (2, .inl x2), (3, .inl x3), (4, .inl x4)]) (st' := []) (V' := q_V S) rfl ?_ ?_
  · exact q_Sim.sub2 (lv' := [(0, .inr (.inr (11, 0, 0))), (1, .inl x1), (2, .inl x2), (3, .inl x3), (4, .inl x4)]) [0, 1, 2, 3, 4] rfl (by decide) ⟨rfl, rfl, rfl, rfl, rfl, trivial⟩ (sb_262_50 x1 x2 x3 x4 S)
  · refine q_Sim.steps vc_262 1 (pc' := 44) (lv' := [(0, .inr (.inr (11, 0, 0))), (1, .inl x1), (2, .inl x2), (3, .inl x3), (4, .inl x4)]) (st' := [.inl x3]) (V' := q_V S) rfl ?_
    refine q_Sim.br vc_262 (c := ¬ x3 = 0) (t := 50) (f := 47) (lv' := [(0, .inr (.inr (11, 0, 0))), (1, .inl x1), (2, .inl x2), (3, .inl x3), (4, .inl x4)]) (st' := []) (V' := q_V S) rfl ?_ ?_
    · exact q_Sim.sub2 (lv' := [(0, .inr (.inr (11, 0, 0))), (1, .inl x1), (2, .inl x2), (3, .inl x3), (4, .inl x4)]) [0, 1, 2, 3, 4] rfl (by decide) ⟨rfl, rfl, rfl, rfl, rfl, trivial⟩ (sb_262_50 x1 x2 x3 x4 S)
    · refine q_Sim.steps vc_262 2 (pc' := 50) (lv' := [(4, .inl 4), (0, .inr (.inr (11, 0, 0))), (1, .inl x1), (2, .inl x2), (3, .inl x3)]) (st' := []) (V' := q_V S) rfl ?_
      exact q_Sim.sub2 (lv' := [(0, .inr (.inr (11, 0, 0))), (1, .inl x1), (2, .inl x2), (3, .inl x3), (4, .inl 4)]) [0, 1, 2, 3, 4] rfl (by decide) ⟨rfl, rfl, rfl, rfl, rfl, trivial⟩ (sb_262_50 x1 x2 x3 4 S)
def b_262_34 (x1 : Int32) (x2 : Int32) (x3 : Int32) (S : QS) : Option ((Int32) × QS) := b_262_38 x1 x2 x3 6 S
theorem sb_262_34 (x1 : Int32) (x2 : Int32) (x3 : Int32) (S : QS) : q_Sim 262 34 [(0, .inr (.inr (11, 0, 0))), (1, .inl x1), (2, .inl x2), (3, .inl x3)] [] (q_V S) q_I (b_262_34 x1 x2 x3 S) := by
  unfold b_262_34
  refine q_Sim.steps vc_262 2 (pc' := 38) (lv' := [(4, .inl 6), (0, .inr (.inr (11, 0, 0))), (1, .inl x1), (2, .inl x2), (3, .inl x3)]) (st' := []) (V' := q_V S) rfl ?_
  exact q_Sim.sub2 (lv' := [(0, .inr (.inr (11, 0, 0))), (1, .inl x1), (2, .inl x2), (3, .inl x3), (4, .inl 6)]) [0, 1, 2, 3, 4] rfl (by decide) ⟨rfl, rfl, rfl, rfl, rfl, trivial⟩ (sb_262_38 x1 x2 x3 6 S)
def f_262 (x1 : Int32) (x2 : Int32) (x3 : Int32) (S : QS) : Option ((Int32) × QS) := q_bd (f_198 x1 S) (fun r_1 S_2 => if ¬ r_1 = 0 then (b_262_38 x1 x2 x3 r_1 S_2) else (q_bd (f_189 x2 0 10000 S_2) (fun r_23 S_24 => if r_23 = 0 then (b_262_34 x1 x2 x3 S_24) else (q_bd (f_189 x3 0 10000 S_24) (fun r_25 S_26 => if ¬ r_25 = 0 then (b_262_38 x1 x2 x3 r_1 S_26) else (b_262_34 x1 x2 x3 S_26))))))
theorem s_262 (x1 : Int32) (x2 : Int32) (x3 : Int32) (S : QS) : q_Sim 262 0 [(0, .inr (.inr (11, 0, 0))), (1, .inl x1), (2, .inl x2), (3, .inl x3)] [] (q_V S) q_I (f_262 x1 x2 x3 S) := by
  unfold f_262
  refine q_Sim.steps vc_262 2 (pc' := 2) (lv' := [(0, .inr (.inr (11, 0, 0))), (1, .inl x1), (2, .inl x2), (3, .inl x3)]) (st' := [.inl x1, .inr (.inr (11, 0, 0))]) (V' := q_V S) rfl ?_
  refine q_Sim.call vc_262 (as := [.inr (.inr (11, 0, 0)), .inl x1]) (pc' := 5) (lv' := [(0, .inr (.inr (11, 0, 0))), (1, .inl x1), (2, .inl x2), (3, .inl x3)]) (st' := []) (S := S) rfl (rc_198 x1) (s_198 x1 S) (fun r_1 S_2 => ?_)
  refine q_Sim.steps vc_262 2 (pc' := 9) (lv' := [(4, .inl r_1), (0, .inr (.inr (11, 0, 0))), (1, .inl x1), (2, .inl x2), (3, .inl x3)]) (st' := [.inl r_1]) (V' := q_V S_2) rfl ?_
  refine q_Sim.br vc_262 (c := ¬ r_1 = 0) (t := 38) (f := 12) (lv' := [(4, .inl r_1), (0, .inr (.inr (11, 0, 0))), (1, .inl x1), (2, .inl x2), (3, .inl x3)]) (st' := []) (V' := q_V S_2) rfl ?_ ?_
  · exact q_Sim.sub2 (lv' := [(0, .inr (.inr (11, 0, 0))), (1, .inl x1), (2, .inl x2), (3, .inl x3), (4, .inl r_1)]) [0, 1, 2, 3, 4] rfl (by decide) ⟨rfl, rfl, rfl, rfl, rfl, trivial⟩ (sb_262_38 x1 x2 x3 r_1 S_2)
  · refine q_Sim.steps vc_262 3 (pc' := 17) (lv' := [(4, .inl r_1), (0, .inr (.inr (11, 0, 0))), (1, .inl x1), (2, .inl x2), (3, .inl x3)]) (st' := [.inl 10000, .inl 0, .inl x2]) (V' := q_V S_2) rfl ?_
    refine q_Sim.call vc_262 (as := [.inl x2, .inl 0, .inl 10000]) (pc' := 20) (lv' := [(4, .inl r_1), (0, .inr (.inr (11, 0, 0))), (1, .inl x1), (2, .inl x2), (3, .inl x3)]) (st' := []) (S := S_2) rfl (rc_189 x2 0 10000) (s_189 x2 0 10000 S_2) (fun r_23 S_24 => ?_)
    refine q_Sim.br vc_262 (c := r_23 = 0) (t := 34) (f := 23) (lv' := [(4, .inl r_1), (0, .inr (.inr (11, 0, 0))), (1, .inl x1), (2, .inl x2), (3, .inl x3)]) (st' := []) (V' := q_V S_24) rfl ?_ ?_
    · exact q_Sim.sub2 (lv' := [(0, .inr (.inr (11, 0, 0))), (1, .inl x1), (2, .inl x2), (3, .inl x3)]) [0, 1, 2, 3] rfl (by decide) ⟨rfl, rfl, rfl, rfl, trivial⟩ (sb_262_34 x1 x2 x3 S_24)
    · refine q_Sim.steps vc_262 3 (pc' := 28) (lv' := [(4, .inl r_1), (0, .inr (.inr (11, 0, 0))), (1, .inl x1), (2, .inl x2), (3, .inl x3)]) (st' := [.inl 10000, .inl 0, .inl x3]) (V' := q_V S_24) rfl ?_
      refine q_Sim.call vc_262 (as := [.inl x3, .inl 0, .inl 10000]) (pc' := 31) (lv' := [(4, .inl r_1), (0, .inr (.inr (11, 0, 0))), (1, .inl x1), (2, .inl x2), (3, .inl x3)]) (st' := []) (S := S_24) rfl (rc_189 x3 0 10000) (s_189 x3 0 10000 S_24) (fun r_25 S_26 => ?_)
      refine q_Sim.br vc_262 (c := ¬ r_25 = 0) (t := 38) (f := 34) (lv' := [(4, .inl r_1), (0, .inr (.inr (11, 0, 0))), (1, .inl x1), (2, .inl x2), (3, .inl x3)]) (st' := []) (V' := q_V S_26) rfl ?_ ?_
      · exact q_Sim.sub2 (lv' := [(0, .inr (.inr (11, 0, 0))), (1, .inl x1), (2, .inl x2), (3, .inl x3), (4, .inl r_1)]) [0, 1, 2, 3, 4] rfl (by decide) ⟨rfl, rfl, rfl, rfl, rfl, trivial⟩ (sb_262_38 x1 x2 x3 r_1 S_26)
      · exact q_Sim.sub2 (lv' := [(0, .inr (.inr (11, 0, 0))), (1, .inl x1), (2, .inl x2), (3, .inl x3)]) [0, 1, 2, 3] rfl (by decide) ⟨rfl, rfl, rfl, rfl, trivial⟩ (sb_262_34 x1 x2 x3 S_26)
theorem vc_263 : v_code 263 = k_263 := rfl
theorem rc_263 (x0 : Int32) (x1 : Int32) : v_rcv 263 [.inl x0, .inl x1] = true := rfl
def b_263_4 : Nat → Int32 → Int32 → QS → Option ((Int32) × QS)
  | 0, _, _, _ => none
  | n + 1, x2, x3, S => if x3 ≤ 0 then (some (x2, S)) else (q_ck (decide (¬ x3 = 0)) (q_let (x2 - x2 / x3 * x3) (fun y_1 => b_263_4 n x3 y_1 S)))
theorem sb_263_4 : ∀ (n : Nat) (x2 : Int32) (x3 : Int32) (S : QS), q_Sim 263 4 [(2, .inl x2), (3, .inl x3)] [] (q_V S) q_I (b_263_4 n x2 x3 S)
  | 0, _, _, _ => q_Sim.none
  | n + 1, x2, x3, S => by
    rw [b_263_4]
    refine q_Sim.steps vc_263 1 (pc' := 5) (lv' := [(2, .inl x2), (3, .inl x3)]) (st' := [.inl x3]) (V' := q_V S) rfl ?_
    refine q_Sim.br vc_263 (c := x3 ≤ 0) (t := 21) (f := 8) (lv' := [(2, .inl x2), (3, .inl x3)]) (st' := []) (V' := q_V S) rfl ?_ ?_
    · refine q_Sim.steps vc_263 1 (pc' := 22) (lv' := [(2, .inl x2), (3, .inl x3)]) (st' := [.inl x2]) (V' := q_V S) rfl ?_
      exact q_Sim.ret vc_263 rfl
    · refine q_Sim.steps vc_263 2 (pc' := 10) (lv' := [(2, .inl x2), (3, .inl x3)]) (st' := [.inl x3, .inl x2]) (V' := q_V S) rfl ?_
      refine q_Sim.ck vc_263 (c := decide (¬ x3 = 0)) (pc' := 11) (lv' := [(2, .inl x2), (3, .inl x3)]) (st' := [.inl (x2 - x2 / x3 * x3)]) (V' := q_V S) rfl ?_
      refine q_Sim.letI (fun y_1 => ?_)
      refine q_Sim.steps vc_263 6 (pc' := 4) (lv' := [(3, .inl y_1), (2, .inl x3), (4, .inl y_1)]) (st' := []) (V' := q_V S) rfl ?_
      exact q_Sim.sub2 (lv' := [(2, .inl x3), (3, .inl y_1)]) [2, 3] rfl (by decide) ⟨rfl, rfl, trivial⟩ (sb_263_4 n x3 y_1 S)
def f_263 (x0 : Int32) (x1 : Int32) (S : QS) : Option ((Int32) × QS) := b_263_4 q_N x0 x1 S
theorem s_263 (x0 : Int32) (x1 : Int32) (S : QS) : q_Sim 263 0 [(0, .inl x0), (1, .inl x1)] [] (q_V S) q_I (f_263 x0 x1 S) := by
  unfold f_263
  refine q_Sim.steps vc_263 4 (pc' := 4) (lv' := [(3, .inl x1), (2, .inl x0), (0, .inl x0), (1, .inl x1)]) (st' := []) (V' := q_V S) rfl ?_
  exact q_Sim.sub2 (lv' := [(2, .inl x0), (3, .inl x1)]) [2, 3] rfl (by decide) ⟨rfl, rfl, trivial⟩ (sb_263_4 q_N x0 x1 S)
theorem vc_264 : v_code 264 = k_264 := rfl
theorem rc_264 (x1 : Int32) (x2 : Int32) : v_rcv 264 [.inr (.inr (11, 0, 0)), .inl x1, .inl x2] = true := rfl
def b_264_102 (xs1 : Int32) (S : QS) : Option ((Int32) × QS) := q_bd (f_187 xs1 S) (fun r_11 S_12 => some (r_11, S_12))
theorem sb_264_102 (xs1 : Int32) (S : QS) : q_Sim 264 102 [] [.inl xs1, .inr (.inr (11, 0, 0))] (q_V S) q_I (b_264_102 xs1 S) := by
  unfold b_264_102
  refine q_Sim.call vc_264 (as := [.inr (.inr (11, 0, 0)), .inl xs1]) (pc' := 105) (lv' := []) (st' := []) (S := S) rfl (rc_187 xs1) (s_187 xs1 S) (fun r_11 S_12 => ?_)
  exact q_Sim.ret vc_264 rfl
def b_264_67 (x1 : Int32) (x2 : Int32) (xs1 : Int32) (xs2 : Int32) (S : QS) : Option ((Int32) × QS) := q_bd (f_190 xs1 xs2 S) (fun r_3 S_4 => if 2 ≤ x2 then (q_bd (f_190 x1 5 S_4) (fun r_5 S_6 => q_bd (f_190 x1 6 S_6) (fun r_7 S_8 => q_bd (f_263 r_5 r_7 S_8) (fun r_9 S_10 => q_ck (decide (¬ r_9 = 0)) (b_264_102 (r_3 / r_9) S_10))))) else (b_264_102 r_3 S_4))
theorem sb_264_67 (x1 : Int32) (x2 : Int32) (xs1 : Int32) (xs2 : Int32) (S : QS) : q_Sim 264 67 [(0, .inr (.inr (11, 0, 0))), (1, .inl x1), (2, .inl x2)] [.inl xs2, .inl xs1, .inr (.inr (11, 0, 0))] (q_V S) q_I (b_264_67 x1 x2 xs1 xs2 S) := by
  unfold b_264_67
  refine q_Sim.call vc_264 (as := [.inr (.inr (11, 0, 0)), .inl xs1, .inl xs2]) (pc' := 70) (lv' := [(0, .inr (.inr (11, 0, 0))), (1, .inl x1), (2, .inl x2)]) (st' := []) (S := S) rfl (rc_190 xs1 xs2) (s_190 xs1 xs2 S) (fun r_3 S_4 => ?_)
  refine q_Sim.steps vc_264 4 (pc' := 75) (lv' := [(4, .inl r_3), (0, .inr (.inr (11, 0, 0))), (1, .inl x1), (2, .inl x2)]) (st' := [.inl 2, .inl x2, .inr (.inr (11, 0, 0))]) (V' := q_V S_4) rfl ?_
  refine q_Sim.br vc_264 (c := 2 ≤ x2) (t := 83) (f := 78) (lv' := [(4, .inl r_3), (0, .inr (.inr (11, 0, 0))), (1, .inl x1), (2, .inl x2)]) (st' := [.inr (.inr (11, 0, 0))]) (V' := q_V S_4) rfl ?_ ?_
  · refine q_Sim.steps vc_264 4 (pc' := 88) (lv' := [(4, .inl r_3), (0, .inr (.inr (11, 0, 0))), (1, .inl x1), (2, .inl x2)]) (st' := [.inl 5, .inl x1, .inr (.inr (11, 0, 0)), .inl r_3, .inr (.inr (11, 0, 0))]) (V' := q_V S_4) rfl ?_
    refine q_Sim.call vc_264 (as := [.inr (.inr (11, 0, 0)), .inl x1, .inl 5]) (pc' := 91) (lv' := [(4, .inl r_3), (0, .inr (.inr (11, 0, 0))), (1, .inl x1), (2, .inl x2)]) (st' := [.inl r_3, .inr (.inr (11, 0, 0))]) (S := S_4) rfl (rc_190 x1 5) (s_190 x1 5 S_4) (fun r_5 S_6 => ?_)
    refine q_Sim.steps vc_264 3 (pc' := 95) (lv' := [(4, .inl r_3), (0, .inr (.inr (11, 0, 0))), (1, .inl x1), (2, .inl x2)]) (st' := [.inl 6, .inl x1, .inr (.inr (11, 0, 0)), .inl r_5, .inl r_3, .inr (.inr (11, 0, 0))]) (V' := q_V S_6) rfl ?_
    refine q_Sim.call vc_264 (as := [.inr (.inr (11, 0, 0)), .inl x1, .inl 6]) (pc' := 98) (lv' := [(4, .inl r_3), (0, .inr (.inr (11, 0, 0))), (1, .inl x1), (2, .inl x2)]) (st' := [.inl r_5, .inl r_3, .inr (.inr (11, 0, 0))]) (S := S_6) rfl (rc_190 x1 6) (s_190 x1 6 S_6) (fun r_7 S_8 => ?_)
    refine q_Sim.call vc_264 (as := [.inl r_5, .inl r_7]) (pc' := 101) (lv' := [(4, .inl r_3), (0, .inr (.inr (11, 0, 0))), (1, .inl x1), (2, .inl x2)]) (st' := [.inl r_3, .inr (.inr (11, 0, 0))]) (S := S_8) rfl (rc_263 r_5 r_7) (s_263 r_5 r_7 S_8) (fun r_9 S_10 => ?_)
    refine q_Sim.ck vc_264 (c := decide (¬ r_9 = 0)) (pc' := 102) (lv' := [(4, .inl r_3), (0, .inr (.inr (11, 0, 0))), (1, .inl x1), (2, .inl x2)]) (st' := [.inl (r_3 / r_9), .inr (.inr (11, 0, 0))]) (V' := q_V S_10) rfl ?_
    exact q_Sim.sub2 (lv' := []) [] rfl (by decide) trivial (sb_264_102 (r_3 / r_9) S_10)
  · refine q_Sim.steps vc_264 2 (pc' := 102) (lv' := [(4, .inl r_3), (0, .inr (.inr (11, 0, 0))), (1, .inl x1), (2, .inl x2)]) (st' := [.inl r_3, .inr (.inr (11, 0, 0))]) (V' := q_V S_4) rfl ?_
    exact q_Sim.sub2 (lv' := []) [] rfl (by decide) trivial (sb_264_102 r_3 S_4)
def b_264_43 (x1 : Int32) (x2 : Int32) (x3 : Int32) (S : QS) : Option ((Int32) × QS) := if x3 ≤ 0 then (if ¬ (x2 - x2 / 2 * 2) = 0 then (b_264_67 x1 x2 x1 6 S) else (b_264_67 x1 x2 x1 5 S)) else (q_bd (f_186 x3 S) (fun r_13 S_14 => some (r_13, S_14)))
theorem sb_264_43 (x1 : Int32) (x2 : Int32) (x3 : Int32) (S : QS) : q_Sim 264 43 [(0, .inr (.inr (11, 0, 0))), (1, .inl x1), (2, .inl x2), (3, .inl x3)] [] (q_V S) q_I (b_264_43 x1 x2 x3 S) := by
  unfold b_264_43
  refine q_Sim.steps vc_264 1 (pc' := 44) (lv' := [(0, .inr (.inr (11, 0, 0))), (1, .inl x1), (2, .inl x2), (3, .inl x3)]) (st' := [.inl x3]) (V' := q_V S) rfl ?_
  refine q_Sim.br vc_264 (c := x3 ≤ 0) (t := 53) (f := 47) (lv' := [(0, .inr (.inr (11, 0, 0))), (1, .inl x1), (2, .inl x2), (3, .inl x3)]) (st' := []) (V' := q_V S) rfl ?_ ?_
  · refine q_Sim.steps vc_264 4 (pc' := 57) (lv' := [(0, .inr (.inr (11, 0, 0))), (1, .inl x1), (2, .inl x2), (3, .inl x3)]) (st' := [.inl 2, .inl x2, .inl x1, .inr (.inr (11, 0, 0))]) (V' := q_V S) rfl ?_
    refine q_Sim.okd vc_264 (c := decide (¬ (2 : Int32) = 0)) (pc' := 58) (lv' := [(0, .inr (.inr (11, 0, 0))), (1, .inl x1), (2, .inl x2), (3, .inl x3)]) (st' := [.inl (x2 - x2 / 2 * 2), .inl x1, .inr (.inr (11, 0, 0))]) (V' := q_V S) rfl (by decide) ?_
    refine q_Sim.br vc_264 (c := ¬ (x2 - x2 / 2 * 2) = 0) (t := 65) (f := 61) (lv' := [(0, .inr (.inr (11, 0, 0))), (1, .inl x1), (2, .inl x2), (3, .inl x3)]) (st' := [.inl x1, .inr (.inr (11, 0, 0))]) (V' := q_V S) rfl ?_ ?_
    · refine q_Sim.steps vc_264 1 (pc' := 67) (lv' := [(0, .inr (.inr (11, 0, 0))), (1, .inl x1), (2, .inl x2), (3, .inl x3)]) (st' := [.inl 6, .inl x1, .inr (.inr (11, 0, 0))]) (V' := q_V S) rfl ?_
      exact q_Sim.sub2 (lv' := [(0, .inr (.inr (11, 0, 0))), (1, .inl x1), (2, .inl x2)]) [0, 1, 2] rfl (by decide) ⟨rfl, rfl, rfl, trivial⟩ (sb_264_67 x1 x2 x1 6 S)
    · refine q_Sim.steps vc_264 2 (pc' := 67) (lv' := [(0, .inr (.inr (11, 0, 0))), (1, .inl x1), (2, .inl x2), (3, .inl x3)]) (st' := [.inl 5, .inl x1, .inr (.inr (11, 0, 0))]) (V' := q_V S) rfl ?_
      exact q_Sim.sub2 (lv' := [(0, .inr (.inr (11, 0, 0))), (1, .inl x1), (2, .inl x2)]) [0, 1, 2] rfl (by decide) ⟨rfl, rfl, rfl, trivial⟩ (sb_264_67 x1 x2 x1 5 S)
  · refine q_Sim.steps vc_264 2 (pc' := 49) (lv' := [(0, .inr (.inr (11, 0, 0))), (1, .inl x1), (2, .inl x2), (3, .inl x3)]) (st' := [.inl x3, .inr (.inr (11, 0, 0))]) (V' := q_V S) rfl ?_
    refine q_Sim.call vc_264 (as := [.inr (.inr (11, 0, 0)), .inl x3]) (pc' := 52) (lv' := [(0, .inr (.inr (11, 0, 0))), (1, .inl x1), (2, .inl x2), (3, .inl x3)]) (st' := []) (S := S) rfl (rc_186 x3) (s_186 x3 S) (fun r_13 S_14 => ?_)
    exact q_Sim.ret vc_264 rfl
def b_264_22 (x1 : Int32) (x2 : Int32) (x3 : Int32) (S : QS) : Option ((Int32) × QS) := if ¬ x3 = 0 then (b_264_43 x1 x2 x3 S) else (if x2 ≤ 1 then (b_264_43 x1 x2 x3 S) else (q_bd (f_190 x1 6 S) (fun r_15 S_16 => if ¬ r_15 = 0 then (b_264_43 x1 x2 x3 S_16) else (b_264_43 x1 x2 4 S_16))))
theorem sb_264_22 (x1 : Int32) (x2 : Int32) (x3 : Int32) (S : QS) : q_Sim 264 22 [(0, .inr (.inr (11, 0, 0))), (1, .inl x1), (2, .inl x2), (3, .inl x3)] [] (q_V S) q_I (b_264_22 x1 x2 x3 S) := by
  unfold b_264_22
  refine q_Sim.steps vc_264 1 (pc' := 23) (lv' := [(0, .inr (.inr (11, 0, 0))), (1, .inl x1), (2, .inl x2), (3, .inl x3)]) (st' := [.inl x3]) (V' := q_V S) rfl ?_
  refine q_Sim.br vc_264 (c := ¬ x3 = 0) (t := 43) (f := 26) (lv' := [(0, .inr (.inr (11, 0, 0))), (1, .inl x1), (2, .inl x2), (3, .inl x3)]) (st' := []) (V' := q_V S) rfl ?_ ?_
  · exact q_Sim.sub2 (lv' := [(0, .inr (.inr (11, 0, 0))), (1, .inl x1), (2, .inl x2), (3, .inl x3)]) [0, 1, 2, 3] rfl (by decide) ⟨rfl, rfl, rfl, rfl, trivial⟩ (sb_264_43 x1 x2 x3 S)
  · refine q_Sim.steps vc_264 2 (pc' := 28) (lv' := [(0, .inr (.inr (11, 0, 0))), (1, .inl x1), (2, .inl x2), (3, .inl x3)]) (st' := [.inl 1, .inl x2]) (V' := q_V S) rfl ?_
    refine q_Sim.br vc_264 (c := x2 ≤ 1) (t := 43) (f := 31) (lv' := [(0, .inr (.inr (11, 0, 0))), (1, .inl x1), (2, .inl x2), (3, .inl x3)]) (st' := []) (V' := q_V S) rfl ?_ ?_
    · exact q_Sim.sub2 (lv' := [(0, .inr (.inr (11, 0, 0))), (1, .inl x1), (2, .inl x2), (3, .inl x3)]) [0, 1, 2, 3] rfl (by decide) ⟨rfl, rfl, rfl, rfl, trivial⟩ (sb_264_43 x1 x2 x3 S)
    · refine q_Sim.steps vc_264 3 (pc' := 35) (lv' := [(0, .inr (.inr (11, 0, 0))), (1, .inl x1), (2, .inl x2), (3, .inl x3)]) (st' := [.inl 6, .inl x1, .inr (.inr (11, 0, 0))]) (V' := q_V S) rfl ?_
      refine q_Sim.call vc_264 (as := [.inr (.inr (11, 0, 0)), .inl x1, .inl 6]) (pc' := 38) (lv' := [(0, .inr (.inr (11, 0, 0))), (1, .inl x1), (2, .inl x2), (3, .inl x3)]) (st' := []) (S := S) rfl (rc_190 x1 6) (s_190 x1 6 S) (fun r_15 S_16 => ?_)
      refine q_Sim.br vc_264 (c := ¬ r_15 = 0) (t := 43) (f := 41) (lv' := [(0, .inr (.inr (11, 0, 0))), (1, .inl x1), (2, .inl x2), (3, .inl x3)]) (st' := []) (V' := q_V S_16) rfl ?_ ?_
      · exact q_Sim.sub2 (lv' := [(0, .inr (.inr (11, 0, 0))), (1, .inl x1), (2, .inl x2), (3, .inl x3)]) [0, 1, 2, 3] rfl (by decide) ⟨rfl, rfl, rfl, rfl, trivial⟩ (sb_264_43 x1 x2 x3 S_16)
      · refine q_Sim.steps vc_264 2 (pc' := 43) (lv' := [(3, .inl 4), (0, .inr (.inr (11, 0, 0))), (1, .inl x1), (2, .inl x2)]) (st' := []) (V' := q_V S_16) rfl ?_
        exact q_Sim.sub2 (lv' := [(0, .inr (.inr (11, 0, 0))), (1, .inl x1), (2, .inl x2), (3, .inl 4)]) [0, 1, 2, 3] rfl (by decide) ⟨rfl, rfl, rfl, rfl, trivial⟩ (sb_264_43 x1 x2 4 S_16)
def f_264 (x1 : Int32) (x2 : Int32) (S : QS) : Option ((Int32) × QS) := q_bd (f_198 x1 S) (fun r_1 S_2 => if ¬ r_1 = 0 then (b_264_22 x1 x2 r_1 S_2) else (q_bd (f_189 x2 0 3 S_2) (fun r_17 S_18 => if ¬ r_17 = 0 then (b_264_22 x1 x2 r_1 S_18) else (b_264_22 x1 x2 6 S_18))))
theorem s_264 (x1 : Int32) (x2 : Int32) (S : QS) : q_Sim 264 0 [(0, .inr (.inr (11, 0, 0))), (1, .inl x1), (2, .inl x2)] [] (q_V S) q_I (f_264 x1 x2 S) := by
  unfold f_264
  refine q_Sim.steps vc_264 2 (pc' := 2) (lv' := [(0, .inr (.inr (11, 0, 0))), (1, .inl x1), (2, .inl x2)]) (st' := [.inl x1, .inr (.inr (11, 0, 0))]) (V' := q_V S) rfl ?_
  refine q_Sim.call vc_264 (as := [.inr (.inr (11, 0, 0)), .inl x1]) (pc' := 5) (lv' := [(0, .inr (.inr (11, 0, 0))), (1, .inl x1), (2, .inl x2)]) (st' := []) (S := S) rfl (rc_198 x1) (s_198 x1 S) (fun r_1 S_2 => ?_)
  refine q_Sim.steps vc_264 2 (pc' := 7) (lv' := [(3, .inl r_1), (0, .inr (.inr (11, 0, 0))), (1, .inl x1), (2, .inl x2)]) (st' := [.inl r_1]) (V' := q_V S_2) rfl ?_
  refine q_Sim.br vc_264 (c := ¬ r_1 = 0) (t := 22) (f := 10) (lv' := [(3, .inl r_1), (0, .inr (.inr (11, 0, 0))), (1, .inl x1), (2, .inl x2)]) (st' := []) (V' := q_V S_2) rfl ?_ ?_
  · exact q_Sim.sub2 (lv' := [(0, .inr (.inr (11, 0, 0))), (1, .inl x1), (2, .inl x2), (3, .inl r_1)]) [0, 1, 2, 3] rfl (by decide) ⟨rfl, rfl, rfl, rfl, trivial⟩ (sb_264_22 x1 x2 r_1 S_2)
  · refine q_Sim.steps vc_264 3 (pc' := 13) (lv' := [(3, .inl r_1), (0, .inr (.inr (11, 0, 0))), (1, .inl x1), (2, .inl x2)]) (st' := [.inl 3, .inl 0, .inl x2]) (V' := q_V S_2) rfl ?_
    refine q_Sim.call vc_264 (as := [.inl x2, .inl 0, .inl 3]) (pc' := 16) (lv' := [(3, .inl r_1), (0, .inr (.inr (11, 0, 0))), (1, .inl x1), (2, .inl x2)]) (st' := []) (S := S_2) rfl (rc_189 x2 0 3) (s_189 x2 0 3 S_2) (fun r_17 S_18 => ?_)
    refine q_Sim.br vc_264 (c := ¬ r_17 = 0) (t := 22) (f := 19) (lv' := [(3, .inl r_1), (0, .inr (.inr (11, 0, 0))), (1, .inl x1), (2, .inl x2)]) (st' := []) (V' := q_V S_18) rfl ?_ ?_
    · exact q_Sim.sub2 (lv' := [(0, .inr (.inr (11, 0, 0))), (1, .inl x1), (2, .inl x2), (3, .inl r_1)]) [0, 1, 2, 3] rfl (by decide) ⟨rfl, rfl, rfl, rfl, trivial⟩ (sb_264_22 x1 x2 r_1 S_18)
    · refine q_Sim.steps vc_264 2 (pc' := 22) (lv' := [(3, .inl 6), (0, .inr (.inr (11, 0, 0))), (1, .inl x1), (2, .inl x2)]) (st' := []) (V' := q_V S_18) rfl ?_
      exact q_Sim.sub2 (lv' := [(0, .inr (.inr (11, 0, 0))), (1, .inl x1), (2, .inl x2), (3, .inl 6)]) [0, 1, 2, 3] rfl (by decide) ⟨rfl, rfl, rfl, rfl, trivial⟩ (sb_264_22 x1 x2 6 S_18)
theorem vc_265 : v_code 265 = k_265 := rfl
theorem rc_265 (x1 : Int32) (x2 : Int32) : v_rcv 265 [.inr (.inr (11, 0, 0)), .inl x1, .inl x2] = true := rfl
def b_265_112 (xs1 : Int32) (S : QS) : Option ((Int32) × QS) := q_bd (f_187 xs1 S) (fun r_17 S_18 => some (r_17, S_18))
theorem sb_265_112 (xs1 : Int32) (S : QS) : q_Sim 265 112 [] [.inl xs1, .inr (.inr (11, 0, 0))] (q_V S) q_I (b_265_112 xs1 S) := by
  unfold b_265_112
  refine q_Sim.call vc_265 (as := [.inr (.inr (11, 0, 0)), .inl xs1]) (pc' := 115) (lv' := []) (st' := []) (S := S) rfl (rc_187 xs1) (s_187 xs1 S) (fun r_17 S_18 => ?_)
  exact q_Sim.ret vc_265 rfl
def b_265_40 (x1 : Int32) (x2 : Int32) (x3 : Int32) (S : QS) : Option ((Int32) × QS) := if x3 ≤ 0 then (q_bd (f_190 x1 5 S) (fun r_7 S_8 => q_bd (f_190 x2 6 S_8) (fun r_9 S_10 => q_let (r_7.toInt64 * r_9.toInt64) (fun y_11 => q_bd (f_190 x2 5 S_10) (fun r_12 S_13 => q_bd (f_190 x1 6 S_13) (fun r_14 S_15 => q_let (r_12.toInt64 * r_14.toInt64) (fun y_16 => if 0 ≤ (lg_cmp y_11 y_16) then (if ¬ (lg_cmp y_11 y_16) = 0 then (b_265_112 2 S_15) else (b_265_112 1 S_15)) else (b_265_112 0 S_15)))))))) else (q_bd (f_186 x3 S) (fun r_19 S_20 => some (r_19, S_20)))
theorem sb_265_40 (x1 : Int32) (x2 : Int32) (x3 : Int32) (S : QS) : q_Sim 265 40 [(0, .inr (.inr (11, 0, 0))), (1, .inl x1), (2, .inl x2), (3, .inl x3)] [] (q_V S) q_I (b_265_40 x1 x2 x3 S) := by
  unfold b_265_40
  refine q_Sim.steps vc_265 1 (pc' := 41) (lv' := [(0, .inr (.inr (11, 0, 0))), (1, .inl x1), (2, .inl x2), (3, .inl x3)]) (st' := [.inl x3]) (V' := q_V S) rfl ?_
  refine q_Sim.br vc_265 (c := x3 ≤ 0) (t := 50) (f := 44) (lv' := [(0, .inr (.inr (11, 0, 0))), (1, .inl x1), (2, .inl x2), (3, .inl x3)]) (st' := []) (V' := q_V S) rfl ?_ ?_
  · refine q_Sim.steps vc_265 3 (pc' := 53) (lv' := [(0, .inr (.inr (11, 0, 0))), (1, .inl x1), (2, .inl x2), (3, .inl x3)]) (st' := [.inl 5, .inl x1, .inr (.inr (11, 0, 0))]) (V' := q_V S) rfl ?_
    refine q_Sim.call vc_265 (as := [.inr (.inr (11, 0, 0)), .inl x1, .inl 5]) (pc' := 56) (lv' := [(0, .inr (.inr (11, 0, 0))), (1, .inl x1), (2, .inl x2), (3, .inl x3)]) (st' := []) (S := S) rfl (rc_190 x1 5) (s_190 x1 5 S) (fun r_7 S_8 => ?_)
    refine q_Sim.steps vc_265 4 (pc' := 61) (lv' := [(0, .inr (.inr (11, 0, 0))), (1, .inl x1), (2, .inl x2), (3, .inl x3)]) (st' := [.inl 6, .inl x2, .inr (.inr (11, 0, 0)), .inr (.inl r_7.toInt64)]) (V' := q_V S_8) rfl ?_
    refine q_Sim.call vc_265 (as := [.inr (.inr (11, 0, 0)), .inl x2, .inl 6]) (pc' := 64) (lv' := [(0, .inr (.inr (11, 0, 0))), (1, .inl x1), (2, .inl x2), (3, .inl x3)]) (st' := [.inr (.inl r_7.toInt64)]) (S := S_8) rfl (rc_190 x2 6) (s_190 x2 6 S_8) (fun r_9 S_10 => ?_)
    refine q_Sim.steps vc_265 2 (pc' := 66) (lv' := [(0, .inr (.inr (11, 0, 0))), (1, .inl x1), (2, .inl x2), (3, .inl x3)]) (st' := [.inr (.inl (r_7.toInt64 * r_9.toInt64))]) (V' := q_V S_10) rfl ?_
    refine q_Sim.letJ (fun y_11 => ?_)
    refine q_Sim.steps vc_265 4 (pc' := 71) (lv' := [(4, .inr (.inl y_11)), (0, .inr (.inr (11, 0, 0))), (1, .inl x1), (2, .inl x2), (3, .inl x3)]) (st' := [.inl 5, .inl x2, .inr (.inr (11, 0, 0))]) (V' := q_V S_10) rfl ?_
    refine q_Sim.call vc_265 (as := [.inr (.inr (11, 0, 0)), .inl x2, .inl 5]) (pc' := 74) (lv' := [(4, .inr (.inl y_11)), (0, .inr (.inr (11, 0, 0))), (1, .inl x1), (2, .inl x2), (3, .inl x3)]) (st' := []) (S := S_10) rfl (rc_190 x2 5) (s_190 x2 5 S_10) (fun r_12 S_13 => ?_)
    refine q_Sim.steps vc_265 4 (pc' := 79) (lv' := [(4, .inr (.inl y_11)), (0, .inr (.inr (11, 0, 0))), (1, .inl x1), (2, .inl x2), (3, .inl x3)]) (st' := [.inl 6, .inl x1, .inr (.inr (11, 0, 0)), .inr (.inl r_12.toInt64)]) (V' := q_V S_13) rfl ?_
    refine q_Sim.call vc_265 (as := [.inr (.inr (11, 0, 0)), .inl x1, .inl 6]) (pc' := 82) (lv' := [(4, .inr (.inl y_11)), (0, .inr (.inr (11, 0, 0))), (1, .inl x1), (2, .inl x2), (3, .inl x3)]) (st' := [.inr (.inl r_12.toInt64)]) (S := S_13) rfl (rc_190 x1 6) (s_190 x1 6 S_13) (fun r_14 S_15 => ?_)
    refine q_Sim.steps vc_265 2 (pc' := 84) (lv' := [(4, .inr (.inl y_11)), (0, .inr (.inr (11, 0, 0))), (1, .inl x1), (2, .inl x2), (3, .inl x3)]) (st' := [.inr (.inl (r_12.toInt64 * r_14.toInt64))]) (V' := q_V S_15) rfl ?_
    refine q_Sim.letJ (fun y_16 => ?_)
    refine q_Sim.steps vc_265 5 (pc' := 92) (lv' := [(6, .inr (.inl y_16)), (4, .inr (.inl y_11)), (0, .inr (.inr (11, 0, 0))), (1, .inl x1), (2, .inl x2), (3, .inl x3)]) (st' := [.inl (lg_cmp y_11 y_16), .inr (.inr (11, 0, 0))]) (V' := q_V S_15) rfl ?_
    refine q_Sim.br vc_265 (c := 0 ≤ (lg_cmp y_11 y_16)) (t := 99) (f := 95) (lv' := [(6, .inr (.inl y_16)), (4, .inr (.inl y_11)), (0, .inr (.inr (11, 0, 0))), (1, .inl x1), (2, .inl x2), (3, .inl x3)]) (st' := [.inr (.inr (11, 0, 0))]) (V' := q_V S_15) rfl ?_ ?_
    · refine q_Sim.steps vc_265 3 (pc' := 104) (lv' := [(6, .inr (.inl y_16)), (4, .inr (.inl y_11)), (0, .inr (.inr (11, 0, 0))), (1, .inl x1), (2, .inl x2), (3, .inl x3)]) (st' := [.inl (lg_cmp y_11 y_16), .inr (.inr (11, 0, 0))]) (V' := q_V S_15) rfl ?_
      refine q_Sim.br vc_265 (c := ¬ (lg_cmp y_11 y_16) = 0) (t := 111) (f := 107) (lv' := [(6, .inr (.inl y_16)), (4, .inr (.inl y_11)), (0, .inr (.inr (11, 0, 0))), (1, .inl x1), (2, .inl x2), (3, .inl x3)]) (st' := [.inr (.inr (11, 0, 0))]) (V' := q_V S_15) rfl ?_ ?_
      · refine q_Sim.steps vc_265 1 (pc' := 112) (lv' := [(6, .inr (.inl y_16)), (4, .inr (.inl y_11)), (0, .inr (.inr (11, 0, 0))), (1, .inl x1), (2, .inl x2), (3, .inl x3)]) (st' := [.inl 2, .inr (.inr (11, 0, 0))]) (V' := q_V S_15) rfl ?_
        exact q_Sim.sub2 (lv' := []) [] rfl (by decide) trivial (sb_265_112 2 S_15)
      · refine q_Sim.steps vc_265 2 (pc' := 112) (lv' := [(6, .inr (.inl y_16)), (4, .inr (.inl y_11)), (0, .inr (.inr (11, 0, 0))), (1, .inl x1), (2, .inl x2), (3, .inl x3)]) (st' := [.inl 1, .inr (.inr (11, 0, 0))]) (V' := q_V S_15) rfl ?_
        exact q_Sim.sub2 (lv' := []) [] rfl (by decide) trivial (sb_265_112 1 S_15)
    · refine q_Sim.steps vc_265 2 (pc' := 112) (lv' := [(6, .inr (.inl y_16)), (4, .inr (.inl y_11)), (0, .inr (.inr (11, 0, 0))), (1, .inl x1), (2, .inl x2), (3, .inl x3)]) (st' := [.inl 0, .inr (.inr (11, 0, 0))]) (V' := q_V S_15) rfl ?_
      exact q_Sim.sub2 (lv' := []) [] rfl (by decide) trivial (sb_265_112 0 S_15)
  · refine q_Sim.steps vc_265 2 (pc' := 46) (lv' := [(0, .inr (.inr (11, 0, 0))), (1, .inl x1), (2, .inl x2), (3, .inl x3)]) (st' := [.inl x3, .inr (.inr (11, 0, 0))]) (V' := q_V S) rfl ?_
    refine q_Sim.call vc_265 (as := [.inr (.inr (11, 0, 0)), .inl x3]) (pc' := 49) (lv' := [(0, .inr (.inr (11, 0, 0))), (1, .inl x1), (2, .inl x2), (3, .inl x3)]) (st' := []) (S := S) rfl (rc_186 x3) (s_186 x3 S) (fun r_19 S_20 => ?_)
    exact q_Sim.ret vc_265 rfl
def b_265_38 (x1 : Int32) (x2 : Int32) (S : QS) : Option ((Int32) × QS) := b_265_40 x1 x2 4 S
theorem sb_265_38 (x1 : Int32) (x2 : Int32) (S : QS) : q_Sim 265 38 [(0, .inr (.inr (11, 0, 0))), (1, .inl x1), (2, .inl x2)] [] (q_V S) q_I (b_265_38 x1 x2 S) := by
  unfold b_265_38
  refine q_Sim.steps vc_265 2 (pc' := 40) (lv' := [(3, .inl 4), (0, .inr (.inr (11, 0, 0))), (1, .inl x1), (2, .inl x2)]) (st' := []) (V' := q_V S) rfl ?_
  exact q_Sim.sub2 (lv' := [(0, .inr (.inr (11, 0, 0))), (1, .inl x1), (2, .inl x2), (3, .inl 4)]) [0, 1, 2, 3] rfl (by decide) ⟨rfl, rfl, rfl, rfl, trivial⟩ (sb_265_40 x1 x2 4 S)
def f_265 (x1 : Int32) (x2 : Int32) (S : QS) : Option ((Int32) × QS) := q_bd (f_198 x1 S) (fun r_1 S_2 => q_bd (f_198 x2 S_2) (fun r_3 S_4 => q_bd (f_202 r_1 r_3 S_4) (fun r_5 S_6 => if ¬ r_5 = 0 then (b_265_40 x1 x2 r_5 S_6) else (q_bd (f_190 x1 6 S_6) (fun r_21 S_22 => if r_21 = 0 then (b_265_38 x1 x2 S_22) else (q_bd (f_190 x2 6 S_22) (fun r_23 S_24 => if ¬ r_23 = 0 then (b_265_40 x1 x2 r_5 S_24) else (b_265_38 x1 x2 S_24))))))))
theorem s_265 (x1 : Int32) (x2 : Int32) (S : QS) : q_Sim 265 0 [(0, .inr (.inr (11, 0, 0))), (1, .inl x1), (2, .inl x2)] [] (q_V S) q_I (f_265 x1 x2 S) := by
  unfold f_265
  refine q_Sim.steps vc_265 2 (pc' := 2) (lv' := [(0, .inr (.inr (11, 0, 0))), (1, .inl x1), (2, .inl x2)]) (st' := [.inl x1, .inr (.inr (11, 0, 0))]) (V' := q_V S) rfl ?_
  refine q_Sim.call vc_265 (as := [.inr (.inr (11, 0, 0)), .inl x1]) (pc' := 5) (lv' := [(0, .inr (.inr (11, 0, 0))), (1, .inl x1), (2, .inl x2)]) (st' := []) (S := S) rfl (rc_198 x1) (s_198 x1 S) (fun r_1 S_2 => ?_)
  refine q_Sim.steps vc_265 2 (pc' := 7) (lv' := [(0, .inr (.inr (11, 0, 0))), (1, .inl x1), (2, .inl x2)]) (st' := [.inl x2, .inr (.inr (11, 0, 0)), .inl r_1]) (V' := q_V S_2) rfl ?_
  refine q_Sim.call vc_265 (as := [.inr (.inr (11, 0, 0)), .inl x2]) (pc' := 10) (lv' := [(0, .inr (.inr (11, 0, 0))), (1, .inl x1), (2, .inl x2)]) (st' := [.inl r_1]) (S := S_2) rfl (rc_198 x2) (s_198 x2 S_2) (fun r_3 S_4 => ?_)
  refine q_Sim.call vc_265 (as := [.inl r_1, .inl r_3]) (pc' := 13) (lv' := [(0, .inr (.inr (11, 0, 0))), (1, .inl x1), (2, .inl x2)]) (st' := []) (S := S_4) rfl (rc_202 r_1 r_3) (s_202 r_1 r_3 S_4) (fun r_5 S_6 => ?_)
  refine q_Sim.steps vc_265 2 (pc' := 15) (lv' := [(3, .inl r_5), (0, .inr (.inr (11, 0, 0))), (1, .inl x1), (2, .inl x2)]) (st' := [.inl r_5]) (V' := q_V S_6) rfl ?_
  refine q_Sim.br vc_265 (c := ¬ r_5 = 0) (t := 40) (f := 18) (lv' := [(3, .inl r_5), (0, .inr (.inr (11, 0, 0))), (1, .inl x1), (2, .inl x2)]) (st' := []) (V' := q_V S_6) rfl ?_ ?_
  · exact q_Sim.sub2 (lv' := [(0, .inr (.inr (11, 0, 0))), (1, .inl x1), (2, .inl x2), (3, .inl r_5)]) [0, 1, 2, 3] rfl (by decide) ⟨rfl, rfl, rfl, rfl, trivial⟩ (sb_265_40 x1 x2 r_5 S_6)
  · refine q_Sim.steps vc_265 3 (pc' := 22) (lv' := [(3, .inl r_5), (0, .inr (.inr (11, 0, 0))), (1, .inl x1), (2, .inl x2)]) (st' := [.inl 6, .inl x1, .inr (.inr (11, 0, 0))]) (V' := q_V S_6) rfl ?_
    refine q_Sim.call vc_265 (as := [.inr (.inr (11, 0, 0)), .inl x1, .inl 6]) (pc' := 25) (lv' := [(3, .inl r_5), (0, .inr (.inr (11, 0, 0))), (1, .inl x1), (2, .inl x2)]) (st' := []) (S := S_6) rfl (rc_190 x1 6) (s_190 x1 6 S_6) (fun r_21 S_22 => ?_)
    refine q_Sim.br vc_265 (c := r_21 = 0) (t := 38) (f := 28) (lv' := [(3, .inl r_5), (0, .inr (.inr (11, 0, 0))), (1, .inl x1), (2, .inl x2)]) (st' := []) (V' := q_V S_22) rfl ?_ ?_
    · exact q_Sim.sub2 (lv' := [(0, .inr (.inr (11, 0, 0))), (1, .inl x1), (2, .inl x2)]) [0, 1, 2] rfl (by decide) ⟨rfl, rfl, rfl, trivial⟩ (sb_265_38 x1 x2 S_22)
    · refine q_Sim.steps vc_265 3 (pc' := 32) (lv' := [(3, .inl r_5), (0, .inr (.inr (11, 0, 0))), (1, .inl x1), (2, .inl x2)]) (st' := [.inl 6, .inl x2, .inr (.inr (11, 0, 0))]) (V' := q_V S_22) rfl ?_
      refine q_Sim.call vc_265 (as := [.inr (.inr (11, 0, 0)), .inl x2, .inl 6]) (pc' := 35) (lv' := [(3, .inl r_5), (0, .inr (.inr (11, 0, 0))), (1, .inl x1), (2, .inl x2)]) (st' := []) (S := S_22) rfl (rc_190 x2 6) (s_190 x2 6 S_22) (fun r_23 S_24 => ?_)
      refine q_Sim.br vc_265 (c := ¬ r_23 = 0) (t := 40) (f := 38) (lv' := [(3, .inl r_5), (0, .inr (.inr (11, 0, 0))), (1, .inl x1), (2, .inl x2)]) (st' := []) (V' := q_V S_24) rfl ?_ ?_
      · exact q_Sim.sub2 (lv' := [(0, .inr (.inr (11, 0, 0))), (1, .inl x1), (2, .inl x2), (3, .inl r_5)]) [0, 1, 2, 3] rfl (by decide) ⟨rfl, rfl, rfl, rfl, trivial⟩ (sb_265_40 x1 x2 r_5 S_24)
      · exact q_Sim.sub2 (lv' := [(0, .inr (.inr (11, 0, 0))), (1, .inl x1), (2, .inl x2)]) [0, 1, 2] rfl (by decide) ⟨rfl, rfl, rfl, trivial⟩ (sb_265_38 x1 x2 S_24)
theorem vc_266 : v_code 266 = k_266 := rfl
theorem rc_266 (x1 : Int32) : v_rcv 266 [.inr (.inr (11, 0, 0)), .inl x1] = true := rfl
def b_266_22 : Nat → Int32 → Int32 → QS → Option ((Int32) × QS)
  | 0, _, _, _ => none
  | n + 1, x1, x3, S => if 6 < x3 then (q_bd (f_187 1 S) (fun r_5 S_6 => some (r_5, S_6))) else (q_bd (f_191 x1 x3 0 S) (fun r_7 S_8 => b_266_22 n x1 (x3 + 1) S_8))
theorem sb_266_22 : ∀ (n : Nat) (x1 : Int32) (x3 : Int32) (S : QS), q_Sim 266 22 [(0, .inr (.inr (11, 0, 0))), (1, .inl x1), (3, .inl x3)] [] (q_V S) q_I (b_266_22 n x1 x3 S)
  | 0, _, _, _ => q_Sim.none
  | n + 1, x1, x3, S => by
    rw [b_266_22]
    refine q_Sim.steps vc_266 2 (pc' := 25) (lv' := [(0, .inr (.inr (11, 0, 0))), (1, .inl x1), (3, .inl x3)]) (st' := [.inl 6, .inl x3]) (V' := q_V S) rfl ?_
    refine q_Sim.br vc_266 (c := 6 < x3) (t := 41) (f := 28) (lv' := [(0, .inr (.inr (11, 0, 0))), (1, .inl x1), (3, .inl x3)]) (st' := []) (V' := q_V S) rfl ?_ ?_
    · refine q_Sim.steps vc_266 2 (pc' := 43) (lv' := [(0, .inr (.inr (11, 0, 0))), (1, .inl x1), (3, .inl x3)]) (st' := [.inl 1, .inr (.inr (11, 0, 0))]) (V' := q_V S) rfl ?_
      refine q_Sim.call vc_266 (as := [.inr (.inr (11, 0, 0)), .inl 1]) (pc' := 46) (lv' := [(0, .inr (.inr (11, 0, 0))), (1, .inl x1), (3, .inl x3)]) (st' := []) (S := S) rfl (rc_187 1) (s_187 1 S) (fun r_5 S_6 => ?_)
      exact q_Sim.ret vc_266 rfl
    · refine q_Sim.steps vc_266 4 (pc' := 32) (lv' := [(0, .inr (.inr (11, 0, 0))), (1, .inl x1), (3, .inl x3)]) (st' := [.inl 0, .inl x3, .inl x1, .inr (.inr (11, 0, 0))]) (V' := q_V S) rfl ?_
      refine q_Sim.call vc_266 (as := [.inr (.inr (11, 0, 0)), .inl x1, .inl x3, .inl 0]) (pc' := 35) (lv' := [(0, .inr (.inr (11, 0, 0))), (1, .inl x1), (3, .inl x3)]) (st' := []) (S := S) rfl (rc_191 x1 x3 0) (s_191 x1 x3 0 S) (fun r_7 S_8 => ?_)
      refine q_Sim.steps vc_266 2 (pc' := 22) (lv' := [(3, .inl (x3 + 1)), (0, .inr (.inr (11, 0, 0))), (1, .inl x1)]) (st' := []) (V' := q_V S_8) rfl ?_
      exact q_Sim.sub2 (lv' := [(0, .inr (.inr (11, 0, 0))), (1, .inl x1), (3, .inl (x3 + 1))]) [0, 1, 3] rfl (by decide) ⟨rfl, rfl, rfl, trivial⟩ (sb_266_22 n x1 (x3 + 1) S_8)
def f_266 (x1 : Int32) (S : QS) : Option ((Int32) × QS) := q_bd (f_198 x1 S) (fun r_1 S_2 => if r_1 ≤ 0 then (q_bd (f_188  S_2) (fun r_3 S_4 => b_266_22 q_N x1 4 S_4)) else (q_bd (f_186 r_1 S_2) (fun r_9 S_10 => some (r_9, S_10))))
theorem s_266 (x1 : Int32) (S : QS) : q_Sim 266 0 [(0, .inr (.inr (11, 0, 0))), (1, .inl x1)] [] (q_V S) q_I (f_266 x1 S) := by
  unfold f_266
  refine q_Sim.steps vc_266 2 (pc' := 2) (lv' := [(0, .inr (.inr (11, 0, 0))), (1, .inl x1)]) (st' := [.inl x1, .inr (.inr (11, 0, 0))]) (V' := q_V S) rfl ?_
  refine q_Sim.call vc_266 (as := [.inr (.inr (11, 0, 0)), .inl x1]) (pc' := 5) (lv' := [(0, .inr (.inr (11, 0, 0))), (1, .inl x1)]) (st' := []) (S := S) rfl (rc_198 x1) (s_198 x1 S) (fun r_1 S_2 => ?_)
  refine q_Sim.steps vc_266 2 (pc' := 7) (lv' := [(2, .inl r_1), (0, .inr (.inr (11, 0, 0))), (1, .inl x1)]) (st' := [.inl r_1]) (V' := q_V S_2) rfl ?_
  refine q_Sim.br vc_266 (c := r_1 ≤ 0) (t := 16) (f := 10) (lv' := [(2, .inl r_1), (0, .inr (.inr (11, 0, 0))), (1, .inl x1)]) (st' := []) (V' := q_V S_2) rfl ?_ ?_
  · refine q_Sim.steps vc_266 1 (pc' := 17) (lv' := [(2, .inl r_1), (0, .inr (.inr (11, 0, 0))), (1, .inl x1)]) (st' := [.inr (.inr (11, 0, 0))]) (V' := q_V S_2) rfl ?_
    refine q_Sim.call vc_266 (as := [.inr (.inr (11, 0, 0))]) (pc' := 20) (lv' := [(2, .inl r_1), (0, .inr (.inr (11, 0, 0))), (1, .inl x1)]) (st' := []) (S := S_2) rfl (rc_188 ) (s_188  S_2) (fun r_3 S_4 => ?_)
    refine q_Sim.steps vc_266 2 (pc' := 22) (lv' := [(3, .inl 4), (2, .inl r_1), (0, .inr (.inr (11, 0, 0))), (1, .inl x1)]) (st' := []) (V' := q_V S_4) rfl ?_
    exact q_Sim.sub2 (lv' := [(0, .inr (.inr (11, 0, 0))), (1, .inl x1), (3, .inl 4)]) [0, 1, 3] rfl (by decide) ⟨rfl, rfl, rfl, trivial⟩ (sb_266_22 q_N x1 4 S_4)
  · refine q_Sim.steps vc_266 2 (pc' := 12) (lv' := [(2, .inl r_1), (0, .inr (.inr (11, 0, 0))), (1, .inl x1)]) (st' := [.inl r_1, .inr (.inr (11, 0, 0))]) (V' := q_V S_2) rfl ?_
    refine q_Sim.call vc_266 (as := [.inr (.inr (11, 0, 0)), .inl r_1]) (pc' := 15) (lv' := [(2, .inl r_1), (0, .inr (.inr (11, 0, 0))), (1, .inl x1)]) (st' := []) (S := S_2) rfl (rc_186 r_1) (s_186 r_1 S_2) (fun r_9 S_10 => ?_)
    exact q_Sim.ret vc_266 rfl
theorem vc_267 : v_code 267 = k_267 := rfl
theorem rc_267 (x1 : Int32) (x2 : Int32) (x3 : Int32) : v_rcv 267 [.inr (.inr (11, 0, 0)), .inl x1, .inl x2, .inl x3] = true := rfl
def b_267_45 (x1 : Int32) (x2 : Int32) (x3 : Int32) (x4 : Int32) (S : QS) : Option ((Int32) × QS) := if x4 ≤ 0 then (q_bd (f_188  S) (fun r_3 S_4 => q_bd (f_191 x1 7 x2 S_4) (fun r_5 S_6 => q_bd (f_191 x1 8 x3 S_6) (fun r_7 S_8 => q_bd (f_187 1 S_8) (fun r_9 S_10 => some (r_9, S_10)))))) else (q_bd (f_186 x4 S) (fun r_11 S_12 => some (r_11, S_12)))
theorem sb_267_45 (x1 : Int32) (x2 : Int32) (x3 : Int32) (x4 : Int32) (S : QS) : q_Sim 267 45 [(0, .inr (.inr (11, 0, 0))), (1, .inl x1), (2, .inl x2), (3, .inl x3), (4, .inl x4)] [] (q_V S) q_I (b_267_45 x1 x2 x3 x4 S) := by
  unfold b_267_45
  refine q_Sim.steps vc_267 1 (pc' := 47) (lv' := [(0, .inr (.inr (11, 0, 0))), (1, .inl x1), (2, .inl x2), (3, .inl x3), (4, .inl x4)]) (st' := [.inl x4]) (V' := q_V S) rfl ?_
  refine q_Sim.br vc_267 (c := x4 ≤ 0) (t := 57) (f := 50) (lv' := [(0, .inr (.inr (11, 0, 0))), (1, .inl x1), (2, .inl x2), (3, .inl x3), (4, .inl x4)]) (st' := []) (V' := q_V S) rfl ?_ ?_
  · refine q_Sim.steps vc_267 1 (pc' := 58) (lv' := [(0, .inr (.inr (11, 0, 0))), (1, .inl x1), (2, .inl x2), (3, .inl x3), (4, .inl x4)]) (st' := [.inr (.inr (11, 0, 0))]) (V' := q_V S) rfl ?_
    refine q_Sim.call vc_267 (as := [.inr (.inr (11, 0, 0))]) (pc' := 61) (lv' := [(0, .inr (.inr (11, 0, 0))), (1, .inl x1), (2, .inl x2), (3, .inl x3), (4, .inl x4)]) (st' := []) (S := S) rfl (rc_188 ) (s_188  S) (fun r_3 S_4 => ?_)
    refine q_Sim.steps vc_267 4 (pc' := 66) (lv' := [(0, .inr (.inr (11, 0, 0))), (1, .inl x1), (2, .inl x2), (3, .inl x3), (4, .inl x4)]) (st' := [.inl x2, .inl 7, .inl x1, .inr (.inr (11, 0, 0))]) (V' := q_V S_4) rfl ?_
    refine q_Sim.call vc_267 (as := [.inr (.inr (11, 0, 0)), .inl x1, .inl 7, .inl x2]) (pc' := 69) (lv' := [(0, .inr (.inr (11, 0, 0))), (1, .inl x1), (2, .inl x2), (3, .inl x3), (4, .inl x4)]) (st' := []) (S := S_4) rfl (rc_191 x1 7 x2) (s_191 x1 7 x2 S_4) (fun r_5 S_6 => ?_)
    refine q_Sim.steps vc_267 4 (pc' := 74) (lv' := [(0, .inr (.inr (11, 0, 0))), (1, .inl x1), (2, .inl x2), (3, .inl x3), (4, .inl x4)]) (st' := [.inl x3, .inl 8, .inl x1, .inr (.inr (11, 0, 0))]) (V' := q_V S_6) rfl ?_
    refine q_Sim.call vc_267 (as := [.inr (.inr (11, 0, 0)), .inl x1, .inl 8, .inl x3]) (pc' := 77) (lv' := [(0, .inr (.inr (11, 0, 0))), (1, .inl x1), (2, .inl x2), (3, .inl x3), (4, .inl x4)]) (st' := []) (S := S_6) rfl (rc_191 x1 8 x3) (s_191 x1 8 x3 S_6) (fun r_7 S_8 => ?_)
    refine q_Sim.steps vc_267 2 (pc' := 79) (lv' := [(0, .inr (.inr (11, 0, 0))), (1, .inl x1), (2, .inl x2), (3, .inl x3), (4, .inl x4)]) (st' := [.inl 1, .inr (.inr (11, 0, 0))]) (V' := q_V S_8) rfl ?_
    refine q_Sim.call vc_267 (as := [.inr (.inr (11, 0, 0)), .inl 1]) (pc' := 82) (lv' := [(0, .inr (.inr (11, 0, 0))), (1, .inl x1), (2, .inl x2), (3, .inl x3), (4, .inl x4)]) (st' := []) (S := S_8) rfl (rc_187 1) (s_187 1 S_8) (fun r_9 S_10 => ?_)
    exact q_Sim.ret vc_267 rfl
  · refine q_Sim.steps vc_267 2 (pc' := 53) (lv' := [(0, .inr (.inr (11, 0, 0))), (1, .inl x1), (2, .inl x2), (3, .inl x3), (4, .inl x4)]) (st' := [.inl x4, .inr (.inr (11, 0, 0))]) (V' := q_V S) rfl ?_
    refine q_Sim.call vc_267 (as := [.inr (.inr (11, 0, 0)), .inl x4]) (pc' := 56) (lv' := [(0, .inr (.inr (11, 0, 0))), (1, .inl x1), (2, .inl x2), (3, .inl x3), (4, .inl x4)]) (st' := []) (S := S) rfl (rc_186 x4) (s_186 x4 S) (fun r_11 S_12 => ?_)
    exact q_Sim.ret vc_267 rfl
def b_267_41 (x1 : Int32) (x2 : Int32) (x3 : Int32) (S : QS) : Option ((Int32) × QS) := b_267_45 x1 x2 x3 6 S
theorem sb_267_41 (x1 : Int32) (x2 : Int32) (x3 : Int32) (S : QS) : q_Sim 267 41 [(0, .inr (.inr (11, 0, 0))), (1, .inl x1), (2, .inl x2), (3, .inl x3)] [] (q_V S) q_I (b_267_41 x1 x2 x3 S) := by
  unfold b_267_41
  refine q_Sim.steps vc_267 2 (pc' := 45) (lv' := [(4, .inl 6), (0, .inr (.inr (11, 0, 0))), (1, .inl x1), (2, .inl x2), (3, .inl x3)]) (st' := []) (V' := q_V S) rfl ?_
  exact q_Sim.sub2 (lv' := [(0, .inr (.inr (11, 0, 0))), (1, .inl x1), (2, .inl x2), (3, .inl x3), (4, .inl 6)]) [0, 1, 2, 3, 4] rfl (by decide) ⟨rfl, rfl, rfl, rfl, rfl, trivial⟩ (sb_267_45 x1 x2 x3 6 S)
def b_267_20 (x1 : Int32) (x2 : Int32) (x3 : Int32) (x4 : Int32) (S : QS) : Option ((Int32) × QS) := q_bd (f_189 x2 1 30 S) (fun r_13 S_14 => if r_13 = 0 then (b_267_41 x1 x2 x3 S_14) else (q_bd (f_189 x3 1 1000 S_14) (fun r_15 S_16 => if ¬ r_15 = 0 then (b_267_45 x1 x2 x3 x4 S_16) else (b_267_41 x1 x2 x3 S_16))))
theorem sb_267_20 (x1 : Int32) (x2 : Int32) (x3 : Int32) (x4 : Int32) (S : QS) : q_Sim 267 20 [(0, .inr (.inr (11, 0, 0))), (1, .inl x1), (2, .inl x2), (3, .inl x3), (4, .inl x4)] [] (q_V S) q_I (b_267_20 x1 x2 x3 x4 S) := by
  unfold b_267_20
  refine q_Sim.steps vc_267 3 (pc' := 24) (lv' := [(0, .inr (.inr (11, 0, 0))), (1, .inl x1), (2, .inl x2), (3, .inl x3), (4, .inl x4)]) (st' := [.inl 30, .inl 1, .inl x2]) (V' := q_V S) rfl ?_
  refine q_Sim.call vc_267 (as := [.inl x2, .inl 1, .inl 30]) (pc' := 27) (lv' := [(0, .inr (.inr (11, 0, 0))), (1, .inl x1), (2, .inl x2), (3, .inl x3), (4, .inl x4)]) (st' := []) (S := S) rfl (rc_189 x2 1 30) (s_189 x2 1 30 S) (fun r_13 S_14 => ?_)
  refine q_Sim.br vc_267 (c := r_13 = 0) (t := 41) (f := 30) (lv' := [(0, .inr (.inr (11, 0, 0))), (1, .inl x1), (2, .inl x2), (3, .inl x3), (4, .inl x4)]) (st' := []) (V' := q_V S_14) rfl ?_ ?_
  · exact q_Sim.sub2 (lv' := [(0, .inr (.inr (11, 0, 0))), (1, .inl x1), (2, .inl x2), (3, .inl x3)]) [0, 1, 2, 3] rfl (by decide) ⟨rfl, rfl, rfl, rfl, trivial⟩ (sb_267_41 x1 x2 x3 S_14)
  · refine q_Sim.steps vc_267 3 (pc' := 35) (lv' := [(0, .inr (.inr (11, 0, 0))), (1, .inl x1), (2, .inl x2), (3, .inl x3), (4, .inl x4)]) (st' := [.inl 1000, .inl 1, .inl x3]) (V' := q_V S_14) rfl ?_
    refine q_Sim.call vc_267 (as := [.inl x3, .inl 1, .inl 1000]) (pc' := 38) (lv' := [(0, .inr (.inr (11, 0, 0))), (1, .inl x1), (2, .inl x2), (3, .inl x3), (4, .inl x4)]) (st' := []) (S := S_14) rfl (rc_189 x3 1 1000) (s_189 x3 1 1000 S_14) (fun r_15 S_16 => ?_)
    refine q_Sim.br vc_267 (c := ¬ r_15 = 0) (t := 45) (f := 41) (lv' := [(0, .inr (.inr (11, 0, 0))), (1, .inl x1), (2, .inl x2), (3, .inl x3), (4, .inl x4)]) (st' := []) (V' := q_V S_16) rfl ?_ ?_
    · exact q_Sim.sub2 (lv' := [(0, .inr (.inr (11, 0, 0))), (1, .inl x1), (2, .inl x2), (3, .inl x3), (4, .inl x4)]) [0, 1, 2, 3, 4] rfl (by decide) ⟨rfl, rfl, rfl, rfl, rfl, trivial⟩ (sb_267_45 x1 x2 x3 x4 S_16)
    · exact q_Sim.sub2 (lv' := [(0, .inr (.inr (11, 0, 0))), (1, .inl x1), (2, .inl x2), (3, .inl x3)]) [0, 1, 2, 3] rfl (by decide) ⟨rfl, rfl, rfl, rfl, trivial⟩ (sb_267_41 x1 x2 x3 S_16)
def f_267 (x1 : Int32) (x2 : Int32) (x3 : Int32) (S : QS) : Option ((Int32) × QS) := q_bd (f_198 x1 S) (fun r_1 S_2 => if ¬ r_1 = 0 then (b_267_45 x1 x2 x3 r_1 S_2) else (if ¬ x2 = 0 then (b_267_20 x1 x2 x3 r_1 S_2) else (if x3 = 0 then (b_267_45 x1 x2 x3 r_1 S_2) else (b_267_20 x1 x2 x3 r_1 S_2))))
theorem s_267 (x1 : Int32) (x2 : Int32) (x3 : Int32) (S : QS) : q_Sim 267 0 [(0, .inr (.inr (11, 0, 0))), (1, .inl x1), (2, .inl x2), (3, .inl x3)] [] (q_V S) q_I (f_267 x1 x2 x3 S) := by
  unfold f_267
  refine q_Sim.steps vc_267 2 (pc' := 2) (lv' := [(0, .inr (.inr (11, 0, 0))), (1, .inl x1), (2, .inl x2), (3, .inl x3)]) (st' := [.inl x1, .inr (.inr (11, 0, 0))]) (V' := q_V S) rfl ?_
  refine q_Sim.call vc_267 (as := [.inr (.inr (11, 0, 0)), .inl x1]) (pc' := 5) (lv' := [(0, .inr (.inr (11, 0, 0))), (1, .inl x1), (2, .inl x2), (3, .inl x3)]) (st' := []) (S := S) rfl (rc_198 x1) (s_198 x1 S) (fun r_1 S_2 => ?_)
  refine q_Sim.steps vc_267 2 (pc' := 9) (lv' := [(4, .inl r_1), (0, .inr (.inr (11, 0, 0))), (1, .inl x1), (2, .inl x2), (3, .inl x3)]) (st' := [.inl r_1]) (V' := q_V S_2) rfl ?_
  refine q_Sim.br vc_267 (c := ¬ r_1 = 0) (t := 45) (f := 12) (lv' := [(4, .inl r_1), (0, .inr (.inr (11, 0, 0))), (1, .inl x1), (2, .inl x2), (3, .inl x3)]) (st' := []) (V' := q_V S_2) rfl ?_ ?_
  · exact q_Sim.sub2 (lv' := [(0, .inr (.inr (11, 0, 0))), (1, .inl x1), (2, .inl x2), (3, .inl x3), (4, .inl r_1)]) [0, 1, 2, 3, 4] rfl (by decide) ⟨rfl, rfl, rfl, rfl, rfl, trivial⟩ (sb_267_45 x1 x2 x3 r_1 S_2)
  · refine q_Sim.steps vc_267 1 (pc' := 13) (lv' := [(4, .inl r_1), (0, .inr (.inr (11, 0, 0))), (1, .inl x1), (2, .inl x2), (3, .inl x3)]) (st' := [.inl x2]) (V' := q_V S_2) rfl ?_
    refine q_Sim.br vc_267 (c := ¬ x2 = 0) (t := 20) (f := 16) (lv' := [(4, .inl r_1), (0, .inr (.inr (11, 0, 0))), (1, .inl x1), (2, .inl x2), (3, .inl x3)]) (st' := []) (V' := q_V S_2) rfl ?_ ?_
    · exact q_Sim.sub2 (lv' := [(0, .inr (.inr (11, 0, 0))), (1, .inl x1), (2, .inl x2), (3, .inl x3), (4, .inl r_1)]) [0, 1, 2, 3, 4] rfl (by decide) ⟨rfl, rfl, rfl, rfl, rfl, trivial⟩ (sb_267_20 x1 x2 x3 r_1 S_2)
    · refine q_Sim.steps vc_267 1 (pc' := 17) (lv' := [(4, .inl r_1), (0, .inr (.inr (11, 0, 0))), (1, .inl x1), (2, .inl x2), (3, .inl x3)]) (st' := [.inl x3]) (V' := q_V S_2) rfl ?_
      refine q_Sim.br vc_267 (c := x3 = 0) (t := 45) (f := 20) (lv' := [(4, .inl r_1), (0, .inr (.inr (11, 0, 0))), (1, .inl x1), (2, .inl x2), (3, .inl x3)]) (st' := []) (V' := q_V S_2) rfl ?_ ?_
      · exact q_Sim.sub2 (lv' := [(0, .inr (.inr (11, 0, 0))), (1, .inl x1), (2, .inl x2), (3, .inl x3), (4, .inl r_1)]) [0, 1, 2, 3, 4] rfl (by decide) ⟨rfl, rfl, rfl, rfl, rfl, trivial⟩ (sb_267_45 x1 x2 x3 r_1 S_2)
      · exact q_Sim.sub2 (lv' := [(0, .inr (.inr (11, 0, 0))), (1, .inl x1), (2, .inl x2), (3, .inl x3), (4, .inl r_1)]) [0, 1, 2, 3, 4] rfl (by decide) ⟨rfl, rfl, rfl, rfl, rfl, trivial⟩ (sb_267_20 x1 x2 x3 r_1 S_2)
theorem vc_268 : v_code 268 = k_268 := rfl
theorem rc_268 (x1 : Int32) (x2 : Int32) (x3 : Int32) : v_rcv 268 [.inr (.inr (11, 0, 0)), .inl x1, .inl x2, .inl x3] = true := rfl
def f_268 (x1 : Int32) (x2 : Int32) (x3 : Int32) (S : QS) : Option ((Int64) × QS) := q_bd (f_190 x1 6 S) (fun r_1 S_2 => q_bd (f_190 x1 5 S_2) (fun r_3 S_4 => q_let ((x2.toInt64 * r_1.toInt64) - (r_3.toInt64 * x3.toInt64)) (fun y_5 => if 0 ≤ (lg_cmp y_5 0) then (q_bd (f_190 x1 8 S_4) (fun r_6 S_7 => q_ck (decide (¬ (r_6.toInt64 * x3.toInt64) = 0)) (some ((y_5 / (r_6.toInt64 * x3.toInt64)) + 1, S_7)))) else (some (0, S_4)))))
theorem s_268 (x1 : Int32) (x2 : Int32) (x3 : Int32) (S : QS) : q_Sim 268 0 [(0, .inr (.inr (11, 0, 0))), (1, .inl x1), (2, .inl x2), (3, .inl x3)] [] (q_V S) q_J (f_268 x1 x2 x3 S) := by
  unfold f_268
  refine q_Sim.steps vc_268 5 (pc' := 6) (lv' := [(0, .inr (.inr (11, 0, 0))), (1, .inl x1), (2, .inl x2), (3, .inl x3)]) (st' := [.inl 6, .inl x1, .inr (.inr (11, 0, 0)), .inr (.inl x2.toInt64)]) (V' := q_V S) rfl ?_
  refine q_Sim.call vc_268 (as := [.inr (.inr (11, 0, 0)), .inl x1, .inl 6]) (pc' := 9) (lv' := [(0, .inr (.inr (11, 0, 0))), (1, .inl x1), (2, .inl x2), (3, .inl x3)]) (st' := [.inr (.inl x2.toInt64)]) (S := S) rfl (rc_190 x1 6) (s_190 x1 6 S) (fun r_1 S_2 => ?_)
  refine q_Sim.steps vc_268 5 (pc' := 14) (lv' := [(0, .inr (.inr (11, 0, 0))), (1, .inl x1), (2, .inl x2), (3, .inl x3)]) (st' := [.inl 5, .inl x1, .inr (.inr (11, 0, 0)), .inr (.inl (x2.toInt64 * r_1.toInt64))]) (V' := q_V S_2) rfl ?_
  refine q_Sim.call vc_268 (as := [.inr (.inr (11, 0, 0)), .inl x1, .inl 5]) (pc' := 17) (lv' := [(0, .inr (.inr (11, 0, 0))), (1, .inl x1), (2, .inl x2), (3, .inl x3)]) (st' := [.inr (.inl (x2.toInt64 * r_1.toInt64))]) (S := S_2) rfl (rc_190 x1 5) (s_190 x1 5 S_2) (fun r_3 S_4 => ?_)
  refine q_Sim.steps vc_268 5 (pc' := 22) (lv' := [(0, .inr (.inr (11, 0, 0))), (1, .inl x1), (2, .inl x2), (3, .inl x3)]) (st' := [.inr (.inl ((x2.toInt64 * r_1.toInt64) - (r_3.toInt64 * x3.toInt64)))]) (V' := q_V S_4) rfl ?_
  refine q_Sim.letJ (fun y_5 => ?_)
  refine q_Sim.steps vc_268 4 (pc' := 28) (lv' := [(4, .inr (.inl y_5)), (0, .inr (.inr (11, 0, 0))), (1, .inl x1), (2, .inl x2), (3, .inl x3)]) (st' := [.inl (lg_cmp y_5 0)]) (V' := q_V S_4) rfl ?_
  refine q_Sim.br vc_268 (c := 0 ≤ (lg_cmp y_5 0)) (t := 35) (f := 31) (lv' := [(4, .inr (.inl y_5)), (0, .inr (.inr (11, 0, 0))), (1, .inl x1), (2, .inl x2), (3, .inl x3)]) (st' := []) (V' := q_V S_4) rfl ?_ ?_
  · refine q_Sim.steps vc_268 4 (pc' := 41) (lv' := [(4, .inr (.inl y_5)), (0, .inr (.inr (11, 0, 0))), (1, .inl x1), (2, .inl x2), (3, .inl x3)]) (st' := [.inl 8, .inl x1, .inr (.inr (11, 0, 0)), .inr (.inl y_5)]) (V' := q_V S_4) rfl ?_
    refine q_Sim.call vc_268 (as := [.inr (.inr (11, 0, 0)), .inl x1, .inl 8]) (pc' := 44) (lv' := [(4, .inr (.inl y_5)), (0, .inr (.inr (11, 0, 0))), (1, .inl x1), (2, .inl x2), (3, .inl x3)]) (st' := [.inr (.inl y_5)]) (S := S_4) rfl (rc_190 x1 8) (s_190 x1 8 S_4) (fun r_6 S_7 => ?_)
    refine q_Sim.steps vc_268 4 (pc' := 48) (lv' := [(4, .inr (.inl y_5)), (0, .inr (.inr (11, 0, 0))), (1, .inl x1), (2, .inl x2), (3, .inl x3)]) (st' := [.inr (.inl (r_6.toInt64 * x3.toInt64)), .inr (.inl y_5)]) (V' := q_V S_7) rfl ?_
    refine q_Sim.ck vc_268 (c := decide (¬ (r_6.toInt64 * x3.toInt64) = 0)) (pc' := 49) (lv' := [(4, .inr (.inl y_5)), (0, .inr (.inr (11, 0, 0))), (1, .inl x1), (2, .inl x2), (3, .inl x3)]) (st' := [.inr (.inl (y_5 / (r_6.toInt64 * x3.toInt64)))]) (V' := q_V S_7) rfl ?_
    refine q_Sim.steps vc_268 2 (pc' := 51) (lv' := [(4, .inr (.inl y_5)), (0, .inr (.inr (11, 0, 0))), (1, .inl x1), (2, .inl x2), (3, .inl x3)]) (st' := [.inr (.inl ((y_5 / (r_6.toInt64 * x3.toInt64)) + 1))]) (V' := q_V S_7) rfl ?_
    exact q_Sim.ret vc_268 rfl
  · refine q_Sim.steps vc_268 2 (pc' := 51) (lv' := [(4, .inr (.inl y_5)), (0, .inr (.inr (11, 0, 0))), (1, .inl x1), (2, .inl x2), (3, .inl x3)]) (st' := [.inr (.inl 0)]) (V' := q_V S_4) rfl ?_
    exact q_Sim.ret vc_268 rfl
theorem vc_269 : v_code 269 = k_269 := rfl
theorem rc_269 (x1 : Int32) (x2 : Int32) : v_rcv 269 [.inr (.inr (11, 0, 0)), .inl x1, .inl x2] = true := rfl
def f_269 (x1 : Int32) (x2 : Int32) (S : QS) : Option ((Int64) × QS) := q_ck (v_in x1 256) (q_let (S.1 (52, 0, 0) x1.toNatClampNeg) (fun y_1 => q_ck (v_in x2 40) (q_let (S.1 (49, 0, 0) x2.toNatClampNeg) (fun y_2 => q_bd (f_190 y_2 7 S) (fun r_3 S_4 => q_let ((y_1 + r_3).toInt64) (fun y_5 => q_ck (v_in x2 8) (q_let (S_4.2.1 (50, 0, 0) x2.toNatClampNeg) (fun y_6 => if (lg_cmp y_5 y_6) ≤ 0 then (some (0, S_4)) else (q_ck (v_in x2 8) (q_let (S_4.2.1 (50, 0, 0) x2.toNatClampNeg) (fun y_7 => some (y_5 - y_7, S_4))))))))))))
theorem s_269 (x1 : Int32) (x2 : Int32) (S : QS) : q_Sim 269 0 [(0, .inr (.inr (11, 0, 0))), (1, .inl x1), (2, .inl x2)] [] (q_V S) q_J (f_269 x1 x2 S) := by
  unfold f_269
  refine q_Sim.steps vc_269 3 (pc' := 5) (lv' := [(0, .inr (.inr (11, 0, 0))), (1, .inl x1), (2, .inl x2)]) (st' := [.inl x1, .inr (.inr (52, 0, 0))]) (V' := q_V S) rfl ?_
  refine q_Sim.ck vc_269 (c := v_in x1 256) (pc' := 6) (lv' := [(0, .inr (.inr (11, 0, 0))), (1, .inl x1), (2, .inl x2)]) (st' := [.inl (S.1 (52, 0, 0) x1.toNatClampNeg)]) (V' := q_V S) rfl ?_
  refine q_Sim.letI (fun y_1 => ?_)
  refine q_Sim.steps vc_269 4 (pc' := 12) (lv' := [(0, .inr (.inr (11, 0, 0))), (1, .inl x1), (2, .inl x2)]) (st' := [.inl x2, .inr (.inr (49, 0, 0)), .inr (.inr (11, 0, 0)), .inl y_1]) (V' := q_V S) rfl ?_
  refine q_Sim.ck vc_269 (c := v_in x2 40) (pc' := 13) (lv' := [(0, .inr (.inr (11, 0, 0))), (1, .inl x1), (2, .inl x2)]) (st' := [.inl (S.1 (49, 0, 0) x2.toNatClampNeg), .inr (.inr (11, 0, 0)), .inl y_1]) (V' := q_V S) rfl ?_
  refine q_Sim.letI (fun y_2 => ?_)
  refine q_Sim.steps vc_269 1 (pc' := 15) (lv' := [(0, .inr (.inr (11, 0, 0))), (1, .inl x1), (2, .inl x2)]) (st' := [.inl 7, .inl y_2, .inr (.inr (11, 0, 0)), .inl y_1]) (V' := q_V S) rfl ?_
  refine q_Sim.call vc_269 (as := [.inr (.inr (11, 0, 0)), .inl y_2, .inl 7]) (pc' := 18) (lv' := [(0, .inr (.inr (11, 0, 0))), (1, .inl x1), (2, .inl x2)]) (st' := [.inl y_1]) (S := S) rfl (rc_190 y_2 7) (s_190 y_2 7 S) (fun r_3 S_4 => ?_)
  refine q_Sim.steps vc_269 2 (pc' := 20) (lv' := [(0, .inr (.inr (11, 0, 0))), (1, .inl x1), (2, .inl x2)]) (st' := [.inr (.inl ((y_1 + r_3).toInt64))]) (V' := q_V S_4) rfl ?_
  refine q_Sim.letJ (fun y_5 => ?_)
  refine q_Sim.steps vc_269 5 (pc' := 27) (lv' := [(3, .inr (.inl y_5)), (0, .inr (.inr (11, 0, 0))), (1, .inl x1), (2, .inl x2)]) (st' := [.inl x2, .inr (.inr (50, 0, 0)), .inr (.inl y_5)]) (V' := q_V S_4) rfl ?_
  refine q_Sim.ck vc_269 (c := v_in x2 8) (pc' := 28) (lv' := [(3, .inr (.inl y_5)), (0, .inr (.inr (11, 0, 0))), (1, .inl x1), (2, .inl x2)]) (st' := [.inr (.inl (S_4.2.1 (50, 0, 0) x2.toNatClampNeg)), .inr (.inl y_5)]) (V' := q_V S_4) rfl ?_
  refine q_Sim.letJ (fun y_6 => ?_)
  refine q_Sim.steps vc_269 1 (pc' := 29) (lv' := [(3, .inr (.inl y_5)), (0, .inr (.inr (11, 0, 0))), (1, .inl x1), (2, .inl x2)]) (st' := [.inl (lg_cmp y_5 y_6)]) (V' := q_V S_4) rfl ?_
  refine q_Sim.br vc_269 (c := (lg_cmp y_5 y_6) ≤ 0) (t := 43) (f := 32) (lv' := [(3, .inr (.inl y_5)), (0, .inr (.inr (11, 0, 0))), (1, .inl x1), (2, .inl x2)]) (st' := []) (V' := q_V S_4) rfl ?_ ?_
  · refine q_Sim.steps vc_269 1 (pc' := 44) (lv' := [(3, .inr (.inl y_5)), (0, .inr (.inr (11, 0, 0))), (1, .inl x1), (2, .inl x2)]) (st' := [.inr (.inl 0)]) (V' := q_V S_4) rfl ?_
    exact q_Sim.ret vc_269 rfl
  · refine q_Sim.steps vc_269 4 (pc' := 38) (lv' := [(3, .inr (.inl y_5)), (0, .inr (.inr (11, 0, 0))), (1, .inl x1), (2, .inl x2)]) (st' := [.inl x2, .inr (.inr (50, 0, 0)), .inr (.inl y_5)]) (V' := q_V S_4) rfl ?_
    refine q_Sim.ck vc_269 (c := v_in x2 8) (pc' := 39) (lv' := [(3, .inr (.inl y_5)), (0, .inr (.inr (11, 0, 0))), (1, .inl x1), (2, .inl x2)]) (st' := [.inr (.inl (S_4.2.1 (50, 0, 0) x2.toNatClampNeg)), .inr (.inl y_5)]) (V' := q_V S_4) rfl ?_
    refine q_Sim.letJ (fun y_7 => ?_)
    refine q_Sim.steps vc_269 2 (pc' := 44) (lv' := [(3, .inr (.inl y_5)), (0, .inr (.inr (11, 0, 0))), (1, .inl x1), (2, .inl x2)]) (st' := [.inr (.inl (y_5 - y_7))]) (V' := q_V S_4) rfl ?_
    exact q_Sim.ret vc_269 rfl
theorem vc_270 : v_code 270 = k_270 := rfl
theorem rc_270 (x1 : Int32) : v_rcv 270 [.inr (.inr (11, 0, 0)), .inl x1] = true := rfl
def b_270_177 (back_72 : Int32 → Int32 → Int32 → QS → Option ((Unit) × QS)) (back_97 : Int32 → Int32 → Int32 → Int32 → QS → Option ((Unit) × QS)) (x1 : Int32) (x2 : Int32) (x3 : Int32) (x4 : Int32) (S : QS) : Option ((Unit) × QS) := back_97 x1 x2 x3 (x4 + 1) S
theorem sb_270_177 (back_72 : Int32 → Int32 → Int32 → QS → Option ((Unit) × QS)) (hb_72 : ∀ (x1 : Int32) (x2 : Int32) (x3 : Int32) (S : QS), q_Sim 270 72 [(0, .inr (.inr (11, 0, 0))), (1, .inl x1), (2, .inl x2), (3, .inl x3)] [] (q_V S) q_U (back_72 x1 x2 x3 S)) (back_97 : Int32 → Int32 → Int32 → Int32 → QS → Option ((Unit) × QS)) (hb_97 : ∀ (x1 : Int32) (x2 : Int32) (x3 : Int32) (x4 : Int32) (S : QS), q_Sim 270 97 [(0, .inr (.inr (11, 0, 0))), (1, .inl x1), (2, .inl x2), (3, .inl x3), (4, .inl x4)] [] (q_V S) q_U (back_97 x1 x2 x3 x4 S)) (x1 : Int32) (x2 : Int32) (x3 : Int32) (x4 : Int32) (S : QS) : q_Sim 270 177 [(0, .inr (.inr (11, 0, 0))), (1, .inl x1), (2, .inl x2), (3, .inl x3), (4, .inl x4)] [] (q_V S) q_U (b_270_177 back_72 back_97 x1 x2 x3 x4 S) := by
  unfold b_270_177
  refine q_Sim.steps vc_270 2 (pc' := 97) (lv' := [(4, .inl (x4 + 1)), (0, .inr (.inr (11, 0, 0))), (1, .inl x1), (2, .inl x2), (3, .inl x3)]) (st' := []) (V' := q_V S) rfl ?_
  exact q_Sim.sub2 (lv' := [(0, .inr (.inr (11, 0, 0))), (1, .inl x1), (2, .inl x2), (3, .inl x3), (4, .inl (x4 + 1))]) [0, 1, 2, 3, 4] rfl (by decide) ⟨rfl, rfl, rfl, rfl, rfl, trivial⟩ (hb_97 x1 x2 x3 (x4 + 1) S)
def b_270_176 (back_72 : Int32 → Int32 → Int32 → QS → Option ((Unit) × QS)) (back_97 : Int32 → Int32 → Int32 → Int32 → QS → Option ((Unit) × QS)) (x1 : Int32) (x2 : Int32) (x3 : Int32) (x4 : Int32) (xs1 : Int32) (ls2 : Int64) (S : QS) : Option ((Unit) × QS) := q_ck (v_in xs1 256) (q_let (q_setL S (51, 0, 0) xs1.toNatClampNeg ls2) (fun S_8 => b_270_177 back_72 back_97 x1 x2 x3 x4 S_8))
theorem sb_270_176 (back_72 : Int32 → Int32 → Int32 → QS → Option ((Unit) × QS)) (hb_72 : ∀ (x1 : Int32) (x2 : Int32) (x3 : Int32) (S : QS), q_Sim 270 72 [(0, .inr (.inr (11, 0, 0))), (1, .inl x1), (2, .inl x2), (3, .inl x3)] [] (q_V S) q_U (back_72 x1 x2 x3 S)) (back_97 : Int32 → Int32 → Int32 → Int32 → QS → Option ((Unit) × QS)) (hb_97 : ∀ (x1 : Int32) (x2 : Int32) (x3 : Int32) (x4 : Int32) (S : QS), q_Sim 270 97 [(0, .inr (.inr (11, 0, 0))), (1, .inl x1), (2, .inl x2), (3, .inl x3), (4, .inl x4)] [] (q_V S) q_U (back_97 x1 x2 x3 x4 S)) (x1 : Int32) (x2 : Int32) (x3 : Int32) (x4 : Int32) (xs1 : Int32) (ls2 : Int64) (S : QS) : q_Sim 270 176 [(0, .inr (.inr (11, 0, 0))), (1, .inl x1), (2, .inl x2), (3, .inl x3), (4, .inl x4)] [.inr (.inl ls2), .inl xs1, .inr (.inr (51, 0, 0))] (q_V S) q_U (b_270_176 back_72 back_97 x1 x2 x3 x4 xs1 ls2 S) := by
  unfold b_270_176
  refine q_Sim.ck vc_270 (c := v_in xs1 256) (pc' := 177) (lv' := [(0, .inr (.inr (11, 0, 0))), (1, .inl x1), (2, .inl x2), (3, .inl x3), (4, .inl x4)]) (st' := []) (V' := q_V (q_setL S (51, 0, 0) xs1.toNatClampNeg ls2)) rfl ?_
  refine q_Sim.letS (fun S_8 => ?_)
  exact q_Sim.sub2 (lv' := [(0, .inr (.inr (11, 0, 0))), (1, .inl x1), (2, .inl x2), (3, .inl x3), (4, .inl x4)]) [0, 1, 2, 3, 4] rfl (by decide) ⟨rfl, rfl, rfl, rfl, rfl, trivial⟩ (sb_270_177 back_72 hb_72 back_97 hb_97 x1 x2 x3 x4 S_8)
def b_270_165 (back_72 : Int32 → Int32 → Int32 → QS → Option ((Unit) × QS)) (back_97 : Int32 → Int32 → Int32 → Int32 → QS → Option ((Unit) × QS)) (x1 : Int32) (x2 : Int32) (x3 : Int32) (x4 : Int32) (l5 : Int64) (xs1 : Int32) (S : QS) : Option ((Unit) × QS) := b_270_176 back_72 back_97 x1 x2 x3 x4 xs1 l5 S
theorem sb_270_165 (back_72 : Int32 → Int32 → Int32 → QS → Option ((Unit) × QS)) (hb_72 : ∀ (x1 : Int32) (x2 : Int32) (x3 : Int32) (S : QS), q_Sim 270 72 [(0, .inr (.inr (11, 0, 0))), (1, .inl x1), (2, .inl x2), (3, .inl x3)] [] (q_V S) q_U (back_72 x1 x2 x3 S)) (back_97 : Int32 → Int32 → Int32 → Int32 → QS → Option ((Unit) × QS)) (hb_97 : ∀ (x1 : Int32) (x2 : Int32) (x3 : Int32) (x4 : Int32) (S : QS), q_Sim 270 97 [(0, .inr (.inr (11, 0, 0))), (1, .inl x1), (2, .inl x2), (3, .inl x3), (4, .inl x4)] [] (q_V S) q_U (back_97 x1 x2 x3 x4 S)) (x1 : Int32) (x2 : Int32) (x3 : Int32) (x4 : Int32) (l5 : Int64) (xs1 : Int32) (S : QS) : q_Sim 270 165 [(0, .inr (.inr (11, 0, 0))), (1, .inl x1), (2, .inl x2), (3, .inl x3), (4, .inl x4), (5, .inr (.inl l5))] [.inl xs1, .inr (.inr (51, 0, 0))] (q_V S) q_U (b_270_165 back_72 back_97 x1 x2 x3 x4 l5 xs1 S) := by
  unfold b_270_165
  refine q_Sim.steps vc_270 2 (pc' := 176) (lv' := [(0, .inr (.inr (11, 0, 0))), (1, .inl x1), (2, .inl x2), (3, .inl x3), (4, .inl x4), (5, .inr (.inl l5))]) (st' := [.inr (.inl l5), .inl xs1, .inr (.inr (51, 0, 0))]) (V' := q_V S) rfl ?_
  exact q_Sim.sub2 (lv' := [(0, .inr (.inr (11, 0, 0))), (1, .inl x1), (2, .inl x2), (3, .inl x3), (4, .inl x4)]) [0, 1, 2, 3, 4] rfl (by decide) ⟨rfl, rfl, rfl, rfl, rfl, trivial⟩ (sb_270_176 back_72 hb_72 back_97 hb_97 x1 x2 x3 x4 xs1 l5 S)
def b_270_97 (back_72 : Int32 → Int32 → Int32 → QS → Option ((Unit) × QS)) : Nat → Int32 → Int32 → Int32 → Int32 → QS → Option ((Unit) × QS)
  | 0, _, _, _, _, _ => none
  | n + 1, x1, x2, x3, x4, S => if x1 ≤ x4 then (back_72 x1 x2 (x3 + (-1)) S) else (if ¬ ((x3 >>> (x4 &&& 31)) &&& 1) = 1 then (q_bd (f_269 x3 x4 S) (fun r_3 S_4 => q_ck (v_in (x3 ||| (1 <<< (x4 &&& 31))) 256) (q_let (S_4.2.1 (51, 0, 0) (x3 ||| (1 <<< (x4 &&& 31))).toNatClampNeg) (fun y_5 => q_let (r_3 + y_5) (fun y_6 => q_ck (v_in x3 256) (q_let (S_4.2.1 (51, 0, 0) x3.toNatClampNeg) (fun y_7 => if (lg_cmp y_7 0) < 0 then (b_270_165 back_72 (b_270_97 back_72 n) x1 x2 x3 x4 y_6 x3 S_4) else (q_ck (v_in x3 256) (q_let (S_4.2.1 (51, 0, 0) x3.toNatClampNeg) (fun y_9 => if 0 ≤ (lg_cmp y_6 y_9) then (q_ck (v_in x3 256) (q_let (S_4.2.1 (51, 0, 0) x3.toNatClampNeg) (fun y_10 => b_270_176 back_72 (b_270_97 back_72 n) x1 x2 x3 x4 x3 y_10 S_4))) else (b_270_165 back_72 (b_270_97 back_72 n) x1 x2 x3 x4 y_6 x3 S_4))))))))))) else (b_270_177 back_72 (b_270_97 back_72 n) x1 x2 x3 x4 S))
theorem sb_270_97 (back_72 : Int32 → Int32 → Int32 → QS → Option ((Unit) × QS)) (hb_72 : ∀ (x1 : Int32) (x2 : Int32) (x3 : Int32) (S : QS), q_Sim 270 72 [(0, .inr (.inr (11, 0, 0))), (1, .inl x1), (2, .inl x2), (3, .inl x3)] [] (q_V S) q_U (back_72 x1 x2 x3 S)) : ∀ (n : Nat) (x1 : Int32) (x2 : Int32) (x3 : Int32) (x4 : Int32) (S : QS), q_Sim 270 97 [(0, .inr (.inr (11, 0, 0))), (1, .inl x1), (2, .inl x2), (3, .inl x3), (4, .inl x4)] [] (q_V S) q_U (b_270_97 back_72 n x1 x2 x3 x4 S)
  | 0, _, _, _, _, _ => q_Sim.none
  | n + 1, x1, x2, x3, x4, S => by
    rw [b_270_97]
    refine q_Sim.steps vc_270 2 (pc' := 100) (lv' := [(0, .inr (.inr (11, 0, 0))), (1, .inl x1), (2, .inl x2), (3, .inl x3), (4, .inl x4)]) (st' := [.inl x1, .inl x4]) (V' := q_V S) rfl ?_
    refine q_Sim.br vc_270 (c := x1 ≤ x4) (t := 183) (f := 103) (lv' := [(0, .inr (.inr (11, 0, 0))), (1, .inl x1), (2, .inl x2), (3, .inl x3), (4, .inl x4)]) (st' := []) (V' := q_V S) rfl ?_ ?_
    · refine q_Sim.steps vc_270 2 (pc' := 72) (lv' := [(3, .inl (x3 + (-1))), (0, .inr (.inr (11, 0, 0))), (1, .inl x1), (2, .inl x2), (4, .inl x4)]) (st' := []) (V' := q_V S) rfl ?_
      exact q_Sim.sub2 (lv' := [(0, .inr (.inr (11, 0, 0))), (1, .inl x1), (2, .inl x2), (3, .inl (x3 + (-1)))]) [0, 1, 2, 3] rfl (by decide) ⟨rfl, rfl, rfl, rfl, trivial⟩ (hb_72 x1 x2 (x3 + (-1)) S)
    · refine q_Sim.steps vc_270 6 (pc' := 110) (lv' := [(0, .inr (.inr (11, 0, 0))), (1, .inl x1), (2, .inl x2), (3, .inl x3), (4, .inl x4)]) (st' := [.inl 1, .inl ((x3 >>> (x4 &&& 31)) &&& 1)]) (V' := q_V S) rfl ?_
      refine q_Sim.br vc_270 (c := ¬ ((x3 >>> (x4 &&& 31)) &&& 1) = 1) (t := 116) (f := 113) (lv' := [(0, .inr (.inr (11, 0, 0))), (1, .inl x1), (2, .inl x2), (3, .inl x3), (4, .inl x4)]) (st' := []) (V' := q_V S) rfl ?_ ?_
      · refine q_Sim.steps vc_270 3 (pc' := 120) (lv' := [(0, .inr (.inr (11, 0, 0))), (1, .inl x1), (2, .inl x2), (3, .inl x3), (4, .inl x4)]) (st' := [.inl x4, .inl x3, .inr (.inr (11, 0, 0))]) (V' := q_V S) rfl ?_
        refine q_Sim.call vc_270 (as := [.inr (.inr (11, 0, 0)), .inl x3, .inl x4]) (pc' := 123) (lv' := [(0, .inr (.inr (11, 0, 0))), (1, .inl x1), (2, .inl x2), (3, .inl x3), (4, .inl x4)]) (st' := []) (S := S) rfl (rc_269 x3 x4) (s_269 x3 x4 S) (fun r_3 S_4 => ?_)
        refine q_Sim.steps vc_270 7 (pc' := 133) (lv' := [(0, .inr (.inr (11, 0, 0))), (1, .inl x1), (2, .inl x2), (3, .inl x3), (4, .inl x4)]) (st' := [.inl (x3 ||| (1 <<< (x4 &&& 31))), .inr (.inr (51, 0, 0)), .inr (.inl r_3)]) (V' := q_V S_4) rfl ?_
        refine q_Sim.ck vc_270 (c := v_in (x3 ||| (1 <<< (x4 &&& 31))) 256) (pc' := 134) (lv' := [(0, .inr (.inr (11, 0, 0))), (1, .inl x1), (2, .inl x2), (3, .inl x3), (4, .inl x4)]) (st' := [.inr (.inl (S_4.2.1 (51, 0, 0) (x3 ||| (1 <<< (x4 &&& 31))).toNatClampNeg)), .inr (.inl r_3)]) (V' := q_V S_4) rfl ?_
        refine q_Sim.letJ (fun y_5 => ?_)
        refine q_Sim.steps vc_270 1 (pc' := 135) (lv' := [(0, .inr (.inr (11, 0, 0))), (1, .inl x1), (2, .inl x2), (3, .inl x3), (4, .inl x4)]) (st' := [.inr (.inl (r_3 + y_5))]) (V' := q_V S_4) rfl ?_
        refine q_Sim.letJ (fun y_6 => ?_)
        refine q_Sim.steps vc_270 7 (pc' := 147) (lv' := [(5, .inr (.inl y_6)), (0, .inr (.inr (11, 0, 0))), (1, .inl x1), (2, .inl x2), (3, .inl x3), (4, .inl x4)]) (st' := [.inl x3, .inr (.inr (51, 0, 0)), .inl x3, .inr (.inr (51, 0, 0))]) (V' := q_V S_4) rfl ?_
        refine q_Sim.ck vc_270 (c := v_in x3 256) (pc' := 148) (lv' := [(5, .inr (.inl y_6)), (0, .inr (.inr (11, 0, 0))), (1, .inl x1), (2, .inl x2), (3, .inl x3), (4, .inl x4)]) (st' := [.inr (.inl (S_4.2.1 (51, 0, 0) x3.toNatClampNeg)), .inl x3, .inr (.inr (51, 0, 0))]) (V' := q_V S_4) rfl ?_
        refine q_Sim.letJ (fun y_7 => ?_)
        refine q_Sim.steps vc_270 2 (pc' := 150) (lv' := [(5, .inr (.inl y_6)), (0, .inr (.inr (11, 0, 0))), (1, .inl x1), (2, .inl x2), (3, .inl x3), (4, .inl x4)]) (st' := [.inl (lg_cmp y_7 0), .inl x3, .inr (.inr (51, 0, 0))]) (V' := q_V S_4) rfl ?_
        refine q_Sim.br vc_270 (c := (lg_cmp y_7 0) < 0) (t := 165) (f := 153) (lv' := [(5, .inr (.inl y_6)), (0, .inr (.inr (11, 0, 0))), (1, .inl x1), (2, .inl x2), (3, .inl x3), (4, .inl x4)]) (st' := [.inl x3, .inr (.inr (51, 0, 0))]) (V' := q_V S_4) rfl ?_ ?_
        · exact q_Sim.sub2 (lv' := [(0, .inr (.inr (11, 0, 0))), (1, .inl x1), (2, .inl x2), (3, .inl x3), (4, .inl x4), (5, .inr (.inl y_6))]) [0, 1, 2, 3, 4, 5] rfl (by decide) ⟨rfl, rfl, rfl, rfl, rfl, rfl, trivial⟩ (sb_270_165 back_72 hb_72 (b_270_97 back_72 n) (sb_270_97 back_72 hb_72 n) x1 x2 x3 x4 y_6 x3 S_4)
        · refine q_Sim.steps vc_270 4 (pc' := 160) (lv' := [(5, .inr (.inl y_6)), (0, .inr (.inr (11, 0, 0))), (1, .inl x1), (2, .inl x2), (3, .inl x3), (4, .inl x4)]) (st' := [.inl x3, .inr (.inr (51, 0, 0)), .inr (.inl y_6), .inl x3, .inr (.inr (51, 0, 0))]) (V' := q_V S_4) rfl ?_
          refine q_Sim.ck vc_270 (c := v_in x3 256) (pc' := 161) (lv' := [(5, .inr (.inl y_6)), (0, .inr (.inr (11, 0, 0))), (1, .inl x1), (2, .inl x2), (3, .inl x3), (4, .inl x4)]) (st' := [.inr (.inl (S_4.2.1 (51, 0, 0) x3.toNatClampNeg)), .inr (.inl y_6), .inl x3, .inr (.inr (51, 0, 0))]) (V' := q_V S_4) rfl ?_
          refine q_Sim.letJ (fun y_9 => ?_)
          refine q_Sim.steps vc_270 1 (pc' := 162) (lv' := [(5, .inr (.inl y_6)), (0, .inr (.inr (11, 0, 0))), (1, .inl x1), (2, .inl x2), (3, .inl x3), (4, .inl x4)]) (st' := [.inl (lg_cmp y_6 y_9), .inl x3, .inr (.inr (51, 0, 0))]) (V' := q_V S_4) rfl ?_
          refine q_Sim.br vc_270 (c := 0 ≤ (lg_cmp y_6 y_9)) (t := 170) (f := 165) (lv' := [(5, .inr (.inl y_6)), (0, .inr (.inr (11, 0, 0))), (1, .inl x1), (2, .inl x2), (3, .inl x3), (4, .inl x4)]) (st' := [.inl x3, .inr (.inr (51, 0, 0))]) (V' := q_V S_4) rfl ?_ ?_
          · refine q_Sim.steps vc_270 3 (pc' := 175) (lv' := [(5, .inr (.inl y_6)), (0, .inr (.inr (11, 0, 0))), (1, .inl x1), (2, .inl x2), (3, .inl x3), (4, .inl x4)]) (st' := [.inl x3, .inr (.inr (51, 0, 0)), .inl x3, .inr (.inr (51, 0, 0))]) (V' := q_V S_4) rfl ?_
            refine q_Sim.ck vc_270 (c := v_in x3 256) (pc' := 176) (lv' := [(5, .inr (.inl y_6)), (0, .inr (.inr (11, 0, 0))), (1, .inl x1), (2, .inl x2), (3, .inl x3), (4, .inl x4)]) (st' := [.inr (.inl (S_4.2.1 (51, 0, 0) x3.toNatClampNeg)), .inl x3, .inr (.inr (51, 0, 0))]) (V' := q_V S_4) rfl ?_
            refine q_Sim.letJ (fun y_10 => ?_)
            exact q_Sim.sub2 (lv' := [(0, .inr (.inr (11, 0, 0))), (1, .inl x1), (2, .inl x2), (3, .inl x3), (4, .inl x4)]) [0, 1, 2, 3, 4] rfl (by decide) ⟨rfl, rfl, rfl, rfl, rfl, trivial⟩ (sb_270_176 back_72 hb_72 (b_270_97 back_72 n) (sb_270_97 back_72 hb_72 n) x1 x2 x3 x4 x3 y_10 S_4)
          · exact q_Sim.sub2 (lv' := [(0, .inr (.inr (11, 0, 0))), (1, .inl x1), (2, .inl x2), (3, .inl x3), (4, .inl x4), (5, .inr (.inl y_6))]) [0, 1, 2, 3, 4, 5] rfl (by decide) ⟨rfl, rfl, rfl, rfl, rfl, rfl, trivial⟩ (sb_270_165 back_72 hb_72 (b_270_97 back_72 n) (sb_270_97 back_72 hb_72 n) x1 x2 x3 x4 y_6 x3 S_4)
      · refine q_Sim.steps vc_270 1 (pc' := 177) (lv' := [(0, .inr (.inr (11, 0, 0))), (1, .inl x1), (2, .inl x2), (3, .inl x3), (4, .inl x4)]) (st' := []) (V' := q_V S) rfl ?_
        exact q_Sim.sub2 (lv' := [(0, .inr (.inr (11, 0, 0))), (1, .inl x1), (2, .inl x2), (3, .inl x3), (4, .inl x4)]) [0, 1, 2, 3, 4] rfl (by decide) ⟨rfl, rfl, rfl, rfl, rfl, trivial⟩ (sb_270_177 back_72 hb_72 (b_270_97 back_72 n) (sb_270_97 back_72 hb_72 n) x1 x2 x3 x4 S)
def b_270_93 (back_72 : Int32 → Int32 → Int32 → QS → Option ((Unit) × QS)) (x1 : Int32) (x2 : Int32) (x3 : Int32) (xs1 : Int32) (ls2 : Int64) (S : QS) : Option ((Unit) × QS) := q_ck (v_in xs1 256) (q_let (q_setL S (51, 0, 0) xs1.toNatClampNeg ls2) (fun S_2 => b_270_97 back_72 q_N x1 x2 x3 0 S_2))
theorem sb_270_93 (back_72 : Int32 → Int32 → Int32 → QS → Option ((Unit) × QS)) (hb_72 : ∀ (x1 : Int32) (x2 : Int32) (x3 : Int32) (S : QS), q_Sim 270 72 [(0, .inr (.inr (11, 0, 0))), (1, .inl x1), (2, .inl x2), (3, .inl x3)] [] (q_V S) q_U (back_72 x1 x2 x3 S)) (x1 : Int32) (x2 : Int32) (x3 : Int32) (xs1 : Int32) (ls2 : Int64) (S : QS) : q_Sim 270 93 [(0, .inr (.inr (11, 0, 0))), (1, .inl x1), (2, .inl x2), (3, .inl x3)] [.inr (.inl ls2), .inl xs1, .inr (.inr (51, 0, 0))] (q_V S) q_U (b_270_93 back_72 x1 x2 x3 xs1 ls2 S) := by
  unfold b_270_93
  refine q_Sim.ck vc_270 (c := v_in xs1 256) (pc' := 94) (lv' := [(0, .inr (.inr (11, 0, 0))), (1, .inl x1), (2, .inl x2), (3, .inl x3)]) (st' := []) (V' := q_V (q_setL S (51, 0, 0) xs1.toNatClampNeg ls2)) rfl ?_
  refine q_Sim.letS (fun S_2 => ?_)
  refine q_Sim.steps vc_270 2 (pc' := 97) (lv' := [(4, .inl 0), (0, .inr (.inr (11, 0, 0))), (1, .inl x1), (2, .inl x2), (3, .inl x3)]) (st' := []) (V' := q_V S_2) rfl ?_
  exact q_Sim.sub2 (lv' := [(0, .inr (.inr (11, 0, 0))), (1, .inl x1), (2, .inl x2), (3, .inl x3), (4, .inl 0)]) [0, 1, 2, 3, 4] rfl (by decide) ⟨rfl, rfl, rfl, rfl, rfl, trivial⟩ (sb_270_97 back_72 hb_72 q_N x1 x2 x3 0 S_2)
def b_270_72 : Nat → Int32 → Int32 → Int32 → QS → Option ((Unit) × QS)
  | 0, _, _, _, _ => none
  | n + 1, x1, x2, x3, S => if x3 < 0 then (some ((), S)) else (if ¬ x3 = x2 then (b_270_93 (b_270_72 n) x1 x2 x3 x3 (-1) S) else (b_270_93 (b_270_72 n) x1 x2 x3 x3 0 S))
theorem sb_270_72 : ∀ (n : Nat) (x1 : Int32) (x2 : Int32) (x3 : Int32) (S : QS), q_Sim 270 72 [(0, .inr (.inr (11, 0, 0))), (1, .inl x1), (2, .inl x2), (3, .inl x3)] [] (q_V S) q_U (b_270_72 n x1 x2 x3 S)
  | 0, _, _, _, _ => q_Sim.none
  | n + 1, x1, x2, x3, S => by
    rw [b_270_72]
    refine q_Sim.steps vc_270 1 (pc' := 73) (lv' := [(0, .inr (.inr (11, 0, 0))), (1, .inl x1), (2, .inl x2), (3, .inl x3)]) (st' := [.inl x3]) (V' := q_V S) rfl ?_
    refine q_Sim.br vc_270 (c := x3 < 0) (t := 189) (f := 76) (lv' := [(0, .inr (.inr (11, 0, 0))), (1, .inl x1), (2, .inl x2), (3, .inl x3)]) (st' := []) (V' := q_V S) rfl ?_ ?_
    · exact q_Sim.ret vc_270 rfl
    · refine q_Sim.steps vc_270 5 (pc' := 83) (lv' := [(0, .inr (.inr (11, 0, 0))), (1, .inl x1), (2, .inl x2), (3, .inl x3)]) (st' := [.inl x2, .inl x3, .inl x3, .inr (.inr (51, 0, 0))]) (V' := q_V S) rfl ?_
      refine q_Sim.br vc_270 (c := ¬ x3 = x2) (t := 90) (f := 86) (lv' := [(0, .inr (.inr (11, 0, 0))), (1, .inl x1), (2, .inl x2), (3, .inl x3)]) (st' := [.inl x3, .inr (.inr (51, 0, 0))]) (V' := q_V S) rfl ?_ ?_
      · refine q_Sim.steps vc_270 1 (pc' := 93) (lv' := [(0, .inr (.inr (11, 0, 0))), (1, .inl x1), (2, .inl x2), (3, .inl x3)]) (st' := [.inr (.inl (-1)), .inl x3, .inr (.inr (51, 0, 0))]) (V' := q_V S) rfl ?_
        exact q_Sim.sub2 (lv' := [(0, .inr (.inr (11, 0, 0))), (1, .inl x1), (2, .inl x2), (3, .inl x3)]) [0, 1, 2, 3] rfl (by decide) ⟨rfl, rfl, rfl, rfl, trivial⟩ (sb_270_93 (b_270_72 n) (sb_270_72 n) x1 x2 x3 x3 (-1) S)
      · refine q_Sim.steps vc_270 2 (pc' := 93) (lv' := [(0, .inr (.inr (11, 0, 0))), (1, .inl x1), (2, .inl x2), (3, .inl x3)]) (st' := [.inr (.inl 0), .inl x3, .inr (.inr (51, 0, 0))]) (V' := q_V S) rfl ?_
        exact q_Sim.sub2 (lv' := [(0, .inr (.inr (11, 0, 0))), (1, .inl x1), (2, .inl x2), (3, .inl x3)]) [0, 1, 2, 3] rfl (by decide) ⟨rfl, rfl, rfl, rfl, trivial⟩ (sb_270_93 (b_270_72 n) (sb_270_72 n) x1 x2 x3 x3 0 S)
def b_270_23 (back_8 : Int32 → Int32 → Int32 → QS → Option ((Unit) × QS)) : Nat → Int32 → Int32 → Int32 → Int32 → QS → Option ((Unit) × QS)
  | 0, _, _, _, _, _ => none
  | n + 1, x1, x2, x3, x4, S => if x1 ≤ x4 then (back_8 x1 x2 (x3 + 1) S) else (q_ck (v_in x3 256) (q_let (S.1 (52, 0, 0) x3.toNatClampNeg) (fun y_12 => q_ck (v_in x4 40) (q_let (S.1 (49, 0, 0) x4.toNatClampNeg) (fun y_13 => q_bd (f_190 y_13 7 S) (fun r_14 S_15 => q_ck (v_in x3 256) (q_let (q_set S_15 (52, 0, 0) x3.toNatClampNeg (y_12 + (((x3 >>> (x4 &&& 31)) &&& 1) * r_14))) (fun S_16 => b_270_23 back_8 n x1 x2 x3 (x4 + 1) S_16))))))))
theorem sb_270_23 (back_8 : Int32 → Int32 → Int32 → QS → Option ((Unit) × QS)) (hb_8 : ∀ (x1 : Int32) (x2 : Int32) (x3 : Int32) (S : QS), q_Sim 270 8 [(0, .inr (.inr (11, 0, 0))), (1, .inl x1), (2, .inl x2), (3, .inl x3)] [] (q_V S) q_U (back_8 x1 x2 x3 S)) : ∀ (n : Nat) (x1 : Int32) (x2 : Int32) (x3 : Int32) (x4 : Int32) (S : QS), q_Sim 270 23 [(0, .inr (.inr (11, 0, 0))), (1, .inl x1), (2, .inl x2), (3, .inl x3), (4, .inl x4)] [] (q_V S) q_U (b_270_23 back_8 n x1 x2 x3 x4 S)
  | 0, _, _, _, _, _ => q_Sim.none
  | n + 1, x1, x2, x3, x4, S => by
    rw [b_270_23]
    refine q_Sim.steps vc_270 2 (pc' := 26) (lv' := [(0, .inr (.inr (11, 0, 0))), (1, .inl x1), (2, .inl x2), (3, .inl x3), (4, .inl x4)]) (st' := [.inl x1, .inl x4]) (V' := q_V S) rfl ?_
    refine q_Sim.br vc_270 (c := x1 ≤ x4) (t := 64) (f := 29) (lv' := [(0, .inr (.inr (11, 0, 0))), (1, .inl x1), (2, .inl x2), (3, .inl x3), (4, .inl x4)]) (st' := []) (V' := q_V S) rfl ?_ ?_
    · refine q_Sim.steps vc_270 2 (pc' := 8) (lv' := [(3, .inl (x3 + 1)), (0, .inr (.inr (11, 0, 0))), (1, .inl x1), (2, .inl x2), (4, .inl x4)]) (st' := []) (V' := q_V S) rfl ?_
      exact q_Sim.sub2 (lv' := [(0, .inr (.inr (11, 0, 0))), (1, .inl x1), (2, .inl x2), (3, .inl (x3 + 1))]) [0, 1, 2, 3] rfl (by decide) ⟨rfl, rfl, rfl, rfl, trivial⟩ (hb_8 x1 x2 (x3 + 1) S)
    · refine q_Sim.steps vc_270 4 (pc' := 35) (lv' := [(0, .inr (.inr (11, 0, 0))), (1, .inl x1), (2, .inl x2), (3, .inl x3), (4, .inl x4)]) (st' := [.inl x3, .inr (.inr (52, 0, 0)), .inl x3, .inr (.inr (52, 0, 0))]) (V' := q_V S) rfl ?_
      refine q_Sim.ck vc_270 (c := v_in x3 256) (pc' := 36) (lv' := [(0, .inr (.inr (11, 0, 0))), (1, .inl x1), (2, .inl x2), (3, .inl x3), (4, .inl x4)]) (st' := [.inl (S.1 (52, 0, 0) x3.toNatClampNeg), .inl x3, .inr (.inr (52, 0, 0))]) (V' := q_V S) rfl ?_
      refine q_Sim.letI (fun y_12 => ?_)
      refine q_Sim.steps vc_270 9 (pc' := 49) (lv' := [(0, .inr (.inr (11, 0, 0))), (1, .inl x1), (2, .inl x2), (3, .inl x3), (4, .inl x4)]) (st' := [.inl x4, .inr (.inr (49, 0, 0)), .inr (.inr (11, 0, 0)), .inl ((x3 >>> (x4 &&& 31)) &&& 1), .inl y_12, .inl x3, .inr (.inr (52, 0, 0))]) (V' := q_V S) rfl ?_
      refine q_Sim.ck vc_270 (c := v_in x4 40) (pc' := 50) (lv' := [(0, .inr (.inr (11, 0, 0))), (1, .inl x1), (2, .inl x2), (3, .inl x3), (4, .inl x4)]) (st' := [.inl (S.1 (49, 0, 0) x4.toNatClampNeg), .inr (.inr (11, 0, 0)), .inl ((x3 >>> (x4 &&& 31)) &&& 1), .inl y_12, .inl x3, .inr (.inr (52, 0, 0))]) (V' := q_V S) rfl ?_
      refine q_Sim.letI (fun y_13 => ?_)
      refine q_Sim.steps vc_270 1 (pc' := 52) (lv' := [(0, .inr (.inr (11, 0, 0))), (1, .inl x1), (2, .inl x2), (3, .inl x3), (4, .inl x4)]) (st' := [.inl 7, .inl y_13, .inr (.inr (11, 0, 0)), .inl ((x3 >>> (x4 &&& 31)) &&& 1), .inl y_12, .inl x3, .inr (.inr (52, 0, 0))]) (V' := q_V S) rfl ?_
      refine q_Sim.call vc_270 (as := [.inr (.inr (11, 0, 0)), .inl y_13, .inl 7]) (pc' := 55) (lv' := [(0, .inr (.inr (11, 0, 0))), (1, .inl x1), (2, .inl x2), (3, .inl x3), (4, .inl x4)]) (st' := [.inl ((x3 >>> (x4 &&& 31)) &&& 1), .inl y_12, .inl x3, .inr (.inr (52, 0, 0))]) (S := S) rfl (rc_190 y_13 7) (s_190 y_13 7 S) (fun r_14 S_15 => ?_)
      refine q_Sim.steps vc_270 2 (pc' := 57) (lv' := [(0, .inr (.inr (11, 0, 0))), (1, .inl x1), (2, .inl x2), (3, .inl x3), (4, .inl x4)]) (st' := [.inl (y_12 + (((x3 >>> (x4 &&& 31)) &&& 1) * r_14)), .inl x3, .inr (.inr (52, 0, 0))]) (V' := q_V S_15) rfl ?_
      refine q_Sim.ck vc_270 (c := v_in x3 256) (pc' := 58) (lv' := [(0, .inr (.inr (11, 0, 0))), (1, .inl x1), (2, .inl x2), (3, .inl x3), (4, .inl x4)]) (st' := []) (V' := q_V (q_set S_15 (52, 0, 0) x3.toNatClampNeg (y_12 + (((x3 >>> (x4 &&& 31)) &&& 1) * r_14)))) rfl ?_
      refine q_Sim.letS (fun S_16 => ?_)
      refine q_Sim.steps vc_270 2 (pc' := 23) (lv' := [(4, .inl (x4 + 1)), (0, .inr (.inr (11, 0, 0))), (1, .inl x1), (2, .inl x2), (3, .inl x3)]) (st' := []) (V' := q_V S_16) rfl ?_
      exact q_Sim.sub2 (lv' := [(0, .inr (.inr (11, 0, 0))), (1, .inl x1), (2, .inl x2), (3, .inl x3), (4, .inl (x4 + 1))]) [0, 1, 2, 3, 4] rfl (by decide) ⟨rfl, rfl, rfl, rfl, rfl, trivial⟩ (sb_270_23 back_8 hb_8 n x1 x2 x3 (x4 + 1) S_16)
def b_270_8 : Nat → Int32 → Int32 → Int32 → QS → Option ((Unit) × QS)
  | 0, _, _, _, _ => none
  | n + 1, x1, x2, x3, S => if x2 < x3 then (b_270_72 q_N x1 x2 x2 S) else (q_ck (v_in x3 256) (q_let (q_set S (52, 0, 0) x3.toNatClampNeg 0) (fun S_11 => b_270_23 (b_270_8 n) q_N x1 x2 x3 0 S_11)))
theorem sb_270_8 : ∀ (n : Nat) (x1 : Int32) (x2 : Int32) (x3 : Int32) (S : QS), q_Sim 270 8 [(0, .inr (.inr (11, 0, 0))), (1, .inl x1), (2, .inl x2), (3, .inl x3)] [] (q_V S) q_U (b_270_8 n x1 x2 x3 S)
  | 0, _, _, _, _ => q_Sim.none
  | n + 1, x1, x2, x3, S => by
    rw [b_270_8]
    refine q_Sim.steps vc_270 2 (pc' := 10) (lv' := [(0, .inr (.inr (11, 0, 0))), (1, .inl x1), (2, .inl x2), (3, .inl x3)]) (st' := [.inl x2, .inl x3]) (V' := q_V S) rfl ?_
    refine q_Sim.br vc_270 (c := x2 < x3) (t := 70) (f := 13) (lv' := [(0, .inr (.inr (11, 0, 0))), (1, .inl x1), (2, .inl x2), (3, .inl x3)]) (st' := []) (V' := q_V S) rfl ?_ ?_
    · refine q_Sim.steps vc_270 2 (pc' := 72) (lv' := [(3, .inl x2), (0, .inr (.inr (11, 0, 0))), (1, .inl x1), (2, .inl x2)]) (st' := []) (V' := q_V S) rfl ?_
      exact q_Sim.sub2 (lv' := [(0, .inr (.inr (11, 0, 0))), (1, .inl x1), (2, .inl x2), (3, .inl x2)]) [0, 1, 2, 3] rfl (by decide) ⟨rfl, rfl, rfl, rfl, trivial⟩ (sb_270_72 q_N x1 x2 x2 S)
    · refine q_Sim.steps vc_270 4 (pc' := 19) (lv' := [(0, .inr (.inr (11, 0, 0))), (1, .inl x1), (2, .inl x2), (3, .inl x3)]) (st' := [.inl 0, .inl x3, .inr (.inr (52, 0, 0))]) (V' := q_V S) rfl ?_
      refine q_Sim.ck vc_270 (c := v_in x3 256) (pc' := 20) (lv' := [(0, .inr (.inr (11, 0, 0))), (1, .inl x1), (2, .inl x2), (3, .inl x3)]) (st' := []) (V' := q_V (q_set S (52, 0, 0) x3.toNatClampNeg 0)) rfl ?_
      refine q_Sim.letS (fun S_11 => ?_)
      refine q_Sim.steps vc_270 2 (pc' := 23) (lv' := [(4, .inl 0), (0, .inr (.inr (11, 0, 0))), (1, .inl x1), (2, .inl x2), (3, .inl x3)]) (st' := []) (V' := q_V S_11) rfl ?_
      exact q_Sim.sub2 (lv' := [(0, .inr (.inr (11, 0, 0))), (1, .inl x1), (2, .inl x2), (3, .inl x3), (4, .inl 0)]) [0, 1, 2, 3, 4] rfl (by decide) ⟨rfl, rfl, rfl, rfl, rfl, trivial⟩ (sb_270_23 (b_270_8 n) (sb_270_8 n) q_N x1 x2 x3 0 S_11)
def f_270 (x1 : Int32) (S : QS) : Option ((Unit) × QS) := q_let ((1 <<< (x1 &&& 31)) - 1) (fun y_1 => b_270_8 q_N x1 y_1 0 S)
theorem s_270 (x1 : Int32) (S : QS) : q_Sim 270 0 [(0, .inr (.inr (11, 0, 0))), (1, .inl x1)] [] (q_V S) q_U (f_270 x1 S) := by
  unfold f_270
  refine q_Sim.steps vc_270 5 (pc' := 5) (lv' := [(0, .inr (.inr (11, 0, 0))), (1, .inl x1)]) (st' := [.inl ((1 <<< (x1 &&& 31)) - 1)]) (V' := q_V S) rfl ?_
  refine q_Sim.letI (fun y_1 => ?_)
  refine q_Sim.steps vc_270 3 (pc' := 8) (lv' := [(3, .inl 0), (2, .inl y_1), (0, .inr (.inr (11, 0, 0))), (1, .inl x1)]) (st' := []) (V' := q_V S) rfl ?_
  exact q_Sim.sub2 (lv' := [(0, .inr (.inr (11, 0, 0))), (1, .inl x1), (2, .inl y_1), (3, .inl 0)]) [0, 1, 2, 3] rfl (by decide) ⟨rfl, rfl, rfl, rfl, trivial⟩ (sb_270_8 q_N x1 y_1 0 S)
theorem vc_271 : v_code 271 = k_271 := rfl
theorem rc_271 (x1 : Int32) (x2 : Int32) : v_rcv 271 [.inr (.inr (11, 0, 0)), .inl x1, .inl x2] = true := rfl
def b_271_22  (S : QS) : Option ((Int32) × QS) := q_bd (f_186 6 S) (fun r_3 S_4 => some (r_3, S_4))
theorem sb_271_22  (S : QS) : q_Sim 271 22 [(0, .inr (.inr (11, 0, 0)))] [] (q_V S) q_I (b_271_22  S) := by
  unfold b_271_22
  refine q_Sim.steps vc_271 2 (pc' := 25) (lv' := [(0, .inr (.inr (11, 0, 0)))]) (st' := [.inl 6, .inr (.inr (11, 0, 0))]) (V' := q_V S) rfl ?_
  refine q_Sim.call vc_271 (as := [.inr (.inr (11, 0, 0)), .inl 6]) (pc' := 28) (lv' := [(0, .inr (.inr (11, 0, 0)))]) (st' := []) (S := S) rfl (rc_186 6) (s_186 6 S) (fun r_3 S_4 => ?_)
  exact q_Sim.ret vc_271 rfl
def b_271_236 (back_184 : Int32 → Int32 → Int32 → QS → Option ((Int32) × QS)) (back_193 : Int32 → Int32 → Int32 → Int32 → QS → Option ((Int32) × QS)) (x3 : Int32) (x5 : Int32) (x6 : Int32) (x7 : Int32) (S : QS) : Option ((Int32) × QS) := back_193 x3 x5 x6 (x7 + 1) S
theorem sb_271_236 (back_184 : Int32 → Int32 → Int32 → QS → Option ((Int32) × QS)) (hb_184 : ∀ (x3 : Int32) (x5 : Int32) (x6 : Int32) (S : QS), q_Sim 271 184 [(0, .inr (.inr (11, 0, 0))), (3, .inl x3), (5, .inl x5), (6, .inl x6)] [] (q_V S) q_I (back_184 x3 x5 x6 S)) (back_193 : Int32 → Int32 → Int32 → Int32 → QS → Option ((Int32) × QS)) (hb_193 : ∀ (x3 : Int32) (x5 : Int32) (x6 : Int32) (x7 : Int32) (S : QS), q_Sim 271 193 [(0, .inr (.inr (11, 0, 0))), (3, .inl x3), (5, .inl x5), (6, .inl x6), (7, .inl x7)] [] (q_V S) q_I (back_193 x3 x5 x6 x7 S)) (x3 : Int32) (x5 : Int32) (x6 : Int32) (x7 : Int32) (S : QS) : q_Sim 271 236 [(0, .inr (.inr (11, 0, 0))), (3, .inl x3), (5, .inl x5), (6, .inl x6), (7, .inl x7)] [] (q_V S) q_I (b_271_236 back_184 back_193 x3 x5 x6 x7 S) := by
  unfold b_271_236
  refine q_Sim.steps vc_271 2 (pc' := 193) (lv' := [(7, .inl (x7 + 1)), (0, .inr (.inr (11, 0, 0))), (3, .inl x3), (5, .inl x5), (6, .inl x6)]) (st' := []) (V' := q_V S) rfl ?_
  exact q_Sim.sub2 (lv' := [(0, .inr (.inr (11, 0, 0))), (3, .inl x3), (5, .inl x5), (6, .inl x6), (7, .inl (x7 + 1))]) [0, 3, 5, 6, 7] rfl (by decide) ⟨rfl, rfl, rfl, rfl, rfl, trivial⟩ (hb_193 x3 x5 x6 (x7 + 1) S)
def b_271_193 (back_184 : Int32 → Int32 → Int32 → QS → Option ((Int32) × QS)) : Nat → Int32 → Int32 → Int32 → Int32 → QS → Option ((Int32) × QS)
  | 0, _, _, _, _, _ => none
  | n + 1, x3, x5, x6, x7, S => if ((x5 >>> (x7 &&& 31)) &&& 1) = 1 then (b_271_236 back_184 (b_271_193 back_184 n) x3 x5 x6 x7 S) else (q_bd (f_269 x5 x7 S) (fun r_14 S_15 => q_ck (v_in (x5 ||| (1 <<< (x7 &&& 31))) 256) (q_let (S_15.2.1 (51, 0, 0) (x5 ||| (1 <<< (x7 &&& 31))).toNatClampNeg) (fun y_16 => q_ck (v_in x5 256) (q_let (S_15.2.1 (51, 0, 0) x5.toNatClampNeg) (fun y_17 => if (lg_cmp (r_14 + y_16) y_17) = 0 then (q_ck (v_in x7 40) (q_let (S_15.1 (49, 0, 0) x7.toNatClampNeg) (fun y_18 => q_ck (v_in x6 8) (q_let (q_set S_15 (45, 0, 0) x6.toNatClampNeg y_18) (fun S_19 => q_let (x5 ||| (1 <<< (x7 &&& 31))) (fun y_20 => back_184 x3 y_20 (x6 + 1) S_19)))))) else (b_271_236 back_184 (b_271_193 back_184 n) x3 x5 x6 x7 S_15)))))))
theorem sb_271_193 (back_184 : Int32 → Int32 → Int32 → QS → Option ((Int32) × QS)) (hb_184 : ∀ (x3 : Int32) (x5 : Int32) (x6 : Int32) (S : QS), q_Sim 271 184 [(0, .inr (.inr (11, 0, 0))), (3, .inl x3), (5, .inl x5), (6, .inl x6)] [] (q_V S) q_I (back_184 x3 x5 x6 S)) : ∀ (n : Nat) (x3 : Int32) (x5 : Int32) (x6 : Int32) (x7 : Int32) (S : QS), q_Sim 271 193 [(0, .inr (.inr (11, 0, 0))), (3, .inl x3), (5, .inl x5), (6, .inl x6), (7, .inl x7)] [] (q_V S) q_I (b_271_193 back_184 n x3 x5 x6 x7 S)
  | 0, _, _, _, _, _ => q_Sim.none
  | n + 1, x3, x5, x6, x7, S => by
    rw [b_271_193]
    refine q_Sim.steps vc_271 6 (pc' := 201) (lv' := [(0, .inr (.inr (11, 0, 0))), (3, .inl x3), (5, .inl x5), (6, .inl x6), (7, .inl x7)]) (st' := [.inl 1, .inl ((x5 >>> (x7 &&& 31)) &&& 1)]) (V' := q_V S) rfl ?_
    refine q_Sim.br vc_271 (c := ((x5 >>> (x7 &&& 31)) &&& 1) = 1) (t := 236) (f := 204) (lv' := [(0, .inr (.inr (11, 0, 0))), (3, .inl x3), (5, .inl x5), (6, .inl x6), (7, .inl x7)]) (st' := []) (V' := q_V S) rfl ?_ ?_
    · exact q_Sim.sub2 (lv' := [(0, .inr (.inr (11, 0, 0))), (3, .inl x3), (5, .inl x5), (6, .inl x6), (7, .inl x7)]) [0, 3, 5, 6, 7] rfl (by decide) ⟨rfl, rfl, rfl, rfl, rfl, trivial⟩ (sb_271_236 back_184 hb_184 (b_271_193 back_184 n) (sb_271_193 back_184 hb_184 n) x3 x5 x6 x7 S)
    · refine q_Sim.steps vc_271 3 (pc' := 209) (lv' := [(0, .inr (.inr (11, 0, 0))), (3, .inl x3), (5, .inl x5), (6, .inl x6), (7, .inl x7)]) (st' := [.inl x7, .inl x5, .inr (.inr (11, 0, 0))]) (V' := q_V S) rfl ?_
      refine q_Sim.call vc_271 (as := [.inr (.inr (11, 0, 0)), .inl x5, .inl x7]) (pc' := 212) (lv' := [(0, .inr (.inr (11, 0, 0))), (3, .inl x3), (5, .inl x5), (6, .inl x6), (7, .inl x7)]) (st' := []) (S := S) rfl (rc_269 x5 x7) (s_269 x5 x7 S) (fun r_14 S_15 => ?_)
      refine q_Sim.steps vc_271 7 (pc' := 223) (lv' := [(0, .inr (.inr (11, 0, 0))), (3, .inl x3), (5, .inl x5), (6, .inl x6), (7, .inl x7)]) (st' := [.inl (x5 ||| (1 <<< (x7 &&& 31))), .inr (.inr (51, 0, 0)), .inr (.inl r_14)]) (V' := q_V S_15) rfl ?_
      refine q_Sim.ck vc_271 (c := v_in (x5 ||| (1 <<< (x7 &&& 31))) 256) (pc' := 224) (lv' := [(0, .inr (.inr (11, 0, 0))), (3, .inl x3), (5, .inl x5), (6, .inl x6), (7, .inl x7)]) (st' := [.inr (.inl (S_15.2.1 (51, 0, 0) (x5 ||| (1 <<< (x7 &&& 31))).toNatClampNeg)), .inr (.inl r_14)]) (V' := q_V S_15) rfl ?_
      refine q_Sim.letJ (fun y_16 => ?_)
      refine q_Sim.steps vc_271 4 (pc' := 231) (lv' := [(0, .inr (.inr (11, 0, 0))), (3, .inl x3), (5, .inl x5), (6, .inl x6), (7, .inl x7)]) (st' := [.inl x5, .inr (.inr (51, 0, 0)), .inr (.inl (r_14 + y_16))]) (V' := q_V S_15) rfl ?_
      refine q_Sim.ck vc_271 (c := v_in x5 256) (pc' := 232) (lv' := [(0, .inr (.inr (11, 0, 0))), (3, .inl x3), (5, .inl x5), (6, .inl x6), (7, .inl x7)]) (st' := [.inr (.inl (S_15.2.1 (51, 0, 0) x5.toNatClampNeg)), .inr (.inl (r_14 + y_16))]) (V' := q_V S_15) rfl ?_
      refine q_Sim.letJ (fun y_17 => ?_)
      refine q_Sim.steps vc_271 1 (pc' := 233) (lv' := [(0, .inr (.inr (11, 0, 0))), (3, .inl x3), (5, .inl x5), (6, .inl x6), (7, .inl x7)]) (st' := [.inl (lg_cmp (r_14 + y_16) y_17)]) (V' := q_V S_15) rfl ?_
      refine q_Sim.br vc_271 (c := (lg_cmp (r_14 + y_16) y_17) = 0) (t := 242) (f := 236) (lv' := [(0, .inr (.inr (11, 0, 0))), (3, .inl x3), (5, .inl x5), (6, .inl x6), (7, .inl x7)]) (st' := []) (V' := q_V S_15) rfl ?_ ?_
      · refine q_Sim.steps vc_271 6 (pc' := 254) (lv' := [(0, .inr (.inr (11, 0, 0))), (3, .inl x3), (5, .inl x5), (6, .inl x6), (7, .inl x7)]) (st' := [.inl x7, .inr (.inr (49, 0, 0)), .inl x6, .inr (.inr (45, 0, 0))]) (V' := q_V S_15) rfl ?_
        refine q_Sim.ck vc_271 (c := v_in x7 40) (pc' := 255) (lv' := [(0, .inr (.inr (11, 0, 0))), (3, .inl x3), (5, .inl x5), (6, .inl x6), (7, .inl x7)]) (st' := [.inl (S_15.1 (49, 0, 0) x7.toNatClampNeg), .inl x6, .inr (.inr (45, 0, 0))]) (V' := q_V S_15) rfl ?_
        refine q_Sim.letI (fun y_18 => ?_)
        refine q_Sim.ck vc_271 (c := v_in x6 8) (pc' := 256) (lv' := [(0, .inr (.inr (11, 0, 0))), (3, .inl x3), (5, .inl x5), (6, .inl x6), (7, .inl x7)]) (st' := []) (V' := q_V (q_set S_15 (45, 0, 0) x6.toNatClampNeg y_18)) rfl ?_
        refine q_Sim.letS (fun S_19 => ?_)
        refine q_Sim.steps vc_271 5 (pc' := 263) (lv' := [(0, .inr (.inr (11, 0, 0))), (3, .inl x3), (5, .inl x5), (6, .inl x6), (7, .inl x7)]) (st' := [.inl (x5 ||| (1 <<< (x7 &&& 31)))]) (V' := q_V S_19) rfl ?_
        refine q_Sim.letI (fun y_20 => ?_)
        refine q_Sim.steps vc_271 3 (pc' := 184) (lv' := [(6, .inl (x6 + 1)), (5, .inl y_20), (0, .inr (.inr (11, 0, 0))), (3, .inl x3), (7, .inl x7)]) (st' := []) (V' := q_V S_19) rfl ?_
        exact q_Sim.sub2 (lv' := [(0, .inr (.inr (11, 0, 0))), (3, .inl x3), (5, .inl y_20), (6, .inl (x6 + 1))]) [0, 3, 5, 6] rfl (by decide) ⟨rfl, rfl, rfl, rfl, trivial⟩ (hb_184 x3 y_20 (x6 + 1) S_19)
      · exact q_Sim.sub2 (lv' := [(0, .inr (.inr (11, 0, 0))), (3, .inl x3), (5, .inl x5), (6, .inl x6), (7, .inl x7)]) [0, 3, 5, 6, 7] rfl (by decide) ⟨rfl, rfl, rfl, rfl, rfl, trivial⟩ (sb_271_236 back_184 hb_184 (b_271_193 back_184 n) (sb_271_193 back_184 hb_184 n) x3 x5 x6 x7 S_15)
def b_271_184 : Nat → Int32 → Int32 → Int32 → QS → Option ((Int32) × QS)
  | 0, _, _, _, _ => none
  | n + 1, x3, x5, x6, S => if x3 ≤ x6 then (q_let (q_set S (11, 0, 0) 12 x3) (fun S_10 => q_ck (v_in 0 256) (q_let (S_10.2.1 (51, 0, 0) (0 : Int32).toNatClampNeg) (fun y_11 => q_bd (f_187 y_11.toInt32 S_10) (fun r_12 S_13 => some (r_12, S_13)))))) else (b_271_193 (b_271_184 n) q_N x3 x5 x6 0 S)
theorem sb_271_184 : ∀ (n : Nat) (x3 : Int32) (x5 : Int32) (x6 : Int32) (S : QS), q_Sim 271 184 [(0, .inr (.inr (11, 0, 0))), (3, .inl x3), (5, .inl x5), (6, .inl x6)] [] (q_V S) q_I (b_271_184 n x3 x5 x6 S)
  | 0, _, _, _, _ => q_Sim.none
  | n + 1, x3, x5, x6, S => by
    rw [b_271_184]
    refine q_Sim.steps vc_271 2 (pc' := 187) (lv' := [(0, .inr (.inr (11, 0, 0))), (3, .inl x3), (5, .inl x5), (6, .inl x6)]) (st' := [.inl x3, .inl x6]) (V' := q_V S) rfl ?_
    refine q_Sim.br vc_271 (c := x3 ≤ x6) (t := 271) (f := 190) (lv' := [(0, .inr (.inr (11, 0, 0))), (3, .inl x3), (5, .inl x5), (6, .inl x6)]) (st' := []) (V' := q_V S) rfl ?_ ?_
    · refine q_Sim.steps vc_271 2 (pc' := 273) (lv' := [(0, .inr (.inr (11, 0, 0))), (3, .inl x3), (5, .inl x5), (6, .inl x6)]) (st' := [.inl x3, .inr (.inr (11, 0, 0))]) (V' := q_V S) rfl ?_
      refine q_Sim.steps vc_271 1 (pc' := 276) (lv' := [(0, .inr (.inr (11, 0, 0))), (3, .inl x3), (5, .inl x5), (6, .inl x6)]) (st' := []) (V' := q_V (q_set S (11, 0, 0) 12 x3)) rfl ?_
      refine q_Sim.letS (fun S_10 => ?_)
      refine q_Sim.steps vc_271 4 (pc' := 282) (lv' := [(0, .inr (.inr (11, 0, 0))), (3, .inl x3), (5, .inl x5), (6, .inl x6)]) (st' := [.inl 0, .inr (.inr (51, 0, 0)), .inr (.inr (11, 0, 0))]) (V' := q_V S_10) rfl ?_
      refine q_Sim.ck vc_271 (c := v_in 0 256) (pc' := 283) (lv' := [(0, .inr (.inr (11, 0, 0))), (3, .inl x3), (5, .inl x5), (6, .inl x6)]) (st' := [.inr (.inl (S_10.2.1 (51, 0, 0) (0 : Int32).toNatClampNeg)), .inr (.inr (11, 0, 0))]) (V' := q_V S_10) rfl ?_
      refine q_Sim.letJ (fun y_11 => ?_)
      refine q_Sim.steps vc_271 1 (pc' := 284) (lv' := [(0, .inr (.inr (11, 0, 0))), (3, .inl x3), (5, .inl x5), (6, .inl x6)]) (st' := [.inl y_11.toInt32, .inr (.inr (11, 0, 0))]) (V' := q_V S_10) rfl ?_
      refine q_Sim.call vc_271 (as := [.inr (.inr (11, 0, 0)), .inl y_11.toInt32]) (pc' := 287) (lv' := [(0, .inr (.inr (11, 0, 0))), (3, .inl x3), (5, .inl x5), (6, .inl x6)]) (st' := []) (S := S_10) rfl (rc_187 y_11.toInt32) (s_187 y_11.toInt32 S_10) (fun r_12 S_13 => ?_)
      exact q_Sim.ret vc_271 rfl
    · refine q_Sim.steps vc_271 2 (pc' := 193) (lv' := [(7, .inl 0), (0, .inr (.inr (11, 0, 0))), (3, .inl x3), (5, .inl x5), (6, .inl x6)]) (st' := []) (V' := q_V S) rfl ?_
      exact q_Sim.sub2 (lv' := [(0, .inr (.inr (11, 0, 0))), (3, .inl x3), (5, .inl x5), (6, .inl x6), (7, .inl 0)]) [0, 3, 5, 6, 7] rfl (by decide) ⟨rfl, rfl, rfl, rfl, rfl, trivial⟩ (sb_271_193 (b_271_184 n) (sb_271_184 n) q_N x3 x5 x6 0 S)
def b_271_141 : Nat → Int32 → Int32 → Int32 → Int32 → QS → Option ((Int32) × QS)
  | 0, _, _, _, _, _ => none
  | n + 1, x1, x2, x3, x5, S => if x3 ≤ x5 then (q_bd (f_270 x3 S) (fun r_8 S_9 => b_271_184 q_N x3 0 0 S_9)) else (q_ck (v_in x5 40) (q_let (S.1 (49, 0, 0) x5.toNatClampNeg) (fun y_21 => q_bd (f_268 y_21 x1 x2 S) (fun r_22 S_23 => q_ck (v_in x5 8) (q_let (q_setL S_23 (50, 0, 0) x5.toNatClampNeg r_22) (fun S_24 => b_271_141 n x1 x2 x3 (x5 + 1) S_24))))))
theorem sb_271_141 : ∀ (n : Nat) (x1 : Int32) (x2 : Int32) (x3 : Int32) (x5 : Int32) (S : QS), q_Sim 271 141 [(0, .inr (.inr (11, 0, 0))), (1, .inl x1), (2, .inl x2), (3, .inl x3), (5, .inl x5)] [] (q_V S) q_I (b_271_141 n x1 x2 x3 x5 S)
  | 0, _, _, _, _, _ => q_Sim.none
  | n + 1, x1, x2, x3, x5, S => by
    rw [b_271_141]
    refine q_Sim.steps vc_271 2 (pc' := 144) (lv' := [(0, .inr (.inr (11, 0, 0))), (1, .inl x1), (2, .inl x2), (3, .inl x3), (5, .inl x5)]) (st' := [.inl x3, .inl x5]) (V' := q_V S) rfl ?_
    refine q_Sim.br vc_271 (c := x3 ≤ x5) (t := 173) (f := 147) (lv' := [(0, .inr (.inr (11, 0, 0))), (1, .inl x1), (2, .inl x2), (3, .inl x3), (5, .inl x5)]) (st' := []) (V' := q_V S) rfl ?_ ?_
    · refine q_Sim.steps vc_271 2 (pc' := 175) (lv' := [(0, .inr (.inr (11, 0, 0))), (1, .inl x1), (2, .inl x2), (3, .inl x3), (5, .inl x5)]) (st' := [.inl x3, .inr (.inr (11, 0, 0))]) (V' := q_V S) rfl ?_
      refine q_Sim.call vc_271 (as := [.inr (.inr (11, 0, 0)), .inl x3]) (pc' := 178) (lv' := [(0, .inr (.inr (11, 0, 0))), (1, .inl x1), (2, .inl x2), (3, .inl x3), (5, .inl x5)]) (st' := []) (S := S) rfl (rc_270 x3) (s_270 x3 S) (fun r_8 S_9 => ?_)
      refine q_Sim.steps vc_271 4 (pc' := 184) (lv' := [(6, .inl 0), (5, .inl 0), (0, .inr (.inr (11, 0, 0))), (1, .inl x1), (2, .inl x2), (3, .inl x3)]) (st' := []) (V' := q_V S_9) rfl ?_
      exact q_Sim.sub2 (lv' := [(0, .inr (.inr (11, 0, 0))), (3, .inl x3), (5, .inl 0), (6, .inl 0)]) [0, 3, 5, 6] rfl (by decide) ⟨rfl, rfl, rfl, rfl, trivial⟩ (sb_271_184 q_N x3 0 0 S_9)
    · refine q_Sim.steps vc_271 7 (pc' := 160) (lv' := [(0, .inr (.inr (11, 0, 0))), (1, .inl x1), (2, .inl x2), (3, .inl x3), (5, .inl x5)]) (st' := [.inl x5, .inr (.inr (49, 0, 0)), .inr (.inr (11, 0, 0)), .inl x5, .inr (.inr (50, 0, 0))]) (V' := q_V S) rfl ?_
      refine q_Sim.ck vc_271 (c := v_in x5 40) (pc' := 161) (lv' := [(0, .inr (.inr (11, 0, 0))), (1, .inl x1), (2, .inl x2), (3, .inl x3), (5, .inl x5)]) (st' := [.inl (S.1 (49, 0, 0) x5.toNatClampNeg), .inr (.inr (11, 0, 0)), .inl x5, .inr (.inr (50, 0, 0))]) (V' := q_V S) rfl ?_
      refine q_Sim.letI (fun y_21 => ?_)
      refine q_Sim.steps vc_271 2 (pc' := 163) (lv' := [(0, .inr (.inr (11, 0, 0))), (1, .inl x1), (2, .inl x2), (3, .inl x3), (5, .inl x5)]) (st' := [.inl x2, .inl x1, .inl y_21, .inr (.inr (11, 0, 0)), .inl x5, .inr (.inr (50, 0, 0))]) (V' := q_V S) rfl ?_
      refine q_Sim.call vc_271 (as := [.inr (.inr (11, 0, 0)), .inl y_21, .inl x1, .inl x2]) (pc' := 166) (lv' := [(0, .inr (.inr (11, 0, 0))), (1, .inl x1), (2, .inl x2), (3, .inl x3), (5, .inl x5)]) (st' := [.inl x5, .inr (.inr (50, 0, 0))]) (S := S) rfl (rc_268 y_21 x1 x2) (s_268 y_21 x1 x2 S) (fun r_22 S_23 => ?_)
      refine q_Sim.ck vc_271 (c := v_in x5 8) (pc' := 167) (lv' := [(0, .inr (.inr (11, 0, 0))), (1, .inl x1), (2, .inl x2), (3, .inl x3), (5, .inl x5)]) (st' := []) (V' := q_V (q_setL S_23 (50, 0, 0) x5.toNatClampNeg r_22)) rfl ?_
      refine q_Sim.letS (fun S_24 => ?_)
      refine q_Sim.steps vc_271 2 (pc' := 141) (lv' := [(5, .inl (x5 + 1)), (0, .inr (.inr (11, 0, 0))), (1, .inl x1), (2, .inl x2), (3, .inl x3)]) (st' := []) (V' := q_V S_24) rfl ?_
      exact q_Sim.sub2 (lv' := [(0, .inr (.inr (11, 0, 0))), (1, .inl x1), (2, .inl x2), (3, .inl x3), (5, .inl (x5 + 1))]) [0, 1, 2, 3, 5] rfl (by decide) ⟨rfl, rfl, rfl, rfl, rfl, trivial⟩ (sb_271_141 n x1 x2 x3 (x5 + 1) S_24)
def b_271_138 (x1 : Int32) (x2 : Int32) (x3 : Int32) (S : QS) : Option ((Int32) × QS) := b_271_141 q_N x1 x2 x3 0 S
theorem sb_271_138 (x1 : Int32) (x2 : Int32) (x3 : Int32) (S : QS) : q_Sim 271 138 [(0, .inr (.inr (11, 0, 0))), (1, .inl x1), (2, .inl x2), (3, .inl x3)] [] (q_V S) q_I (b_271_138 x1 x2 x3 S) := by
  unfold b_271_138
  refine q_Sim.steps vc_271 2 (pc' := 141) (lv' := [(5, .inl 0), (0, .inr (.inr (11, 0, 0))), (1, .inl x1), (2, .inl x2), (3, .inl x3)]) (st' := []) (V' := q_V S) rfl ?_
  exact q_Sim.sub2 (lv' := [(0, .inr (.inr (11, 0, 0))), (1, .inl x1), (2, .inl x2), (3, .inl x3), (5, .inl 0)]) [0, 1, 2, 3, 5] rfl (by decide) ⟨rfl, rfl, rfl, rfl, rfl, trivial⟩ (sb_271_141 q_N x1 x2 x3 0 S)
def b_271_104 (back_45 : Int32 → Int32 → Int32 → Int32 → Int32 → QS → Option ((Int32) × QS)) (x1 : Int32) (x2 : Int32) (x3 : Int32) (x4 : Int32) (x5 : Int32) (S : QS) : Option ((Int32) × QS) := back_45 x1 x2 x3 x4 (x5 + 1) S
theorem sb_271_104 (back_45 : Int32 → Int32 → Int32 → Int32 → Int32 → QS → Option ((Int32) × QS)) (hb_45 : ∀ (x1 : Int32) (x2 : Int32) (x3 : Int32) (x4 : Int32) (x5 : Int32) (S : QS), q_Sim 271 45 [(0, .inr (.inr (11, 0, 0))), (1, .inl x1), (2, .inl x2), (3, .inl x3), (4, .inl x4), (5, .inl x5)] [] (q_V S) q_I (back_45 x1 x2 x3 x4 x5 S)) (x1 : Int32) (x2 : Int32) (x3 : Int32) (x4 : Int32) (x5 : Int32) (S : QS) : q_Sim 271 104 [(0, .inr (.inr (11, 0, 0))), (1, .inl x1), (2, .inl x2), (3, .inl x3), (4, .inl x4), (5, .inl x5)] [] (q_V S) q_I (b_271_104 back_45 x1 x2 x3 x4 x5 S) := by
  unfold b_271_104
  refine q_Sim.steps vc_271 2 (pc' := 45) (lv' := [(5, .inl (x5 + 1)), (0, .inr (.inr (11, 0, 0))), (1, .inl x1), (2, .inl x2), (3, .inl x3), (4, .inl x4)]) (st' := []) (V' := q_V S) rfl ?_
  exact q_Sim.sub2 (lv' := [(0, .inr (.inr (11, 0, 0))), (1, .inl x1), (2, .inl x2), (3, .inl x3), (4, .inl x4), (5, .inl (x5 + 1))]) [0, 1, 2, 3, 4, 5] rfl (by decide) ⟨rfl, rfl, rfl, rfl, rfl, rfl, trivial⟩ (hb_45 x1 x2 x3 x4 (x5 + 1) S)
def b_271_99 (back_45 : Int32 → Int32 → Int32 → Int32 → Int32 → QS → Option ((Int32) × QS)) (x1 : Int32) (x2 : Int32) (x3 : Int32) (x5 : Int32) (xs0 : Int32) (S : QS) : Option ((Int32) × QS) := b_271_104 back_45 x1 x2 (x3 + 1) xs0 x5 S
theorem sb_271_99 (back_45 : Int32 → Int32 → Int32 → Int32 → Int32 → QS → Option ((Int32) × QS)) (hb_45 : ∀ (x1 : Int32) (x2 : Int32) (x3 : Int32) (x4 : Int32) (x5 : Int32) (S : QS), q_Sim 271 45 [(0, .inr (.inr (11, 0, 0))), (1, .inl x1), (2, .inl x2), (3, .inl x3), (4, .inl x4), (5, .inl x5)] [] (q_V S) q_I (back_45 x1 x2 x3 x4 x5 S)) (x1 : Int32) (x2 : Int32) (x3 : Int32) (x5 : Int32) (xs0 : Int32) (S : QS) : q_Sim 271 99 [(0, .inr (.inr (11, 0, 0))), (1, .inl x1), (2, .inl x2), (3, .inl x3), (5, .inl x5)] [.inl xs0] (q_V S) q_I (b_271_99 back_45 x1 x2 x3 x5 xs0 S) := by
  unfold b_271_99
  refine q_Sim.steps vc_271 2 (pc' := 104) (lv' := [(3, .inl (x3 + 1)), (4, .inl xs0), (0, .inr (.inr (11, 0, 0))), (1, .inl x1), (2, .inl x2), (5, .inl x5)]) (st' := []) (V' := q_V S) rfl ?_
  exact q_Sim.sub2 (lv' := [(0, .inr (.inr (11, 0, 0))), (1, .inl x1), (2, .inl x2), (3, .inl (x3 + 1)), (4, .inl xs0), (5, .inl x5)]) [0, 1, 2, 3, 4, 5] rfl (by decide) ⟨rfl, rfl, rfl, rfl, rfl, rfl, trivial⟩ (sb_271_104 back_45 hb_45 x1 x2 (x3 + 1) xs0 x5 S)
def b_271_94 (back_45 : Int32 → Int32 → Int32 → Int32 → Int32 → QS → Option ((Int32) × QS)) (x1 : Int32) (x2 : Int32) (x3 : Int32) (x5 : Int32) (S : QS) : Option ((Int32) × QS) := b_271_99 back_45 x1 x2 x3 x5 1 S
theorem sb_271_94 (back_45 : Int32 → Int32 → Int32 → Int32 → Int32 → QS → Option ((Int32) × QS)) (hb_45 : ∀ (x1 : Int32) (x2 : Int32) (x3 : Int32) (x4 : Int32) (x5 : Int32) (S : QS), q_Sim 271 45 [(0, .inr (.inr (11, 0, 0))), (1, .inl x1), (2, .inl x2), (3, .inl x3), (4, .inl x4), (5, .inl x5)] [] (q_V S) q_I (back_45 x1 x2 x3 x4 x5 S)) (x1 : Int32) (x2 : Int32) (x3 : Int32) (x5 : Int32) (S : QS) : q_Sim 271 94 [(0, .inr (.inr (11, 0, 0))), (1, .inl x1), (2, .inl x2), (3, .inl x3), (5, .inl x5)] [] (q_V S) q_I (b_271_94 back_45 x1 x2 x3 x5 S) := by
  unfold b_271_94
  refine q_Sim.steps vc_271 2 (pc' := 99) (lv' := [(0, .inr (.inr (11, 0, 0))), (1, .inl x1), (2, .inl x2), (3, .inl x3), (5, .inl x5)]) (st' := [.inl 1]) (V' := q_V S) rfl ?_
  exact q_Sim.sub2 (lv' := [(0, .inr (.inr (11, 0, 0))), (1, .inl x1), (2, .inl x2), (3, .inl x3), (5, .inl x5)]) [0, 1, 2, 3, 5] rfl (by decide) ⟨rfl, rfl, rfl, rfl, rfl, trivial⟩ (sb_271_99 back_45 hb_45 x1 x2 x3 x5 1 S)
def b_271_45 : Nat → Int32 → Int32 → Int32 → Int32 → Int32 → QS → Option ((Int32) × QS)
  | 0, _, _, _, _, _, _ => none
  | n + 1, x1, x2, x3, x4, x5, S => q_ck (v_in 0 19520) (q_let (S.1 (40, 0, 0) (0 : Int32).toNatClampNeg) (fun y_7 => if y_7 ≤ x5 then (if x3 ≤ 8 then (if x3 ≤ 0 then (b_271_138 x1 x2 x3 S) else (if x4 = 0 then (b_271_138 x1 x2 x3 S) else (q_bd (f_186 4 S) (fun r_25 S_26 => some (r_25, S_26))))) else (q_bd (f_186 8 S) (fun r_27 S_28 => some (r_27, S_28)))) else (q_bd (f_190 x5 7 S) (fun r_29 S_30 => if ¬ r_29 = 0 then (q_ck (v_in x3 40) (q_let (q_set S_30 (49, 0, 0) x3.toNatClampNeg x5) (fun S_31 => if ¬ x4 = 0 then (b_271_94 (b_271_45 n) x1 x2 x3 x5 S_31) else (q_bd (f_190 x5 6 S_31) (fun r_32 S_33 => if ¬ r_32 = 0 then (b_271_99 (b_271_45 n) x1 x2 x3 x5 0 S_33) else (b_271_94 (b_271_45 n) x1 x2 x3 x5 S_33)))))) else (b_271_104 (b_271_45 n) x1 x2 x3 x4 x5 S_30)))))
theorem sb_271_45 : ∀ (n : Nat) (x1 : Int32) (x2 : Int32) (x3 : Int32) (x4 : Int32) (x5 : Int32) (S : QS), q_Sim 271 45 [(0, .inr (.inr (11, 0, 0))), (1, .inl x1), (2, .inl x2), (3, .inl x3), (4, .inl x4), (5, .inl x5)] [] (q_V S) q_I (b_271_45 n x1 x2 x3 x4 x5 S)
  | 0, _, _, _, _, _, _ => q_Sim.none
  | n + 1, x1, x2, x3, x4, x5, S => by
    rw [b_271_45]
    refine q_Sim.steps vc_271 4 (pc' := 52) (lv' := [(0, .inr (.inr (11, 0, 0))), (1, .inl x1), (2, .inl x2), (3, .inl x3), (4, .inl x4), (5, .inl x5)]) (st' := [.inl 0, .inr (.inr (40, 0, 0)), .inl x5]) (V' := q_V S) rfl ?_
    refine q_Sim.ck vc_271 (c := v_in 0 19520) (pc' := 53) (lv' := [(0, .inr (.inr (11, 0, 0))), (1, .inl x1), (2, .inl x2), (3, .inl x3), (4, .inl x4), (5, .inl x5)]) (st' := [.inl (S.1 (40, 0, 0) (0 : Int32).toNatClampNeg), .inl x5]) (V' := q_V S) rfl ?_
    refine q_Sim.letI (fun y_7 => ?_)
    refine q_Sim.br vc_271 (c := y_7 ≤ x5) (t := 110) (f := 56) (lv' := [(0, .inr (.inr (11, 0, 0))), (1, .inl x1), (2, .inl x2), (3, .inl x3), (4, .inl x4), (5, .inl x5)]) (st' := []) (V' := q_V S) rfl ?_ ?_
    · refine q_Sim.steps vc_271 2 (pc' := 113) (lv' := [(0, .inr (.inr (11, 0, 0))), (1, .inl x1), (2, .inl x2), (3, .inl x3), (4, .inl x4), (5, .inl x5)]) (st' := [.inl 8, .inl x3]) (V' := q_V S) rfl ?_
      refine q_Sim.br vc_271 (c := x3 ≤ 8) (t := 123) (f := 116) (lv' := [(0, .inr (.inr (11, 0, 0))), (1, .inl x1), (2, .inl x2), (3, .inl x3), (4, .inl x4), (5, .inl x5)]) (st' := []) (V' := q_V S) rfl ?_ ?_
      · refine q_Sim.steps vc_271 1 (pc' := 124) (lv' := [(0, .inr (.inr (11, 0, 0))), (1, .inl x1), (2, .inl x2), (3, .inl x3), (4, .inl x4), (5, .inl x5)]) (st' := [.inl x3]) (V' := q_V S) rfl ?_
        refine q_Sim.br vc_271 (c := x3 ≤ 0) (t := 138) (f := 127) (lv' := [(0, .inr (.inr (11, 0, 0))), (1, .inl x1), (2, .inl x2), (3, .inl x3), (4, .inl x4), (5, .inl x5)]) (st' := []) (V' := q_V S) rfl ?_ ?_
        · exact q_Sim.sub2 (lv' := [(0, .inr (.inr (11, 0, 0))), (1, .inl x1), (2, .inl x2), (3, .inl x3)]) [0, 1, 2, 3] rfl (by decide) ⟨rfl, rfl, rfl, rfl, trivial⟩ (sb_271_138 x1 x2 x3 S)
        · refine q_Sim.steps vc_271 1 (pc' := 129) (lv' := [(0, .inr (.inr (11, 0, 0))), (1, .inl x1), (2, .inl x2), (3, .inl x3), (4, .inl x4), (5, .inl x5)]) (st' := [.inl x4]) (V' := q_V S) rfl ?_
          refine q_Sim.br vc_271 (c := x4 = 0) (t := 138) (f := 132) (lv' := [(0, .inr (.inr (11, 0, 0))), (1, .inl x1), (2, .inl x2), (3, .inl x3), (4, .inl x4), (5, .inl x5)]) (st' := []) (V' := q_V S) rfl ?_ ?_
          · exact q_Sim.sub2 (lv' := [(0, .inr (.inr (11, 0, 0))), (1, .inl x1), (2, .inl x2), (3, .inl x3)]) [0, 1, 2, 3] rfl (by decide) ⟨rfl, rfl, rfl, rfl, trivial⟩ (sb_271_138 x1 x2 x3 S)
          · refine q_Sim.steps vc_271 2 (pc' := 134) (lv' := [(0, .inr (.inr (11, 0, 0))), (1, .inl x1), (2, .inl x2), (3, .inl x3), (4, .inl x4), (5, .inl x5)]) (st' := [.inl 4, .inr (.inr (11, 0, 0))]) (V' := q_V S) rfl ?_
            refine q_Sim.call vc_271 (as := [.inr (.inr (11, 0, 0)), .inl 4]) (pc' := 137) (lv' := [(0, .inr (.inr (11, 0, 0))), (1, .inl x1), (2, .inl x2), (3, .inl x3), (4, .inl x4), (5, .inl x5)]) (st' := []) (S := S) rfl (rc_186 4) (s_186 4 S) (fun r_25 S_26 => ?_)
            exact q_Sim.ret vc_271 rfl
      · refine q_Sim.steps vc_271 2 (pc' := 119) (lv' := [(0, .inr (.inr (11, 0, 0))), (1, .inl x1), (2, .inl x2), (3, .inl x3), (4, .inl x4), (5, .inl x5)]) (st' := [.inl 8, .inr (.inr (11, 0, 0))]) (V' := q_V S) rfl ?_
        refine q_Sim.call vc_271 (as := [.inr (.inr (11, 0, 0)), .inl 8]) (pc' := 122) (lv' := [(0, .inr (.inr (11, 0, 0))), (1, .inl x1), (2, .inl x2), (3, .inl x3), (4, .inl x4), (5, .inl x5)]) (st' := []) (S := S) rfl (rc_186 8) (s_186 8 S) (fun r_27 S_28 => ?_)
        exact q_Sim.ret vc_271 rfl
    · refine q_Sim.steps vc_271 3 (pc' := 61) (lv' := [(0, .inr (.inr (11, 0, 0))), (1, .inl x1), (2, .inl x2), (3, .inl x3), (4, .inl x4), (5, .inl x5)]) (st' := [.inl 7, .inl x5, .inr (.inr (11, 0, 0))]) (V' := q_V S) rfl ?_
      refine q_Sim.call vc_271 (as := [.inr (.inr (11, 0, 0)), .inl x5, .inl 7]) (pc' := 64) (lv' := [(0, .inr (.inr (11, 0, 0))), (1, .inl x1), (2, .inl x2), (3, .inl x3), (4, .inl x4), (5, .inl x5)]) (st' := []) (S := S) rfl (rc_190 x5 7) (s_190 x5 7 S) (fun r_29 S_30 => ?_)
      refine q_Sim.br vc_271 (c := ¬ r_29 = 0) (t := 70) (f := 67) (lv' := [(0, .inr (.inr (11, 0, 0))), (1, .inl x1), (2, .inl x2), (3, .inl x3), (4, .inl x4), (5, .inl x5)]) (st' := []) (V' := q_V S_30) rfl ?_ ?_
      · refine q_Sim.steps vc_271 4 (pc' := 77) (lv' := [(0, .inr (.inr (11, 0, 0))), (1, .inl x1), (2, .inl x2), (3, .inl x3), (4, .inl x4), (5, .inl x5)]) (st' := [.inl x5, .inl x3, .inr (.inr (49, 0, 0))]) (V' := q_V S_30) rfl ?_
        refine q_Sim.ck vc_271 (c := v_in x3 40) (pc' := 78) (lv' := [(0, .inr (.inr (11, 0, 0))), (1, .inl x1), (2, .inl x2), (3, .inl x3), (4, .inl x4), (5, .inl x5)]) (st' := []) (V' := q_V (q_set S_30 (49, 0, 0) x3.toNatClampNeg x5)) rfl ?_
        refine q_Sim.letS (fun S_31 => ?_)
        refine q_Sim.steps vc_271 1 (pc' := 80) (lv' := [(0, .inr (.inr (11, 0, 0))), (1, .inl x1), (2, .inl x2), (3, .inl x3), (4, .inl x4), (5, .inl x5)]) (st' := [.inl x4]) (V' := q_V S_31) rfl ?_
        refine q_Sim.br vc_271 (c := ¬ x4 = 0) (t := 94) (f := 83) (lv' := [(0, .inr (.inr (11, 0, 0))), (1, .inl x1), (2, .inl x2), (3, .inl x3), (4, .inl x4), (5, .inl x5)]) (st' := []) (V' := q_V S_31) rfl ?_ ?_
        · exact q_Sim.sub2 (lv' := [(0, .inr (.inr (11, 0, 0))), (1, .inl x1), (2, .inl x2), (3, .inl x3), (5, .inl x5)]) [0, 1, 2, 3, 5] rfl (by decide) ⟨rfl, rfl, rfl, rfl, rfl, trivial⟩ (sb_271_94 (b_271_45 n) (sb_271_45 n) x1 x2 x3 x5 S_31)
        · refine q_Sim.steps vc_271 3 (pc' := 88) (lv' := [(0, .inr (.inr (11, 0, 0))), (1, .inl x1), (2, .inl x2), (3, .inl x3), (4, .inl x4), (5, .inl x5)]) (st' := [.inl 6, .inl x5, .inr (.inr (11, 0, 0))]) (V' := q_V S_31) rfl ?_
          refine q_Sim.call vc_271 (as := [.inr (.inr (11, 0, 0)), .inl x5, .inl 6]) (pc' := 91) (lv' := [(0, .inr (.inr (11, 0, 0))), (1, .inl x1), (2, .inl x2), (3, .inl x3), (4, .inl x4), (5, .inl x5)]) (st' := []) (S := S_31) rfl (rc_190 x5 6) (s_190 x5 6 S_31) (fun r_32 S_33 => ?_)
          refine q_Sim.br vc_271 (c := ¬ r_32 = 0) (t := 98) (f := 94) (lv' := [(0, .inr (.inr (11, 0, 0))), (1, .inl x1), (2, .inl x2), (3, .inl x3), (4, .inl x4), (5, .inl x5)]) (st' := []) (V' := q_V S_33) rfl ?_ ?_
          · refine q_Sim.steps vc_271 1 (pc' := 99) (lv' := [(0, .inr (.inr (11, 0, 0))), (1, .inl x1), (2, .inl x2), (3, .inl x3), (4, .inl x4), (5, .inl x5)]) (st' := [.inl 0]) (V' := q_V S_33) rfl ?_
            exact q_Sim.sub2 (lv' := [(0, .inr (.inr (11, 0, 0))), (1, .inl x1), (2, .inl x2), (3, .inl x3), (5, .inl x5)]) [0, 1, 2, 3, 5] rfl (by decide) ⟨rfl, rfl, rfl, rfl, rfl, trivial⟩ (sb_271_99 (b_271_45 n) (sb_271_45 n) x1 x2 x3 x5 0 S_33)
          · exact q_Sim.sub2 (lv' := [(0, .inr (.inr (11, 0, 0))), (1, .inl x1), (2, .inl x2), (3, .inl x3), (5, .inl x5)]) [0, 1, 2, 3, 5] rfl (by decide) ⟨rfl, rfl, rfl, rfl, rfl, trivial⟩ (sb_271_94 (b_271_45 n) (sb_271_45 n) x1 x2 x3 x5 S_33)
      · refine q_Sim.steps vc_271 1 (pc' := 104) (lv' := [(0, .inr (.inr (11, 0, 0))), (1, .inl x1), (2, .inl x2), (3, .inl x3), (4, .inl x4), (5, .inl x5)]) (st' := []) (V' := q_V S_30) rfl ?_
        exact q_Sim.sub2 (lv' := [(0, .inr (.inr (11, 0, 0))), (1, .inl x1), (2, .inl x2), (3, .inl x3), (4, .inl x4), (5, .inl x5)]) [0, 1, 2, 3, 4, 5] rfl (by decide) ⟨rfl, rfl, rfl, rfl, rfl, rfl, trivial⟩ (sb_271_104 (b_271_45 n) (sb_271_45 n) x1 x2 x3 x4 x5 S_30)
def b_271_40 (x1 : Int32) (x2 : Int32) (x3 : Int32) (xs0 : Int32) (S : QS) : Option ((Int32) × QS) := b_271_45 q_N x1 x2 x3 xs0 0 S
theorem sb_271_40 (x1 : Int32) (x2 : Int32) (x3 : Int32) (xs0 : Int32) (S : QS) : q_Sim 271 40 [(0, .inr (.inr (11, 0, 0))), (1, .inl x1), (2, .inl x2), (3, .inl x3)] [.inl xs0] (q_V S) q_I (b_271_40 x1 x2 x3 xs0 S) := by
  unfold b_271_40
  refine q_Sim.steps vc_271 3 (pc' := 45) (lv' := [(5, .inl 0), (4, .inl xs0), (0, .inr (.inr (11, 0, 0))), (1, .inl x1), (2, .inl x2), (3, .inl x3)]) (st' := []) (V' := q_V S) rfl ?_
  exact q_Sim.sub2 (lv' := [(0, .inr (.inr (11, 0, 0))), (1, .inl x1), (2, .inl x2), (3, .inl x3), (4, .inl xs0), (5, .inl 0)]) [0, 1, 2, 3, 4, 5] rfl (by decide) ⟨rfl, rfl, rfl, rfl, rfl, rfl, trivial⟩ (sb_271_45 q_N x1 x2 x3 xs0 0 S)
def f_271 (x1 : Int32) (x2 : Int32) (S : QS) : Option ((Int32) × QS) := q_bd (f_189 x1 0 10000 S) (fun r_1 S_2 => if r_1 = 0 then (b_271_22  S_2) else (q_bd (f_189 x2 0 10000 S_2) (fun r_5 S_6 => if ¬ r_5 = 0 then (if ¬ x2 = 0 then (b_271_40 x1 x2 0 0 S_6) else (b_271_40 x1 x2 0 1 S_6)) else (b_271_22  S_6))))
theorem s_271 (x1 : Int32) (x2 : Int32) (S : QS) : q_Sim 271 0 [(0, .inr (.inr (11, 0, 0))), (1, .inl x1), (2, .inl x2)] [] (q_V S) q_I (f_271 x1 x2 S) := by
  unfold f_271
  refine q_Sim.steps vc_271 3 (pc' := 5) (lv' := [(0, .inr (.inr (11, 0, 0))), (1, .inl x1), (2, .inl x2)]) (st' := [.inl 10000, .inl 0, .inl x1]) (V' := q_V S) rfl ?_
  refine q_Sim.call vc_271 (as := [.inl x1, .inl 0, .inl 10000]) (pc' := 8) (lv' := [(0, .inr (.inr (11, 0, 0))), (1, .inl x1), (2, .inl x2)]) (st' := []) (S := S) rfl (rc_189 x1 0 10000) (s_189 x1 0 10000 S) (fun r_1 S_2 => ?_)
  refine q_Sim.br vc_271 (c := r_1 = 0) (t := 22) (f := 11) (lv' := [(0, .inr (.inr (11, 0, 0))), (1, .inl x1), (2, .inl x2)]) (st' := []) (V' := q_V S_2) rfl ?_ ?_
  · exact q_Sim.sub2 (lv' := [(0, .inr (.inr (11, 0, 0)))]) [0] rfl (by decide) ⟨rfl, trivial⟩ (sb_271_22  S_2)
  · refine q_Sim.steps vc_271 3 (pc' := 16) (lv' := [(0, .inr (.inr (11, 0, 0))), (1, .inl x1), (2, .inl x2)]) (st' := [.inl 10000, .inl 0, .inl x2]) (V' := q_V S_2) rfl ?_
    refine q_Sim.call vc_271 (as := [.inl x2, .inl 0, .inl 10000]) (pc' := 19) (lv' := [(0, .inr (.inr (11, 0, 0))), (1, .inl x1), (2, .inl x2)]) (st' := []) (S := S_2) rfl (rc_189 x2 0 10000) (s_189 x2 0 10000 S_2) (fun r_5 S_6 => ?_)
    refine q_Sim.br vc_271 (c := ¬ r_5 = 0) (t := 29) (f := 22) (lv' := [(0, .inr (.inr (11, 0, 0))), (1, .inl x1), (2, .inl x2)]) (st' := []) (V' := q_V S_6) rfl ?_ ?_
    · refine q_Sim.steps vc_271 3 (pc' := 32) (lv' := [(3, .inl 0), (0, .inr (.inr (11, 0, 0))), (1, .inl x1), (2, .inl x2)]) (st' := [.inl x2]) (V' := q_V S_6) rfl ?_
      refine q_Sim.br vc_271 (c := ¬ x2 = 0) (t := 39) (f := 35) (lv' := [(3, .inl 0), (0, .inr (.inr (11, 0, 0))), (1, .inl x1), (2, .inl x2)]) (st' := []) (V' := q_V S_6) rfl ?_ ?_
      · refine q_Sim.steps vc_271 1 (pc' := 40) (lv' := [(3, .inl 0), (0, .inr (.inr (11, 0, 0))), (1, .inl x1), (2, .inl x2)]) (st' := [.inl 0]) (V' := q_V S_6) rfl ?_
        exact q_Sim.sub2 (lv' := [(0, .inr (.inr (11, 0, 0))), (1, .inl x1), (2, .inl x2), (3, .inl 0)]) [0, 1, 2, 3] rfl (by decide) ⟨rfl, rfl, rfl, rfl, trivial⟩ (sb_271_40 x1 x2 0 0 S_6)
      · refine q_Sim.steps vc_271 2 (pc' := 40) (lv' := [(3, .inl 0), (0, .inr (.inr (11, 0, 0))), (1, .inl x1), (2, .inl x2)]) (st' := [.inl 1]) (V' := q_V S_6) rfl ?_
        exact q_Sim.sub2 (lv' := [(0, .inr (.inr (11, 0, 0))), (1, .inl x1), (2, .inl x2), (3, .inl 0)]) [0, 1, 2, 3] rfl (by decide) ⟨rfl, rfl, rfl, rfl, trivial⟩ (sb_271_40 x1 x2 0 1 S_6)
    · exact q_Sim.sub2 (lv' := [(0, .inr (.inr (11, 0, 0)))]) [0] rfl (by decide) ⟨rfl, trivial⟩ (sb_271_22  S_6)
theorem vc_272 : v_code 272 = k_272 := rfl
theorem rc_272 (x1 : Int32) : v_rcv 272 [.inr (.inr (11, 0, 0)), .inl x1] = true := rfl
def f_272 (x1 : Int32) (S : QS) : Option ((Int32) × QS) := if 0 ≤ (S.1 (11, 0, 0) 12) then (q_bd (f_189 x1 0 ((S.1 (11, 0, 0) 12) - 1) S) (fun r_1 S_2 => if r_1 = 0 then (q_bd (f_186 2 S_2) (fun r_3 S_4 => some (r_3, S_4))) else (q_ck (v_in x1 8) (q_let (S_2.1 (45, 0, 0) x1.toNatClampNeg) (fun y_5 => q_bd (f_187 y_5 S_2) (fun r_6 S_7 => some (r_6, S_7))))))) else (q_bd (f_186 1 S) (fun r_8 S_9 => some (r_8, S_9)))
theorem s_272 (x1 : Int32) (S : QS) : q_Sim 272 0 [(0, .inr (.inr (11, 0, 0))), (1, .inl x1)] [] (q_V S) q_I (f_272 x1 S) := by
  unfold f_272
  refine q_Sim.steps vc_272 2 (pc' := 4) (lv' := [(0, .inr (.inr (11, 0, 0))), (1, .inl x1)]) (st' := [.inl (S.1 (11, 0, 0) 12)]) (V' := q_V S) rfl ?_
  refine q_Sim.br vc_272 (c := 0 ≤ (S.1 (11, 0, 0) 12)) (t := 15) (f := 7) (lv' := [(0, .inr (.inr (11, 0, 0))), (1, .inl x1)]) (st' := []) (V' := q_V S) rfl ?_ ?_
  · refine q_Sim.steps vc_272 6 (pc' := 23) (lv' := [(0, .inr (.inr (11, 0, 0))), (1, .inl x1)]) (st' := [.inl ((S.1 (11, 0, 0) 12) - 1), .inl 0, .inl x1]) (V' := q_V S) rfl ?_
    refine q_Sim.call vc_272 (as := [.inl x1, .inl 0, .inl ((S.1 (11, 0, 0) 12) - 1)]) (pc' := 26) (lv' := [(0, .inr (.inr (11, 0, 0))), (1, .inl x1)]) (st' := []) (S := S) rfl (rc_189 x1 0 ((S.1 (11, 0, 0) 12) - 1)) (s_189 x1 0 ((S.1 (11, 0, 0) 12) - 1) S) (fun r_1 S_2 => ?_)
    refine q_Sim.br vc_272 (c := r_1 = 0) (t := 42) (f := 29) (lv' := [(0, .inr (.inr (11, 0, 0))), (1, .inl x1)]) (st' := []) (V' := q_V S_2) rfl ?_ ?_
    · refine q_Sim.steps vc_272 2 (pc' := 44) (lv' := [(0, .inr (.inr (11, 0, 0))), (1, .inl x1)]) (st' := [.inl 2, .inr (.inr (11, 0, 0))]) (V' := q_V S_2) rfl ?_
      refine q_Sim.call vc_272 (as := [.inr (.inr (11, 0, 0)), .inl 2]) (pc' := 47) (lv' := [(0, .inr (.inr (11, 0, 0))), (1, .inl x1)]) (st' := []) (S := S_2) rfl (rc_186 2) (s_186 2 S_2) (fun r_3 S_4 => ?_)
      exact q_Sim.ret vc_272 rfl
    · refine q_Sim.steps vc_272 4 (pc' := 35) (lv' := [(0, .inr (.inr (11, 0, 0))), (1, .inl x1)]) (st' := [.inl x1, .inr (.inr (45, 0, 0)), .inr (.inr (11, 0, 0))]) (V' := q_V S_2) rfl ?_
      refine q_Sim.ck vc_272 (c := v_in x1 8) (pc' := 36) (lv' := [(0, .inr (.inr (11, 0, 0))), (1, .inl x1)]) (st' := [.inl (S_2.1 (45, 0, 0) x1.toNatClampNeg), .inr (.inr (11, 0, 0))]) (V' := q_V S_2) rfl ?_
      refine q_Sim.letI (fun y_5 => ?_)
      refine q_Sim.call vc_272 (as := [.inr (.inr (11, 0, 0)), .inl y_5]) (pc' := 39) (lv' := [(0, .inr (.inr (11, 0, 0))), (1, .inl x1)]) (st' := []) (S := S_2) rfl (rc_187 y_5) (s_187 y_5 S_2) (fun r_6 S_7 => ?_)
      refine q_Sim.steps vc_272 1 (pc' := 47) (lv' := [(0, .inr (.inr (11, 0, 0))), (1, .inl x1)]) (st' := [.inl r_6]) (V' := q_V S_7) rfl ?_
      exact q_Sim.ret vc_272 rfl
  · refine q_Sim.steps vc_272 2 (pc' := 9) (lv' := [(0, .inr (.inr (11, 0, 0))), (1, .inl x1)]) (st' := [.inl 1, .inr (.inr (11, 0, 0))]) (V' := q_V S) rfl ?_
    refine q_Sim.call vc_272 (as := [.inr (.inr (11, 0, 0)), .inl 1]) (pc' := 12) (lv' := [(0, .inr (.inr (11, 0, 0))), (1, .inl x1)]) (st' := []) (S := S) rfl (rc_186 1) (s_186 1 S) (fun r_8 S_9 => ?_)
    refine q_Sim.steps vc_272 1 (pc' := 47) (lv' := [(0, .inr (.inr (11, 0, 0))), (1, .inl x1)]) (st' := [.inl r_8]) (V' := q_V S_9) rfl ?_
    exact q_Sim.ret vc_272 rfl
theorem vc_273 : v_code 273 = k_273 := rfl
theorem rc_273 (x0 : Int32) : v_rcv 273 [.inl x0] = true := rfl
def f_273 (x0 : Int32) (S : QS) : Option ((Int32) × QS) := if 300 ≤ x0 then (q_let (x0 - x0 / 100 * 100) (fun y_1 => if 3 ≤ y_1 then (if 9 ≤ y_1 then (some (9, S)) else (some (8, S))) else (some (7, S)))) else (if ¬ x0 = 0 then (if ¬ x0 = 200 then (some (6, S)) else (some (11, S))) else (some (10, S)))
theorem s_273 (x0 : Int32) (S : QS) : q_Sim 273 0 [(0, .inl x0)] [] (q_V S) q_I (f_273 x0 S) := by
  unfold f_273
  refine q_Sim.steps vc_273 2 (pc' := 4) (lv' := [(0, .inl x0)]) (st' := [.inl 300, .inl x0]) (V' := q_V S) rfl ?_
  refine q_Sim.br vc_273 (c := 300 ≤ x0) (t := 31) (f := 7) (lv' := [(0, .inl x0)]) (st' := []) (V' := q_V S) rfl ?_ ?_
  · refine q_Sim.steps vc_273 2 (pc' := 34) (lv' := [(0, .inl x0)]) (st' := [.inl 100, .inl x0]) (V' := q_V S) rfl ?_
    refine q_Sim.okd vc_273 (c := decide (¬ (100 : Int32) = 0)) (pc' := 35) (lv' := [(0, .inl x0)]) (st' := [.inl (x0 - x0 / 100 * 100)]) (V' := q_V S) rfl (by decide) ?_
    refine q_Sim.letI (fun y_1 => ?_)
    refine q_Sim.steps vc_273 3 (pc' := 38) (lv' := [(1, .inl y_1), (0, .inl x0)]) (st' := [.inl 3, .inl y_1]) (V' := q_V S) rfl ?_
    refine q_Sim.br vc_273 (c := 3 ≤ y_1) (t := 46) (f := 41) (lv' := [(1, .inl y_1), (0, .inl x0)]) (st' := []) (V' := q_V S) rfl ?_ ?_
    · refine q_Sim.steps vc_273 2 (pc' := 49) (lv' := [(1, .inl y_1), (0, .inl x0)]) (st' := [.inl 9, .inl y_1]) (V' := q_V S) rfl ?_
      refine q_Sim.br vc_273 (c := 9 ≤ y_1) (t := 57) (f := 52) (lv' := [(1, .inl y_1), (0, .inl x0)]) (st' := []) (V' := q_V S) rfl ?_ ?_
      · refine q_Sim.steps vc_273 1 (pc' := 59) (lv' := [(1, .inl y_1), (0, .inl x0)]) (st' := [.inl 9]) (V' := q_V S) rfl ?_
        exact q_Sim.ret vc_273 rfl
      · refine q_Sim.steps vc_273 2 (pc' := 59) (lv' := [(1, .inl y_1), (0, .inl x0)]) (st' := [.inl 8]) (V' := q_V S) rfl ?_
        exact q_Sim.ret vc_273 rfl
    · refine q_Sim.steps vc_273 2 (pc' := 59) (lv' := [(1, .inl y_1), (0, .inl x0)]) (st' := [.inl 7]) (V' := q_V S) rfl ?_
      exact q_Sim.ret vc_273 rfl
  · refine q_Sim.steps vc_273 1 (pc' := 8) (lv' := [(0, .inl x0)]) (st' := [.inl x0]) (V' := q_V S) rfl ?_
    refine q_Sim.br vc_273 (c := ¬ x0 = 0) (t := 16) (f := 11) (lv' := [(0, .inl x0)]) (st' := []) (V' := q_V S) rfl ?_ ?_
    · refine q_Sim.steps vc_273 2 (pc' := 20) (lv' := [(0, .inl x0)]) (st' := [.inl 200, .inl x0]) (V' := q_V S) rfl ?_
      refine q_Sim.br vc_273 (c := ¬ x0 = 200) (t := 28) (f := 23) (lv' := [(0, .inl x0)]) (st' := []) (V' := q_V S) rfl ?_ ?_
      · refine q_Sim.steps vc_273 1 (pc' := 30) (lv' := [(0, .inl x0)]) (st' := [.inl 6]) (V' := q_V S) rfl ?_
        exact q_Sim.ret vc_273 rfl
      · refine q_Sim.steps vc_273 2 (pc' := 30) (lv' := [(0, .inl x0)]) (st' := [.inl 11]) (V' := q_V S) rfl ?_
        exact q_Sim.ret vc_273 rfl
    · refine q_Sim.steps vc_273 2 (pc' := 30) (lv' := [(0, .inl x0)]) (st' := [.inl 10]) (V' := q_V S) rfl ?_
      exact q_Sim.ret vc_273 rfl
theorem vc_274 : v_code 274 = k_274 := rfl
theorem rc_274 (x1 : Int32) (x2 : Int32) : v_rcv 274 [.inr (.inr (11, 0, 0)), .inl x1, .inl x2] = true := rfl
def b_274_119 (back_8 : Int32 → Int32 → Int32 → Int32 → QS → Option ((Int32) × QS)) (x1 : Int32) (x2 : Int32) (x3 : Int32) (x4 : Int32) (S : QS) : Option ((Int32) × QS) := back_8 x1 x2 x3 (x4 + 1) S
theorem sb_274_119 (back_8 : Int32 → Int32 → Int32 → Int32 → QS → Option ((Int32) × QS)) (hb_8 : ∀ (x1 : Int32) (x2 : Int32) (x3 : Int32) (x4 : Int32) (S : QS), q_Sim 274 8 [(0, .inr (.inr (11, 0, 0))), (1, .inl x1), (2, .inl x2), (3, .inl x3), (4, .inl x4)] [] (q_V S) q_I (back_8 x1 x2 x3 x4 S)) (x1 : Int32) (x2 : Int32) (x3 : Int32) (x4 : Int32) (S : QS) : q_Sim 274 119 [(0, .inr (.inr (11, 0, 0))), (1, .inl x1), (2, .inl x2), (3, .inl x3), (4, .inl x4)] [] (q_V S) q_I (b_274_119 back_8 x1 x2 x3 x4 S) := by
  unfold b_274_119
  refine q_Sim.steps vc_274 2 (pc' := 8) (lv' := [(4, .inl (x4 + 1)), (0, .inr (.inr (11, 0, 0))), (1, .inl x1), (2, .inl x2), (3, .inl x3)]) (st' := []) (V' := q_V S) rfl ?_
  exact q_Sim.sub2 (lv' := [(0, .inr (.inr (11, 0, 0))), (1, .inl x1), (2, .inl x2), (3, .inl x3), (4, .inl (x4 + 1))]) [0, 1, 2, 3, 4] rfl (by decide) ⟨rfl, rfl, rfl, rfl, rfl, trivial⟩ (hb_8 x1 x2 x3 (x4 + 1) S)
def b_274_111 (back_8 : Int32 → Int32 → Int32 → Int32 → QS → Option ((Int32) × QS)) (back_57 : Int32 → Int32 → Int32 → Int32 → Int32 → Int32 → QS → Option ((Int32) × QS)) (x1 : Int32) (x2 : Int32) (x4 : Int32) (x5 : Int32) (x6 : Int32) (xs0 : Int32) (xs1 : Int32) (S : QS) : Option ((Int32) × QS) := q_let (xs0 + xs1) (fun y_13 => back_57 x1 x2 y_13 x4 x5 (x6 + 1) S)
theorem sb_274_111 (back_8 : Int32 → Int32 → Int32 → Int32 → QS → Option ((Int32) × QS)) (hb_8 : ∀ (x1 : Int32) (x2 : Int32) (x3 : Int32) (x4 : Int32) (S : QS), q_Sim 274 8 [(0, .inr (.inr (11, 0, 0))), (1, .inl x1), (2, .inl x2), (3, .inl x3), (4, .inl x4)] [] (q_V S) q_I (back_8 x1 x2 x3 x4 S)) (back_57 : Int32 → Int32 → Int32 → Int32 → Int32 → Int32 → QS → Option ((Int32) × QS)) (hb_57 : ∀ (x1 : Int32) (x2 : Int32) (x3 : Int32) (x4 : Int32) (x5 : Int32) (x6 : Int32) (S : QS), q_Sim 274 57 [(0, .inr (.inr (11, 0, 0))), (1, .inl x1), (2, .inl x2), (3, .inl x3), (4, .inl x4), (5, .inl x5), (6, .inl x6)] [] (q_V S) q_I (back_57 x1 x2 x3 x4 x5 x6 S)) (x1 : Int32) (x2 : Int32) (x4 : Int32) (x5 : Int32) (x6 : Int32) (xs0 : Int32) (xs1 : Int32) (S : QS) : q_Sim 274 111 [(0, .inr (.inr (11, 0, 0))), (1, .inl x1), (2, .inl x2), (4, .inl x4), (5, .inl x5), (6, .inl x6)] [.inl xs1, .inl xs0] (q_V S) q_I (b_274_111 back_8 back_57 x1 x2 x4 x5 x6 xs0 xs1 S) := by
  unfold b_274_111
  refine q_Sim.steps vc_274 1 (pc' := 112) (lv' := [(0, .inr (.inr (11, 0, 0))), (1, .inl x1), (2, .inl x2), (4, .inl x4), (5, .inl x5), (6, .inl x6)]) (st' := [.inl (xs0 + xs1)]) (V' := q_V S) rfl ?_
  refine q_Sim.letI (fun y_13 => ?_)
  refine q_Sim.steps vc_274 3 (pc' := 57) (lv' := [(6, .inl (x6 + 1)), (3, .inl y_13), (0, .inr (.inr (11, 0, 0))), (1, .inl x1), (2, .inl x2), (4, .inl x4), (5, .inl x5)]) (st' := []) (V' := q_V S) rfl ?_
  exact q_Sim.sub2 (lv' := [(0, .inr (.inr (11, 0, 0))), (1, .inl x1), (2, .inl x2), (3, .inl y_13), (4, .inl x4), (5, .inl x5), (6, .inl (x6 + 1))]) [0, 1, 2, 3, 4, 5, 6] rfl (by decide) ⟨rfl, rfl, rfl, rfl, rfl, rfl, rfl, trivial⟩ (hb_57 x1 x2 y_13 x4 x5 (x6 + 1) S)
def b_274_57 (back_8 : Int32 → Int32 → Int32 → Int32 → QS → Option ((Int32) × QS)) : Nat → Int32 → Int32 → Int32 → Int32 → Int32 → Int32 → QS → Option ((Int32) × QS)
  | 0, _, _, _, _, _, _, _ => none
  | n + 1, x1, x2, x3, x4, x5, x6, S => if x5 < 0 then (b_274_119 back_8 x1 x2 x3 x4 S) else (q_bd (f_195 x5 S) (fun r_7 S_8 => if r_7 ≤ x6 then (b_274_119 back_8 x1 x2 x3 x4 S_8) else (q_bd (f_196 x5 x6 S_8) (fun r_9 S_10 => q_bd (f_273 r_9 S_10) (fun r_11 S_12 => if r_11 = x2 then (if ¬ x2 = 6 then (b_274_111 back_8 (b_274_57 back_8 n) x1 x2 x4 x5 x6 x3 1 S_12) else (q_bd (f_196 x5 x6 S_12) (fun r_14 S_15 => b_274_111 back_8 (b_274_57 back_8 n) x1 x2 x4 x5 x6 x3 r_14 S_15))) else (b_274_111 back_8 (b_274_57 back_8 n) x1 x2 x4 x5 x6 x3 0 S_12))))))
theorem sb_274_57 (back_8 : Int32 → Int32 → Int32 → Int32 → QS → Option ((Int32) × QS)) (hb_8 : ∀ (x1 : Int32) (x2 : Int32) (x3 : Int32) (x4 : Int32) (S : QS), q_Sim 274 8 [(0, .inr (.inr (11, 0, 0))), (1, .inl x1), (2, .inl x2), (3, .inl x3), (4, .inl x4)] [] (q_V S) q_I (back_8 x1 x2 x3 x4 S)) : ∀ (n : Nat) (x1 : Int32) (x2 : Int32) (x3 : Int32) (x4 : Int32) (x5 : Int32) (x6 : Int32) (S : QS), q_Sim 274 57 [(0, .inr (.inr (11, 0, 0))), (1, .inl x1), (2, .inl x2), (3, .inl x3), (4, .inl x4), (5, .inl x5), (6, .inl x6)] [] (q_V S) q_I (b_274_57 back_8 n x1 x2 x3 x4 x5 x6 S)
  | 0, _, _, _, _, _, _, _ => q_Sim.none
  | n + 1, x1, x2, x3, x4, x5, x6, S => by
    rw [b_274_57]
    refine q_Sim.steps vc_274 1 (pc' := 59) (lv' := [(0, .inr (.inr (11, 0, 0))), (1, .inl x1), (2, .inl x2), (3, .inl x3), (4, .inl x4), (5, .inl x5), (6, .inl x6)]) (st' := [.inl x5]) (V' := q_V S) rfl ?_
    refine q_Sim.br vc_274 (c := x5 < 0) (t := 119) (f := 62) (lv' := [(0, .inr (.inr (11, 0, 0))), (1, .inl x1), (2, .inl x2), (3, .inl x3), (4, .inl x4), (5, .inl x5), (6, .inl x6)]) (st' := []) (V' := q_V S) rfl ?_ ?_
    · exact q_Sim.sub2 (lv' := [(0, .inr (.inr (11, 0, 0))), (1, .inl x1), (2, .inl x2), (3, .inl x3), (4, .inl x4)]) [0, 1, 2, 3, 4] rfl (by decide) ⟨rfl, rfl, rfl, rfl, rfl, trivial⟩ (sb_274_119 back_8 hb_8 x1 x2 x3 x4 S)
    · refine q_Sim.steps vc_274 3 (pc' := 67) (lv' := [(0, .inr (.inr (11, 0, 0))), (1, .inl x1), (2, .inl x2), (3, .inl x3), (4, .inl x4), (5, .inl x5), (6, .inl x6)]) (st' := [.inl x5, .inr (.inr (11, 0, 0)), .inl x6]) (V' := q_V S) rfl ?_
      refine q_Sim.call vc_274 (as := [.inr (.inr (11, 0, 0)), .inl x5]) (pc' := 70) (lv' := [(0, .inr (.inr (11, 0, 0))), (1, .inl x1), (2, .inl x2), (3, .inl x3), (4, .inl x4), (5, .inl x5), (6, .inl x6)]) (st' := [.inl x6]) (S := S) rfl (rc_195 x5) (s_195 x5 S) (fun r_7 S_8 => ?_)
      refine q_Sim.br vc_274 (c := r_7 ≤ x6) (t := 119) (f := 73) (lv' := [(0, .inr (.inr (11, 0, 0))), (1, .inl x1), (2, .inl x2), (3, .inl x3), (4, .inl x4), (5, .inl x5), (6, .inl x6)]) (st' := []) (V' := q_V S_8) rfl ?_ ?_
      · exact q_Sim.sub2 (lv' := [(0, .inr (.inr (11, 0, 0))), (1, .inl x1), (2, .inl x2), (3, .inl x3), (4, .inl x4)]) [0, 1, 2, 3, 4] rfl (by decide) ⟨rfl, rfl, rfl, rfl, rfl, trivial⟩ (sb_274_119 back_8 hb_8 x1 x2 x3 x4 S_8)
      · refine q_Sim.steps vc_274 4 (pc' := 79) (lv' := [(0, .inr (.inr (11, 0, 0))), (1, .inl x1), (2, .inl x2), (3, .inl x3), (4, .inl x4), (5, .inl x5), (6, .inl x6)]) (st' := [.inl x6, .inl x5, .inr (.inr (11, 0, 0)), .inl x3]) (V' := q_V S_8) rfl ?_
        refine q_Sim.call vc_274 (as := [.inr (.inr (11, 0, 0)), .inl x5, .inl x6]) (pc' := 82) (lv' := [(0, .inr (.inr (11, 0, 0))), (1, .inl x1), (2, .inl x2), (3, .inl x3), (4, .inl x4), (5, .inl x5), (6, .inl x6)]) (st' := [.inl x3]) (S := S_8) rfl (rc_196 x5 x6) (s_196 x5 x6 S_8) (fun r_9 S_10 => ?_)
        refine q_Sim.call vc_274 (as := [.inl r_9]) (pc' := 85) (lv' := [(0, .inr (.inr (11, 0, 0))), (1, .inl x1), (2, .inl x2), (3, .inl x3), (4, .inl x4), (5, .inl x5), (6, .inl x6)]) (st' := [.inl x3]) (S := S_10) rfl (rc_273 r_9) (s_273 r_9 S_10) (fun r_11 S_12 => ?_)
        refine q_Sim.steps vc_274 1 (pc' := 86) (lv' := [(0, .inr (.inr (11, 0, 0))), (1, .inl x1), (2, .inl x2), (3, .inl x3), (4, .inl x4), (5, .inl x5), (6, .inl x6)]) (st' := [.inl x2, .inl r_11, .inl x3]) (V' := q_V S_12) rfl ?_
        refine q_Sim.br vc_274 (c := r_11 = x2) (t := 93) (f := 89) (lv' := [(0, .inr (.inr (11, 0, 0))), (1, .inl x1), (2, .inl x2), (3, .inl x3), (4, .inl x4), (5, .inl x5), (6, .inl x6)]) (st' := [.inl x3]) (V' := q_V S_12) rfl ?_ ?_
        · refine q_Sim.steps vc_274 2 (pc' := 96) (lv' := [(0, .inr (.inr (11, 0, 0))), (1, .inl x1), (2, .inl x2), (3, .inl x3), (4, .inl x4), (5, .inl x5), (6, .inl x6)]) (st' := [.inl 6, .inl x2, .inl x3]) (V' := q_V S_12) rfl ?_
          refine q_Sim.br vc_274 (c := ¬ x2 = 6) (t := 110) (f := 99) (lv' := [(0, .inr (.inr (11, 0, 0))), (1, .inl x1), (2, .inl x2), (3, .inl x3), (4, .inl x4), (5, .inl x5), (6, .inl x6)]) (st' := [.inl x3]) (V' := q_V S_12) rfl ?_ ?_
          · refine q_Sim.steps vc_274 1 (pc' := 111) (lv' := [(0, .inr (.inr (11, 0, 0))), (1, .inl x1), (2, .inl x2), (3, .inl x3), (4, .inl x4), (5, .inl x5), (6, .inl x6)]) (st' := [.inl 1, .inl x3]) (V' := q_V S_12) rfl ?_
            exact q_Sim.sub2 (lv' := [(0, .inr (.inr (11, 0, 0))), (1, .inl x1), (2, .inl x2), (4, .inl x4), (5, .inl x5), (6, .inl x6)]) [0, 1, 2, 4, 5, 6] rfl (by decide) ⟨rfl, rfl, rfl, rfl, rfl, rfl, trivial⟩ (sb_274_111 back_8 hb_8 (b_274_57 back_8 n) (sb_274_57 back_8 hb_8 n) x1 x2 x4 x5 x6 x3 1 S_12)
          · refine q_Sim.steps vc_274 3 (pc' := 104) (lv' := [(0, .inr (.inr (11, 0, 0))), (1, .inl x1), (2, .inl x2), (3, .inl x3), (4, .inl x4), (5, .inl x5), (6, .inl x6)]) (st' := [.inl x6, .inl x5, .inr (.inr (11, 0, 0)), .inl x3]) (V' := q_V S_12) rfl ?_
            refine q_Sim.call vc_274 (as := [.inr (.inr (11, 0, 0)), .inl x5, .inl x6]) (pc' := 107) (lv' := [(0, .inr (.inr (11, 0, 0))), (1, .inl x1), (2, .inl x2), (3, .inl x3), (4, .inl x4), (5, .inl x5), (6, .inl x6)]) (st' := [.inl x3]) (S := S_12) rfl (rc_196 x5 x6) (s_196 x5 x6 S_12) (fun r_14 S_15 => ?_)
            refine q_Sim.steps vc_274 1 (pc' := 111) (lv' := [(0, .inr (.inr (11, 0, 0))), (1, .inl x1), (2, .inl x2), (3, .inl x3), (4, .inl x4), (5, .inl x5), (6, .inl x6)]) (st' := [.inl r_14, .inl x3]) (V' := q_V S_15) rfl ?_
            exact q_Sim.sub2 (lv' := [(0, .inr (.inr (11, 0, 0))), (1, .inl x1), (2, .inl x2), (4, .inl x4), (5, .inl x5), (6, .inl x6)]) [0, 1, 2, 4, 5, 6] rfl (by decide) ⟨rfl, rfl, rfl, rfl, rfl, rfl, trivial⟩ (sb_274_111 back_8 hb_8 (b_274_57 back_8 n) (sb_274_57 back_8 hb_8 n) x1 x2 x4 x5 x6 x3 r_14 S_15)
        · refine q_Sim.steps vc_274 2 (pc' := 111) (lv' := [(0, .inr (.inr (11, 0, 0))), (1, .inl x1), (2, .inl x2), (3, .inl x3), (4, .inl x4), (5, .inl x5), (6, .inl x6)]) (st' := [.inl 0, .inl x3]) (V' := q_V S_12) rfl ?_
          exact q_Sim.sub2 (lv' := [(0, .inr (.inr (11, 0, 0))), (1, .inl x1), (2, .inl x2), (4, .inl x4), (5, .inl x5), (6, .inl x6)]) [0, 1, 2, 4, 5, 6] rfl (by decide) ⟨rfl, rfl, rfl, rfl, rfl, rfl, trivial⟩ (sb_274_111 back_8 hb_8 (b_274_57 back_8 n) (sb_274_57 back_8 hb_8 n) x1 x2 x4 x5 x6 x3 0 S_12)
def b_274_52 (back_8 : Int32 → Int32 → Int32 → Int32 → QS → Option ((Int32) × QS)) (x1 : Int32) (x2 : Int32) (x4 : Int32) (x5 : Int32) (xs0 : Int32) (xs1 : Int32) (S : QS) : Option ((Int32) × QS) := q_let (xs0 + xs1) (fun y_6 => b_274_57 back_8 q_N x1 x2 y_6 x4 x5 0 S)
theorem sb_274_52 (back_8 : Int32 → Int32 → Int32 → Int32 → QS → Option ((Int32) × QS)) (hb_8 : ∀ (x1 : Int32) (x2 : Int32) (x3 : Int32) (x4 : Int32) (S : QS), q_Sim 274 8 [(0, .inr (.inr (11, 0, 0))), (1, .inl x1), (2, .inl x2), (3, .inl x3), (4, .inl x4)] [] (q_V S) q_I (back_8 x1 x2 x3 x4 S)) (x1 : Int32) (x2 : Int32) (x4 : Int32) (x5 : Int32) (xs0 : Int32) (xs1 : Int32) (S : QS) : q_Sim 274 52 [(0, .inr (.inr (11, 0, 0))), (1, .inl x1), (2, .inl x2), (4, .inl x4), (5, .inl x5)] [.inl xs1, .inl xs0] (q_V S) q_I (b_274_52 back_8 x1 x2 x4 x5 xs0 xs1 S) := by
  unfold b_274_52
  refine q_Sim.steps vc_274 1 (pc' := 53) (lv' := [(0, .inr (.inr (11, 0, 0))), (1, .inl x1), (2, .inl x2), (4, .inl x4), (5, .inl x5)]) (st' := [.inl (xs0 + xs1)]) (V' := q_V S) rfl ?_
  refine q_Sim.letI (fun y_6 => ?_)
  refine q_Sim.steps vc_274 3 (pc' := 57) (lv' := [(6, .inl 0), (3, .inl y_6), (0, .inr (.inr (11, 0, 0))), (1, .inl x1), (2, .inl x2), (4, .inl x4), (5, .inl x5)]) (st' := []) (V' := q_V S) rfl ?_
  exact q_Sim.sub2 (lv' := [(0, .inr (.inr (11, 0, 0))), (1, .inl x1), (2, .inl x2), (3, .inl y_6), (4, .inl x4), (5, .inl x5), (6, .inl 0)]) [0, 1, 2, 3, 4, 5, 6] rfl (by decide) ⟨rfl, rfl, rfl, rfl, rfl, rfl, rfl, trivial⟩ (sb_274_57 back_8 hb_8 q_N x1 x2 y_6 x4 x5 0 S)
def b_274_51 (back_8 : Int32 → Int32 → Int32 → Int32 → QS → Option ((Int32) × QS)) (x1 : Int32) (x2 : Int32) (x4 : Int32) (x5 : Int32) (xs0 : Int32) (S : QS) : Option ((Int32) × QS) := b_274_52 back_8 x1 x2 x4 x5 xs0 0 S
theorem sb_274_51 (back_8 : Int32 → Int32 → Int32 → Int32 → QS → Option ((Int32) × QS)) (hb_8 : ∀ (x1 : Int32) (x2 : Int32) (x3 : Int32) (x4 : Int32) (S : QS), q_Sim 274 8 [(0, .inr (.inr (11, 0, 0))), (1, .inl x1), (2, .inl x2), (3, .inl x3), (4, .inl x4)] [] (q_V S) q_I (back_8 x1 x2 x3 x4 S)) (x1 : Int32) (x2 : Int32) (x4 : Int32) (x5 : Int32) (xs0 : Int32) (S : QS) : q_Sim 274 51 [(0, .inr (.inr (11, 0, 0))), (1, .inl x1), (2, .inl x2), (4, .inl x4), (5, .inl x5)] [.inl xs0] (q_V S) q_I (b_274_51 back_8 x1 x2 x4 x5 xs0 S) := by
  unfold b_274_51
  refine q_Sim.steps vc_274 1 (pc' := 52) (lv' := [(0, .inr (.inr (11, 0, 0))), (1, .inl x1), (2, .inl x2), (4, .inl x4), (5, .inl x5)]) (st' := [.inl 0, .inl xs0]) (V' := q_V S) rfl ?_
  exact q_Sim.sub2 (lv' := [(0, .inr (.inr (11, 0, 0))), (1, .inl x1), (2, .inl x2), (4, .inl x4), (5, .inl x5)]) [0, 1, 2, 4, 5] rfl (by decide) ⟨rfl, rfl, rfl, rfl, rfl, trivial⟩ (sb_274_52 back_8 hb_8 x1 x2 x4 x5 xs0 0 S)
def b_274_8 : Nat → Int32 → Int32 → Int32 → Int32 → QS → Option ((Int32) × QS)
  | 0, _, _, _, _, _ => none
  | n + 1, x1, x2, x3, x4, S => q_bd (f_190 x1 10 S) (fun r_2 S_3 => if ((96 * x1) + (12 * r_2)) ≤ x4 then (some (x3, S_3)) else (q_bd (f_194 x4 S_3) (fun r_4 S_5 => if ¬ x2 = 5 then (b_274_51 (b_274_8 n) x1 x2 x4 r_4 x3 S_5) else (if 0 ≤ r_4 then (b_274_51 (b_274_8 n) x1 x2 x4 r_4 x3 S_5) else (b_274_52 (b_274_8 n) x1 x2 x4 r_4 x3 1 S_5)))))
theorem sb_274_8 : ∀ (n : Nat) (x1 : Int32) (x2 : Int32) (x3 : Int32) (x4 : Int32) (S : QS), q_Sim 274 8 [(0, .inr (.inr (11, 0, 0))), (1, .inl x1), (2, .inl x2), (3, .inl x3), (4, .inl x4)] [] (q_V S) q_I (b_274_8 n x1 x2 x3 x4 S)
  | 0, _, _, _, _, _ => q_Sim.none
  | n + 1, x1, x2, x3, x4, S => by
    rw [b_274_8]
    refine q_Sim.steps vc_274 8 (pc' := 20) (lv' := [(0, .inr (.inr (11, 0, 0))), (1, .inl x1), (2, .inl x2), (3, .inl x3), (4, .inl x4)]) (st' := [.inl 10, .inl x1, .inr (.inr (11, 0, 0)), .inl 12, .inl (96 * x1), .inl x4]) (V' := q_V S) rfl ?_
    refine q_Sim.call vc_274 (as := [.inr (.inr (11, 0, 0)), .inl x1, .inl 10]) (pc' := 23) (lv' := [(0, .inr (.inr (11, 0, 0))), (1, .inl x1), (2, .inl x2), (3, .inl x3), (4, .inl x4)]) (st' := [.inl 12, .inl (96 * x1), .inl x4]) (S := S) rfl (rc_190 x1 10) (s_190 x1 10 S) (fun r_2 S_3 => ?_)
    refine q_Sim.steps vc_274 2 (pc' := 25) (lv' := [(0, .inr (.inr (11, 0, 0))), (1, .inl x1), (2, .inl x2), (3, .inl x3), (4, .inl x4)]) (st' := [.inl ((96 * x1) + (12 * r_2)), .inl x4]) (V' := q_V S_3) rfl ?_
    refine q_Sim.br vc_274 (c := ((96 * x1) + (12 * r_2)) ≤ x4) (t := 125) (f := 28) (lv' := [(0, .inr (.inr (11, 0, 0))), (1, .inl x1), (2, .inl x2), (3, .inl x3), (4, .inl x4)]) (st' := []) (V' := q_V S_3) rfl ?_ ?_
    · refine q_Sim.steps vc_274 1 (pc' := 126) (lv' := [(0, .inr (.inr (11, 0, 0))), (1, .inl x1), (2, .inl x2), (3, .inl x3), (4, .inl x4)]) (st' := [.inl x3]) (V' := q_V S_3) rfl ?_
      exact q_Sim.ret vc_274 rfl
    · refine q_Sim.steps vc_274 2 (pc' := 31) (lv' := [(0, .inr (.inr (11, 0, 0))), (1, .inl x1), (2, .inl x2), (3, .inl x3), (4, .inl x4)]) (st' := [.inl x4, .inr (.inr (11, 0, 0))]) (V' := q_V S_3) rfl ?_
      refine q_Sim.call vc_274 (as := [.inr (.inr (11, 0, 0)), .inl x4]) (pc' := 34) (lv' := [(0, .inr (.inr (11, 0, 0))), (1, .inl x1), (2, .inl x2), (3, .inl x3), (4, .inl x4)]) (st' := []) (S := S_3) rfl (rc_194 x4) (s_194 x4 S_3) (fun r_4 S_5 => ?_)
      refine q_Sim.steps vc_274 4 (pc' := 39) (lv' := [(5, .inl r_4), (0, .inr (.inr (11, 0, 0))), (1, .inl x1), (2, .inl x2), (3, .inl x3), (4, .inl x4)]) (st' := [.inl 5, .inl x2, .inl x3]) (V' := q_V S_5) rfl ?_
      refine q_Sim.br vc_274 (c := ¬ x2 = 5) (t := 51) (f := 42) (lv' := [(5, .inl r_4), (0, .inr (.inr (11, 0, 0))), (1, .inl x1), (2, .inl x2), (3, .inl x3), (4, .inl x4)]) (st' := [.inl x3]) (V' := q_V S_5) rfl ?_ ?_
      · exact q_Sim.sub2 (lv' := [(0, .inr (.inr (11, 0, 0))), (1, .inl x1), (2, .inl x2), (4, .inl x4), (5, .inl r_4)]) [0, 1, 2, 4, 5] rfl (by decide) ⟨rfl, rfl, rfl, rfl, rfl, trivial⟩ (sb_274_51 (b_274_8 n) (sb_274_8 n) x1 x2 x4 r_4 x3 S_5)
      · refine q_Sim.steps vc_274 1 (pc' := 44) (lv' := [(5, .inl r_4), (0, .inr (.inr (11, 0, 0))), (1, .inl x1), (2, .inl x2), (3, .inl x3), (4, .inl x4)]) (st' := [.inl r_4, .inl x3]) (V' := q_V S_5) rfl ?_
        refine q_Sim.br vc_274 (c := 0 ≤ r_4) (t := 51) (f := 47) (lv' := [(5, .inl r_4), (0, .inr (.inr (11, 0, 0))), (1, .inl x1), (2, .inl x2), (3, .inl x3), (4, .inl x4)]) (st' := [.inl x3]) (V' := q_V S_5) rfl ?_ ?_
        · exact q_Sim.sub2 (lv' := [(0, .inr (.inr (11, 0, 0))), (1, .inl x1), (2, .inl x2), (4, .inl x4), (5, .inl r_4)]) [0, 1, 2, 4, 5] rfl (by decide) ⟨rfl, rfl, rfl, rfl, rfl, trivial⟩ (sb_274_51 (b_274_8 n) (sb_274_8 n) x1 x2 x4 r_4 x3 S_5)
        · refine q_Sim.steps vc_274 2 (pc' := 52) (lv' := [(5, .inl r_4), (0, .inr (.inr (11, 0, 0))), (1, .inl x1), (2, .inl x2), (3, .inl x3), (4, .inl x4)]) (st' := [.inl 1, .inl x3]) (V' := q_V S_5) rfl ?_
          exact q_Sim.sub2 (lv' := [(0, .inr (.inr (11, 0, 0))), (1, .inl x1), (2, .inl x2), (4, .inl x4), (5, .inl r_4)]) [0, 1, 2, 4, 5] rfl (by decide) ⟨rfl, rfl, rfl, rfl, rfl, trivial⟩ (sb_274_52 (b_274_8 n) (sb_274_8 n) x1 x2 x4 r_4 x3 1 S_5)
def f_274 (x1 : Int32) (x2 : Int32) (S : QS) : Option ((Int32) × QS) := q_let (96 * x1) (fun y_1 => b_274_8 q_N x1 x2 0 y_1 S)
theorem s_274 (x1 : Int32) (x2 : Int32) (S : QS) : q_Sim 274 0 [(0, .inr (.inr (11, 0, 0))), (1, .inl x1), (2, .inl x2)] [] (q_V S) q_I (f_274 x1 x2 S) := by
  unfold f_274
  refine q_Sim.steps vc_274 5 (pc' := 6) (lv' := [(3, .inl 0), (0, .inr (.inr (11, 0, 0))), (1, .inl x1), (2, .inl x2)]) (st' := [.inl (96 * x1)]) (V' := q_V S) rfl ?_
  refine q_Sim.letI (fun y_1 => ?_)
  refine q_Sim.steps vc_274 1 (pc' := 8) (lv' := [(4, .inl y_1), (3, .inl 0), (0, .inr (.inr (11, 0, 0))), (1, .inl x1), (2, .inl x2)]) (st' := []) (V' := q_V S) rfl ?_
  exact q_Sim.sub2 (lv' := [(0, .inr (.inr (11, 0, 0))), (1, .inl x1), (2, .inl x2), (3, .inl 0), (4, .inl y_1)]) [0, 1, 2, 3, 4] rfl (by decide) ⟨rfl, rfl, rfl, rfl, rfl, trivial⟩ (sb_274_8 q_N x1 x2 0 y_1 S)
theorem vc_275 : v_code 275 = k_275 := rfl
theorem rc_275 (x1 : Int32) (x2 : Int32) : v_rcv 275 [.inr (.inr (11, 0, 0)), .inl x1, .inl x2] = true := rfl
def b_275_23 (x1 : Int32) (x2 : Int32) (x3 : Int32) (S : QS) : Option ((Int32) × QS) := if x3 ≤ 0 then (if x2 = 0 then (q_bd (f_190 x1 0 S) (fun r_4 S_5 => q_bd (f_187 r_4 S_5) (fun r_6 S_7 => some (r_6, S_7)))) else (if x2 = 1 then (q_bd (f_190 x1 1 S) (fun r_9 S_10 => q_bd (f_187 r_9 S_10) (fun r_11 S_12 => some (r_11, S_12)))) else (if x2 = 2 then (q_bd (f_190 x1 2 S) (fun r_14 S_15 => q_bd (f_187 r_14 S_15) (fun r_16 S_17 => some (r_16, S_17)))) else (if x2 = 3 then (q_bd (f_190 x1 10 S) (fun r_19 S_20 => q_bd (f_187 r_19 S_20) (fun r_21 S_22 => some (r_21, S_22)))) else (if x2 = 4 then (q_bd (f_190 x1 9 S) (fun r_24 S_25 => q_bd (f_187 r_24 S_25) (fun r_26 S_27 => some (r_26, S_27)))) else (q_bd (f_274 x1 x2 S) (fun r_28 S_29 => q_bd (f_187 r_28 S_29) (fun r_30 S_31 => some (r_30, S_31))))))))) else (q_bd (f_186 x3 S) (fun r_32 S_33 => some (r_32, S_33)))
theorem sb_275_23 (x1 : Int32) (x2 : Int32) (x3 : Int32) (S : QS) : q_Sim 275 23 [(0, .inr (.inr (11, 0, 0))), (1, .inl x1), (2, .inl x2), (3, .inl x3)] [] (q_V S) q_I (b_275_23 x1 x2 x3 S) := by
  unfold b_275_23
  refine q_Sim.steps vc_275 1 (pc' := 24) (lv' := [(0, .inr (.inr (11, 0, 0))), (1, .inl x1), (2, .inl x2), (3, .inl x3)]) (st' := [.inl x3]) (V' := q_V S) rfl ?_
  refine q_Sim.br vc_275 (c := x3 ≤ 0) (t := 33) (f := 27) (lv' := [(0, .inr (.inr (11, 0, 0))), (1, .inl x1), (2, .inl x2), (3, .inl x3)]) (st' := []) (V' := q_V S) rfl ?_ ?_
  · refine q_Sim.steps vc_275 1 (pc' := 34) (lv' := [(0, .inr (.inr (11, 0, 0))), (1, .inl x1), (2, .inl x2), (3, .inl x3)]) (st' := [.inl x2]) (V' := q_V S) rfl ?_
    refine q_Sim.ite (c := x2 = 0) (fun h_3 => q_Sim.sw vc_275 (lv' := [(0, .inr (.inr (11, 0, 0))), (1, .inl x1), (2, .inl x2), (3, .inl x3)]) (st' := []) (V' := q_V S) rfl h_3 rfl (t := 68) rfl ?_) (fun h_3 => ?_)
    · refine q_Sim.steps vc_275 4 (pc' := 72) (lv' := [(0, .inr (.inr (11, 0, 0))), (1, .inl x1), (2, .inl x2), (3, .inl x3)]) (st' := [.inl 0, .inl x1, .inr (.inr (11, 0, 0)), .inr (.inr (11, 0, 0))]) (V' := q_V S) rfl ?_
      refine q_Sim.call vc_275 (as := [.inr (.inr (11, 0, 0)), .inl x1, .inl 0]) (pc' := 75) (lv' := [(0, .inr (.inr (11, 0, 0))), (1, .inl x1), (2, .inl x2), (3, .inl x3)]) (st' := [.inr (.inr (11, 0, 0))]) (S := S) rfl (rc_190 x1 0) (s_190 x1 0 S) (fun r_4 S_5 => ?_)
      refine q_Sim.call vc_275 (as := [.inr (.inr (11, 0, 0)), .inl r_4]) (pc' := 78) (lv' := [(0, .inr (.inr (11, 0, 0))), (1, .inl x1), (2, .inl x2), (3, .inl x3)]) (st' := []) (S := S_5) rfl (rc_187 r_4) (s_187 r_4 S_5) (fun r_6 S_7 => ?_)
      exact q_Sim.ret vc_275 rfl
    refine q_Sim.ite (c := x2 = 1) (fun h_8 => q_Sim.sw vc_275 (lv' := [(0, .inr (.inr (11, 0, 0))), (1, .inl x1), (2, .inl x2), (3, .inl x3)]) (st' := []) (V' := q_V S) rfl h_8 rfl (t := 79) rfl ?_) (fun h_8 => ?_)
    · refine q_Sim.steps vc_275 4 (pc' := 83) (lv' := [(0, .inr (.inr (11, 0, 0))), (1, .inl x1), (2, .inl x2), (3, .inl x3)]) (st' := [.inl 1, .inl x1, .inr (.inr (11, 0, 0)), .inr (.inr (11, 0, 0))]) (V' := q_V S) rfl ?_
      refine q_Sim.call vc_275 (as := [.inr (.inr (11, 0, 0)), .inl x1, .inl 1]) (pc' := 86) (lv' := [(0, .inr (.inr (11, 0, 0))), (1, .inl x1), (2, .inl x2), (3, .inl x3)]) (st' := [.inr (.inr (11, 0, 0))]) (S := S) rfl (rc_190 x1 1) (s_190 x1 1 S) (fun r_9 S_10 => ?_)
      refine q_Sim.call vc_275 (as := [.inr (.inr (11, 0, 0)), .inl r_9]) (pc' := 89) (lv' := [(0, .inr (.inr (11, 0, 0))), (1, .inl x1), (2, .inl x2), (3, .inl x3)]) (st' := []) (S := S_10) rfl (rc_187 r_9) (s_187 r_9 S_10) (fun r_11 S_12 => ?_)
      exact q_Sim.ret vc_275 rfl
    refine q_Sim.ite (c := x2 = 2) (fun h_13 => q_Sim.sw vc_275 (lv' := [(0, .inr (.inr (11, 0, 0))), (1, .inl x1), (2, .inl x2), (3, .inl x3)]) (st' := []) (V' := q_V S) rfl h_13 rfl (t := 90) rfl ?_) (fun h_13 => ?_)
    · refine q_Sim.steps vc_275 4 (pc' := 94) (lv' := [(0, .inr (.inr (11, 0, 0))), (1, .inl x1), (2, .inl x2), (3, .inl x3)]) (st' := [.inl 2, .inl x1, .inr (.inr (11, 0, 0)), .inr (.inr (11, 0, 0))]) (V' := q_V S) rfl ?_
      refine q_Sim.call vc_275 (as := [.inr (.inr (11, 0, 0)), .inl x1, .inl 2]) (pc' := 97) (lv' := [(0, .inr (.inr (11, 0, 0))), (1, .inl x1), (2, .inl x2), (3, .inl x3)]) (st' := [.inr (.inr (11, 0, 0))]) (S := S) rfl (rc_190 x1 2) (s_190 x1 2 S) (fun r_14 S_15 => ?_)
      refine q_Sim.call vc_275 (as := [.inr (.inr (11, 0, 0)), .inl r_14]) (pc' := 100) (lv' := [(0, .inr (.inr (11, 0, 0))), (1, .inl x1), (2, .inl x2), (3, .inl x3)]) (st' := []) (S := S_15) rfl (rc_187 r_14) (s_187 r_14 S_15) (fun r_16 S_17 => ?_)
      exact q_Sim.ret vc_275 rfl
    refine q_Sim.ite (c := x2 = 3) (fun h_18 => q_Sim.sw vc_275 (lv' := [(0, .inr (.inr (11, 0, 0))), (1, .inl x1), (2, .inl x2), (3, .inl x3)]) (st' := []) (V' := q_V S) rfl h_18 rfl (t := 101) rfl ?_) (fun h_18 => ?_)
    · refine q_Sim.steps vc_275 4 (pc' := 106) (lv' := [(0, .inr (.inr (11, 0, 0))), (1, .inl x1), (2, .inl x2), (3, .inl x3)]) (st' := [.inl 10, .inl x1, .inr (.inr (11, 0, 0)), .inr (.inr (11, 0, 0))]) (V' := q_V S) rfl ?_
      refine q_Sim.call vc_275 (as := [.inr (.inr (11, 0, 0)), .inl x1, .inl 10]) (pc' := 109) (lv' := [(0, .inr (.inr (11, 0, 0))), (1, .inl x1), (2, .inl x2), (3, .inl x3)]) (st' := [.inr (.inr (11, 0, 0))]) (S := S) rfl (rc_190 x1 10) (s_190 x1 10 S) (fun r_19 S_20 => ?_)
      refine q_Sim.call vc_275 (as := [.inr (.inr (11, 0, 0)), .inl r_19]) (pc' := 112) (lv' := [(0, .inr (.inr (11, 0, 0))), (1, .inl x1), (2, .inl x2), (3, .inl x3)]) (st' := []) (S := S_20) rfl (rc_187 r_19) (s_187 r_19 S_20) (fun r_21 S_22 => ?_)
      exact q_Sim.ret vc_275 rfl
    refine q_Sim.ite (c := x2 = 4) (fun h_23 => q_Sim.sw vc_275 (lv' := [(0, .inr (.inr (11, 0, 0))), (1, .inl x1), (2, .inl x2), (3, .inl x3)]) (st' := []) (V' := q_V S) rfl h_23 rfl (t := 113) rfl ?_) (fun h_23 => ?_)
    · refine q_Sim.steps vc_275 4 (pc' := 118) (lv' := [(0, .inr (.inr (11, 0, 0))), (1, .inl x1), (2, .inl x2), (3, .inl x3)]) (st' := [.inl 9, .inl x1, .inr (.inr (11, 0, 0)), .inr (.inr (11, 0, 0))]) (V' := q_V S) rfl ?_
      refine q_Sim.call vc_275 (as := [.inr (.inr (11, 0, 0)), .inl x1, .inl 9]) (pc' := 121) (lv' := [(0, .inr (.inr (11, 0, 0))), (1, .inl x1), (2, .inl x2), (3, .inl x3)]) (st' := [.inr (.inr (11, 0, 0))]) (S := S) rfl (rc_190 x1 9) (s_190 x1 9 S) (fun r_24 S_25 => ?_)
      refine q_Sim.call vc_275 (as := [.inr (.inr (11, 0, 0)), .inl r_24]) (pc' := 124) (lv' := [(0, .inr (.inr (11, 0, 0))), (1, .inl x1), (2, .inl x2), (3, .inl x3)]) (st' := []) (S := S_25) rfl (rc_187 r_24) (s_187 r_24 S_25) (fun r_26 S_27 => ?_)
      exact q_Sim.ret vc_275 rfl
    refine q_Sim.swd vc_275 (lv' := [(0, .inr (.inr (11, 0, 0))), (1, .inl x1), (2, .inl x2), (3, .inl x3)]) (st' := []) (V' := q_V S) rfl (fun k h1 h2 => ?_) (t := 125) rfl ?_
    · have h3 : k = 0 ∨ k = 1 ∨ k = 2 ∨ k = 3 ∨ k = 4 := by omega
      rcases h3 with rfl | rfl | rfl | rfl | rfl
      · exact q_ne h_3 rfl
      · exact q_ne h_8 rfl
      · exact q_ne h_13 rfl
      · exact q_ne h_18 rfl
      · exact q_ne h_23 rfl
    · refine q_Sim.steps vc_275 4 (pc' := 129) (lv' := [(0, .inr (.inr (11, 0, 0))), (1, .inl x1), (2, .inl x2), (3, .inl x3)]) (st' := [.inl x2, .inl x1, .inr (.inr (11, 0, 0)), .inr (.inr (11, 0, 0))]) (V' := q_V S) rfl ?_
      refine q_Sim.call vc_275 (as := [.inr (.inr (11, 0, 0)), .inl x1, .inl x2]) (pc' := 132) (lv' := [(0, .inr (.inr (11, 0, 0))), (1, .inl x1), (2, .inl x2), (3, .inl x3)]) (st' := [.inr (.inr (11, 0, 0))]) (S := S) rfl (rc_274 x1 x2) (s_274 x1 x2 S) (fun r_28 S_29 => ?_)
      refine q_Sim.call vc_275 (as := [.inr (.inr (11, 0, 0)), .inl r_28]) (pc' := 135) (lv' := [(0, .inr (.inr (11, 0, 0))), (1, .inl x1), (2, .inl x2), (3, .inl x3)]) (st' := []) (S := S_29) rfl (rc_187 r_28) (s_187 r_28 S_29) (fun r_30 S_31 => ?_)
      exact q_Sim.ret vc_275 rfl
  · refine q_Sim.steps vc_275 2 (pc' := 29) (lv' := [(0, .inr (.inr (11, 0, 0))), (1, .inl x1), (2, .inl x2), (3, .inl x3)]) (st' := [.inl x3, .inr (.inr (11, 0, 0))]) (V' := q_V S) rfl ?_
    refine q_Sim.call vc_275 (as := [.inr (.inr (11, 0, 0)), .inl x3]) (pc' := 32) (lv' := [(0, .inr (.inr (11, 0, 0))), (1, .inl x1), (2, .inl x2), (3, .inl x3)]) (st' := []) (S := S) rfl (rc_186 x3) (s_186 x3 S) (fun r_32 S_33 => ?_)
    exact q_Sim.ret vc_275 rfl
def f_275 (x1 : Int32) (x2 : Int32) (S : QS) : Option ((Int32) × QS) := q_bd (f_198 x1 S) (fun r_1 S_2 => if ¬ r_1 = 0 then (b_275_23 x1 x2 r_1 S_2) else (q_bd (f_189 x2 0 11 S_2) (fun r_34 S_35 => if ¬ r_34 = 0 then (b_275_23 x1 x2 r_1 S_35) else (b_275_23 x1 x2 6 S_35))))
theorem s_275 (x1 : Int32) (x2 : Int32) (S : QS) : q_Sim 275 0 [(0, .inr (.inr (11, 0, 0))), (1, .inl x1), (2, .inl x2)] [] (q_V S) q_I (f_275 x1 x2 S) := by
  unfold f_275
  refine q_Sim.steps vc_275 2 (pc' := 2) (lv' := [(0, .inr (.inr (11, 0, 0))), (1, .inl x1), (2, .inl x2)]) (st' := [.inl x1, .inr (.inr (11, 0, 0))]) (V' := q_V S) rfl ?_
  refine q_Sim.call vc_275 (as := [.inr (.inr (11, 0, 0)), .inl x1]) (pc' := 5) (lv' := [(0, .inr (.inr (11, 0, 0))), (1, .inl x1), (2, .inl x2)]) (st' := []) (S := S) rfl (rc_198 x1) (s_198 x1 S) (fun r_1 S_2 => ?_)
  refine q_Sim.steps vc_275 2 (pc' := 7) (lv' := [(3, .inl r_1), (0, .inr (.inr (11, 0, 0))), (1, .inl x1), (2, .inl x2)]) (st' := [.inl r_1]) (V' := q_V S_2) rfl ?_
  refine q_Sim.br vc_275 (c := ¬ r_1 = 0) (t := 23) (f := 10) (lv' := [(3, .inl r_1), (0, .inr (.inr (11, 0, 0))), (1, .inl x1), (2, .inl x2)]) (st' := []) (V' := q_V S_2) rfl ?_ ?_
  · exact q_Sim.sub2 (lv' := [(0, .inr (.inr (11, 0, 0))), (1, .inl x1), (2, .inl x2), (3, .inl r_1)]) [0, 1, 2, 3] rfl (by decide) ⟨rfl, rfl, rfl, rfl, trivial⟩ (sb_275_23 x1 x2 r_1 S_2)
  · refine q_Sim.steps vc_275 3 (pc' := 14) (lv' := [(3, .inl r_1), (0, .inr (.inr (11, 0, 0))), (1, .inl x1), (2, .inl x2)]) (st' := [.inl 11, .inl 0, .inl x2]) (V' := q_V S_2) rfl ?_
    refine q_Sim.call vc_275 (as := [.inl x2, .inl 0, .inl 11]) (pc' := 17) (lv' := [(3, .inl r_1), (0, .inr (.inr (11, 0, 0))), (1, .inl x1), (2, .inl x2)]) (st' := []) (S := S_2) rfl (rc_189 x2 0 11) (s_189 x2 0 11 S_2) (fun r_34 S_35 => ?_)
    refine q_Sim.br vc_275 (c := ¬ r_34 = 0) (t := 23) (f := 20) (lv' := [(3, .inl r_1), (0, .inr (.inr (11, 0, 0))), (1, .inl x1), (2, .inl x2)]) (st' := []) (V' := q_V S_35) rfl ?_ ?_
    · exact q_Sim.sub2 (lv' := [(0, .inr (.inr (11, 0, 0))), (1, .inl x1), (2, .inl x2), (3, .inl r_1)]) [0, 1, 2, 3] rfl (by decide) ⟨rfl, rfl, rfl, rfl, trivial⟩ (sb_275_23 x1 x2 r_1 S_35)
    · refine q_Sim.steps vc_275 2 (pc' := 23) (lv' := [(3, .inl 6), (0, .inr (.inr (11, 0, 0))), (1, .inl x1), (2, .inl x2)]) (st' := []) (V' := q_V S_35) rfl ?_
      exact q_Sim.sub2 (lv' := [(0, .inr (.inr (11, 0, 0))), (1, .inl x1), (2, .inl x2), (3, .inl 6)]) [0, 1, 2, 3] rfl (by decide) ⟨rfl, rfl, rfl, rfl, trivial⟩ (sb_275_23 x1 x2 6 S_35)
