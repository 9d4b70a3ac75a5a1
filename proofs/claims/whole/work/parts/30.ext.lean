/-! ===== the code as functions, by program ===== -/
theorem vc_12 : v_code 12 = k_12 := rfl
theorem rc_12 (i1 : Nat) (j1 : Nat) : v_rcv 12 [.inr (.inr (1, 0, 0)), .inr (.inr (8, i1, j1))] = true := rfl
def f_12 (i1 : Nat) (j1 : Nat) (S : QS) : Option ((Int32) × QS) := q_ck (v_in 1 17) (q_let (S.1 (20, 0, 0) (1 : Int32).toNatClampNeg) (fun y_1 => q_ck (v_in 1 17) (q_let (q_set S (20, 0, 0) (1 : Int32).toNatClampNeg (y_1 + 1)) (fun S_2 => some (S_2.1 (8, i1, j1) 1, S_2)))))
theorem s_12 (i1 : Nat) (j1 : Nat) (S : QS) : q_Sim 12 0 [(0, .inr (.inr (1, 0, 0))), (1, .inr (.inr (8, i1, j1)))] [] (q_V S) q_I (f_12 i1 j1 S) := by
  unfold f_12
  refine q_Sim.steps vc_12 4 (pc' := 6) (lv' := [(0, .inr (.inr (1, 0, 0))), (1, .inr (.inr (8, i1, j1)))]) (st' := [.inl 1, .inr (.inr (20, 0, 0)), .inl 1, .inr (.inr (20, 0, 0))]) (V' := q_V S) rfl ?_
  refine q_Sim.ck vc_12 (c := v_in 1 17) (pc' := 7) (lv' := [(0, .inr (.inr (1, 0, 0))), (1, .inr (.inr (8, i1, j1)))]) (st' := [.inl (S.1 (20, 0, 0) (1 : Int32).toNatClampNeg), .inl 1, .inr (.inr (20, 0, 0))]) (V' := q_V S) rfl ?_
  refine q_Sim.letI (fun y_1 => ?_)
  refine q_Sim.steps vc_12 2 (pc' := 9) (lv' := [(0, .inr (.inr (1, 0, 0))), (1, .inr (.inr (8, i1, j1)))]) (st' := [.inl (y_1 + 1), .inl 1, .inr (.inr (20, 0, 0))]) (V' := q_V S) rfl ?_
  refine q_Sim.ck vc_12 (c := v_in 1 17) (pc' := 10) (lv' := [(0, .inr (.inr (1, 0, 0))), (1, .inr (.inr (8, i1, j1)))]) (st' := []) (V' := q_V (q_set S (20, 0, 0) (1 : Int32).toNatClampNeg (y_1 + 1))) rfl ?_
  refine q_Sim.letS (fun S_2 => ?_)
  refine q_Sim.steps vc_12 2 (pc' := 14) (lv' := [(0, .inr (.inr (1, 0, 0))), (1, .inr (.inr (8, i1, j1)))]) (st' := [.inl (S_2.1 (8, i1, j1) 1)]) (V' := q_V S_2) rfl ?_
  exact q_Sim.ret vc_12 rfl
theorem vc_19 : v_code 19 = k_19 := rfl
theorem rc_19 (i1 : Nat) (j1 : Nat) : v_rcv 19 [.inr (.inr (1, 0, 0)), .inr (.inr (8, i1, j1))] = true := rfl
def f_19 (i1 : Nat) (j1 : Nat) (S : QS) : Option ((Int32) × QS) := q_ck (v_in 8 17) (q_let (S.1 (20, 0, 0) (8 : Int32).toNatClampNeg) (fun y_1 => q_ck (v_in 8 17) (q_let (q_set S (20, 0, 0) (8 : Int32).toNatClampNeg (y_1 + 1)) (fun S_2 => q_bd (f_12 i1 j1 S_2) (fun r_3 S_4 => some ((-1) - r_3, S_4))))))
theorem s_19 (i1 : Nat) (j1 : Nat) (S : QS) : q_Sim 19 0 [(0, .inr (.inr (1, 0, 0))), (1, .inr (.inr (8, i1, j1)))] [] (q_V S) q_I (f_19 i1 j1 S) := by
  unfold f_19
  refine q_Sim.steps vc_19 4 (pc' := 7) (lv' := [(0, .inr (.inr (1, 0, 0))), (1, .inr (.inr (8, i1, j1)))]) (st' := [.inl 8, .inr (.inr (20, 0, 0)), .inl 8, .inr (.inr (20, 0, 0))]) (V' := q_V S) rfl ?_
  refine q_Sim.ck vc_19 (c := v_in 8 17) (pc' := 8) (lv' := [(0, .inr (.inr (1, 0, 0))), (1, .inr (.inr (8, i1, j1)))]) (st' := [.inl (S.1 (20, 0, 0) (8 : Int32).toNatClampNeg), .inl 8, .inr (.inr (20, 0, 0))]) (V' := q_V S) rfl ?_
  refine q_Sim.letI (fun y_1 => ?_)
  refine q_Sim.steps vc_19 2 (pc' := 10) (lv' := [(0, .inr (.inr (1, 0, 0))), (1, .inr (.inr (8, i1, j1)))]) (st' := [.inl (y_1 + 1), .inl 8, .inr (.inr (20, 0, 0))]) (V' := q_V S) rfl ?_
  refine q_Sim.ck vc_19 (c := v_in 8 17) (pc' := 11) (lv' := [(0, .inr (.inr (1, 0, 0))), (1, .inr (.inr (8, i1, j1)))]) (st' := []) (V' := q_V (q_set S (20, 0, 0) (8 : Int32).toNatClampNeg (y_1 + 1))) rfl ?_
  refine q_Sim.letS (fun S_2 => ?_)
  refine q_Sim.steps vc_19 3 (pc' := 14) (lv' := [(0, .inr (.inr (1, 0, 0))), (1, .inr (.inr (8, i1, j1)))]) (st' := [.inr (.inr (8, i1, j1)), .inr (.inr (1, 0, 0)), .inl (-1)]) (V' := q_V S_2) rfl ?_
  refine q_Sim.call vc_19 (as := [.inr (.inr (1, 0, 0)), .inr (.inr (8, i1, j1))]) (pc' := 17) (lv' := [(0, .inr (.inr (1, 0, 0))), (1, .inr (.inr (8, i1, j1)))]) (st' := [.inl (-1)]) (S := S_2) rfl (rc_12 i1 j1) (s_12 i1 j1 S_2) (fun r_3 S_4 => ?_)
  refine q_Sim.steps vc_19 1 (pc' := 18) (lv' := [(0, .inr (.inr (1, 0, 0))), (1, .inr (.inr (8, i1, j1)))]) (st' := [.inl ((-1) - r_3)]) (V' := q_V S_4) rfl ?_
  exact q_Sim.ret vc_19 rfl
theorem vc_22 : v_code 22 = k_22 := rfl
theorem rc_22 (i1 : Nat) (j1 : Nat) : v_rcv 22 [.inr (.inr (1, 0, 0)), .inr (.inr (8, i1, j1))] = true := rfl
def f_22 (i1 : Nat) (j1 : Nat) (S : QS) : Option ((Int32) × QS) := q_ck (v_in 11 17) (q_let (S.1 (20, 0, 0) (11 : Int32).toNatClampNeg) (fun y_1 => q_ck (v_in 11 17) (q_let (q_set S (20, 0, 0) (11 : Int32).toNatClampNeg (y_1 + 1)) (fun S_2 => q_bd (f_12 i1 j1 S_2) (fun r_3 S_4 => some (r_3 + 5000, S_4))))))
theorem s_22 (i1 : Nat) (j1 : Nat) (S : QS) : q_Sim 22 0 [(0, .inr (.inr (1, 0, 0))), (1, .inr (.inr (8, i1, j1)))] [] (q_V S) q_I (f_22 i1 j1 S) := by
  unfold f_22
  refine q_Sim.steps vc_22 4 (pc' := 7) (lv' := [(0, .inr (.inr (1, 0, 0))), (1, .inr (.inr (8, i1, j1)))]) (st' := [.inl 11, .inr (.inr (20, 0, 0)), .inl 11, .inr (.inr (20, 0, 0))]) (V' := q_V S) rfl ?_
  refine q_Sim.ck vc_22 (c := v_in 11 17) (pc' := 8) (lv' := [(0, .inr (.inr (1, 0, 0))), (1, .inr (.inr (8, i1, j1)))]) (st' := [.inl (S.1 (20, 0, 0) (11 : Int32).toNatClampNeg), .inl 11, .inr (.inr (20, 0, 0))]) (V' := q_V S) rfl ?_
  refine q_Sim.letI (fun y_1 => ?_)
  refine q_Sim.steps vc_22 2 (pc' := 10) (lv' := [(0, .inr (.inr (1, 0, 0))), (1, .inr (.inr (8, i1, j1)))]) (st' := [.inl (y_1 + 1), .inl 11, .inr (.inr (20, 0, 0))]) (V' := q_V S) rfl ?_
  refine q_Sim.ck vc_22 (c := v_in 11 17) (pc' := 11) (lv' := [(0, .inr (.inr (1, 0, 0))), (1, .inr (.inr (8, i1, j1)))]) (st' := []) (V' := q_V (q_set S (20, 0, 0) (11 : Int32).toNatClampNeg (y_1 + 1))) rfl ?_
  refine q_Sim.letS (fun S_2 => ?_)
  refine q_Sim.steps vc_22 2 (pc' := 13) (lv' := [(0, .inr (.inr (1, 0, 0))), (1, .inr (.inr (8, i1, j1)))]) (st' := [.inr (.inr (8, i1, j1)), .inr (.inr (1, 0, 0))]) (V' := q_V S_2) rfl ?_
  refine q_Sim.call vc_22 (as := [.inr (.inr (1, 0, 0)), .inr (.inr (8, i1, j1))]) (pc' := 16) (lv' := [(0, .inr (.inr (1, 0, 0))), (1, .inr (.inr (8, i1, j1)))]) (st' := []) (S := S_2) rfl (rc_12 i1 j1) (s_12 i1 j1 S_2) (fun r_3 S_4 => ?_)
  refine q_Sim.steps vc_22 2 (pc' := 20) (lv' := [(0, .inr (.inr (1, 0, 0))), (1, .inr (.inr (8, i1, j1)))]) (st' := [.inl (r_3 + 5000)]) (V' := q_V S_4) rfl ?_
  exact q_Sim.ret vc_22 rfl
theorem vc_14 : v_code 14 = k_14 := rfl
theorem rc_14 (i1 : Nat) (j1 : Nat) : v_rcv 14 [.inr (.inr (1, 0, 0)), .inr (.inr (8, i1, j1))] = true := rfl
def f_14 (i1 : Nat) (j1 : Nat) (S : QS) : Option ((Int32) × QS) := q_ck (v_in 3 17) (q_let (S.1 (20, 0, 0) (3 : Int32).toNatClampNeg) (fun y_1 => q_ck (v_in 3 17) (q_let (q_set S (20, 0, 0) (3 : Int32).toNatClampNeg (y_1 + 1)) (fun S_2 => q_bd (f_12 i1 j1 S_2) (fun r_3 S_4 => some (r_3 + 1000, S_4))))))
theorem s_14 (i1 : Nat) (j1 : Nat) (S : QS) : q_Sim 14 0 [(0, .inr (.inr (1, 0, 0))), (1, .inr (.inr (8, i1, j1)))] [] (q_V S) q_I (f_14 i1 j1 S) := by
  unfold f_14
  refine q_Sim.steps vc_14 4 (pc' := 6) (lv' := [(0, .inr (.inr (1, 0, 0))), (1, .inr (.inr (8, i1, j1)))]) (st' := [.inl 3, .inr (.inr (20, 0, 0)), .inl 3, .inr (.inr (20, 0, 0))]) (V' := q_V S) rfl ?_
  refine q_Sim.ck vc_14 (c := v_in 3 17) (pc' := 7) (lv' := [(0, .inr (.inr (1, 0, 0))), (1, .inr (.inr (8, i1, j1)))]) (st' := [.inl (S.1 (20, 0, 0) (3 : Int32).toNatClampNeg), .inl 3, .inr (.inr (20, 0, 0))]) (V' := q_V S) rfl ?_
  refine q_Sim.letI (fun y_1 => ?_)
  refine q_Sim.steps vc_14 2 (pc' := 9) (lv' := [(0, .inr (.inr (1, 0, 0))), (1, .inr (.inr (8, i1, j1)))]) (st' := [.inl (y_1 + 1), .inl 3, .inr (.inr (20, 0, 0))]) (V' := q_V S) rfl ?_
  refine q_Sim.ck vc_14 (c := v_in 3 17) (pc' := 10) (lv' := [(0, .inr (.inr (1, 0, 0))), (1, .inr (.inr (8, i1, j1)))]) (st' := []) (V' := q_V (q_set S (20, 0, 0) (3 : Int32).toNatClampNeg (y_1 + 1))) rfl ?_
  refine q_Sim.letS (fun S_2 => ?_)
  refine q_Sim.steps vc_14 2 (pc' := 12) (lv' := [(0, .inr (.inr (1, 0, 0))), (1, .inr (.inr (8, i1, j1)))]) (st' := [.inr (.inr (8, i1, j1)), .inr (.inr (1, 0, 0))]) (V' := q_V S_2) rfl ?_
  refine q_Sim.call vc_14 (as := [.inr (.inr (1, 0, 0)), .inr (.inr (8, i1, j1))]) (pc' := 15) (lv' := [(0, .inr (.inr (1, 0, 0))), (1, .inr (.inr (8, i1, j1)))]) (st' := []) (S := S_2) rfl (rc_12 i1 j1) (s_12 i1 j1 S_2) (fun r_3 S_4 => ?_)
  refine q_Sim.steps vc_14 2 (pc' := 19) (lv' := [(0, .inr (.inr (1, 0, 0))), (1, .inr (.inr (8, i1, j1)))]) (st' := [.inl (r_3 + 1000)]) (V' := q_V S_4) rfl ?_
  exact q_Sim.ret vc_14 rfl
theorem vc_3 : v_code 3 = k_3 := rfl
theorem rc_3 (i1 : Nat) (j1 : Nat) : v_rcv 3 [.inr (.inr (1, 0, 0)), .inr (.inr (8, i1, j1))] = true := rfl
def f_3 (i1 : Nat) (j1 : Nat) (S : QS) : Option ((Int32) × QS) := q_let (S.1 (8, i1, j1) 0) (fun y_1 => if y_1 = 3 then (q_bd (f_19 i1 j1 S) (fun r_3 S_4 => some (r_3, S_4))) else (if y_1 = 4 then (q_bd (f_12 i1 j1 S) (fun r_6 S_7 => some (r_6, S_7))) else (if y_1 = 5 then (q_bd (f_22 i1 j1 S) (fun r_9 S_10 => some (r_9, S_10))) else (q_bd (f_14 i1 j1 S) (fun r_11 S_12 => some (r_11, S_12))))))
theorem s_3 (i1 : Nat) (j1 : Nat) (S : QS) : q_Sim 3 0 [(0, .inr (.inr (1, 0, 0))), (1, .inr (.inr (8, i1, j1)))] [] (q_V S) q_I (f_3 i1 j1 S) := by
  unfold f_3
  refine q_Sim.steps vc_3 2 (pc' := 4) (lv' := [(0, .inr (.inr (1, 0, 0))), (1, .inr (.inr (8, i1, j1)))]) (st' := [.inl (S.1 (8, i1, j1) 0)]) (V' := q_V S) rfl ?_
  refine q_Sim.letI (fun y_1 => ?_)
  refine q_Sim.ite (c := y_1 = 3) (fun h_2 => q_Sim.sw vc_3 (lv' := [(0, .inr (.inr (1, 0, 0))), (1, .inr (.inr (8, i1, j1)))]) (st' := []) (V' := q_V S) rfl h_2 rfl (t := 32) rfl ?_) (fun h_2 => ?_)
  · refine q_Sim.steps vc_3 2 (pc' := 34) (lv' := [(0, .inr (.inr (1, 0, 0))), (1, .inr (.inr (8, i1, j1)))]) (st' := [.inr (.inr (8, i1, j1)), .inr (.inr (1, 0, 0))]) (V' := q_V S) rfl ?_
    refine q_Sim.call vc_3 (as := [.inr (.inr (1, 0, 0)), .inr (.inr (8, i1, j1))]) (pc' := 37) (lv' := [(0, .inr (.inr (1, 0, 0))), (1, .inr (.inr (8, i1, j1)))]) (st' := []) (S := S) rfl (rc_19 i1 j1) (s_19 i1 j1 S) (fun r_3 S_4 => ?_)
    exact q_Sim.ret vc_3 rfl
  refine q_Sim.ite (c := y_1 = 4) (fun h_5 => q_Sim.sw vc_3 (lv' := [(0, .inr (.inr (1, 0, 0))), (1, .inr (.inr (8, i1, j1)))]) (st' := []) (V' := q_V S) rfl h_5 rfl (t := 38) rfl ?_) (fun h_5 => ?_)
  · refine q_Sim.steps vc_3 2 (pc' := 40) (lv' := [(0, .inr (.inr (1, 0, 0))), (1, .inr (.inr (8, i1, j1)))]) (st' := [.inr (.inr (8, i1, j1)), .inr (.inr (1, 0, 0))]) (V' := q_V S) rfl ?_
    refine q_Sim.call vc_3 (as := [.inr (.inr (1, 0, 0)), .inr (.inr (8, i1, j1))]) (pc' := 43) (lv' := [(0, .inr (.inr (1, 0, 0))), (1, .inr (.inr (8, i1, j1)))]) (st' := []) (S := S) rfl (rc_12 i1 j1) (s_12 i1 j1 S) (fun r_6 S_7 => ?_)
    exact q_Sim.ret vc_3 rfl
  refine q_Sim.ite (c := y_1 = 5) (fun h_8 => q_Sim.sw vc_3 (lv' := [(0, .inr (.inr (1, 0, 0))), (1, .inr (.inr (8, i1, j1)))]) (st' := []) (V' := q_V S) rfl h_8 rfl (t := 44) rfl ?_) (fun h_8 => ?_)
  · refine q_Sim.steps vc_3 2 (pc' := 46) (lv' := [(0, .inr (.inr (1, 0, 0))), (1, .inr (.inr (8, i1, j1)))]) (st' := [.inr (.inr (8, i1, j1)), .inr (.inr (1, 0, 0))]) (V' := q_V S) rfl ?_
    refine q_Sim.call vc_3 (as := [.inr (.inr (1, 0, 0)), .inr (.inr (8, i1, j1))]) (pc' := 49) (lv' := [(0, .inr (.inr (1, 0, 0))), (1, .inr (.inr (8, i1, j1)))]) (st' := []) (S := S) rfl (rc_22 i1 j1) (s_22 i1 j1 S) (fun r_9 S_10 => ?_)
    exact q_Sim.ret vc_3 rfl
  refine q_Sim.swd vc_3 (lv' := [(0, .inr (.inr (1, 0, 0))), (1, .inr (.inr (8, i1, j1)))]) (st' := []) (V' := q_V S) rfl (fun k h1 h2 => ?_) (t := 50) rfl ?_
  · have h3 : k = 3 ∨ k = 4 ∨ k = 5 := by omega
    rcases h3 with rfl | rfl | rfl
    · exact q_ne h_2 rfl
    · exact q_ne h_5 rfl
    · exact q_ne h_8 rfl
  · refine q_Sim.steps vc_3 2 (pc' := 52) (lv' := [(0, .inr (.inr (1, 0, 0))), (1, .inr (.inr (8, i1, j1)))]) (st' := [.inr (.inr (8, i1, j1)), .inr (.inr (1, 0, 0))]) (V' := q_V S) rfl ?_
    refine q_Sim.call vc_3 (as := [.inr (.inr (1, 0, 0)), .inr (.inr (8, i1, j1))]) (pc' := 55) (lv' := [(0, .inr (.inr (1, 0, 0))), (1, .inr (.inr (8, i1, j1)))]) (st' := []) (S := S) rfl (rc_14 i1 j1) (s_14 i1 j1 S) (fun r_11 S_12 => ?_)
    exact q_Sim.ret vc_3 rfl
theorem vc_21 : v_code 21 = k_21 := rfl
theorem rc_21 (i1 : Nat) (j1 : Nat) : v_rcv 21 [.inr (.inr (1, 0, 0)), .inr (.inr (8, i1, j1))] = true := rfl
def f_21 (i1 : Nat) (j1 : Nat) (S : QS) : Option ((Int32) × QS) := q_ck (v_in 10 17) (q_let (S.1 (20, 0, 0) (10 : Int32).toNatClampNeg) (fun y_1 => q_ck (v_in 10 17) (q_let (q_set S (20, 0, 0) (10 : Int32).toNatClampNeg (y_1 + 1)) (fun S_2 => some (S_2.1 (8, i1, j1) 7, S_2)))))
theorem s_21 (i1 : Nat) (j1 : Nat) (S : QS) : q_Sim 21 0 [(0, .inr (.inr (1, 0, 0))), (1, .inr (.inr (8, i1, j1)))] [] (q_V S) q_I (f_21 i1 j1 S) := by
  unfold f_21
  refine q_Sim.steps vc_21 4 (pc' := 7) (lv' := [(0, .inr (.inr (1, 0, 0))), (1, .inr (.inr (8, i1, j1)))]) (st' := [.inl 10, .inr (.inr (20, 0, 0)), .inl 10, .inr (.inr (20, 0, 0))]) (V' := q_V S) rfl ?_
  refine q_Sim.ck vc_21 (c := v_in 10 17) (pc' := 8) (lv' := [(0, .inr (.inr (1, 0, 0))), (1, .inr (.inr (8, i1, j1)))]) (st' := [.inl (S.1 (20, 0, 0) (10 : Int32).toNatClampNeg), .inl 10, .inr (.inr (20, 0, 0))]) (V' := q_V S) rfl ?_
  refine q_Sim.letI (fun y_1 => ?_)
  refine q_Sim.steps vc_21 2 (pc' := 10) (lv' := [(0, .inr (.inr (1, 0, 0))), (1, .inr (.inr (8, i1, j1)))]) (st' := [.inl (y_1 + 1), .inl 10, .inr (.inr (20, 0, 0))]) (V' := q_V S) rfl ?_
  refine q_Sim.ck vc_21 (c := v_in 10 17) (pc' := 11) (lv' := [(0, .inr (.inr (1, 0, 0))), (1, .inr (.inr (8, i1, j1)))]) (st' := []) (V' := q_V (q_set S (20, 0, 0) (10 : Int32).toNatClampNeg (y_1 + 1))) rfl ?_
  refine q_Sim.letS (fun S_2 => ?_)
  refine q_Sim.steps vc_21 2 (pc' := 15) (lv' := [(0, .inr (.inr (1, 0, 0))), (1, .inr (.inr (8, i1, j1)))]) (st' := [.inl (S_2.1 (8, i1, j1) 7)]) (V' := q_V S_2) rfl ?_
  exact q_Sim.ret vc_21 rfl
theorem vc_23 : v_code 23 = k_23 := rfl
theorem rc_23 (i1 : Nat) (j1 : Nat) : v_rcv 23 [.inr (.inr (1, 0, 0)), .inr (.inr (8, i1, j1))] = true := rfl
def f_23 (i1 : Nat) (j1 : Nat) (S : QS) : Option ((Int32) × QS) := q_ck (v_in 12 17) (q_let (S.1 (20, 0, 0) (12 : Int32).toNatClampNeg) (fun y_1 => q_ck (v_in 12 17) (q_let (q_set S (20, 0, 0) (12 : Int32).toNatClampNeg (y_1 + 1)) (fun S_2 => q_bd (f_21 i1 j1 S_2) (fun r_3 S_4 => q_let (if 1000 < r_3 then 1000 else r_3) (fun y_5 => some (y_5, S_4)))))))
theorem s_23 (i1 : Nat) (j1 : Nat) (S : QS) : q_Sim 23 0 [(0, .inr (.inr (1, 0, 0))), (1, .inr (.inr (8, i1, j1)))] [] (q_V S) q_I (f_23 i1 j1 S) := by
  unfold f_23
  refine q_Sim.steps vc_23 4 (pc' := 7) (lv' := [(0, .inr (.inr (1, 0, 0))), (1, .inr (.inr (8, i1, j1)))]) (st' := [.inl 12, .inr (.inr (20, 0, 0)), .inl 12, .inr (.inr (20, 0, 0))]) (V' := q_V S) rfl ?_
  refine q_Sim.ck vc_23 (c := v_in 12 17) (pc' := 8) (lv' := [(0, .inr (.inr (1, 0, 0))), (1, .inr (.inr (8, i1, j1)))]) (st' := [.inl (S.1 (20, 0, 0) (12 : Int32).toNatClampNeg), .inl 12, .inr (.inr (20, 0, 0))]) (V' := q_V S) rfl ?_
  refine q_Sim.letI (fun y_1 => ?_)
  refine q_Sim.steps vc_23 2 (pc' := 10) (lv' := [(0, .inr (.inr (1, 0, 0))), (1, .inr (.inr (8, i1, j1)))]) (st' := [.inl (y_1 + 1), .inl 12, .inr (.inr (20, 0, 0))]) (V' := q_V S) rfl ?_
  refine q_Sim.ck vc_23 (c := v_in 12 17) (pc' := 11) (lv' := [(0, .inr (.inr (1, 0, 0))), (1, .inr (.inr (8, i1, j1)))]) (st' := []) (V' := q_V (q_set S (20, 0, 0) (12 : Int32).toNatClampNeg (y_1 + 1))) rfl ?_
  refine q_Sim.letS (fun S_2 => ?_)
  refine q_Sim.steps vc_23 2 (pc' := 13) (lv' := [(0, .inr (.inr (1, 0, 0))), (1, .inr (.inr (8, i1, j1)))]) (st' := [.inr (.inr (8, i1, j1)), .inr (.inr (1, 0, 0))]) (V' := q_V S_2) rfl ?_
  refine q_Sim.call vc_23 (as := [.inr (.inr (1, 0, 0)), .inr (.inr (8, i1, j1))]) (pc' := 16) (lv' := [(0, .inr (.inr (1, 0, 0))), (1, .inr (.inr (8, i1, j1)))]) (st' := []) (S := S_2) rfl (rc_21 i1 j1) (s_21 i1 j1 S_2) (fun r_3 S_4 => ?_)
  refine q_Sim.steps vc_23 2 (pc' := 22) (lv' := [(0, .inr (.inr (1, 0, 0))), (1, .inr (.inr (8, i1, j1)))]) (st' := [.inl (if 1000 < r_3 then 1000 else r_3)]) (V' := q_V S_4) rfl ?_
  refine q_Sim.letI (fun y_5 => ?_)
  exact q_Sim.ret vc_23 rfl
theorem vc_13 : v_code 13 = k_13 := rfl
theorem rc_13  : v_rcv 13 [.inr (.inr (1, 0, 0))] = true := rfl
def f_13  (S : QS) : Option ((Int32) × QS) := q_ck (v_in 2 17) (q_let (S.1 (20, 0, 0) (2 : Int32).toNatClampNeg) (fun y_1 => q_ck (v_in 2 17) (q_let (q_set S (20, 0, 0) (2 : Int32).toNatClampNeg (y_1 + 1)) (fun S_2 => some (0, S_2)))))
theorem s_13  (S : QS) : q_Sim 13 0 [(0, .inr (.inr (1, 0, 0)))] [] (q_V S) q_I (f_13  S) := by
  unfold f_13
  refine q_Sim.steps vc_13 4 (pc' := 6) (lv' := [(0, .inr (.inr (1, 0, 0)))]) (st' := [.inl 2, .inr (.inr (20, 0, 0)), .inl 2, .inr (.inr (20, 0, 0))]) (V' := q_V S) rfl ?_
  refine q_Sim.ck vc_13 (c := v_in 2 17) (pc' := 7) (lv' := [(0, .inr (.inr (1, 0, 0)))]) (st' := [.inl (S.1 (20, 0, 0) (2 : Int32).toNatClampNeg), .inl 2, .inr (.inr (20, 0, 0))]) (V' := q_V S) rfl ?_
  refine q_Sim.letI (fun y_1 => ?_)
  refine q_Sim.steps vc_13 2 (pc' := 9) (lv' := [(0, .inr (.inr (1, 0, 0)))]) (st' := [.inl (y_1 + 1), .inl 2, .inr (.inr (20, 0, 0))]) (V' := q_V S) rfl ?_
  refine q_Sim.ck vc_13 (c := v_in 2 17) (pc' := 10) (lv' := [(0, .inr (.inr (1, 0, 0)))]) (st' := []) (V' := q_V (q_set S (20, 0, 0) (2 : Int32).toNatClampNeg (y_1 + 1))) rfl ?_
  refine q_Sim.letS (fun S_2 => ?_)
  refine q_Sim.steps vc_13 1 (pc' := 11) (lv' := [(0, .inr (.inr (1, 0, 0)))]) (st' := [.inl 0]) (V' := q_V S_2) rfl ?_
  exact q_Sim.ret vc_13 rfl
theorem vc_4 : v_code 4 = k_4 := rfl
theorem rc_4 (i1 : Nat) (j1 : Nat) : v_rcv 4 [.inr (.inr (1, 0, 0)), .inr (.inr (8, i1, j1))] = true := rfl
def f_4 (i1 : Nat) (j1 : Nat) (S : QS) : Option ((Int32) × QS) := q_let (S.1 (8, i1, j1) 0) (fun y_1 => if y_1 = 4 then (q_bd (f_21 i1 j1 S) (fun r_3 S_4 => some (r_3, S_4))) else (if y_1 = 5 then (q_bd (f_23 i1 j1 S) (fun r_6 S_7 => some (r_6, S_7))) else (q_bd (f_13  S) (fun r_8 S_9 => some (r_8, S_9)))))
theorem s_4 (i1 : Nat) (j1 : Nat) (S : QS) : q_Sim 4 0 [(0, .inr (.inr (1, 0, 0))), (1, .inr (.inr (8, i1, j1)))] [] (q_V S) q_I (f_4 i1 j1 S) := by
  unfold f_4
  refine q_Sim.steps vc_4 2 (pc' := 4) (lv' := [(0, .inr (.inr (1, 0, 0))), (1, .inr (.inr (8, i1, j1)))]) (st' := [.inl (S.1 (8, i1, j1) 0)]) (V' := q_V S) rfl ?_
  refine q_Sim.letI (fun y_1 => ?_)
  refine q_Sim.ite (c := y_1 = 4) (fun h_2 => q_Sim.lk vc_4 (o := 28) (lv' := [(0, .inr (.inr (1, 0, 0))), (1, .inr (.inr (8, i1, j1)))]) (st' := []) (V' := q_V S) rfl (by subst h_2; rfl) (t := 32) rfl ?_) (fun h_2 => ?_)
  · refine q_Sim.steps vc_4 2 (pc' := 34) (lv' := [(0, .inr (.inr (1, 0, 0))), (1, .inr (.inr (8, i1, j1)))]) (st' := [.inr (.inr (8, i1, j1)), .inr (.inr (1, 0, 0))]) (V' := q_V S) rfl ?_
    refine q_Sim.call vc_4 (as := [.inr (.inr (1, 0, 0)), .inr (.inr (8, i1, j1))]) (pc' := 37) (lv' := [(0, .inr (.inr (1, 0, 0))), (1, .inr (.inr (8, i1, j1)))]) (st' := []) (S := S) rfl (rc_21 i1 j1) (s_21 i1 j1 S) (fun r_3 S_4 => ?_)
    exact q_Sim.ret vc_4 rfl
  refine q_Sim.ite (c := y_1 = 5) (fun h_5 => q_Sim.lk vc_4 (o := 34) (lv' := [(0, .inr (.inr (1, 0, 0))), (1, .inr (.inr (8, i1, j1)))]) (st' := []) (V' := q_V S) rfl (by subst h_5; rfl) (t := 38) rfl ?_) (fun h_5 => ?_)
  · refine q_Sim.steps vc_4 2 (pc' := 40) (lv' := [(0, .inr (.inr (1, 0, 0))), (1, .inr (.inr (8, i1, j1)))]) (st' := [.inr (.inr (8, i1, j1)), .inr (.inr (1, 0, 0))]) (V' := q_V S) rfl ?_
    refine q_Sim.call vc_4 (as := [.inr (.inr (1, 0, 0)), .inr (.inr (8, i1, j1))]) (pc' := 43) (lv' := [(0, .inr (.inr (1, 0, 0))), (1, .inr (.inr (8, i1, j1)))]) (st' := []) (S := S) rfl (rc_23 i1 j1) (s_23 i1 j1 S) (fun r_6 S_7 => ?_)
    exact q_Sim.ret vc_4 rfl
  refine q_Sim.lk vc_4 (o := 40) (lv' := [(0, .inr (.inr (1, 0, 0))), (1, .inr (.inr (8, i1, j1)))]) (st' := []) (V' := q_V S) rfl (by show v_look 40 y_1.toInt [(4, 28), (5, 34)] = 40; rw [v_look_no (q_ne (k := 4) h_2 rfl)]; rw [v_look_no (q_ne (k := 5) h_5 rfl)]; rfl) (t := 44) rfl ?_
  refine q_Sim.steps vc_4 1 (pc' := 45) (lv' := [(0, .inr (.inr (1, 0, 0))), (1, .inr (.inr (8, i1, j1)))]) (st' := [.inr (.inr (1, 0, 0))]) (V' := q_V S) rfl ?_
  refine q_Sim.call vc_4 (as := [.inr (.inr (1, 0, 0))]) (pc' := 48) (lv' := [(0, .inr (.inr (1, 0, 0))), (1, .inr (.inr (8, i1, j1)))]) (st' := []) (S := S) rfl (rc_13 ) (s_13  S) (fun r_8 S_9 => ?_)
  exact q_Sim.ret vc_4 rfl
theorem vc_15 : v_code 15 = k_15 := rfl
theorem rc_15  : v_rcv 15 [.inr (.inr (1, 0, 0))] = true := rfl
def f_15  (S : QS) : Option ((Int32) × QS) := q_ck (v_in 4 17) (q_let (S.1 (20, 0, 0) (4 : Int32).toNatClampNeg) (fun y_1 => q_ck (v_in 4 17) (q_let (q_set S (20, 0, 0) (4 : Int32).toNatClampNeg (y_1 + 1)) (fun S_2 => some (5, S_2)))))
theorem s_15  (S : QS) : q_Sim 15 0 [(0, .inr (.inr (1, 0, 0)))] [] (q_V S) q_I (f_15  S) := by
  unfold f_15
  refine q_Sim.steps vc_15 4 (pc' := 6) (lv' := [(0, .inr (.inr (1, 0, 0)))]) (st' := [.inl 4, .inr (.inr (20, 0, 0)), .inl 4, .inr (.inr (20, 0, 0))]) (V' := q_V S) rfl ?_
  refine q_Sim.ck vc_15 (c := v_in 4 17) (pc' := 7) (lv' := [(0, .inr (.inr (1, 0, 0)))]) (st' := [.inl (S.1 (20, 0, 0) (4 : Int32).toNatClampNeg), .inl 4, .inr (.inr (20, 0, 0))]) (V' := q_V S) rfl ?_
  refine q_Sim.letI (fun y_1 => ?_)
  refine q_Sim.steps vc_15 2 (pc' := 9) (lv' := [(0, .inr (.inr (1, 0, 0)))]) (st' := [.inl (y_1 + 1), .inl 4, .inr (.inr (20, 0, 0))]) (V' := q_V S) rfl ?_
  refine q_Sim.ck vc_15 (c := v_in 4 17) (pc' := 10) (lv' := [(0, .inr (.inr (1, 0, 0)))]) (st' := []) (V' := q_V (q_set S (20, 0, 0) (4 : Int32).toNatClampNeg (y_1 + 1))) rfl ?_
  refine q_Sim.letS (fun S_2 => ?_)
  refine q_Sim.steps vc_15 1 (pc' := 11) (lv' := [(0, .inr (.inr (1, 0, 0)))]) (st' := [.inl 5]) (V' := q_V S_2) rfl ?_
  exact q_Sim.ret vc_15 rfl
theorem vc_17 : v_code 17 = k_17 := rfl
theorem rc_17 (i1 : Nat) (j1 : Nat) : v_rcv 17 [.inr (.inr (1, 0, 0)), .inr (.inr (8, i1, j1))] = true := rfl
def f_17 (i1 : Nat) (j1 : Nat) (S : QS) : Option ((Int32) × QS) := q_ck (v_in 6 17) (q_let (S.1 (20, 0, 0) (6 : Int32).toNatClampNeg) (fun y_1 => q_ck (v_in 6 17) (q_let (q_set S (20, 0, 0) (6 : Int32).toNatClampNeg (y_1 + 1)) (fun S_2 => if 30 < (S_2.1 (8, i1, j1) 1) then (q_bd (f_15  S_2) (fun r_3 S_4 => some (-r_3, S_4))) else (some (0, S_2))))))
theorem s_17 (i1 : Nat) (j1 : Nat) (S : QS) : q_Sim 17 0 [(0, .inr (.inr (1, 0, 0))), (1, .inr (.inr (8, i1, j1)))] [] (q_V S) q_I (f_17 i1 j1 S) := by
  unfold f_17
  refine q_Sim.steps vc_17 4 (pc' := 7) (lv' := [(0, .inr (.inr (1, 0, 0))), (1, .inr (.inr (8, i1, j1)))]) (st' := [.inl 6, .inr (.inr (20, 0, 0)), .inl 6, .inr (.inr (20, 0, 0))]) (V' := q_V S) rfl ?_
  refine q_Sim.ck vc_17 (c := v_in 6 17) (pc' := 8) (lv' := [(0, .inr (.inr (1, 0, 0))), (1, .inr (.inr (8, i1, j1)))]) (st' := [.inl (S.1 (20, 0, 0) (6 : Int32).toNatClampNeg), .inl 6, .inr (.inr (20, 0, 0))]) (V' := q_V S) rfl ?_
  refine q_Sim.letI (fun y_1 => ?_)
  refine q_Sim.steps vc_17 2 (pc' := 10) (lv' := [(0, .inr (.inr (1, 0, 0))), (1, .inr (.inr (8, i1, j1)))]) (st' := [.inl (y_1 + 1), .inl 6, .inr (.inr (20, 0, 0))]) (V' := q_V S) rfl ?_
  refine q_Sim.ck vc_17 (c := v_in 6 17) (pc' := 11) (lv' := [(0, .inr (.inr (1, 0, 0))), (1, .inr (.inr (8, i1, j1)))]) (st' := []) (V' := q_V (q_set S (20, 0, 0) (6 : Int32).toNatClampNeg (y_1 + 1))) rfl ?_
  refine q_Sim.letS (fun S_2 => ?_)
  refine q_Sim.steps vc_17 3 (pc' := 17) (lv' := [(0, .inr (.inr (1, 0, 0))), (1, .inr (.inr (8, i1, j1)))]) (st' := [.inl 30, .inl (S_2.1 (8, i1, j1) 1)]) (V' := q_V S_2) rfl ?_
  refine q_Sim.br vc_17 (c := 30 < (S_2.1 (8, i1, j1) 1)) (t := 24) (f := 20) (lv' := [(0, .inr (.inr (1, 0, 0))), (1, .inr (.inr (8, i1, j1)))]) (st' := []) (V' := q_V S_2) rfl ?_ ?_
  · refine q_Sim.steps vc_17 1 (pc' := 25) (lv' := [(0, .inr (.inr (1, 0, 0))), (1, .inr (.inr (8, i1, j1)))]) (st' := [.inr (.inr (1, 0, 0))]) (V' := q_V S_2) rfl ?_
    refine q_Sim.call vc_17 (as := [.inr (.inr (1, 0, 0))]) (pc' := 28) (lv' := [(0, .inr (.inr (1, 0, 0))), (1, .inr (.inr (8, i1, j1)))]) (st' := []) (S := S_2) rfl (rc_15 ) (s_15  S_2) (fun r_3 S_4 => ?_)
    refine q_Sim.steps vc_17 1 (pc' := 29) (lv' := [(0, .inr (.inr (1, 0, 0))), (1, .inr (.inr (8, i1, j1)))]) (st' := [.inl (-r_3)]) (V' := q_V S_4) rfl ?_
    exact q_Sim.ret vc_17 rfl
  · refine q_Sim.steps vc_17 2 (pc' := 29) (lv' := [(0, .inr (.inr (1, 0, 0))), (1, .inr (.inr (8, i1, j1)))]) (st' := [.inl 0]) (V' := q_V S_2) rfl ?_
    exact q_Sim.ret vc_17 rfl
theorem vc_18 : v_code 18 = k_18 := rfl
theorem rc_18 (i1 : Nat) (j1 : Nat) : v_rcv 18 [.inr (.inr (1, 0, 0)), .inr (.inr (8, i1, j1))] = true := rfl
def f_18 (i1 : Nat) (j1 : Nat) (S : QS) : Option ((Int32) × QS) := q_ck (v_in 7 17) (q_let (S.1 (20, 0, 0) (7 : Int32).toNatClampNeg) (fun y_1 => q_ck (v_in 7 17) (q_let (q_set S (20, 0, 0) (7 : Int32).toNatClampNeg (y_1 + 1)) (fun S_2 => q_bd (f_15  S_2) (fun r_3 S_4 => q_let (if 0 < ((r_3 + (S_4.1 (8, i1, j1) 5)) - ((S_4.1 (8, i1, j1) 1) / 100)) then ((r_3 + (S_4.1 (8, i1, j1) 5)) - ((S_4.1 (8, i1, j1) 1) / 100)) else 0) (fun y_5 => some (y_5, S_4)))))))
theorem s_18 (i1 : Nat) (j1 : Nat) (S : QS) : q_Sim 18 0 [(0, .inr (.inr (1, 0, 0))), (1, .inr (.inr (8, i1, j1)))] [] (q_V S) q_I (f_18 i1 j1 S) := by
  unfold f_18
  refine q_Sim.steps vc_18 4 (pc' := 7) (lv' := [(0, .inr (.inr (1, 0, 0))), (1, .inr (.inr (8, i1, j1)))]) (st' := [.inl 7, .inr (.inr (20, 0, 0)), .inl 7, .inr (.inr (20, 0, 0))]) (V' := q_V S) rfl ?_
  refine q_Sim.ck vc_18 (c := v_in 7 17) (pc' := 8) (lv' := [(0, .inr (.inr (1, 0, 0))), (1, .inr (.inr (8, i1, j1)))]) (st' := [.inl (S.1 (20, 0, 0) (7 : Int32).toNatClampNeg), .inl 7, .inr (.inr (20, 0, 0))]) (V' := q_V S) rfl ?_
  refine q_Sim.letI (fun y_1 => ?_)
  refine q_Sim.steps vc_18 2 (pc' := 10) (lv' := [(0, .inr (.inr (1, 0, 0))), (1, .inr (.inr (8, i1, j1)))]) (st' := [.inl (y_1 + 1), .inl 7, .inr (.inr (20, 0, 0))]) (V' := q_V S) rfl ?_
  refine q_Sim.ck vc_18 (c := v_in 7 17) (pc' := 11) (lv' := [(0, .inr (.inr (1, 0, 0))), (1, .inr (.inr (8, i1, j1)))]) (st' := []) (V' := q_V (q_set S (20, 0, 0) (7 : Int32).toNatClampNeg (y_1 + 1))) rfl ?_
  refine q_Sim.letS (fun S_2 => ?_)
  refine q_Sim.steps vc_18 2 (pc' := 13) (lv' := [(0, .inr (.inr (1, 0, 0))), (1, .inr (.inr (8, i1, j1)))]) (st' := [.inr (.inr (1, 0, 0)), .inl 0]) (V' := q_V S_2) rfl ?_
  refine q_Sim.call vc_18 (as := [.inr (.inr (1, 0, 0))]) (pc' := 16) (lv' := [(0, .inr (.inr (1, 0, 0))), (1, .inr (.inr (8, i1, j1)))]) (st' := [.inl 0]) (S := S_2) rfl (rc_15 ) (s_15  S_2) (fun r_3 S_4 => ?_)
  refine q_Sim.steps vc_18 6 (pc' := 27) (lv' := [(0, .inr (.inr (1, 0, 0))), (1, .inr (.inr (8, i1, j1)))]) (st' := [.inl 100, .inl (S_4.1 (8, i1, j1) 1), .inl (r_3 + (S_4.1 (8, i1, j1) 5)), .inl 0]) (V' := q_V S_4) rfl ?_
  refine q_Sim.okd vc_18 (c := decide (¬ (100 : Int32) = 0)) (pc' := 28) (lv' := [(0, .inr (.inr (1, 0, 0))), (1, .inr (.inr (8, i1, j1)))]) (st' := [.inl ((S_4.1 (8, i1, j1) 1) / 100), .inl (r_3 + (S_4.1 (8, i1, j1) 5)), .inl 0]) (V' := q_V S_4) rfl (by decide) ?_
  refine q_Sim.steps vc_18 2 (pc' := 32) (lv' := [(0, .inr (.inr (1, 0, 0))), (1, .inr (.inr (8, i1, j1)))]) (st' := [.inl (if 0 < ((r_3 + (S_4.1 (8, i1, j1) 5)) - ((S_4.1 (8, i1, j1) 1) / 100)) then ((r_3 + (S_4.1 (8, i1, j1) 5)) - ((S_4.1 (8, i1, j1) 1) / 100)) else 0)]) (V' := q_V S_4) rfl ?_
  refine q_Sim.letI (fun y_5 => ?_)
  exact q_Sim.ret vc_18 rfl
theorem vc_5 : v_code 5 = k_5 := rfl
theorem rc_5 (i1 : Nat) (j1 : Nat) : v_rcv 5 [.inr (.inr (1, 0, 0)), .inr (.inr (8, i1, j1))] = true := rfl
def f_5 (i1 : Nat) (j1 : Nat) (S : QS) : Option ((Int32) × QS) := q_let (S.1 (8, i1, j1) 0) (fun y_1 => if y_1 = 1 then (q_bd (f_17 i1 j1 S) (fun r_3 S_4 => some (r_3, S_4))) else (if y_1 = 2 then (q_bd (f_18 i1 j1 S) (fun r_6 S_7 => some (r_6, S_7))) else (q_bd (f_15  S) (fun r_8 S_9 => some (r_8, S_9)))))
theorem s_5 (i1 : Nat) (j1 : Nat) (S : QS) : q_Sim 5 0 [(0, .inr (.inr (1, 0, 0))), (1, .inr (.inr (8, i1, j1)))] [] (q_V S) q_I (f_5 i1 j1 S) := by
  unfold f_5
  refine q_Sim.steps vc_5 2 (pc' := 4) (lv' := [(0, .inr (.inr (1, 0, 0))), (1, .inr (.inr (8, i1, j1)))]) (st' := [.inl (S.1 (8, i1, j1) 0)]) (V' := q_V S) rfl ?_
  refine q_Sim.letI (fun y_1 => ?_)
  refine q_Sim.ite (c := y_1 = 1) (fun h_2 => q_Sim.lk vc_5 (o := 28) (lv' := [(0, .inr (.inr (1, 0, 0))), (1, .inr (.inr (8, i1, j1)))]) (st' := []) (V' := q_V S) rfl (by subst h_2; rfl) (t := 32) rfl ?_) (fun h_2 => ?_)
  · refine q_Sim.steps vc_5 2 (pc' := 34) (lv' := [(0, .inr (.inr (1, 0, 0))), (1, .inr (.inr (8, i1, j1)))]) (st' := [.inr (.inr (8, i1, j1)), .inr (.inr (1, 0, 0))]) (V' := q_V S) rfl ?_
    refine q_Sim.call vc_5 (as := [.inr (.inr (1, 0, 0)), .inr (.inr (8, i1, j1))]) (pc' := 37) (lv' := [(0, .inr (.inr (1, 0, 0))), (1, .inr (.inr (8, i1, j1)))]) (st' := []) (S := S) rfl (rc_17 i1 j1) (s_17 i1 j1 S) (fun r_3 S_4 => ?_)
    exact q_Sim.ret vc_5 rfl
  refine q_Sim.ite (c := y_1 = 2) (fun h_5 => q_Sim.lk vc_5 (o := 34) (lv' := [(0, .inr (.inr (1, 0, 0))), (1, .inr (.inr (8, i1, j1)))]) (st' := []) (V' := q_V S) rfl (by subst h_5; rfl) (t := 38) rfl ?_) (fun h_5 => ?_)
  · refine q_Sim.steps vc_5 2 (pc' := 40) (lv' := [(0, .inr (.inr (1, 0, 0))), (1, .inr (.inr (8, i1, j1)))]) (st' := [.inr (.inr (8, i1, j1)), .inr (.inr (1, 0, 0))]) (V' := q_V S) rfl ?_
    refine q_Sim.call vc_5 (as := [.inr (.inr (1, 0, 0)), .inr (.inr (8, i1, j1))]) (pc' := 43) (lv' := [(0, .inr (.inr (1, 0, 0))), (1, .inr (.inr (8, i1, j1)))]) (st' := []) (S := S) rfl (rc_18 i1 j1) (s_18 i1 j1 S) (fun r_6 S_7 => ?_)
    exact q_Sim.ret vc_5 rfl
  refine q_Sim.lk vc_5 (o := 40) (lv' := [(0, .inr (.inr (1, 0, 0))), (1, .inr (.inr (8, i1, j1)))]) (st' := []) (V' := q_V S) rfl (by show v_look 40 y_1.toInt [(1, 28), (2, 34)] = 40; rw [v_look_no (q_ne (k := 1) h_2 rfl)]; rw [v_look_no (q_ne (k := 2) h_5 rfl)]; rfl) (t := 44) rfl ?_
  refine q_Sim.steps vc_5 1 (pc' := 45) (lv' := [(0, .inr (.inr (1, 0, 0))), (1, .inr (.inr (8, i1, j1)))]) (st' := [.inr (.inr (1, 0, 0))]) (V' := q_V S) rfl ?_
  refine q_Sim.call vc_5 (as := [.inr (.inr (1, 0, 0))]) (pc' := 48) (lv' := [(0, .inr (.inr (1, 0, 0))), (1, .inr (.inr (8, i1, j1)))]) (st' := []) (S := S) rfl (rc_15 ) (s_15  S) (fun r_8 S_9 => ?_)
  exact q_Sim.ret vc_5 rfl
theorem vc_8 : v_code 8 = k_8 := rfl
theorem rc_8 (i1 : Nat) (j1 : Nat) : v_rcv 8 [.inr (.inr (1, 0, 0)), .inr (.inr (8, i1, j1))] = true := rfl
def f_8 (i1 : Nat) (j1 : Nat) (S : QS) : Option ((Int32) × QS) := q_ck (v_in 14 17) (q_let (S.1 (20, 0, 0) (14 : Int32).toNatClampNeg) (fun y_1 => q_ck (v_in 14 17) (q_let (q_set S (20, 0, 0) (14 : Int32).toNatClampNeg (y_1 + 1)) (fun S_2 => q_bd (f_3 i1 j1 S_2) (fun r_3 S_4 => if r_3 ≤ 1100 then (some (0, S_4)) else (some (1, S_4)))))))
theorem s_8 (i1 : Nat) (j1 : Nat) (S : QS) : q_Sim 8 0 [(0, .inr (.inr (1, 0, 0))), (1, .inr (.inr (8, i1, j1)))] [] (q_V S) q_I (f_8 i1 j1 S) := by
  unfold f_8
  refine q_Sim.steps vc_8 4 (pc' := 7) (lv' := [(0, .inr (.inr (1, 0, 0))), (1, .inr (.inr (8, i1, j1)))]) (st' := [.inl 14, .inr (.inr (20, 0, 0)), .inl 14, .inr (.inr (20, 0, 0))]) (V' := q_V S) rfl ?_
  refine q_Sim.ck vc_8 (c := v_in 14 17) (pc' := 8) (lv' := [(0, .inr (.inr (1, 0, 0))), (1, .inr (.inr (8, i1, j1)))]) (st' := [.inl (S.1 (20, 0, 0) (14 : Int32).toNatClampNeg), .inl 14, .inr (.inr (20, 0, 0))]) (V' := q_V S) rfl ?_
  refine q_Sim.letI (fun y_1 => ?_)
  refine q_Sim.steps vc_8 2 (pc' := 10) (lv' := [(0, .inr (.inr (1, 0, 0))), (1, .inr (.inr (8, i1, j1)))]) (st' := [.inl (y_1 + 1), .inl 14, .inr (.inr (20, 0, 0))]) (V' := q_V S) rfl ?_
  refine q_Sim.ck vc_8 (c := v_in 14 17) (pc' := 11) (lv' := [(0, .inr (.inr (1, 0, 0))), (1, .inr (.inr (8, i1, j1)))]) (st' := []) (V' := q_V (q_set S (20, 0, 0) (14 : Int32).toNatClampNeg (y_1 + 1))) rfl ?_
  refine q_Sim.letS (fun S_2 => ?_)
  refine q_Sim.steps vc_8 2 (pc' := 13) (lv' := [(0, .inr (.inr (1, 0, 0))), (1, .inr (.inr (8, i1, j1)))]) (st' := [.inr (.inr (8, i1, j1)), .inr (.inr (1, 0, 0))]) (V' := q_V S_2) rfl ?_
  refine q_Sim.call vc_8 (as := [.inr (.inr (1, 0, 0)), .inr (.inr (8, i1, j1))]) (pc' := 16) (lv' := [(0, .inr (.inr (1, 0, 0))), (1, .inr (.inr (8, i1, j1)))]) (st' := []) (S := S_2) rfl (rc_3 i1 j1) (s_3 i1 j1 S_2) (fun r_3 S_4 => ?_)
  refine q_Sim.steps vc_8 1 (pc' := 19) (lv' := [(0, .inr (.inr (1, 0, 0))), (1, .inr (.inr (8, i1, j1)))]) (st' := [.inl 1100, .inl r_3]) (V' := q_V S_4) rfl ?_
  refine q_Sim.br vc_8 (c := r_3 ≤ 1100) (t := 26) (f := 22) (lv' := [(0, .inr (.inr (1, 0, 0))), (1, .inr (.inr (8, i1, j1)))]) (st' := []) (V' := q_V S_4) rfl ?_ ?_
  · refine q_Sim.steps vc_8 1 (pc' := 27) (lv' := [(0, .inr (.inr (1, 0, 0))), (1, .inr (.inr (8, i1, j1)))]) (st' := [.inl 0]) (V' := q_V S_4) rfl ?_
    exact q_Sim.ret vc_8 rfl
  · refine q_Sim.steps vc_8 2 (pc' := 27) (lv' := [(0, .inr (.inr (1, 0, 0))), (1, .inr (.inr (8, i1, j1)))]) (st' := [.inl 1]) (V' := q_V S_4) rfl ?_
    exact q_Sim.ret vc_8 rfl
theorem vc_9 : v_code 9 = k_9 := rfl
theorem rc_9 (i1 : Nat) (j1 : Nat) : v_rcv 9 [.inr (.inr (1, 0, 0)), .inr (.inr (8, i1, j1))] = true := rfl
def f_9 (i1 : Nat) (j1 : Nat) (S : QS) : Option ((Int32) × QS) := q_ck (v_in 15 17) (q_let (S.1 (20, 0, 0) (15 : Int32).toNatClampNeg) (fun y_1 => q_ck (v_in 15 17) (q_let (q_set S (20, 0, 0) (15 : Int32).toNatClampNeg (y_1 + 1)) (fun S_2 => q_bd (f_4 i1 j1 S_2) (fun r_3 S_4 => if r_3 ≤ 0 then (some (0, S_4)) else (some (1, S_4)))))))
theorem s_9 (i1 : Nat) (j1 : Nat) (S : QS) : q_Sim 9 0 [(0, .inr (.inr (1, 0, 0))), (1, .inr (.inr (8, i1, j1)))] [] (q_V S) q_I (f_9 i1 j1 S) := by
  unfold f_9
  refine q_Sim.steps vc_9 4 (pc' := 7) (lv' := [(0, .inr (.inr (1, 0, 0))), (1, .inr (.inr (8, i1, j1)))]) (st' := [.inl 15, .inr (.inr (20, 0, 0)), .inl 15, .inr (.inr (20, 0, 0))]) (V' := q_V S) rfl ?_
  refine q_Sim.ck vc_9 (c := v_in 15 17) (pc' := 8) (lv' := [(0, .inr (.inr (1, 0, 0))), (1, .inr (.inr (8, i1, j1)))]) (st' := [.inl (S.1 (20, 0, 0) (15 : Int32).toNatClampNeg), .inl 15, .inr (.inr (20, 0, 0))]) (V' := q_V S) rfl ?_
  refine q_Sim.letI (fun y_1 => ?_)
  refine q_Sim.steps vc_9 2 (pc' := 10) (lv' := [(0, .inr (.inr (1, 0, 0))), (1, .inr (.inr (8, i1, j1)))]) (st' := [.inl (y_1 + 1), .inl 15, .inr (.inr (20, 0, 0))]) (V' := q_V S) rfl ?_
  refine q_Sim.ck vc_9 (c := v_in 15 17) (pc' := 11) (lv' := [(0, .inr (.inr (1, 0, 0))), (1, .inr (.inr (8, i1, j1)))]) (st' := []) (V' := q_V (q_set S (20, 0, 0) (15 : Int32).toNatClampNeg (y_1 + 1))) rfl ?_
  refine q_Sim.letS (fun S_2 => ?_)
  refine q_Sim.steps vc_9 2 (pc' := 13) (lv' := [(0, .inr (.inr (1, 0, 0))), (1, .inr (.inr (8, i1, j1)))]) (st' := [.inr (.inr (8, i1, j1)), .inr (.inr (1, 0, 0))]) (V' := q_V S_2) rfl ?_
  refine q_Sim.call vc_9 (as := [.inr (.inr (1, 0, 0)), .inr (.inr (8, i1, j1))]) (pc' := 16) (lv' := [(0, .inr (.inr (1, 0, 0))), (1, .inr (.inr (8, i1, j1)))]) (st' := []) (S := S_2) rfl (rc_4 i1 j1) (s_4 i1 j1 S_2) (fun r_3 S_4 => ?_)
  refine q_Sim.br vc_9 (c := r_3 ≤ 0) (t := 23) (f := 19) (lv' := [(0, .inr (.inr (1, 0, 0))), (1, .inr (.inr (8, i1, j1)))]) (st' := []) (V' := q_V S_4) rfl ?_ ?_
  · refine q_Sim.steps vc_9 1 (pc' := 24) (lv' := [(0, .inr (.inr (1, 0, 0))), (1, .inr (.inr (8, i1, j1)))]) (st' := [.inl 0]) (V' := q_V S_4) rfl ?_
    exact q_Sim.ret vc_9 rfl
  · refine q_Sim.steps vc_9 2 (pc' := 24) (lv' := [(0, .inr (.inr (1, 0, 0))), (1, .inr (.inr (8, i1, j1)))]) (st' := [.inl 1]) (V' := q_V S_4) rfl ?_
    exact q_Sim.ret vc_9 rfl
theorem vc_7 : v_code 7 = k_7 := rfl
theorem rc_7 (i1 : Nat) (j1 : Nat) : v_rcv 7 [.inr (.inr (1, 0, 0)), .inr (.inr (8, i1, j1))] = true := rfl
def f_7 (i1 : Nat) (j1 : Nat) (S : QS) : Option ((Int32) × QS) := q_ck (v_in 13 17) (q_let (S.1 (20, 0, 0) (13 : Int32).toNatClampNeg) (fun y_1 => q_ck (v_in 13 17) (q_let (q_set S (20, 0, 0) (13 : Int32).toNatClampNeg (y_1 + 1)) (fun S_2 => q_bd (f_5 i1 j1 S_2) (fun r_3 S_4 => if r_3 = 0 then (some (0, S_4)) else (some (1, S_4)))))))
theorem s_7 (i1 : Nat) (j1 : Nat) (S : QS) : q_Sim 7 0 [(0, .inr (.inr (1, 0, 0))), (1, .inr (.inr (8, i1, j1)))] [] (q_V S) q_I (f_7 i1 j1 S) := by
  unfold f_7
  refine q_Sim.steps vc_7 4 (pc' := 7) (lv' := [(0, .inr (.inr (1, 0, 0))), (1, .inr (.inr (8, i1, j1)))]) (st' := [.inl 13, .inr (.inr (20, 0, 0)), .inl 13, .inr (.inr (20, 0, 0))]) (V' := q_V S) rfl ?_
  refine q_Sim.ck vc_7 (c := v_in 13 17) (pc' := 8) (lv' := [(0, .inr (.inr (1, 0, 0))), (1, .inr (.inr (8, i1, j1)))]) (st' := [.inl (S.1 (20, 0, 0) (13 : Int32).toNatClampNeg), .inl 13, .inr (.inr (20, 0, 0))]) (V' := q_V S) rfl ?_
  refine q_Sim.letI (fun y_1 => ?_)
  refine q_Sim.steps vc_7 2 (pc' := 10) (lv' := [(0, .inr (.inr (1, 0, 0))), (1, .inr (.inr (8, i1, j1)))]) (st' := [.inl (y_1 + 1), .inl 13, .inr (.inr (20, 0, 0))]) (V' := q_V S) rfl ?_
  refine q_Sim.ck vc_7 (c := v_in 13 17) (pc' := 11) (lv' := [(0, .inr (.inr (1, 0, 0))), (1, .inr (.inr (8, i1, j1)))]) (st' := []) (V' := q_V (q_set S (20, 0, 0) (13 : Int32).toNatClampNeg (y_1 + 1))) rfl ?_
  refine q_Sim.letS (fun S_2 => ?_)
  refine q_Sim.steps vc_7 2 (pc' := 13) (lv' := [(0, .inr (.inr (1, 0, 0))), (1, .inr (.inr (8, i1, j1)))]) (st' := [.inr (.inr (8, i1, j1)), .inr (.inr (1, 0, 0))]) (V' := q_V S_2) rfl ?_
  refine q_Sim.call vc_7 (as := [.inr (.inr (1, 0, 0)), .inr (.inr (8, i1, j1))]) (pc' := 16) (lv' := [(0, .inr (.inr (1, 0, 0))), (1, .inr (.inr (8, i1, j1)))]) (st' := []) (S := S_2) rfl (rc_5 i1 j1) (s_5 i1 j1 S_2) (fun r_3 S_4 => ?_)
  refine q_Sim.br vc_7 (c := r_3 = 0) (t := 23) (f := 19) (lv' := [(0, .inr (.inr (1, 0, 0))), (1, .inr (.inr (8, i1, j1)))]) (st' := []) (V' := q_V S_4) rfl ?_ ?_
  · refine q_Sim.steps vc_7 1 (pc' := 24) (lv' := [(0, .inr (.inr (1, 0, 0))), (1, .inr (.inr (8, i1, j1)))]) (st' := [.inl 0]) (V' := q_V S_4) rfl ?_
    exact q_Sim.ret vc_7 rfl
  · refine q_Sim.steps vc_7 2 (pc' := 24) (lv' := [(0, .inr (.inr (1, 0, 0))), (1, .inr (.inr (8, i1, j1)))]) (st' := [.inl 1]) (V' := q_V S_4) rfl ?_
    exact q_Sim.ret vc_7 rfl
theorem vc_2 : v_code 2 = k_2 := rfl
theorem rc_2 (i1 : Nat) (j1 : Nat) (x2 : Int32) : v_rcv 2 [.inr (.inr (1, 0, 0)), .inr (.inr (8, i1, j1)), .inl x2] = true := rfl
def f_2 (i1 : Nat) (j1 : Nat) (x2 : Int32) (S : QS) : Option ((Int32) × QS) := if x2 = 2 then (q_bd (f_3 i1 j1 S) (fun r_2 S_3 => some (r_2, S_3))) else (if x2 = 3 then (q_bd (f_4 i1 j1 S) (fun r_5 S_6 => some (r_5, S_6))) else (if x2 = 4 then (q_bd (f_5 i1 j1 S) (fun r_8 S_9 => some (r_8, S_9))) else (if x2 = 5 then (q_bd (f_8 i1 j1 S) (fun r_11 S_12 => if r_11 = 0 then (some (0, S_12)) else (some (1, S_12)))) else (if x2 = 6 then (q_bd (f_9 i1 j1 S) (fun r_14 S_15 => if r_14 = 0 then (some (0, S_15)) else (some (1, S_15)))) else (q_bd (f_7 i1 j1 S) (fun r_16 S_17 => if r_16 = 0 then (some (0, S_17)) else (some (1, S_17))))))))
theorem s_2 (i1 : Nat) (j1 : Nat) (x2 : Int32) (S : QS) : q_Sim 2 0 [(0, .inr (.inr (1, 0, 0))), (1, .inr (.inr (8, i1, j1))), (2, .inl x2)] [] (q_V S) q_I (f_2 i1 j1 x2 S) := by
  unfold f_2
  refine q_Sim.steps vc_2 1 (pc' := 1) (lv' := [(0, .inr (.inr (1, 0, 0))), (1, .inr (.inr (8, i1, j1))), (2, .inl x2)]) (st' := [.inl x2]) (V' := q_V S) rfl ?_
  refine q_Sim.ite (c := x2 = 2) (fun h_1 => q_Sim.sw vc_2 (lv' := [(0, .inr (.inr (1, 0, 0))), (1, .inr (.inr (8, i1, j1))), (2, .inl x2)]) (st' := []) (V' := q_V S) rfl h_1 rfl (t := 36) rfl ?_) (fun h_1 => ?_)
  · refine q_Sim.steps vc_2 2 (pc' := 38) (lv' := [(0, .inr (.inr (1, 0, 0))), (1, .inr (.inr (8, i1, j1))), (2, .inl x2)]) (st' := [.inr (.inr (8, i1, j1)), .inr (.inr (1, 0, 0))]) (V' := q_V S) rfl ?_
    refine q_Sim.call vc_2 (as := [.inr (.inr (1, 0, 0)), .inr (.inr (8, i1, j1))]) (pc' := 41) (lv' := [(0, .inr (.inr (1, 0, 0))), (1, .inr (.inr (8, i1, j1))), (2, .inl x2)]) (st' := []) (S := S) rfl (rc_3 i1 j1) (s_3 i1 j1 S) (fun r_2 S_3 => ?_)
    exact q_Sim.ret vc_2 rfl
  refine q_Sim.ite (c := x2 = 3) (fun h_4 => q_Sim.sw vc_2 (lv' := [(0, .inr (.inr (1, 0, 0))), (1, .inr (.inr (8, i1, j1))), (2, .inl x2)]) (st' := []) (V' := q_V S) rfl h_4 rfl (t := 42) rfl ?_) (fun h_4 => ?_)
  · refine q_Sim.steps vc_2 2 (pc' := 44) (lv' := [(0, .inr (.inr (1, 0, 0))), (1, .inr (.inr (8, i1, j1))), (2, .inl x2)]) (st' := [.inr (.inr (8, i1, j1)), .inr (.inr (1, 0, 0))]) (V' := q_V S) rfl ?_
    refine q_Sim.call vc_2 (as := [.inr (.inr (1, 0, 0)), .inr (.inr (8, i1, j1))]) (pc' := 47) (lv' := [(0, .inr (.inr (1, 0, 0))), (1, .inr (.inr (8, i1, j1))), (2, .inl x2)]) (st' := []) (S := S) rfl (rc_4 i1 j1) (s_4 i1 j1 S) (fun r_5 S_6 => ?_)
    exact q_Sim.ret vc_2 rfl
  refine q_Sim.ite (c := x2 = 4) (fun h_7 => q_Sim.sw vc_2 (lv' := [(0, .inr (.inr (1, 0, 0))), (1, .inr (.inr (8, i1, j1))), (2, .inl x2)]) (st' := []) (V' := q_V S) rfl h_7 rfl (t := 48) rfl ?_) (fun h_7 => ?_)
  · refine q_Sim.steps vc_2 2 (pc' := 50) (lv' := [(0, .inr (.inr (1, 0, 0))), (1, .inr (.inr (8, i1, j1))), (2, .inl x2)]) (st' := [.inr (.inr (8, i1, j1)), .inr (.inr (1, 0, 0))]) (V' := q_V S) rfl ?_
    refine q_Sim.call vc_2 (as := [.inr (.inr (1, 0, 0)), .inr (.inr (8, i1, j1))]) (pc' := 53) (lv' := [(0, .inr (.inr (1, 0, 0))), (1, .inr (.inr (8, i1, j1))), (2, .inl x2)]) (st' := []) (S := S) rfl (rc_5 i1 j1) (s_5 i1 j1 S) (fun r_8 S_9 => ?_)
    exact q_Sim.ret vc_2 rfl
  refine q_Sim.ite (c := x2 = 5) (fun h_10 => q_Sim.sw vc_2 (lv' := [(0, .inr (.inr (1, 0, 0))), (1, .inr (.inr (8, i1, j1))), (2, .inl x2)]) (st' := []) (V' := q_V S) rfl h_10 rfl (t := 54) rfl ?_) (fun h_10 => ?_)
  · refine q_Sim.steps vc_2 2 (pc' := 56) (lv' := [(0, .inr (.inr (1, 0, 0))), (1, .inr (.inr (8, i1, j1))), (2, .inl x2)]) (st' := [.inr (.inr (8, i1, j1)), .inr (.inr (1, 0, 0))]) (V' := q_V S) rfl ?_
    refine q_Sim.call vc_2 (as := [.inr (.inr (1, 0, 0)), .inr (.inr (8, i1, j1))]) (pc' := 59) (lv' := [(0, .inr (.inr (1, 0, 0))), (1, .inr (.inr (8, i1, j1))), (2, .inl x2)]) (st' := []) (S := S) rfl (rc_8 i1 j1) (s_8 i1 j1 S) (fun r_11 S_12 => ?_)
    refine q_Sim.br vc_2 (c := r_11 = 0) (t := 66) (f := 62) (lv' := [(0, .inr (.inr (1, 0, 0))), (1, .inr (.inr (8, i1, j1))), (2, .inl x2)]) (st' := []) (V' := q_V S_12) rfl ?_ ?_
    · refine q_Sim.steps vc_2 1 (pc' := 67) (lv' := [(0, .inr (.inr (1, 0, 0))), (1, .inr (.inr (8, i1, j1))), (2, .inl x2)]) (st' := [.inl 0]) (V' := q_V S_12) rfl ?_
      exact q_Sim.ret vc_2 rfl
    · refine q_Sim.steps vc_2 2 (pc' := 67) (lv' := [(0, .inr (.inr (1, 0, 0))), (1, .inr (.inr (8, i1, j1))), (2, .inl x2)]) (st' := [.inl 1]) (V' := q_V S_12) rfl ?_
      exact q_Sim.ret vc_2 rfl
  refine q_Sim.ite (c := x2 = 6) (fun h_13 => q_Sim.sw vc_2 (lv' := [(0, .inr (.inr (1, 0, 0))), (1, .inr (.inr (8, i1, j1))), (2, .inl x2)]) (st' := []) (V' := q_V S) rfl h_13 rfl (t := 68) rfl ?_) (fun h_13 => ?_)
  · refine q_Sim.steps vc_2 2 (pc' := 70) (lv' := [(0, .inr (.inr (1, 0, 0))), (1, .inr (.inr (8, i1, j1))), (2, .inl x2)]) (st' := [.inr (.inr (8, i1, j1)), .inr (.inr (1, 0, 0))]) (V' := q_V S) rfl ?_
    refine q_Sim.call vc_2 (as := [.inr (.inr (1, 0, 0)), .inr (.inr (8, i1, j1))]) (pc' := 73) (lv' := [(0, .inr (.inr (1, 0, 0))), (1, .inr (.inr (8, i1, j1))), (2, .inl x2)]) (st' := []) (S := S) rfl (rc_9 i1 j1) (s_9 i1 j1 S) (fun r_14 S_15 => ?_)
    refine q_Sim.br vc_2 (c := r_14 = 0) (t := 80) (f := 76) (lv' := [(0, .inr (.inr (1, 0, 0))), (1, .inr (.inr (8, i1, j1))), (2, .inl x2)]) (st' := []) (V' := q_V S_15) rfl ?_ ?_
    · refine q_Sim.steps vc_2 1 (pc' := 81) (lv' := [(0, .inr (.inr (1, 0, 0))), (1, .inr (.inr (8, i1, j1))), (2, .inl x2)]) (st' := [.inl 0]) (V' := q_V S_15) rfl ?_
      exact q_Sim.ret vc_2 rfl
    · refine q_Sim.steps vc_2 2 (pc' := 81) (lv' := [(0, .inr (.inr (1, 0, 0))), (1, .inr (.inr (8, i1, j1))), (2, .inl x2)]) (st' := [.inl 1]) (V' := q_V S_15) rfl ?_
      exact q_Sim.ret vc_2 rfl
  refine q_Sim.swd vc_2 (lv' := [(0, .inr (.inr (1, 0, 0))), (1, .inr (.inr (8, i1, j1))), (2, .inl x2)]) (st' := []) (V' := q_V S) rfl (fun k h1 h2 => ?_) (t := 82) rfl ?_
  · have h3 : k = 2 ∨ k = 3 ∨ k = 4 ∨ k = 5 ∨ k = 6 := by omega
    rcases h3 with rfl | rfl | rfl | rfl | rfl
    · exact q_ne h_1 rfl
    · exact q_ne h_4 rfl
    · exact q_ne h_7 rfl
    · exact q_ne h_10 rfl
    · exact q_ne h_13 rfl
  · refine q_Sim.steps vc_2 2 (pc' := 84) (lv' := [(0, .inr (.inr (1, 0, 0))), (1, .inr (.inr (8, i1, j1))), (2, .inl x2)]) (st' := [.inr (.inr (8, i1, j1)), .inr (.inr (1, 0, 0))]) (V' := q_V S) rfl ?_
    refine q_Sim.call vc_2 (as := [.inr (.inr (1, 0, 0)), .inr (.inr (8, i1, j1))]) (pc' := 87) (lv' := [(0, .inr (.inr (1, 0, 0))), (1, .inr (.inr (8, i1, j1))), (2, .inl x2)]) (st' := []) (S := S) rfl (rc_7 i1 j1) (s_7 i1 j1 S) (fun r_16 S_17 => ?_)
    refine q_Sim.br vc_2 (c := r_16 = 0) (t := 94) (f := 90) (lv' := [(0, .inr (.inr (1, 0, 0))), (1, .inr (.inr (8, i1, j1))), (2, .inl x2)]) (st' := []) (V' := q_V S_17) rfl ?_ ?_
    · refine q_Sim.steps vc_2 1 (pc' := 95) (lv' := [(0, .inr (.inr (1, 0, 0))), (1, .inr (.inr (8, i1, j1))), (2, .inl x2)]) (st' := [.inl 0]) (V' := q_V S_17) rfl ?_
      exact q_Sim.ret vc_2 rfl
    · refine q_Sim.steps vc_2 2 (pc' := 95) (lv' := [(0, .inr (.inr (1, 0, 0))), (1, .inr (.inr (8, i1, j1))), (2, .inl x2)]) (st' := [.inl 1]) (V' := q_V S_17) rfl ?_
      exact q_Sim.ret vc_2 rfl
theorem vc_11 : v_code 11 = k_11 := rfl
theorem rc_11 (i1 : Nat) (j1 : Nat) : v_rcv 11 [.inr (.inr (1, 0, 0)), .inr (.inr (8, i1, j1))] = true := rfl
def f_11 (i1 : Nat) (j1 : Nat) (S : QS) : Option ((Unit) × QS) := q_ck (v_in 0 17) (q_let (S.1 (20, 0, 0) (0 : Int32).toNatClampNeg) (fun y_1 => q_ck (v_in 0 17) (q_let (q_set S (20, 0, 0) (0 : Int32).toNatClampNeg (y_1 + 1)) (fun S_2 => q_let (q_set S_2 (8, i1, j1) 1 ((S_2.1 (8, i1, j1) 1) + 1)) (fun S_3 => some ((), S_3))))))
theorem s_11 (i1 : Nat) (j1 : Nat) (S : QS) : q_Sim 11 0 [(0, .inr (.inr (1, 0, 0))), (1, .inr (.inr (8, i1, j1)))] [] (q_V S) q_U (f_11 i1 j1 S) := by
  unfold f_11
  refine q_Sim.steps vc_11 4 (pc' := 6) (lv' := [(0, .inr (.inr (1, 0, 0))), (1, .inr (.inr (8, i1, j1)))]) (st' := [.inl 0, .inr (.inr (20, 0, 0)), .inl 0, .inr (.inr (20, 0, 0))]) (V' := q_V S) rfl ?_
  refine q_Sim.ck vc_11 (c := v_in 0 17) (pc' := 7) (lv' := [(0, .inr (.inr (1, 0, 0))), (1, .inr (.inr (8, i1, j1)))]) (st' := [.inl (S.1 (20, 0, 0) (0 : Int32).toNatClampNeg), .inl 0, .inr (.inr (20, 0, 0))]) (V' := q_V S) rfl ?_
  refine q_Sim.letI (fun y_1 => ?_)
  refine q_Sim.steps vc_11 2 (pc' := 9) (lv' := [(0, .inr (.inr (1, 0, 0))), (1, .inr (.inr (8, i1, j1)))]) (st' := [.inl (y_1 + 1), .inl 0, .inr (.inr (20, 0, 0))]) (V' := q_V S) rfl ?_
  refine q_Sim.ck vc_11 (c := v_in 0 17) (pc' := 10) (lv' := [(0, .inr (.inr (1, 0, 0))), (1, .inr (.inr (8, i1, j1)))]) (st' := []) (V' := q_V (q_set S (20, 0, 0) (0 : Int32).toNatClampNeg (y_1 + 1))) rfl ?_
  refine q_Sim.letS (fun S_2 => ?_)
  refine q_Sim.steps vc_11 5 (pc' := 17) (lv' := [(0, .inr (.inr (1, 0, 0))), (1, .inr (.inr (8, i1, j1)))]) (st' := [.inl ((S_2.1 (8, i1, j1) 1) + 1), .inr (.inr (8, i1, j1))]) (V' := q_V S_2) rfl ?_
  refine q_Sim.steps vc_11 1 (pc' := 20) (lv' := [(0, .inr (.inr (1, 0, 0))), (1, .inr (.inr (8, i1, j1)))]) (st' := []) (V' := q_V (q_set S_2 (8, i1, j1) 1 ((S_2.1 (8, i1, j1) 1) + 1))) rfl ?_
  refine q_Sim.letS (fun S_3 => ?_)
  exact q_Sim.ret vc_11 rfl
theorem vc_16 : v_code 16 = k_16 := rfl
theorem rc_16 (i1 : Nat) (j1 : Nat) : v_rcv 16 [.inr (.inr (1, 0, 0)), .inr (.inr (8, i1, j1))] = true := rfl
def f_16 (i1 : Nat) (j1 : Nat) (S : QS) : Option ((Unit) × QS) := q_ck (v_in 5 17) (q_let (S.1 (20, 0, 0) (5 : Int32).toNatClampNeg) (fun y_1 => q_ck (v_in 5 17) (q_let (q_set S (20, 0, 0) (5 : Int32).toNatClampNeg (y_1 + 1)) (fun S_2 => q_bd (f_11 i1 j1 S_2) (fun r_3 S_4 => q_bd (f_11 i1 j1 S_4) (fun r_5 S_6 => some ((), S_6)))))))
theorem s_16 (i1 : Nat) (j1 : Nat) (S : QS) : q_Sim 16 0 [(0, .inr (.inr (1, 0, 0))), (1, .inr (.inr (8, i1, j1)))] [] (q_V S) q_U (f_16 i1 j1 S) := by
  unfold f_16
  refine q_Sim.steps vc_16 4 (pc' := 6) (lv' := [(0, .inr (.inr (1, 0, 0))), (1, .inr (.inr (8, i1, j1)))]) (st' := [.inl 5, .inr (.inr (20, 0, 0)), .inl 5, .inr (.inr (20, 0, 0))]) (V' := q_V S) rfl ?_
  refine q_Sim.ck vc_16 (c := v_in 5 17) (pc' := 7) (lv' := [(0, .inr (.inr (1, 0, 0))), (1, .inr (.inr (8, i1, j1)))]) (st' := [.inl (S.1 (20, 0, 0) (5 : Int32).toNatClampNeg), .inl 5, .inr (.inr (20, 0, 0))]) (V' := q_V S) rfl ?_
  refine q_Sim.letI (fun y_1 => ?_)
  refine q_Sim.steps vc_16 2 (pc' := 9) (lv' := [(0, .inr (.inr (1, 0, 0))), (1, .inr (.inr (8, i1, j1)))]) (st' := [.inl (y_1 + 1), .inl 5, .inr (.inr (20, 0, 0))]) (V' := q_V S) rfl ?_
  refine q_Sim.ck vc_16 (c := v_in 5 17) (pc' := 10) (lv' := [(0, .inr (.inr (1, 0, 0))), (1, .inr (.inr (8, i1, j1)))]) (st' := []) (V' := q_V (q_set S (20, 0, 0) (5 : Int32).toNatClampNeg (y_1 + 1))) rfl ?_
  refine q_Sim.letS (fun S_2 => ?_)
  refine q_Sim.steps vc_16 2 (pc' := 12) (lv' := [(0, .inr (.inr (1, 0, 0))), (1, .inr (.inr (8, i1, j1)))]) (st' := [.inr (.inr (8, i1, j1)), .inr (.inr (1, 0, 0))]) (V' := q_V S_2) rfl ?_
  refine q_Sim.call vc_16 (as := [.inr (.inr (1, 0, 0)), .inr (.inr (8, i1, j1))]) (pc' := 15) (lv' := [(0, .inr (.inr (1, 0, 0))), (1, .inr (.inr (8, i1, j1)))]) (st' := []) (S := S_2) rfl (rc_11 i1 j1) (s_11 i1 j1 S_2) (fun r_3 S_4 => ?_)
  refine q_Sim.steps vc_16 2 (pc' := 17) (lv' := [(0, .inr (.inr (1, 0, 0))), (1, .inr (.inr (8, i1, j1)))]) (st' := [.inr (.inr (8, i1, j1)), .inr (.inr (1, 0, 0))]) (V' := q_V S_4) rfl ?_
  refine q_Sim.call vc_16 (as := [.inr (.inr (1, 0, 0)), .inr (.inr (8, i1, j1))]) (pc' := 20) (lv' := [(0, .inr (.inr (1, 0, 0))), (1, .inr (.inr (8, i1, j1)))]) (st' := []) (S := S_4) rfl (rc_11 i1 j1) (s_11 i1 j1 S_4) (fun r_5 S_6 => ?_)
  exact q_Sim.ret vc_16 rfl
theorem vc_20 : v_code 20 = k_20 := rfl
theorem rc_20 (i1 : Nat) (j1 : Nat) : v_rcv 20 [.inr (.inr (1, 0, 0)), .inr (.inr (8, i1, j1))] = true := rfl
def f_20 (i1 : Nat) (j1 : Nat) (S : QS) : Option ((Unit) × QS) := q_ck (v_in 9 17) (q_let (S.1 (20, 0, 0) (9 : Int32).toNatClampNeg) (fun y_1 => q_ck (v_in 9 17) (q_let (q_set S (20, 0, 0) (9 : Int32).toNatClampNeg (y_1 + 1)) (fun S_2 => q_bd (f_11 i1 j1 S_2) (fun r_3 S_4 => q_let (q_set S_4 (8, i1, j1) 7 ((S_4.1 (8, i1, j1) 7) - ((S_4.1 (8, i1, j1) 7) / 10))) (fun S_5 => some ((), S_5)))))))
theorem s_20 (i1 : Nat) (j1 : Nat) (S : QS) : q_Sim 20 0 [(0, .inr (.inr (1, 0, 0))), (1, .inr (.inr (8, i1, j1)))] [] (q_V S) q_U (f_20 i1 j1 S) := by
  unfold f_20
  refine q_Sim.steps vc_20 4 (pc' := 7) (lv' := [(0, .inr (.inr (1, 0, 0))), (1, .inr (.inr (8, i1, j1)))]) (st' := [.inl 9, .inr (.inr (20, 0, 0)), .inl 9, .inr (.inr (20, 0, 0))]) (V' := q_V S) rfl ?_
  refine q_Sim.ck vc_20 (c := v_in 9 17) (pc' := 8) (lv' := [(0, .inr (.inr (1, 0, 0))), (1, .inr (.inr (8, i1, j1)))]) (st' := [.inl (S.1 (20, 0, 0) (9 : Int32).toNatClampNeg), .inl 9, .inr (.inr (20, 0, 0))]) (V' := q_V S) rfl ?_
  refine q_Sim.letI (fun y_1 => ?_)
  refine q_Sim.steps vc_20 2 (pc' := 10) (lv' := [(0, .inr (.inr (1, 0, 0))), (1, .inr (.inr (8, i1, j1)))]) (st' := [.inl (y_1 + 1), .inl 9, .inr (.inr (20, 0, 0))]) (V' := q_V S) rfl ?_
  refine q_Sim.ck vc_20 (c := v_in 9 17) (pc' := 11) (lv' := [(0, .inr (.inr (1, 0, 0))), (1, .inr (.inr (8, i1, j1)))]) (st' := []) (V' := q_V (q_set S (20, 0, 0) (9 : Int32).toNatClampNeg (y_1 + 1))) rfl ?_
  refine q_Sim.letS (fun S_2 => ?_)
  refine q_Sim.steps vc_20 2 (pc' := 13) (lv' := [(0, .inr (.inr (1, 0, 0))), (1, .inr (.inr (8, i1, j1)))]) (st' := [.inr (.inr (8, i1, j1)), .inr (.inr (1, 0, 0))]) (V' := q_V S_2) rfl ?_
  refine q_Sim.call vc_20 (as := [.inr (.inr (1, 0, 0)), .inr (.inr (8, i1, j1))]) (pc' := 16) (lv' := [(0, .inr (.inr (1, 0, 0))), (1, .inr (.inr (8, i1, j1)))]) (st' := []) (S := S_2) rfl (rc_11 i1 j1) (s_11 i1 j1 S_2) (fun r_3 S_4 => ?_)
  refine q_Sim.steps vc_20 6 (pc' := 27) (lv' := [(0, .inr (.inr (1, 0, 0))), (1, .inr (.inr (8, i1, j1)))]) (st' := [.inl 10, .inl (S_4.1 (8, i1, j1) 7), .inl (S_4.1 (8, i1, j1) 7), .inr (.inr (8, i1, j1))]) (V' := q_V S_4) rfl ?_
  refine q_Sim.okd vc_20 (c := decide (¬ (10 : Int32) = 0)) (pc' := 28) (lv' := [(0, .inr (.inr (1, 0, 0))), (1, .inr (.inr (8, i1, j1)))]) (st' := [.inl ((S_4.1 (8, i1, j1) 7) / 10), .inl (S_4.1 (8, i1, j1) 7), .inr (.inr (8, i1, j1))]) (V' := q_V S_4) rfl (by decide) ?_
  refine q_Sim.steps vc_20 1 (pc' := 29) (lv' := [(0, .inr (.inr (1, 0, 0))), (1, .inr (.inr (8, i1, j1)))]) (st' := [.inl ((S_4.1 (8, i1, j1) 7) - ((S_4.1 (8, i1, j1) 7) / 10)), .inr (.inr (8, i1, j1))]) (V' := q_V S_4) rfl ?_
  refine q_Sim.steps vc_20 1 (pc' := 32) (lv' := [(0, .inr (.inr (1, 0, 0))), (1, .inr (.inr (8, i1, j1)))]) (st' := []) (V' := q_V (q_set S_4 (8, i1, j1) 7 ((S_4.1 (8, i1, j1) 7) - ((S_4.1 (8, i1, j1) 7) / 10)))) rfl ?_
  refine q_Sim.letS (fun S_5 => ?_)
  exact q_Sim.ret vc_20 rfl
theorem vc_6 : v_code 6 = k_6 := rfl
theorem rc_6 (i1 : Nat) (j1 : Nat) : v_rcv 6 [.inr (.inr (1, 0, 0)), .inr (.inr (8, i1, j1))] = true := rfl
def f_6 (i1 : Nat) (j1 : Nat) (S : QS) : Option ((Unit) × QS) := q_let (S.1 (8, i1, j1) 0) (fun y_1 => if y_1 = 1 then (q_bd (f_16 i1 j1 S) (fun r_3 S_4 => some ((), S_4))) else (if y_1 = 4 then (q_bd (f_20 i1 j1 S) (fun r_6 S_7 => some ((), S_7))) else (if y_1 = 5 then (q_bd (f_20 i1 j1 S) (fun r_9 S_10 => some ((), S_10))) else (if y_1 = 2 then (q_bd (f_11 i1 j1 S) (fun r_11 S_12 => some ((), S_12))) else (if y_1 = 3 then (q_bd (f_11 i1 j1 S) (fun r_11 S_12 => some ((), S_12))) else (q_bd (f_11 i1 j1 S) (fun r_11 S_12 => some ((), S_12))))))))
theorem s_6 (i1 : Nat) (j1 : Nat) (S : QS) : q_Sim 6 0 [(0, .inr (.inr (1, 0, 0))), (1, .inr (.inr (8, i1, j1)))] [] (q_V S) q_U (f_6 i1 j1 S) := by
  unfold f_6
  refine q_Sim.steps vc_6 2 (pc' := 4) (lv' := [(0, .inr (.inr (1, 0, 0))), (1, .inr (.inr (8, i1, j1)))]) (st' := [.inl (S.1 (8, i1, j1) 0)]) (V' := q_V S) rfl ?_
  refine q_Sim.letI (fun y_1 => ?_)
  refine q_Sim.ite (c := y_1 = 1) (fun h_2 => q_Sim.sw vc_6 (lv' := [(0, .inr (.inr (1, 0, 0))), (1, .inr (.inr (8, i1, j1)))]) (st' := []) (V' := q_V S) rfl h_2 rfl (t := 40) rfl ?_) (fun h_2 => ?_)
  · refine q_Sim.steps vc_6 2 (pc' := 42) (lv' := [(0, .inr (.inr (1, 0, 0))), (1, .inr (.inr (8, i1, j1)))]) (st' := [.inr (.inr (8, i1, j1)), .inr (.inr (1, 0, 0))]) (V' := q_V S) rfl ?_
    refine q_Sim.call vc_6 (as := [.inr (.inr (1, 0, 0)), .inr (.inr (8, i1, j1))]) (pc' := 45) (lv' := [(0, .inr (.inr (1, 0, 0))), (1, .inr (.inr (8, i1, j1)))]) (st' := []) (S := S) rfl (rc_16 i1 j1) (s_16 i1 j1 S) (fun r_3 S_4 => ?_)
    refine q_Sim.steps vc_6 1 (pc' := 61) (lv' := [(0, .inr (.inr (1, 0, 0))), (1, .inr (.inr (8, i1, j1)))]) (st' := []) (V' := q_V S_4) rfl ?_
    exact q_Sim.ret vc_6 rfl
  refine q_Sim.ite (c := y_1 = 4) (fun h_5 => q_Sim.sw vc_6 (lv' := [(0, .inr (.inr (1, 0, 0))), (1, .inr (.inr (8, i1, j1)))]) (st' := []) (V' := q_V S) rfl h_5 rfl (t := 48) rfl ?_) (fun h_5 => ?_)
  · refine q_Sim.steps vc_6 2 (pc' := 50) (lv' := [(0, .inr (.inr (1, 0, 0))), (1, .inr (.inr (8, i1, j1)))]) (st' := [.inr (.inr (8, i1, j1)), .inr (.inr (1, 0, 0))]) (V' := q_V S) rfl ?_
    refine q_Sim.call vc_6 (as := [.inr (.inr (1, 0, 0)), .inr (.inr (8, i1, j1))]) (pc' := 53) (lv' := [(0, .inr (.inr (1, 0, 0))), (1, .inr (.inr (8, i1, j1)))]) (st' := []) (S := S) rfl (rc_20 i1 j1) (s_20 i1 j1 S) (fun r_6 S_7 => ?_)
    refine q_Sim.steps vc_6 1 (pc' := 61) (lv' := [(0, .inr (.inr (1, 0, 0))), (1, .inr (.inr (8, i1, j1)))]) (st' := []) (V' := q_V S_7) rfl ?_
    exact q_Sim.ret vc_6 rfl
  refine q_Sim.ite (c := y_1 = 5) (fun h_8 => q_Sim.sw vc_6 (lv' := [(0, .inr (.inr (1, 0, 0))), (1, .inr (.inr (8, i1, j1)))]) (st' := []) (V' := q_V S) rfl h_8 rfl (t := 48) rfl ?_) (fun h_8 => ?_)
  · refine q_Sim.steps vc_6 2 (pc' := 50) (lv' := [(0, .inr (.inr (1, 0, 0))), (1, .inr (.inr (8, i1, j1)))]) (st' := [.inr (.inr (8, i1, j1)), .inr (.inr (1, 0, 0))]) (V' := q_V S) rfl ?_
    refine q_Sim.call vc_6 (as := [.inr (.inr (1, 0, 0)), .inr (.inr (8, i1, j1))]) (pc' := 53) (lv' := [(0, .inr (.inr (1, 0, 0))), (1, .inr (.inr (8, i1, j1)))]) (st' := []) (S := S) rfl (rc_20 i1 j1) (s_20 i1 j1 S) (fun r_9 S_10 => ?_)
    refine q_Sim.steps vc_6 1 (pc' := 61) (lv' := [(0, .inr (.inr (1, 0, 0))), (1, .inr (.inr (8, i1, j1)))]) (st' := []) (V' := q_V S_10) rfl ?_
    exact q_Sim.ret vc_6 rfl
  refine q_Sim.ite (c := y_1 = 2) (fun h_13 => q_Sim.sw vc_6 (lv' := [(0, .inr (.inr (1, 0, 0))), (1, .inr (.inr (8, i1, j1)))]) (st' := []) (V' := q_V S) rfl h_13 rfl (t := 56) rfl ?_) (fun h_13 => ?_)
  · refine q_Sim.steps vc_6 2 (pc' := 58) (lv' := [(0, .inr (.inr (1, 0, 0))), (1, .inr (.inr (8, i1, j1)))]) (st' := [.inr (.inr (8, i1, j1)), .inr (.inr (1, 0, 0))]) (V' := q_V S) rfl ?_
    refine q_Sim.call vc_6 (as := [.inr (.inr (1, 0, 0)), .inr (.inr (8, i1, j1))]) (pc' := 61) (lv' := [(0, .inr (.inr (1, 0, 0))), (1, .inr (.inr (8, i1, j1)))]) (st' := []) (S := S) rfl (rc_11 i1 j1) (s_11 i1 j1 S) (fun r_11 S_12 => ?_)
    exact q_Sim.ret vc_6 rfl
  refine q_Sim.ite (c := y_1 = 3) (fun h_14 => q_Sim.sw vc_6 (lv' := [(0, .inr (.inr (1, 0, 0))), (1, .inr (.inr (8, i1, j1)))]) (st' := []) (V' := q_V S) rfl h_14 rfl (t := 56) rfl ?_) (fun h_14 => ?_)
  · refine q_Sim.steps vc_6 2 (pc' := 58) (lv' := [(0, .inr (.inr (1, 0, 0))), (1, .inr (.inr (8, i1, j1)))]) (st' := [.inr (.inr (8, i1, j1)), .inr (.inr (1, 0, 0))]) (V' := q_V S) rfl ?_
    refine q_Sim.call vc_6 (as := [.inr (.inr (1, 0, 0)), .inr (.inr (8, i1, j1))]) (pc' := 61) (lv' := [(0, .inr (.inr (1, 0, 0))), (1, .inr (.inr (8, i1, j1)))]) (st' := []) (S := S) rfl (rc_11 i1 j1) (s_11 i1 j1 S) (fun r_11 S_12 => ?_)
    exact q_Sim.ret vc_6 rfl
  refine q_Sim.swd vc_6 (lv' := [(0, .inr (.inr (1, 0, 0))), (1, .inr (.inr (8, i1, j1)))]) (st' := []) (V' := q_V S) rfl (fun k h1 h2 => ?_) (t := 56) rfl ?_
  · have h3 : k = 1 ∨ k = 2 ∨ k = 3 ∨ k = 4 ∨ k = 5 := by omega
    rcases h3 with rfl | rfl | rfl | rfl | rfl
    · exact q_ne h_2 rfl
    · exact q_ne h_13 rfl
    · exact q_ne h_14 rfl
    · exact q_ne h_5 rfl
    · exact q_ne h_8 rfl
  · refine q_Sim.steps vc_6 2 (pc' := 58) (lv' := [(0, .inr (.inr (1, 0, 0))), (1, .inr (.inr (8, i1, j1)))]) (st' := [.inr (.inr (8, i1, j1)), .inr (.inr (1, 0, 0))]) (V' := q_V S) rfl ?_
    refine q_Sim.call vc_6 (as := [.inr (.inr (1, 0, 0)), .inr (.inr (8, i1, j1))]) (pc' := 61) (lv' := [(0, .inr (.inr (1, 0, 0))), (1, .inr (.inr (8, i1, j1)))]) (st' := []) (S := S) rfl (rc_11 i1 j1) (s_11 i1 j1 S) (fun r_11 S_12 => ?_)
    exact q_Sim.ret vc_6 rfl
theorem vc_10 : v_code 10 = k_10 := rfl
theorem rc_10 (i1 : Nat) (j1 : Nat) : v_rcv 10 [.inr (.inr (1, 0, 0)), .inr (.inr (8, i1, j1))] = true := rfl
def f_10 (i1 : Nat) (j1 : Nat) (S : QS) : Option ((Unit) × QS) := q_ck (v_in 16 17) (q_let (S.1 (20, 0, 0) (16 : Int32).toNatClampNeg) (fun y_1 => q_ck (v_in 16 17) (q_let (q_set S (20, 0, 0) (16 : Int32).toNatClampNeg (y_1 + 1)) (fun S_2 => q_bd (f_6 i1 j1 S_2) (fun r_3 S_4 => some ((), S_4))))))
theorem s_10 (i1 : Nat) (j1 : Nat) (S : QS) : q_Sim 10 0 [(0, .inr (.inr (1, 0, 0))), (1, .inr (.inr (8, i1, j1)))] [] (q_V S) q_U (f_10 i1 j1 S) := by
  unfold f_10
  refine q_Sim.steps vc_10 4 (pc' := 7) (lv' := [(0, .inr (.inr (1, 0, 0))), (1, .inr (.inr (8, i1, j1)))]) (st' := [.inl 16, .inr (.inr (20, 0, 0)), .inl 16, .inr (.inr (20, 0, 0))]) (V' := q_V S) rfl ?_
  refine q_Sim.ck vc_10 (c := v_in 16 17) (pc' := 8) (lv' := [(0, .inr (.inr (1, 0, 0))), (1, .inr (.inr (8, i1, j1)))]) (st' := [.inl (S.1 (20, 0, 0) (16 : Int32).toNatClampNeg), .inl 16, .inr (.inr (20, 0, 0))]) (V' := q_V S) rfl ?_
  refine q_Sim.letI (fun y_1 => ?_)
  refine q_Sim.steps vc_10 2 (pc' := 10) (lv' := [(0, .inr (.inr (1, 0, 0))), (1, .inr (.inr (8, i1, j1)))]) (st' := [.inl (y_1 + 1), .inl 16, .inr (.inr (20, 0, 0))]) (V' := q_V S) rfl ?_
  refine q_Sim.ck vc_10 (c := v_in 16 17) (pc' := 11) (lv' := [(0, .inr (.inr (1, 0, 0))), (1, .inr (.inr (8, i1, j1)))]) (st' := []) (V' := q_V (q_set S (20, 0, 0) (16 : Int32).toNatClampNeg (y_1 + 1))) rfl ?_
  refine q_Sim.letS (fun S_2 => ?_)
  refine q_Sim.steps vc_10 2 (pc' := 13) (lv' := [(0, .inr (.inr (1, 0, 0))), (1, .inr (.inr (8, i1, j1)))]) (st' := [.inr (.inr (8, i1, j1)), .inr (.inr (1, 0, 0))]) (V' := q_V S_2) rfl ?_
  refine q_Sim.call vc_10 (as := [.inr (.inr (1, 0, 0)), .inr (.inr (8, i1, j1))]) (pc' := 16) (lv' := [(0, .inr (.inr (1, 0, 0))), (1, .inr (.inr (8, i1, j1)))]) (st' := []) (S := S_2) rfl (rc_6 i1 j1) (s_6 i1 j1 S_2) (fun r_3 S_4 => ?_)
  exact q_Sim.ret vc_10 rfl
theorem vc_25 : v_code 25 = k_25 := rfl
theorem rc_25 (i0 : Nat) (x1 : Int32) (x2 : Int32) (x3 : Int32) : v_rcv 25 [.inr (.inr (2, i0, 0)), .inl x1, .inl x2, .inl x3] = true := rfl
def f_25 (i0 : Nat) (x1 : Int32) (x2 : Int32) (x3 : Int32) (S : QS) : Option ((Unit) × QS) := q_ck (v_in (S.1 (2, i0, 0) 3) 200) (q_let (q_set S (21, i0, 0) (S.1 (2, i0, 0) 3).toNatClampNeg x1) (fun S_1 => q_ck (v_in (S_1.1 (2, i0, 0) 3) 200) (q_let (q_set S_1 (22, i0, 0) (S_1.1 (2, i0, 0) 3).toNatClampNeg x2) (fun S_2 => q_ck (v_in (S_2.1 (2, i0, 0) 3) 200) (q_let (q_set S_2 (23, i0, 0) (S_2.1 (2, i0, 0) 3).toNatClampNeg x3) (fun S_3 => q_let (q_set S_3 (2, i0, 0) 3 ((S_3.1 (2, i0, 0) 3) + 1)) (fun S_4 => some ((), S_4))))))))
theorem s_25 (i0 : Nat) (x1 : Int32) (x2 : Int32) (x3 : Int32) (S : QS) : q_Sim 25 0 [(0, .inr (.inr (2, i0, 0))), (1, .inl x1), (2, .inl x2), (3, .inl x3)] [] (q_V S) q_U (f_25 i0 x1 x2 x3 S) := by
  unfold f_25
  refine q_Sim.steps vc_25 5 (pc' := 9) (lv' := [(0, .inr (.inr (2, i0, 0))), (1, .inl x1), (2, .inl x2), (3, .inl x3)]) (st' := [.inl x1, .inl (S.1 (2, i0, 0) 3), .inr (.inr (21, i0, 0))]) (V' := q_V S) rfl ?_
  refine q_Sim.ck vc_25 (c := v_in (S.1 (2, i0, 0) 3) 200) (pc' := 10) (lv' := [(0, .inr (.inr (2, i0, 0))), (1, .inl x1), (2, .inl x2), (3, .inl x3)]) (st' := []) (V' := q_V (q_set S (21, i0, 0) (S.1 (2, i0, 0) 3).toNatClampNeg x1)) rfl ?_
  refine q_Sim.letS (fun S_1 => ?_)
  refine q_Sim.steps vc_25 5 (pc' := 19) (lv' := [(0, .inr (.inr (2, i0, 0))), (1, .inl x1), (2, .inl x2), (3, .inl x3)]) (st' := [.inl x2, .inl (S_1.1 (2, i0, 0) 3), .inr (.inr (22, i0, 0))]) (V' := q_V S_1) rfl ?_
  refine q_Sim.ck vc_25 (c := v_in (S_1.1 (2, i0, 0) 3) 200) (pc' := 20) (lv' := [(0, .inr (.inr (2, i0, 0))), (1, .inl x1), (2, .inl x2), (3, .inl x3)]) (st' := []) (V' := q_V (q_set S_1 (22, i0, 0) (S_1.1 (2, i0, 0) 3).toNatClampNeg x2)) rfl ?_
  refine q_Sim.letS (fun S_2 => ?_)
  refine q_Sim.steps vc_25 5 (pc' := 29) (lv' := [(0, .inr (.inr (2, i0, 0))), (1, .inl x1), (2, .inl x2), (3, .inl x3)]) (st' := [.inl x3, .inl (S_2.1 (2, i0, 0) 3), .inr (.inr (23, i0, 0))]) (V' := q_V S_2) rfl ?_
  refine q_Sim.ck vc_25 (c := v_in (S_2.1 (2, i0, 0) 3) 200) (pc' := 30) (lv' := [(0, .inr (.inr (2, i0, 0))), (1, .inl x1), (2, .inl x2), (3, .inl x3)]) (st' := []) (V' := q_V (q_set S_2 (23, i0, 0) (S_2.1 (2, i0, 0) 3).toNatClampNeg x3)) rfl ?_
  refine q_Sim.letS (fun S_3 => ?_)
  refine q_Sim.steps vc_25 5 (pc' := 37) (lv' := [(0, .inr (.inr (2, i0, 0))), (1, .inl x1), (2, .inl x2), (3, .inl x3)]) (st' := [.inl ((S_3.1 (2, i0, 0) 3) + 1), .inr (.inr (2, i0, 0))]) (V' := q_V S_3) rfl ?_
  refine q_Sim.steps vc_25 1 (pc' := 40) (lv' := [(0, .inr (.inr (2, i0, 0))), (1, .inl x1), (2, .inl x2), (3, .inl x3)]) (st' := []) (V' := q_V (q_set S_3 (2, i0, 0) 3 ((S_3.1 (2, i0, 0) 3) + 1))) rfl ?_
  refine q_Sim.letS (fun S_4 => ?_)
  exact q_Sim.ret vc_25 rfl
theorem vc_26 : v_code 26 = k_26 := rfl
theorem rc_26 (i0 : Nat) (x1 : Int32) (x2 : Int32) : v_rcv 26 [.inr (.inr (2, i0, 0)), .inl x1, .inl x2] = true := rfl
def f_26 (i0 : Nat) (x1 : Int32) (x2 : Int32) (S : QS) : Option ((Int32) × QS) := if ¬ x2 = 0 then (if ¬ x2 = 1 then (q_ck (v_in x1 200) (q_let (S.1 (23, i0, 0) x1.toNatClampNeg) (fun y_1 => some (y_1, S)))) else (q_ck (v_in x1 200) (q_let (S.1 (22, i0, 0) x1.toNatClampNeg) (fun y_2 => some (y_2, S))))) else (q_ck (v_in x1 200) (q_let (S.1 (21, i0, 0) x1.toNatClampNeg) (fun y_3 => some (y_3, S))))
theorem s_26 (i0 : Nat) (x1 : Int32) (x2 : Int32) (S : QS) : q_Sim 26 0 [(0, .inr (.inr (2, i0, 0))), (1, .inl x1), (2, .inl x2)] [] (q_V S) q_I (f_26 i0 x1 x2 S) := by
  unfold f_26
  refine q_Sim.steps vc_26 1 (pc' := 1) (lv' := [(0, .inr (.inr (2, i0, 0))), (1, .inl x1), (2, .inl x2)]) (st' := [.inl x2]) (V' := q_V S) rfl ?_
  refine q_Sim.br vc_26 (c := ¬ x2 = 0) (t := 13) (f := 4) (lv' := [(0, .inr (.inr (2, i0, 0))), (1, .inl x1), (2, .inl x2)]) (st' := []) (V' := q_V S) rfl ?_ ?_
  · refine q_Sim.steps vc_26 2 (pc' := 15) (lv' := [(0, .inr (.inr (2, i0, 0))), (1, .inl x1), (2, .inl x2)]) (st' := [.inl 1, .inl x2]) (V' := q_V S) rfl ?_
    refine q_Sim.br vc_26 (c := ¬ x2 = 1) (t := 27) (f := 18) (lv' := [(0, .inr (.inr (2, i0, 0))), (1, .inl x1), (2, .inl x2)]) (st' := []) (V' := q_V S) rfl ?_ ?_
    · refine q_Sim.steps vc_26 3 (pc' := 32) (lv' := [(0, .inr (.inr (2, i0, 0))), (1, .inl x1), (2, .inl x2)]) (st' := [.inl x1, .inr (.inr (23, i0, 0))]) (V' := q_V S) rfl ?_
      refine q_Sim.ck vc_26 (c := v_in x1 200) (pc' := 33) (lv' := [(0, .inr (.inr (2, i0, 0))), (1, .inl x1), (2, .inl x2)]) (st' := [.inl (S.1 (23, i0, 0) x1.toNatClampNeg)]) (V' := q_V S) rfl ?_
      refine q_Sim.letI (fun y_1 => ?_)
      exact q_Sim.ret vc_26 rfl
    · refine q_Sim.steps vc_26 3 (pc' := 23) (lv' := [(0, .inr (.inr (2, i0, 0))), (1, .inl x1), (2, .inl x2)]) (st' := [.inl x1, .inr (.inr (22, i0, 0))]) (V' := q_V S) rfl ?_
      refine q_Sim.ck vc_26 (c := v_in x1 200) (pc' := 24) (lv' := [(0, .inr (.inr (2, i0, 0))), (1, .inl x1), (2, .inl x2)]) (st' := [.inl (S.1 (22, i0, 0) x1.toNatClampNeg)]) (V' := q_V S) rfl ?_
      refine q_Sim.letI (fun y_2 => ?_)
      refine q_Sim.steps vc_26 1 (pc' := 33) (lv' := [(0, .inr (.inr (2, i0, 0))), (1, .inl x1), (2, .inl x2)]) (st' := [.inl y_2]) (V' := q_V S) rfl ?_
      exact q_Sim.ret vc_26 rfl
  · refine q_Sim.steps vc_26 3 (pc' := 9) (lv' := [(0, .inr (.inr (2, i0, 0))), (1, .inl x1), (2, .inl x2)]) (st' := [.inl x1, .inr (.inr (21, i0, 0))]) (V' := q_V S) rfl ?_
    refine q_Sim.ck vc_26 (c := v_in x1 200) (pc' := 10) (lv' := [(0, .inr (.inr (2, i0, 0))), (1, .inl x1), (2, .inl x2)]) (st' := [.inl (S.1 (21, i0, 0) x1.toNatClampNeg)]) (V' := q_V S) rfl ?_
    refine q_Sim.letI (fun y_3 => ?_)
    refine q_Sim.steps vc_26 1 (pc' := 33) (lv' := [(0, .inr (.inr (2, i0, 0))), (1, .inl x1), (2, .inl x2)]) (st' := [.inl y_3]) (V' := q_V S) rfl ?_
    exact q_Sim.ret vc_26 rfl
theorem vc_27 : v_code 27 = k_27 := rfl
theorem rc_27 (i0 : Nat) (i1 : Nat) : v_rcv 27 [.inr (.inr (2, i0, 0)), .inr (.inr (2, i1, 0))] = true := rfl
def f_27 (i0 : Nat) (i1 : Nat) (S : QS) : Option ((Unit) × QS) := q_let (q_set S (2, i0, 0) 3 (S.1 (2, i1, 0) 3)) (fun S_1 => q_ck (decide (¬ (0 : Int32) < 0) && decide (¬ (0 : Int32) < 0) && decide (¬ (S_1.1 (2, i0, 0) 3) < 0) && decide ((0 : Int32).toNatClampNeg + (S_1.1 (2, i0, 0) 3).toNatClampNeg ≤ 200) && decide ((0 : Int32).toNatClampNeg + (S_1.1 (2, i0, 0) 3).toNatClampNeg ≤ 200)) (q_let (q_row S_1 (21, i0, 0) (va_cpy (S_1.1 (21, i1, 0)) (S_1.1 (21, i0, 0)) (0 : Int32).toNatClampNeg (0 : Int32).toNatClampNeg (S_1.1 (2, i0, 0) 3).toNatClampNeg)) (fun S_2 => q_ck (decide (¬ (0 : Int32) < 0) && decide (¬ (0 : Int32) < 0) && decide (¬ (S_2.1 (2, i0, 0) 3) < 0) && decide ((0 : Int32).toNatClampNeg + (S_2.1 (2, i0, 0) 3).toNatClampNeg ≤ 200) && decide ((0 : Int32).toNatClampNeg + (S_2.1 (2, i0, 0) 3).toNatClampNeg ≤ 200)) (q_let (q_row S_2 (22, i0, 0) (va_cpy (S_2.1 (22, i1, 0)) (S_2.1 (22, i0, 0)) (0 : Int32).toNatClampNeg (0 : Int32).toNatClampNeg (S_2.1 (2, i0, 0) 3).toNatClampNeg)) (fun S_3 => q_ck (decide (¬ (0 : Int32) < 0) && decide (¬ (0 : Int32) < 0) && decide (¬ (S_3.1 (2, i0, 0) 3) < 0) && decide ((0 : Int32).toNatClampNeg + (S_3.1 (2, i0, 0) 3).toNatClampNeg ≤ 200) && decide ((0 : Int32).toNatClampNeg + (S_3.1 (2, i0, 0) 3).toNatClampNeg ≤ 200)) (q_let (q_row S_3 (23, i0, 0) (va_cpy (S_3.1 (23, i1, 0)) (S_3.1 (23, i0, 0)) (0 : Int32).toNatClampNeg (0 : Int32).toNatClampNeg (S_3.1 (2, i0, 0) 3).toNatClampNeg)) (fun S_4 => some ((), S_4))))))))
theorem s_27 (i0 : Nat) (i1 : Nat) (S : QS) : q_Sim 27 0 [(0, .inr (.inr (2, i0, 0))), (1, .inr (.inr (2, i1, 0)))] [] (q_V S) q_U (f_27 i0 i1 S) := by
  unfold f_27
  refine q_Sim.steps vc_27 3 (pc' := 5) (lv' := [(0, .inr (.inr (2, i0, 0))), (1, .inr (.inr (2, i1, 0)))]) (st' := [.inl (S.1 (2, i1, 0) 3), .inr (.inr (2, i0, 0))]) (V' := q_V S) rfl ?_
  refine q_Sim.steps vc_27 1 (pc' := 8) (lv' := [(0, .inr (.inr (2, i0, 0))), (1, .inr (.inr (2, i1, 0)))]) (st' := []) (V' := q_V (q_set S (2, i0, 0) 3 (S.1 (2, i1, 0) 3))) rfl ?_
  refine q_Sim.letS (fun S_1 => ?_)
  refine q_Sim.steps vc_27 8 (pc' := 22) (lv' := [(0, .inr (.inr (2, i0, 0))), (1, .inr (.inr (2, i1, 0)))]) (st' := [.inl (S_1.1 (2, i0, 0) 3), .inl 0, .inr (.inr (21, i0, 0)), .inl 0, .inr (.inr (21, i1, 0))]) (V' := q_V S_1) rfl ?_
  refine q_Sim.ck vc_27 (c := decide (¬ (0 : Int32) < 0) && decide (¬ (0 : Int32) < 0) && decide (¬ (S_1.1 (2, i0, 0) 3) < 0) && decide ((0 : Int32).toNatClampNeg + (S_1.1 (2, i0, 0) 3).toNatClampNeg ≤ 200) && decide ((0 : Int32).toNatClampNeg + (S_1.1 (2, i0, 0) 3).toNatClampNeg ≤ 200)) (pc' := 25) (lv' := [(0, .inr (.inr (2, i0, 0))), (1, .inr (.inr (2, i1, 0)))]) (st' := []) (V' := q_V (q_row S_1 (21, i0, 0) (va_cpy (S_1.1 (21, i1, 0)) (S_1.1 (21, i0, 0)) (0 : Int32).toNatClampNeg (0 : Int32).toNatClampNeg (S_1.1 (2, i0, 0) 3).toNatClampNeg))) rfl ?_
  refine q_Sim.letS (fun S_2 => ?_)
  refine q_Sim.steps vc_27 8 (pc' := 39) (lv' := [(0, .inr (.inr (2, i0, 0))), (1, .inr (.inr (2, i1, 0)))]) (st' := [.inl (S_2.1 (2, i0, 0) 3), .inl 0, .inr (.inr (22, i0, 0)), .inl 0, .inr (.inr (22, i1, 0))]) (V' := q_V S_2) rfl ?_
  refine q_Sim.ck vc_27 (c := decide (¬ (0 : Int32) < 0) && decide (¬ (0 : Int32) < 0) && decide (¬ (S_2.1 (2, i0, 0) 3) < 0) && decide ((0 : Int32).toNatClampNeg + (S_2.1 (2, i0, 0) 3).toNatClampNeg ≤ 200) && decide ((0 : Int32).toNatClampNeg + (S_2.1 (2, i0, 0) 3).toNatClampNeg ≤ 200)) (pc' := 42) (lv' := [(0, .inr (.inr (2, i0, 0))), (1, .inr (.inr (2, i1, 0)))]) (st' := []) (V' := q_V (q_row S_2 (22, i0, 0) (va_cpy (S_2.1 (22, i1, 0)) (S_2.1 (22, i0, 0)) (0 : Int32).toNatClampNeg (0 : Int32).toNatClampNeg (S_2.1 (2, i0, 0) 3).toNatClampNeg))) rfl ?_
  refine q_Sim.letS (fun S_3 => ?_)
  refine q_Sim.steps vc_27 8 (pc' := 56) (lv' := [(0, .inr (.inr (2, i0, 0))), (1, .inr (.inr (2, i1, 0)))]) (st' := [.inl (S_3.1 (2, i0, 0) 3), .inl 0, .inr (.inr (23, i0, 0)), .inl 0, .inr (.inr (23, i1, 0))]) (V' := q_V S_3) rfl ?_
  refine q_Sim.ck vc_27 (c := decide (¬ (0 : Int32) < 0) && decide (¬ (0 : Int32) < 0) && decide (¬ (S_3.1 (2, i0, 0) 3) < 0) && decide ((0 : Int32).toNatClampNeg + (S_3.1 (2, i0, 0) 3).toNatClampNeg ≤ 200) && decide ((0 : Int32).toNatClampNeg + (S_3.1 (2, i0, 0) 3).toNatClampNeg ≤ 200)) (pc' := 59) (lv' := [(0, .inr (.inr (2, i0, 0))), (1, .inr (.inr (2, i1, 0)))]) (st' := []) (V' := q_V (q_row S_3 (23, i0, 0) (va_cpy (S_3.1 (23, i1, 0)) (S_3.1 (23, i0, 0)) (0 : Int32).toNatClampNeg (0 : Int32).toNatClampNeg (S_3.1 (2, i0, 0) 3).toNatClampNeg))) rfl ?_
  refine q_Sim.letS (fun S_4 => ?_)
  exact q_Sim.ret vc_27 rfl
theorem vc_29 : v_code 29 = k_29 := rfl
theorem rc_29 (i0 : Nat) (j0 : Nat) (x1 : Int32) : v_rcv 29 [.inr (.inr (3, i0, j0)), .inl x1] = true := rfl
def b_29_7 : Nat → Nat → Nat → Int32 → QS → Option ((Unit) × QS)
  | 0, _, _, _, _ => none
  | n + 1, i0, j0, x2, S => if (S.1 (3, i0, j0) 1) ≤ x2 then (some ((), S)) else (q_ck (v_in x2 64) (q_let (q_set S (24, i0, j0) x2.toNatClampNeg 0) (fun S_2 => b_29_7 n i0 j0 (x2 + 1) S_2)))
theorem sb_29_7 : ∀ (n : Nat) (i0 : Nat) (j0 : Nat) (x2 : Int32) (S : QS), q_Sim 29 7 [(0, .inr (.inr (3, i0, j0))), (2, .inl x2)] [] (q_V S) q_U (b_29_7 n i0 j0 x2 S)
  | 0, _, _, _, _ => q_Sim.none
  | n + 1, i0, j0, x2, S => by
    rw [b_29_7]
    refine q_Sim.steps vc_29 3 (pc' := 12) (lv' := [(0, .inr (.inr (3, i0, j0))), (2, .inl x2)]) (st' := [.inl (S.1 (3, i0, j0) 1), .inl x2]) (V' := q_V S) rfl ?_
    refine q_Sim.br vc_29 (c := (S.1 (3, i0, j0) 1) ≤ x2) (t := 28) (f := 15) (lv' := [(0, .inr (.inr (3, i0, j0))), (2, .inl x2)]) (st' := []) (V' := q_V S) rfl ?_ ?_
    · exact q_Sim.ret vc_29 rfl
    · refine q_Sim.steps vc_29 4 (pc' := 21) (lv' := [(0, .inr (.inr (3, i0, j0))), (2, .inl x2)]) (st' := [.inl 0, .inl x2, .inr (.inr (24, i0, j0))]) (V' := q_V S) rfl ?_
      refine q_Sim.ck vc_29 (c := v_in x2 64) (pc' := 22) (lv' := [(0, .inr (.inr (3, i0, j0))), (2, .inl x2)]) (st' := []) (V' := q_V (q_set S (24, i0, j0) x2.toNatClampNeg 0)) rfl ?_
      refine q_Sim.letS (fun S_2 => ?_)
      refine q_Sim.steps vc_29 2 (pc' := 7) (lv' := [(2, .inl (x2 + 1)), (0, .inr (.inr (3, i0, j0)))]) (st' := []) (V' := q_V S_2) rfl ?_
      exact q_Sim.sub2 (lv' := [(0, .inr (.inr (3, i0, j0))), (2, .inl (x2 + 1))]) [0, 2] rfl (by decide) ⟨rfl, rfl, trivial⟩ (sb_29_7 n i0 j0 (x2 + 1) S_2)
def f_29 (i0 : Nat) (j0 : Nat) (x1 : Int32) (S : QS) : Option ((Unit) × QS) := q_let (q_set S (3, i0, j0) 1 x1) (fun S_1 => b_29_7 q_N i0 j0 0 S_1)
theorem s_29 (i0 : Nat) (j0 : Nat) (x1 : Int32) (S : QS) : q_Sim 29 0 [(0, .inr (.inr (3, i0, j0))), (1, .inl x1)] [] (q_V S) q_U (f_29 i0 j0 x1 S) := by
  unfold f_29
  refine q_Sim.steps vc_29 2 (pc' := 2) (lv' := [(0, .inr (.inr (3, i0, j0))), (1, .inl x1)]) (st' := [.inl x1, .inr (.inr (3, i0, j0))]) (V' := q_V S) rfl ?_
  refine q_Sim.steps vc_29 1 (pc' := 5) (lv' := [(0, .inr (.inr (3, i0, j0))), (1, .inl x1)]) (st' := []) (V' := q_V (q_set S (3, i0, j0) 1 x1)) rfl ?_
  refine q_Sim.letS (fun S_1 => ?_)
  refine q_Sim.steps vc_29 2 (pc' := 7) (lv' := [(2, .inl 0), (0, .inr (.inr (3, i0, j0))), (1, .inl x1)]) (st' := []) (V' := q_V S_1) rfl ?_
  exact q_Sim.sub2 (lv' := [(0, .inr (.inr (3, i0, j0))), (2, .inl 0)]) [0, 2] rfl (by decide) ⟨rfl, rfl, trivial⟩ (sb_29_7 q_N i0 j0 0 S_1)
theorem vc_30 : v_code 30 = k_30 := rfl
theorem rc_30 (i0 : Nat) (j0 : Nat) (i1 : Nat) (j1 : Nat) : v_rcv 30 [.inr (.inr (3, i0, j0)), .inr (.inr (3, i1, j1))] = true := rfl
def f_30 (i0 : Nat) (j0 : Nat) (i1 : Nat) (j1 : Nat) (S : QS) : Option ((Unit) × QS) := q_let (q_set S (3, i0, j0) 1 (S.1 (3, i1, j1) 1)) (fun S_1 => q_ck (decide (¬ (0 : Int32) < 0) && decide (¬ (0 : Int32) < 0) && decide (¬ (S_1.1 (3, i0, j0) 1) < 0) && decide ((0 : Int32).toNatClampNeg + (S_1.1 (3, i0, j0) 1).toNatClampNeg ≤ 64) && decide ((0 : Int32).toNatClampNeg + (S_1.1 (3, i0, j0) 1).toNatClampNeg ≤ 64)) (q_let (q_row S_1 (24, i0, j0) (va_cpy (S_1.1 (24, i1, j1)) (S_1.1 (24, i0, j0)) (0 : Int32).toNatClampNeg (0 : Int32).toNatClampNeg (S_1.1 (3, i0, j0) 1).toNatClampNeg)) (fun S_2 => some ((), S_2))))
theorem s_30 (i0 : Nat) (j0 : Nat) (i1 : Nat) (j1 : Nat) (S : QS) : q_Sim 30 0 [(0, .inr (.inr (3, i0, j0))), (1, .inr (.inr (3, i1, j1)))] [] (q_V S) q_U (f_30 i0 j0 i1 j1 S) := by
  unfold f_30
  refine q_Sim.steps vc_30 3 (pc' := 5) (lv' := [(0, .inr (.inr (3, i0, j0))), (1, .inr (.inr (3, i1, j1)))]) (st' := [.inl (S.1 (3, i1, j1) 1), .inr (.inr (3, i0, j0))]) (V' := q_V S) rfl ?_
  refine q_Sim.steps vc_30 1 (pc' := 8) (lv' := [(0, .inr (.inr (3, i0, j0))), (1, .inr (.inr (3, i1, j1)))]) (st' := []) (V' := q_V (q_set S (3, i0, j0) 1 (S.1 (3, i1, j1) 1))) rfl ?_
  refine q_Sim.letS (fun S_1 => ?_)
  refine q_Sim.steps vc_30 8 (pc' := 22) (lv' := [(0, .inr (.inr (3, i0, j0))), (1, .inr (.inr (3, i1, j1)))]) (st' := [.inl (S_1.1 (3, i0, j0) 1), .inl 0, .inr (.inr (24, i0, j0)), .inl 0, .inr (.inr (24, i1, j1))]) (V' := q_V S_1) rfl ?_
  refine q_Sim.ck vc_30 (c := decide (¬ (0 : Int32) < 0) && decide (¬ (0 : Int32) < 0) && decide (¬ (S_1.1 (3, i0, j0) 1) < 0) && decide ((0 : Int32).toNatClampNeg + (S_1.1 (3, i0, j0) 1).toNatClampNeg ≤ 64) && decide ((0 : Int32).toNatClampNeg + (S_1.1 (3, i0, j0) 1).toNatClampNeg ≤ 64)) (pc' := 25) (lv' := [(0, .inr (.inr (3, i0, j0))), (1, .inr (.inr (3, i1, j1)))]) (st' := []) (V' := q_V (q_row S_1 (24, i0, j0) (va_cpy (S_1.1 (24, i1, j1)) (S_1.1 (24, i0, j0)) (0 : Int32).toNatClampNeg (0 : Int32).toNatClampNeg (S_1.1 (3, i0, j0) 1).toNatClampNeg))) rfl ?_
  refine q_Sim.letS (fun S_2 => ?_)
  exact q_Sim.ret vc_30 rfl
theorem vc_31 : v_code 31 = k_31 := rfl
theorem rc_31 (i0 : Nat) (j0 : Nat) (x1 : Int32) : v_rcv 31 [.inr (.inr (3, i0, j0)), .inl x1] = true := rfl
def b_31_2 : Nat → Nat → Nat → Int32 → Int32 → QS → Option ((Int32) × QS)
  | 0, _, _, _, _, _ => none
  | n + 1, i0, j0, x1, x2, S => if (S.1 (3, i0, j0) 1) ≤ x2 then (some (0, S)) else (q_ck (v_in x2 64) (q_let (S.1 (24, i0, j0) x2.toNatClampNeg) (fun y_1 => if ¬ y_1 = x1 then (b_31_2 n i0 j0 x1 (x2 + 1) S) else (some (1, S)))))
theorem sb_31_2 : ∀ (n : Nat) (i0 : Nat) (j0 : Nat) (x1 : Int32) (x2 : Int32) (S : QS), q_Sim 31 2 [(0, .inr (.inr (3, i0, j0))), (1, .inl x1), (2, .inl x2)] [] (q_V S) q_I (b_31_2 n i0 j0 x1 x2 S)
  | 0, _, _, _, _, _ => q_Sim.none
  | n + 1, i0, j0, x1, x2, S => by
    rw [b_31_2]
    refine q_Sim.steps vc_31 3 (pc' := 7) (lv' := [(0, .inr (.inr (3, i0, j0))), (1, .inl x1), (2, .inl x2)]) (st' := [.inl (S.1 (3, i0, j0) 1), .inl x2]) (V' := q_V S) rfl ?_
    refine q_Sim.br vc_31 (c := (S.1 (3, i0, j0) 1) ≤ x2) (t := 28) (f := 10) (lv' := [(0, .inr (.inr (3, i0, j0))), (1, .inl x1), (2, .inl x2)]) (st' := []) (V' := q_V S) rfl ?_ ?_
    · refine q_Sim.steps vc_31 1 (pc' := 29) (lv' := [(0, .inr (.inr (3, i0, j0))), (1, .inl x1), (2, .inl x2)]) (st' := [.inl 0]) (V' := q_V S) rfl ?_
      exact q_Sim.ret vc_31 rfl
    · refine q_Sim.steps vc_31 3 (pc' := 15) (lv' := [(0, .inr (.inr (3, i0, j0))), (1, .inl x1), (2, .inl x2)]) (st' := [.inl x2, .inr (.inr (24, i0, j0))]) (V' := q_V S) rfl ?_
      refine q_Sim.ck vc_31 (c := v_in x2 64) (pc' := 16) (lv' := [(0, .inr (.inr (3, i0, j0))), (1, .inl x1), (2, .inl x2)]) (st' := [.inl (S.1 (24, i0, j0) x2.toNatClampNeg)]) (V' := q_V S) rfl ?_
      refine q_Sim.letI (fun y_1 => ?_)
      refine q_Sim.steps vc_31 1 (pc' := 17) (lv' := [(0, .inr (.inr (3, i0, j0))), (1, .inl x1), (2, .inl x2)]) (st' := [.inl x1, .inl y_1]) (V' := q_V S) rfl ?_
      refine q_Sim.br vc_31 (c := ¬ y_1 = x1) (t := 22) (f := 20) (lv' := [(0, .inr (.inr (3, i0, j0))), (1, .inl x1), (2, .inl x2)]) (st' := []) (V' := q_V S) rfl ?_ ?_
      · refine q_Sim.steps vc_31 2 (pc' := 2) (lv' := [(2, .inl (x2 + 1)), (0, .inr (.inr (3, i0, j0))), (1, .inl x1)]) (st' := []) (V' := q_V S) rfl ?_
        exact q_Sim.sub2 (lv' := [(0, .inr (.inr (3, i0, j0))), (1, .inl x1), (2, .inl (x2 + 1))]) [0, 1, 2] rfl (by decide) ⟨rfl, rfl, rfl, trivial⟩ (sb_31_2 n i0 j0 x1 (x2 + 1) S)
      · refine q_Sim.steps vc_31 1 (pc' := 21) (lv' := [(0, .inr (.inr (3, i0, j0))), (1, .inl x1), (2, .inl x2)]) (st' := [.inl 1]) (V' := q_V S) rfl ?_
        exact q_Sim.ret vc_31 rfl
def f_31 (i0 : Nat) (j0 : Nat) (x1 : Int32) (S : QS) : Option ((Int32) × QS) := b_31_2 q_N i0 j0 x1 0 S
theorem s_31 (i0 : Nat) (j0 : Nat) (x1 : Int32) (S : QS) : q_Sim 31 0 [(0, .inr (.inr (3, i0, j0))), (1, .inl x1)] [] (q_V S) q_I (f_31 i0 j0 x1 S) := by
  unfold f_31
  refine q_Sim.steps vc_31 2 (pc' := 2) (lv' := [(2, .inl 0), (0, .inr (.inr (3, i0, j0))), (1, .inl x1)]) (st' := []) (V' := q_V S) rfl ?_
  exact q_Sim.sub2 (lv' := [(0, .inr (.inr (3, i0, j0))), (1, .inl x1), (2, .inl 0)]) [0, 1, 2] rfl (by decide) ⟨rfl, rfl, rfl, trivial⟩ (sb_31_2 q_N i0 j0 x1 0 S)
theorem vc_180 : v_code 180 = k_180 := rfl
theorem rc_180 (x0 : Int32) : v_rcv 180 [.inl x0] = true := rfl
def f_180 (x0 : Int32) (S : QS) : Option ((Int32) × QS) := if x0 ≤ 0 then (some (0, S)) else (if 100 < x0 then (some (0, S)) else (some (x0, S)))
theorem s_180 (x0 : Int32) (S : QS) : q_Sim 180 0 [(0, .inl x0)] [] (q_V S) q_I (f_180 x0 S) := by
  unfold f_180
  refine q_Sim.steps vc_180 1 (pc' := 1) (lv' := [(0, .inl x0)]) (st' := [.inl x0]) (V' := q_V S) rfl ?_
  refine q_Sim.br vc_180 (c := x0 ≤ 0) (t := 14) (f := 4) (lv' := [(0, .inl x0)]) (st' := []) (V' := q_V S) rfl ?_ ?_
  · refine q_Sim.steps vc_180 1 (pc' := 15) (lv' := [(0, .inl x0)]) (st' := [.inl 0]) (V' := q_V S) rfl ?_
    exact q_Sim.ret vc_180 rfl
  · refine q_Sim.steps vc_180 2 (pc' := 7) (lv' := [(0, .inl x0)]) (st' := [.inl 100, .inl x0]) (V' := q_V S) rfl ?_
    refine q_Sim.br vc_180 (c := 100 < x0) (t := 14) (f := 10) (lv' := [(0, .inl x0)]) (st' := []) (V' := q_V S) rfl ?_ ?_
    · refine q_Sim.steps vc_180 1 (pc' := 15) (lv' := [(0, .inl x0)]) (st' := [.inl 0]) (V' := q_V S) rfl ?_
      exact q_Sim.ret vc_180 rfl
    · refine q_Sim.steps vc_180 2 (pc' := 15) (lv' := [(0, .inl x0)]) (st' := [.inl x0]) (V' := q_V S) rfl ?_
      exact q_Sim.ret vc_180 rfl
theorem vc_32 : v_code 32 = k_32 := rfl
theorem rc_32 (i0 : Nat) (j0 : Nat) : v_rcv 32 [.inr (.inr (3, i0, j0))] = true := rfl
def b_32_4 : Nat → Nat → Nat → Int32 → Int32 → QS → Option ((Int32) × QS)
  | 0, _, _, _, _, _ => none
  | n + 1, i0, j0, x1, x2, S => if (S.1 (3, i0, j0) 1) ≤ x2 then (some (x1, S)) else (q_ck (v_in x2 64) (q_let (S.1 (24, i0, j0) x2.toNatClampNeg) (fun y_1 => q_bd (f_180 y_1 S) (fun r_2 S_3 => q_let (x1 + r_2) (fun y_4 => b_32_4 n i0 j0 y_4 (x2 + 1) S_3)))))
theorem sb_32_4 : ∀ (n : Nat) (i0 : Nat) (j0 : Nat) (x1 : Int32) (x2 : Int32) (S : QS), q_Sim 32 4 [(0, .inr (.inr (3, i0, j0))), (1, .inl x1), (2, .inl x2)] [] (q_V S) q_I (b_32_4 n i0 j0 x1 x2 S)
  | 0, _, _, _, _, _ => q_Sim.none
  | n + 1, i0, j0, x1, x2, S => by
    rw [b_32_4]
    refine q_Sim.steps vc_32 3 (pc' := 9) (lv' := [(0, .inr (.inr (3, i0, j0))), (1, .inl x1), (2, .inl x2)]) (st' := [.inl (S.1 (3, i0, j0) 1), .inl x2]) (V' := q_V S) rfl ?_
    refine q_Sim.br vc_32 (c := (S.1 (3, i0, j0) 1) ≤ x2) (t := 30) (f := 12) (lv' := [(0, .inr (.inr (3, i0, j0))), (1, .inl x1), (2, .inl x2)]) (st' := []) (V' := q_V S) rfl ?_ ?_
    · refine q_Sim.steps vc_32 1 (pc' := 31) (lv' := [(0, .inr (.inr (3, i0, j0))), (1, .inl x1), (2, .inl x2)]) (st' := [.inl x1]) (V' := q_V S) rfl ?_
      exact q_Sim.ret vc_32 rfl
    · refine q_Sim.steps vc_32 4 (pc' := 18) (lv' := [(0, .inr (.inr (3, i0, j0))), (1, .inl x1), (2, .inl x2)]) (st' := [.inl x2, .inr (.inr (24, i0, j0)), .inl x1]) (V' := q_V S) rfl ?_
      refine q_Sim.ck vc_32 (c := v_in x2 64) (pc' := 19) (lv' := [(0, .inr (.inr (3, i0, j0))), (1, .inl x1), (2, .inl x2)]) (st' := [.inl (S.1 (24, i0, j0) x2.toNatClampNeg), .inl x1]) (V' := q_V S) rfl ?_
      refine q_Sim.letI (fun y_1 => ?_)
      refine q_Sim.call vc_32 (as := [.inl y_1]) (pc' := 22) (lv' := [(0, .inr (.inr (3, i0, j0))), (1, .inl x1), (2, .inl x2)]) (st' := [.inl x1]) (S := S) rfl (rc_180 y_1) (s_180 y_1 S) (fun r_2 S_3 => ?_)
      refine q_Sim.steps vc_32 1 (pc' := 23) (lv' := [(0, .inr (.inr (3, i0, j0))), (1, .inl x1), (2, .inl x2)]) (st' := [.inl (x1 + r_2)]) (V' := q_V S_3) rfl ?_
      refine q_Sim.letI (fun y_4 => ?_)
      refine q_Sim.steps vc_32 3 (pc' := 4) (lv' := [(2, .inl (x2 + 1)), (1, .inl y_4), (0, .inr (.inr (3, i0, j0)))]) (st' := []) (V' := q_V S_3) rfl ?_
      exact q_Sim.sub2 (lv' := [(0, .inr (.inr (3, i0, j0))), (1, .inl y_4), (2, .inl (x2 + 1))]) [0, 1, 2] rfl (by decide) ⟨rfl, rfl, rfl, trivial⟩ (sb_32_4 n i0 j0 y_4 (x2 + 1) S_3)
def f_32 (i0 : Nat) (j0 : Nat) (S : QS) : Option ((Int32) × QS) := b_32_4 q_N i0 j0 0 0 S
theorem s_32 (i0 : Nat) (j0 : Nat) (S : QS) : q_Sim 32 0 [(0, .inr (.inr (3, i0, j0)))] [] (q_V S) q_I (f_32 i0 j0 S) := by
  unfold f_32
  refine q_Sim.steps vc_32 4 (pc' := 4) (lv' := [(2, .inl 0), (1, .inl 0), (0, .inr (.inr (3, i0, j0)))]) (st' := []) (V' := q_V S) rfl ?_
  exact q_Sim.sub2 (lv' := [(0, .inr (.inr (3, i0, j0))), (1, .inl 0), (2, .inl 0)]) [0, 1, 2] rfl (by decide) ⟨rfl, rfl, rfl, trivial⟩ (sb_32_4 q_N i0 j0 0 0 S)
theorem vc_33 : v_code 33 = k_33 := rfl
theorem rc_33 (i0 : Nat) (j0 : Nat) (x1 : Int32) : v_rcv 33 [.inr (.inr (3, i0, j0)), .inl x1] = true := rfl
def b_33_64 (x1 : Int32) (x2 : Int32) (S : QS) : Option ((Int32) × QS) := some (x1 - x2, S)
theorem sb_33_64 (x1 : Int32) (x2 : Int32) (S : QS) : q_Sim 33 64 [(1, .inl x1), (2, .inl x2)] [] (q_V S) q_I (b_33_64 x1 x2 S) := by
  unfold b_33_64
  refine q_Sim.steps vc_33 3 (pc' := 67) (lv' := [(1, .inl x1), (2, .inl x2)]) (st' := [.inl (x1 - x2)]) (V' := q_V S) rfl ?_
  exact q_Sim.ret vc_33 rfl
def b_33_58 (back_4 : Nat → Nat → Int32 → Int32 → Int32 → QS → Option ((Int32) × QS)) (i0 : Nat) (j0 : Nat) (x1 : Int32) (x2 : Int32) (x3 : Int32) (S : QS) : Option ((Int32) × QS) := back_4 i0 j0 x1 x2 (x3 + 1) S
theorem sb_33_58 (back_4 : Nat → Nat → Int32 → Int32 → Int32 → QS → Option ((Int32) × QS)) (hb_4 : ∀ (i0 : Nat) (j0 : Nat) (x1 : Int32) (x2 : Int32) (x3 : Int32) (S : QS), q_Sim 33 4 [(0, .inr (.inr (3, i0, j0))), (1, .inl x1), (2, .inl x2), (3, .inl x3)] [] (q_V S) q_I (back_4 i0 j0 x1 x2 x3 S)) (i0 : Nat) (j0 : Nat) (x1 : Int32) (x2 : Int32) (x3 : Int32) (S : QS) : q_Sim 33 58 [(0, .inr (.inr (3, i0, j0))), (1, .inl x1), (2, .inl x2), (3, .inl x3)] [] (q_V S) q_I (b_33_58 back_4 i0 j0 x1 x2 x3 S) := by
  unfold b_33_58
  refine q_Sim.steps vc_33 2 (pc' := 4) (lv' := [(3, .inl (x3 + 1)), (0, .inr (.inr (3, i0, j0))), (1, .inl x1), (2, .inl x2)]) (st' := []) (V' := q_V S) rfl ?_
  exact q_Sim.sub2 (lv' := [(0, .inr (.inr (3, i0, j0))), (1, .inl x1), (2, .inl x2), (3, .inl (x3 + 1))]) [0, 1, 2, 3] rfl (by decide) ⟨rfl, rfl, rfl, rfl, trivial⟩ (hb_4 i0 j0 x1 x2 (x3 + 1) S)
def b_33_4 : Nat → Nat → Nat → Int32 → Int32 → Int32 → QS → Option ((Int32) × QS)
  | 0, _, _, _, _, _, _ => none
  | n + 1, i0, j0, x1, x2, x3, S => if (S.1 (3, i0, j0) 1) ≤ x3 then (b_33_64 x1 x2 S) else (if x2 ≤ 0 then (b_33_64 x1 x2 S) else (q_ck (v_in x3 64) (q_let (S.1 (24, i0, j0) x3.toNatClampNeg) (fun y_1 => if 100 ≤ y_1 then (b_33_58 (b_33_4 n) i0 j0 x1 x2 x3 S) else (q_ck (v_in x3 64) (q_let (S.1 (24, i0, j0) x3.toNatClampNeg) (fun y_2 => q_let (if x2 < (100 - y_2) then x2 else (100 - y_2)) (fun y_3 => q_ck (v_in x3 64) (q_let (S.1 (24, i0, j0) x3.toNatClampNeg) (fun y_4 => q_ck (v_in x3 64) (q_let (q_set S (24, i0, j0) x3.toNatClampNeg (y_4 + y_3)) (fun S_5 => q_let (x2 - y_3) (fun y_6 => b_33_58 (b_33_4 n) i0 j0 x1 y_6 x3 S_5)))))))))))))
theorem sb_33_4 : ∀ (n : Nat) (i0 : Nat) (j0 : Nat) (x1 : Int32) (x2 : Int32) (x3 : Int32) (S : QS), q_Sim 33 4 [(0, .inr (.inr (3, i0, j0))), (1, .inl x1), (2, .inl x2), (3, .inl x3)] [] (q_V S) q_I (b_33_4 n i0 j0 x1 x2 x3 S)
  | 0, _, _, _, _, _, _ => q_Sim.none
  | n + 1, i0, j0, x1, x2, x3, S => by
    rw [b_33_4]
    refine q_Sim.steps vc_33 3 (pc' := 9) (lv' := [(0, .inr (.inr (3, i0, j0))), (1, .inl x1), (2, .inl x2), (3, .inl x3)]) (st' := [.inl (S.1 (3, i0, j0) 1), .inl x3]) (V' := q_V S) rfl ?_
    refine q_Sim.br vc_33 (c := (S.1 (3, i0, j0) 1) ≤ x3) (t := 64) (f := 12) (lv' := [(0, .inr (.inr (3, i0, j0))), (1, .inl x1), (2, .inl x2), (3, .inl x3)]) (st' := []) (V' := q_V S) rfl ?_ ?_
    · exact q_Sim.sub2 (lv' := [(1, .inl x1), (2, .inl x2)]) [1, 2] rfl (by decide) ⟨rfl, rfl, trivial⟩ (sb_33_64 x1 x2 S)
    · refine q_Sim.steps vc_33 1 (pc' := 13) (lv' := [(0, .inr (.inr (3, i0, j0))), (1, .inl x1), (2, .inl x2), (3, .inl x3)]) (st' := [.inl x2]) (V' := q_V S) rfl ?_
      refine q_Sim.br vc_33 (c := x2 ≤ 0) (t := 64) (f := 16) (lv' := [(0, .inr (.inr (3, i0, j0))), (1, .inl x1), (2, .inl x2), (3, .inl x3)]) (st' := []) (V' := q_V S) rfl ?_ ?_
      · exact q_Sim.sub2 (lv' := [(1, .inl x1), (2, .inl x2)]) [1, 2] rfl (by decide) ⟨rfl, rfl, trivial⟩ (sb_33_64 x1 x2 S)
      · refine q_Sim.steps vc_33 3 (pc' := 21) (lv' := [(0, .inr (.inr (3, i0, j0))), (1, .inl x1), (2, .inl x2), (3, .inl x3)]) (st' := [.inl x3, .inr (.inr (24, i0, j0))]) (V' := q_V S) rfl ?_
        refine q_Sim.ck vc_33 (c := v_in x3 64) (pc' := 22) (lv' := [(0, .inr (.inr (3, i0, j0))), (1, .inl x1), (2, .inl x2), (3, .inl x3)]) (st' := [.inl (S.1 (24, i0, j0) x3.toNatClampNeg)]) (V' := q_V S) rfl ?_
        refine q_Sim.letI (fun y_1 => ?_)
        refine q_Sim.steps vc_33 1 (pc' := 24) (lv' := [(0, .inr (.inr (3, i0, j0))), (1, .inl x1), (2, .inl x2), (3, .inl x3)]) (st' := [.inl 100, .inl y_1]) (V' := q_V S) rfl ?_
        refine q_Sim.br vc_33 (c := 100 ≤ y_1) (t := 58) (f := 27) (lv' := [(0, .inr (.inr (3, i0, j0))), (1, .inl x1), (2, .inl x2), (3, .inl x3)]) (st' := []) (V' := q_V S) rfl ?_ ?_
        · exact q_Sim.sub2 (lv' := [(0, .inr (.inr (3, i0, j0))), (1, .inl x1), (2, .inl x2), (3, .inl x3)]) [0, 1, 2, 3] rfl (by decide) ⟨rfl, rfl, rfl, rfl, trivial⟩ (sb_33_58 (b_33_4 n) (sb_33_4 n) i0 j0 x1 x2 x3 S)
        · refine q_Sim.steps vc_33 4 (pc' := 34) (lv' := [(0, .inr (.inr (3, i0, j0))), (1, .inl x1), (2, .inl x2), (3, .inl x3)]) (st' := [.inl x3, .inr (.inr (24, i0, j0)), .inl 100]) (V' := q_V S) rfl ?_
          refine q_Sim.ck vc_33 (c := v_in x3 64) (pc' := 35) (lv' := [(0, .inr (.inr (3, i0, j0))), (1, .inl x1), (2, .inl x2), (3, .inl x3)]) (st' := [.inl (S.1 (24, i0, j0) x3.toNatClampNeg), .inl 100]) (V' := q_V S) rfl ?_
          refine q_Sim.letI (fun y_2 => ?_)
          refine q_Sim.steps vc_33 3 (pc' := 40) (lv' := [(0, .inr (.inr (3, i0, j0))), (1, .inl x1), (2, .inl x2), (3, .inl x3)]) (st' := [.inl (if x2 < (100 - y_2) then x2 else (100 - y_2))]) (V' := q_V S) rfl ?_
          refine q_Sim.letI (fun y_3 => ?_)
          refine q_Sim.steps vc_33 5 (pc' := 48) (lv' := [(4, .inl y_3), (0, .inr (.inr (3, i0, j0))), (1, .inl x1), (2, .inl x2), (3, .inl x3)]) (st' := [.inl x3, .inr (.inr (24, i0, j0)), .inl x3, .inr (.inr (24, i0, j0))]) (V' := q_V S) rfl ?_
          refine q_Sim.ck vc_33 (c := v_in x3 64) (pc' := 49) (lv' := [(4, .inl y_3), (0, .inr (.inr (3, i0, j0))), (1, .inl x1), (2, .inl x2), (3, .inl x3)]) (st' := [.inl (S.1 (24, i0, j0) x3.toNatClampNeg), .inl x3, .inr (.inr (24, i0, j0))]) (V' := q_V S) rfl ?_
          refine q_Sim.letI (fun y_4 => ?_)
          refine q_Sim.steps vc_33 2 (pc' := 52) (lv' := [(4, .inl y_3), (0, .inr (.inr (3, i0, j0))), (1, .inl x1), (2, .inl x2), (3, .inl x3)]) (st' := [.inl (y_4 + y_3), .inl x3, .inr (.inr (24, i0, j0))]) (V' := q_V S) rfl ?_
          refine q_Sim.ck vc_33 (c := v_in x3 64) (pc' := 53) (lv' := [(4, .inl y_3), (0, .inr (.inr (3, i0, j0))), (1, .inl x1), (2, .inl x2), (3, .inl x3)]) (st' := []) (V' := q_V (q_set S (24, i0, j0) x3.toNatClampNeg (y_4 + y_3))) rfl ?_
          refine q_Sim.letS (fun S_5 => ?_)
          refine q_Sim.steps vc_33 3 (pc' := 57) (lv' := [(4, .inl y_3), (0, .inr (.inr (3, i0, j0))), (1, .inl x1), (2, .inl x2), (3, .inl x3)]) (st' := [.inl (x2 - y_3)]) (V' := q_V S_5) rfl ?_
          refine q_Sim.letI (fun y_6 => ?_)
          refine q_Sim.steps vc_33 1 (pc' := 58) (lv' := [(2, .inl y_6), (4, .inl y_3), (0, .inr (.inr (3, i0, j0))), (1, .inl x1), (3, .inl x3)]) (st' := []) (V' := q_V S_5) rfl ?_
          exact q_Sim.sub2 (lv' := [(0, .inr (.inr (3, i0, j0))), (1, .inl x1), (2, .inl y_6), (3, .inl x3)]) [0, 1, 2, 3] rfl (by decide) ⟨rfl, rfl, rfl, rfl, trivial⟩ (sb_33_58 (b_33_4 n) (sb_33_4 n) i0 j0 x1 y_6 x3 S_5)
def f_33 (i0 : Nat) (j0 : Nat) (x1 : Int32) (S : QS) : Option ((Int32) × QS) := b_33_4 q_N i0 j0 x1 x1 0 S
theorem s_33 (i0 : Nat) (j0 : Nat) (x1 : Int32) (S : QS) : q_Sim 33 0 [(0, .inr (.inr (3, i0, j0))), (1, .inl x1)] [] (q_V S) q_I (f_33 i0 j0 x1 S) := by
  unfold f_33
  refine q_Sim.steps vc_33 4 (pc' := 4) (lv' := [(3, .inl 0), (2, .inl x1), (0, .inr (.inr (3, i0, j0))), (1, .inl x1)]) (st' := []) (V' := q_V S) rfl ?_
  exact q_Sim.sub2 (lv' := [(0, .inr (.inr (3, i0, j0))), (1, .inl x1), (2, .inl x1), (3, .inl 0)]) [0, 1, 2, 3] rfl (by decide) ⟨rfl, rfl, rfl, rfl, trivial⟩ (sb_33_4 q_N i0 j0 x1 x1 0 S)
theorem vc_34 : v_code 34 = k_34 := rfl
theorem rc_34 (i0 : Nat) (j0 : Nat) (x1 : Int32) : v_rcv 34 [.inr (.inr (3, i0, j0)), .inl x1] = true := rfl
def b_34_53 (x1 : Int32) (x2 : Int32) (S : QS) : Option ((Int32) × QS) := some (x1 - x2, S)
theorem sb_34_53 (x1 : Int32) (x2 : Int32) (S : QS) : q_Sim 34 53 [(1, .inl x1), (2, .inl x2)] [] (q_V S) q_I (b_34_53 x1 x2 S) := by
  unfold b_34_53
  refine q_Sim.steps vc_34 3 (pc' := 56) (lv' := [(1, .inl x1), (2, .inl x2)]) (st' := [.inl (x1 - x2)]) (V' := q_V S) rfl ?_
  exact q_Sim.ret vc_34 rfl
def b_34_4 : Nat → Nat → Nat → Int32 → Int32 → Int32 → QS → Option ((Int32) × QS)
  | 0, _, _, _, _, _, _ => none
  | n + 1, i0, j0, x1, x2, x3, S => if (S.1 (3, i0, j0) 1) ≤ x3 then (b_34_53 x1 x2 S) else (if x2 ≤ 0 then (b_34_53 x1 x2 S) else (q_ck (v_in x3 64) (q_let (S.1 (24, i0, j0) x3.toNatClampNeg) (fun y_1 => q_bd (f_180 y_1 S) (fun r_2 S_3 => q_let (if x2 < r_2 then x2 else r_2) (fun y_4 => q_ck (v_in x3 64) (q_let (S_3.1 (24, i0, j0) x3.toNatClampNeg) (fun y_5 => q_ck (v_in x3 64) (q_let (q_set S_3 (24, i0, j0) x3.toNatClampNeg (y_5 - y_4)) (fun S_6 => q_let (x2 - y_4) (fun y_7 => b_34_4 n i0 j0 x1 y_7 (x3 + 1) S_6)))))))))))
theorem sb_34_4 : ∀ (n : Nat) (i0 : Nat) (j0 : Nat) (x1 : Int32) (x2 : Int32) (x3 : Int32) (S : QS), q_Sim 34 4 [(0, .inr (.inr (3, i0, j0))), (1, .inl x1), (2, .inl x2), (3, .inl x3)] [] (q_V S) q_I (b_34_4 n i0 j0 x1 x2 x3 S)
  | 0, _, _, _, _, _, _ => q_Sim.none
  | n + 1, i0, j0, x1, x2, x3, S => by
    rw [b_34_4]
    refine q_Sim.steps vc_34 3 (pc' := 9) (lv' := [(0, .inr (.inr (3, i0, j0))), (1, .inl x1), (2, .inl x2), (3, .inl x3)]) (st' := [.inl (S.1 (3, i0, j0) 1), .inl x3]) (V' := q_V S) rfl ?_
    refine q_Sim.br vc_34 (c := (S.1 (3, i0, j0) 1) ≤ x3) (t := 53) (f := 12) (lv' := [(0, .inr (.inr (3, i0, j0))), (1, .inl x1), (2, .inl x2), (3, .inl x3)]) (st' := []) (V' := q_V S) rfl ?_ ?_
    · exact q_Sim.sub2 (lv' := [(1, .inl x1), (2, .inl x2)]) [1, 2] rfl (by decide) ⟨rfl, rfl, trivial⟩ (sb_34_53 x1 x2 S)
    · refine q_Sim.steps vc_34 1 (pc' := 13) (lv' := [(0, .inr (.inr (3, i0, j0))), (1, .inl x1), (2, .inl x2), (3, .inl x3)]) (st' := [.inl x2]) (V' := q_V S) rfl ?_
      refine q_Sim.br vc_34 (c := x2 ≤ 0) (t := 53) (f := 16) (lv' := [(0, .inr (.inr (3, i0, j0))), (1, .inl x1), (2, .inl x2), (3, .inl x3)]) (st' := []) (V' := q_V S) rfl ?_ ?_
      · exact q_Sim.sub2 (lv' := [(1, .inl x1), (2, .inl x2)]) [1, 2] rfl (by decide) ⟨rfl, rfl, trivial⟩ (sb_34_53 x1 x2 S)
      · refine q_Sim.steps vc_34 3 (pc' := 21) (lv' := [(0, .inr (.inr (3, i0, j0))), (1, .inl x1), (2, .inl x2), (3, .inl x3)]) (st' := [.inl x3, .inr (.inr (24, i0, j0))]) (V' := q_V S) rfl ?_
        refine q_Sim.ck vc_34 (c := v_in x3 64) (pc' := 22) (lv' := [(0, .inr (.inr (3, i0, j0))), (1, .inl x1), (2, .inl x2), (3, .inl x3)]) (st' := [.inl (S.1 (24, i0, j0) x3.toNatClampNeg)]) (V' := q_V S) rfl ?_
        refine q_Sim.letI (fun y_1 => ?_)
        refine q_Sim.call vc_34 (as := [.inl y_1]) (pc' := 25) (lv' := [(0, .inr (.inr (3, i0, j0))), (1, .inl x1), (2, .inl x2), (3, .inl x3)]) (st' := []) (S := S) rfl (rc_180 y_1) (s_180 y_1 S) (fun r_2 S_3 => ?_)
        refine q_Sim.steps vc_34 2 (pc' := 29) (lv' := [(0, .inr (.inr (3, i0, j0))), (1, .inl x1), (2, .inl x2), (3, .inl x3)]) (st' := [.inl (if x2 < r_2 then x2 else r_2)]) (V' := q_V S_3) rfl ?_
        refine q_Sim.letI (fun y_4 => ?_)
        refine q_Sim.steps vc_34 5 (pc' := 37) (lv' := [(4, .inl y_4), (0, .inr (.inr (3, i0, j0))), (1, .inl x1), (2, .inl x2), (3, .inl x3)]) (st' := [.inl x3, .inr (.inr (24, i0, j0)), .inl x3, .inr (.inr (24, i0, j0))]) (V' := q_V S_3) rfl ?_
        refine q_Sim.ck vc_34 (c := v_in x3 64) (pc' := 38) (lv' := [(4, .inl y_4), (0, .inr (.inr (3, i0, j0))), (1, .inl x1), (2, .inl x2), (3, .inl x3)]) (st' := [.inl (S_3.1 (24, i0, j0) x3.toNatClampNeg), .inl x3, .inr (.inr (24, i0, j0))]) (V' := q_V S_3) rfl ?_
        refine q_Sim.letI (fun y_5 => ?_)
        refine q_Sim.steps vc_34 2 (pc' := 41) (lv' := [(4, .inl y_4), (0, .inr (.inr (3, i0, j0))), (1, .inl x1), (2, .inl x2), (3, .inl x3)]) (st' := [.inl (y_5 - y_4), .inl x3, .inr (.inr (24, i0, j0))]) (V' := q_V S_3) rfl ?_
        refine q_Sim.ck vc_34 (c := v_in x3 64) (pc' := 42) (lv' := [(4, .inl y_4), (0, .inr (.inr (3, i0, j0))), (1, .inl x1), (2, .inl x2), (3, .inl x3)]) (st' := []) (V' := q_V (q_set S_3 (24, i0, j0) x3.toNatClampNeg (y_5 - y_4))) rfl ?_
        refine q_Sim.letS (fun S_6 => ?_)
        refine q_Sim.steps vc_34 3 (pc' := 46) (lv' := [(4, .inl y_4), (0, .inr (.inr (3, i0, j0))), (1, .inl x1), (2, .inl x2), (3, .inl x3)]) (st' := [.inl (x2 - y_4)]) (V' := q_V S_6) rfl ?_
        refine q_Sim.letI (fun y_7 => ?_)
        refine q_Sim.steps vc_34 3 (pc' := 4) (lv' := [(3, .inl (x3 + 1)), (2, .inl y_7), (4, .inl y_4), (0, .inr (.inr (3, i0, j0))), (1, .inl x1)]) (st' := []) (V' := q_V S_6) rfl ?_
        exact q_Sim.sub2 (lv' := [(0, .inr (.inr (3, i0, j0))), (1, .inl x1), (2, .inl y_7), (3, .inl (x3 + 1))]) [0, 1, 2, 3] rfl (by decide) ⟨rfl, rfl, rfl, rfl, trivial⟩ (sb_34_4 n i0 j0 x1 y_7 (x3 + 1) S_6)
def f_34 (i0 : Nat) (j0 : Nat) (x1 : Int32) (S : QS) : Option ((Int32) × QS) := b_34_4 q_N i0 j0 x1 x1 0 S
theorem s_34 (i0 : Nat) (j0 : Nat) (x1 : Int32) (S : QS) : q_Sim 34 0 [(0, .inr (.inr (3, i0, j0))), (1, .inl x1)] [] (q_V S) q_I (f_34 i0 j0 x1 S) := by
  unfold f_34
  refine q_Sim.steps vc_34 4 (pc' := 4) (lv' := [(3, .inl 0), (2, .inl x1), (0, .inr (.inr (3, i0, j0))), (1, .inl x1)]) (st' := []) (V' := q_V S) rfl ?_
  exact q_Sim.sub2 (lv' := [(0, .inr (.inr (3, i0, j0))), (1, .inl x1), (2, .inl x1), (3, .inl 0)]) [0, 1, 2, 3] rfl (by decide) ⟨rfl, rfl, rfl, rfl, trivial⟩ (sb_34_4 q_N i0 j0 x1 x1 0 S)
theorem vc_35 : v_code 35 = k_35 := rfl
theorem rc_35 (i0 : Nat) (j0 : Nat) : v_rcv 35 [.inr (.inr (3, i0, j0))] = true := rfl
def f_35 (i0 : Nat) (j0 : Nat) (S : QS) : Option ((Int32) × QS) := q_bd (f_32 i0 j0 S) (fun r_1 S_2 => q_bd (f_34 i0 j0 r_1 S_2) (fun r_3 S_4 => some (r_3, S_4)))
theorem s_35 (i0 : Nat) (j0 : Nat) (S : QS) : q_Sim 35 0 [(0, .inr (.inr (3, i0, j0)))] [] (q_V S) q_I (f_35 i0 j0 S) := by
  unfold f_35
  refine q_Sim.steps vc_35 2 (pc' := 2) (lv' := [(0, .inr (.inr (3, i0, j0)))]) (st' := [.inr (.inr (3, i0, j0)), .inr (.inr (3, i0, j0))]) (V' := q_V S) rfl ?_
  refine q_Sim.call vc_35 (as := [.inr (.inr (3, i0, j0))]) (pc' := 5) (lv' := [(0, .inr (.inr (3, i0, j0)))]) (st' := [.inr (.inr (3, i0, j0))]) (S := S) rfl (rc_32 i0 j0) (s_32 i0 j0 S) (fun r_1 S_2 => ?_)
  refine q_Sim.call vc_35 (as := [.inr (.inr (3, i0, j0)), .inl r_1]) (pc' := 8) (lv' := [(0, .inr (.inr (3, i0, j0)))]) (st' := []) (S := S_2) rfl (rc_34 i0 j0 r_1) (s_34 i0 j0 r_1 S_2) (fun r_3 S_4 => ?_)
  exact q_Sim.ret vc_35 rfl
theorem vc_36 : v_code 36 = k_36 := rfl
theorem rc_36 (i0 : Nat) (j0 : Nat) (i1 : Nat) (j1 : Nat) : v_rcv 36 [.inr (.inr (3, i0, j0)), .inr (.inr (3, i1, j1))] = true := rfl
def b_36_4 : Nat → Nat → Nat → Nat → Nat → Int32 → Int32 → QS → Option ((Int32) × QS)
  | 0, _, _, _, _, _, _, _ => none
  | n + 1, i0, j0, i1, j1, x2, x3, S => if (S.1 (3, i0, j0) 1) ≤ x3 then (some (x2, S)) else (if (S.1 (3, i1, j1) 1) ≤ x3 then (some (x2, S)) else (q_ck (v_in x3 64) (q_let (S.1 (24, i1, j1) x3.toNatClampNeg) (fun y_1 => q_bd (f_180 y_1 S) (fun r_2 S_3 => q_let (x2 + r_2) (fun y_4 => q_ck (v_in x3 64) (q_let (S_3.1 (24, i0, j0) x3.toNatClampNeg) (fun y_5 => q_ck (v_in x3 64) (q_let (q_set S_3 (24, i1, j1) x3.toNatClampNeg y_5) (fun S_6 => q_ck (v_in x3 64) (q_let (q_set S_6 (24, i0, j0) x3.toNatClampNeg 0) (fun S_7 => b_36_4 n i0 j0 i1 j1 y_4 (x3 + 1) S_7))))))))))))
theorem sb_36_4 : ∀ (n : Nat) (i0 : Nat) (j0 : Nat) (i1 : Nat) (j1 : Nat) (x2 : Int32) (x3 : Int32) (S : QS), q_Sim 36 4 [(0, .inr (.inr (3, i0, j0))), (1, .inr (.inr (3, i1, j1))), (2, .inl x2), (3, .inl x3)] [] (q_V S) q_I (b_36_4 n i0 j0 i1 j1 x2 x3 S)
  | 0, _, _, _, _, _, _, _ => q_Sim.none
  | n + 1, i0, j0, i1, j1, x2, x3, S => by
    rw [b_36_4]
    refine q_Sim.steps vc_36 3 (pc' := 9) (lv' := [(0, .inr (.inr (3, i0, j0))), (1, .inr (.inr (3, i1, j1))), (2, .inl x2), (3, .inl x3)]) (st' := [.inl (S.1 (3, i0, j0) 1), .inl x3]) (V' := q_V S) rfl ?_
    refine q_Sim.br vc_36 (c := (S.1 (3, i0, j0) 1) ≤ x3) (t := 57) (f := 12) (lv' := [(0, .inr (.inr (3, i0, j0))), (1, .inr (.inr (3, i1, j1))), (2, .inl x2), (3, .inl x3)]) (st' := []) (V' := q_V S) rfl ?_ ?_
    · refine q_Sim.steps vc_36 1 (pc' := 58) (lv' := [(0, .inr (.inr (3, i0, j0))), (1, .inr (.inr (3, i1, j1))), (2, .inl x2), (3, .inl x3)]) (st' := [.inl x2]) (V' := q_V S) rfl ?_
      exact q_Sim.ret vc_36 rfl
    · refine q_Sim.steps vc_36 3 (pc' := 17) (lv' := [(0, .inr (.inr (3, i0, j0))), (1, .inr (.inr (3, i1, j1))), (2, .inl x2), (3, .inl x3)]) (st' := [.inl (S.1 (3, i1, j1) 1), .inl x3]) (V' := q_V S) rfl ?_
      refine q_Sim.br vc_36 (c := (S.1 (3, i1, j1) 1) ≤ x3) (t := 57) (f := 20) (lv' := [(0, .inr (.inr (3, i0, j0))), (1, .inr (.inr (3, i1, j1))), (2, .inl x2), (3, .inl x3)]) (st' := []) (V' := q_V S) rfl ?_ ?_
      · refine q_Sim.steps vc_36 1 (pc' := 58) (lv' := [(0, .inr (.inr (3, i0, j0))), (1, .inr (.inr (3, i1, j1))), (2, .inl x2), (3, .inl x3)]) (st' := [.inl x2]) (V' := q_V S) rfl ?_
        exact q_Sim.ret vc_36 rfl
      · refine q_Sim.steps vc_36 4 (pc' := 26) (lv' := [(0, .inr (.inr (3, i0, j0))), (1, .inr (.inr (3, i1, j1))), (2, .inl x2), (3, .inl x3)]) (st' := [.inl x3, .inr (.inr (24, i1, j1)), .inl x2]) (V' := q_V S) rfl ?_
        refine q_Sim.ck vc_36 (c := v_in x3 64) (pc' := 27) (lv' := [(0, .inr (.inr (3, i0, j0))), (1, .inr (.inr (3, i1, j1))), (2, .inl x2), (3, .inl x3)]) (st' := [.inl (S.1 (24, i1, j1) x3.toNatClampNeg), .inl x2]) (V' := q_V S) rfl ?_
        refine q_Sim.letI (fun y_1 => ?_)
        refine q_Sim.call vc_36 (as := [.inl y_1]) (pc' := 30) (lv' := [(0, .inr (.inr (3, i0, j0))), (1, .inr (.inr (3, i1, j1))), (2, .inl x2), (3, .inl x3)]) (st' := [.inl x2]) (S := S) rfl (rc_180 y_1) (s_180 y_1 S) (fun r_2 S_3 => ?_)
        refine q_Sim.steps vc_36 1 (pc' := 31) (lv' := [(0, .inr (.inr (3, i0, j0))), (1, .inr (.inr (3, i1, j1))), (2, .inl x2), (3, .inl x3)]) (st' := [.inl (x2 + r_2)]) (V' := q_V S_3) rfl ?_
        refine q_Sim.letI (fun y_4 => ?_)
        refine q_Sim.steps vc_36 7 (pc' := 42) (lv' := [(2, .inl y_4), (0, .inr (.inr (3, i0, j0))), (1, .inr (.inr (3, i1, j1))), (3, .inl x3)]) (st' := [.inl x3, .inr (.inr (24, i0, j0)), .inl x3, .inr (.inr (24, i1, j1))]) (V' := q_V S_3) rfl ?_
        refine q_Sim.ck vc_36 (c := v_in x3 64) (pc' := 43) (lv' := [(2, .inl y_4), (0, .inr (.inr (3, i0, j0))), (1, .inr (.inr (3, i1, j1))), (3, .inl x3)]) (st' := [.inl (S_3.1 (24, i0, j0) x3.toNatClampNeg), .inl x3, .inr (.inr (24, i1, j1))]) (V' := q_V S_3) rfl ?_
        refine q_Sim.letI (fun y_5 => ?_)
        refine q_Sim.ck vc_36 (c := v_in x3 64) (pc' := 44) (lv' := [(2, .inl y_4), (0, .inr (.inr (3, i0, j0))), (1, .inr (.inr (3, i1, j1))), (3, .inl x3)]) (st' := []) (V' := q_V (q_set S_3 (24, i1, j1) x3.toNatClampNeg y_5)) rfl ?_
        refine q_Sim.letS (fun S_6 => ?_)
        refine q_Sim.steps vc_36 4 (pc' := 50) (lv' := [(2, .inl y_4), (0, .inr (.inr (3, i0, j0))), (1, .inr (.inr (3, i1, j1))), (3, .inl x3)]) (st' := [.inl 0, .inl x3, .inr (.inr (24, i0, j0))]) (V' := q_V S_6) rfl ?_
        refine q_Sim.ck vc_36 (c := v_in x3 64) (pc' := 51) (lv' := [(2, .inl y_4), (0, .inr (.inr (3, i0, j0))), (1, .inr (.inr (3, i1, j1))), (3, .inl x3)]) (st' := []) (V' := q_V (q_set S_6 (24, i0, j0) x3.toNatClampNeg 0)) rfl ?_
        refine q_Sim.letS (fun S_7 => ?_)
        refine q_Sim.steps vc_36 2 (pc' := 4) (lv' := [(3, .inl (x3 + 1)), (2, .inl y_4), (0, .inr (.inr (3, i0, j0))), (1, .inr (.inr (3, i1, j1)))]) (st' := []) (V' := q_V S_7) rfl ?_
        exact q_Sim.sub2 (lv' := [(0, .inr (.inr (3, i0, j0))), (1, .inr (.inr (3, i1, j1))), (2, .inl y_4), (3, .inl (x3 + 1))]) [0, 1, 2, 3] rfl (by decide) ⟨rfl, rfl, rfl, rfl, trivial⟩ (sb_36_4 n i0 j0 i1 j1 y_4 (x3 + 1) S_7)
def f_36 (i0 : Nat) (j0 : Nat) (i1 : Nat) (j1 : Nat) (S : QS) : Option ((Int32) × QS) := b_36_4 q_N i0 j0 i1 j1 0 0 S
theorem s_36 (i0 : Nat) (j0 : Nat) (i1 : Nat) (j1 : Nat) (S : QS) : q_Sim 36 0 [(0, .inr (.inr (3, i0, j0))), (1, .inr (.inr (3, i1, j1)))] [] (q_V S) q_I (f_36 i0 j0 i1 j1 S) := by
  unfold f_36
  refine q_Sim.steps vc_36 4 (pc' := 4) (lv' := [(3, .inl 0), (2, .inl 0), (0, .inr (.inr (3, i0, j0))), (1, .inr (.inr (3, i1, j1)))]) (st' := []) (V' := q_V S) rfl ?_
  exact q_Sim.sub2 (lv' := [(0, .inr (.inr (3, i0, j0))), (1, .inr (.inr (3, i1, j1))), (2, .inl 0), (3, .inl 0)]) [0, 1, 2, 3] rfl (by decide) ⟨rfl, rfl, rfl, rfl, trivial⟩ (sb_36_4 q_N i0 j0 i1 j1 0 0 S)
theorem vc_181 : v_code 181 = k_181 := rfl
theorem rc_181 (x0 : Int32) : v_rcv 181 [.inl x0] = true := rfl
def f_181 (x0 : Int32) (S : QS) : Option ((Int32) × QS) := if x0 < 300 then (some (0, S)) else (some (1, S))
theorem s_181 (x0 : Int32) (S : QS) : q_Sim 181 0 [(0, .inl x0)] [] (q_V S) q_I (f_181 x0 S) := by
  unfold f_181
  refine q_Sim.steps vc_181 2 (pc' := 4) (lv' := [(0, .inl x0)]) (st' := [.inl 300, .inl x0]) (V' := q_V S) rfl ?_
  refine q_Sim.br vc_181 (c := x0 < 300) (t := 11) (f := 7) (lv' := [(0, .inl x0)]) (st' := []) (V' := q_V S) rfl ?_ ?_
  · refine q_Sim.steps vc_181 1 (pc' := 12) (lv' := [(0, .inl x0)]) (st' := [.inl 0]) (V' := q_V S) rfl ?_
    exact q_Sim.ret vc_181 rfl
  · refine q_Sim.steps vc_181 2 (pc' := 12) (lv' := [(0, .inl x0)]) (st' := [.inl 1]) (V' := q_V S) rfl ?_
    exact q_Sim.ret vc_181 rfl
theorem vc_37 : v_code 37 = k_37 := rfl
theorem rc_37 (i0 : Nat) (j0 : Nat) (i1 : Nat) (j1 : Nat) : v_rcv 37 [.inr (.inr (3, i0, j0)), .inr (.inr (4, i1, j1))] = true := rfl
def b_37_93 (back_2 : Nat → Nat → Nat → Nat → Int32 → QS → Option ((Unit) × QS)) (i0 : Nat) (j0 : Nat) (i1 : Nat) (j1 : Nat) (x2 : Int32) (S : QS) : Option ((Unit) × QS) := back_2 i0 j0 i1 j1 (x2 + 1) S
theorem sb_37_93 (back_2 : Nat → Nat → Nat → Nat → Int32 → QS → Option ((Unit) × QS)) (hb_2 : ∀ (i0 : Nat) (j0 : Nat) (i1 : Nat) (j1 : Nat) (x2 : Int32) (S : QS), q_Sim 37 2 [(0, .inr (.inr (3, i0, j0))), (1, .inr (.inr (4, i1, j1))), (2, .inl x2)] [] (q_V S) q_U (back_2 i0 j0 i1 j1 x2 S)) (i0 : Nat) (j0 : Nat) (i1 : Nat) (j1 : Nat) (x2 : Int32) (S : QS) : q_Sim 37 93 [(0, .inr (.inr (3, i0, j0))), (1, .inr (.inr (4, i1, j1))), (2, .inl x2)] [] (q_V S) q_U (b_37_93 back_2 i0 j0 i1 j1 x2 S) := by
  unfold b_37_93
  refine q_Sim.steps vc_37 2 (pc' := 2) (lv' := [(2, .inl (x2 + 1)), (0, .inr (.inr (3, i0, j0))), (1, .inr (.inr (4, i1, j1)))]) (st' := []) (V' := q_V S) rfl ?_
  exact q_Sim.sub2 (lv' := [(0, .inr (.inr (3, i0, j0))), (1, .inr (.inr (4, i1, j1))), (2, .inl (x2 + 1))]) [0, 1, 2] rfl (by decide) ⟨rfl, rfl, rfl, trivial⟩ (hb_2 i0 j0 i1 j1 (x2 + 1) S)
def b_37_2 : Nat → Nat → Nat → Nat → Nat → Int32 → QS → Option ((Unit) × QS)
  | 0, _, _, _, _, _, _ => none
  | n + 1, i0, j0, i1, j1, x2, S => if (S.1 (3, i0, j0) 1) ≤ x2 then (some ((), S)) else (q_ck (v_in x2 64) (q_let (S.1 (24, i0, j0) x2.toNatClampNeg) (fun y_1 => q_bd (f_181 y_1 S) (fun r_2 S_3 => if r_2 = 0 then (b_37_93 (b_37_2 n) i0 j0 i1 j1 x2 S_3) else (q_ck (v_in x2 64) (q_let (S_3.1 (24, i0, j0) x2.toNatClampNeg) (fun y_4 => q_ck (v_in x2 64) (q_let (q_set S_3 (24, i0, j0) x2.toNatClampNeg (y_4 + 1)) (fun S_5 => q_ck (v_in x2 64) (q_let (S_5.1 (24, i0, j0) x2.toNatClampNeg) (fun y_6 => if ¬ y_6 = 321 then (q_ck (v_in x2 64) (q_let (S_5.1 (24, i0, j0) x2.toNatClampNeg) (fun y_7 => if ¬ y_7 = 424 then (b_37_93 (b_37_2 n) i0 j0 i1 j1 x2 S_5) else (q_ck (v_in x2 64) (q_let (q_set S_5 (24, i0, j0) x2.toNatClampNeg 0) (fun S_8 => q_let (q_set S_8 (4, i1, j1) 3 ((S_8.1 (4, i1, j1) 3) + 1)) (fun S_9 => b_37_93 (b_37_2 n) i0 j0 i1 j1 x2 S_9))))))) else (q_ck (v_in x2 64) (q_let (q_set S_5 (24, i0, j0) x2.toNatClampNeg 0) (fun S_10 => q_let (q_set S_10 (4, i1, j1) 2 ((S_10.1 (4, i1, j1) 2) + 1)) (fun S_11 => b_37_93 (b_37_2 n) i0 j0 i1 j1 x2 S_11)))))))))))))))
theorem sb_37_2 : ∀ (n : Nat) (i0 : Nat) (j0 : Nat) (i1 : Nat) (j1 : Nat) (x2 : Int32) (S : QS), q_Sim 37 2 [(0, .inr (.inr (3, i0, j0))), (1, .inr (.inr (4, i1, j1))), (2, .inl x2)] [] (q_V S) q_U (b_37_2 n i0 j0 i1 j1 x2 S)
  | 0, _, _, _, _, _, _ => q_Sim.none
  | n + 1, i0, j0, i1, j1, x2, S => by
    rw [b_37_2]
    refine q_Sim.steps vc_37 3 (pc' := 7) (lv' := [(0, .inr (.inr (3, i0, j0))), (1, .inr (.inr (4, i1, j1))), (2, .inl x2)]) (st' := [.inl (S.1 (3, i0, j0) 1), .inl x2]) (V' := q_V S) rfl ?_
    refine q_Sim.br vc_37 (c := (S.1 (3, i0, j0) 1) ≤ x2) (t := 99) (f := 10) (lv' := [(0, .inr (.inr (3, i0, j0))), (1, .inr (.inr (4, i1, j1))), (2, .inl x2)]) (st' := []) (V' := q_V S) rfl ?_ ?_
    · exact q_Sim.ret vc_37 rfl
    · refine q_Sim.steps vc_37 3 (pc' := 15) (lv' := [(0, .inr (.inr (3, i0, j0))), (1, .inr (.inr (4, i1, j1))), (2, .inl x2)]) (st' := [.inl x2, .inr (.inr (24, i0, j0))]) (V' := q_V S) rfl ?_
      refine q_Sim.ck vc_37 (c := v_in x2 64) (pc' := 16) (lv' := [(0, .inr (.inr (3, i0, j0))), (1, .inr (.inr (4, i1, j1))), (2, .inl x2)]) (st' := [.inl (S.1 (24, i0, j0) x2.toNatClampNeg)]) (V' := q_V S) rfl ?_
      refine q_Sim.letI (fun y_1 => ?_)
      refine q_Sim.call vc_37 (as := [.inl y_1]) (pc' := 19) (lv' := [(0, .inr (.inr (3, i0, j0))), (1, .inr (.inr (4, i1, j1))), (2, .inl x2)]) (st' := []) (S := S) rfl (rc_181 y_1) (s_181 y_1 S) (fun r_2 S_3 => ?_)
      refine q_Sim.br vc_37 (c := r_2 = 0) (t := 93) (f := 22) (lv' := [(0, .inr (.inr (3, i0, j0))), (1, .inr (.inr (4, i1, j1))), (2, .inl x2)]) (st' := []) (V' := q_V S_3) rfl ?_ ?_
      · exact q_Sim.sub2 (lv' := [(0, .inr (.inr (3, i0, j0))), (1, .inr (.inr (4, i1, j1))), (2, .inl x2)]) [0, 1, 2] rfl (by decide) ⟨rfl, rfl, rfl, trivial⟩ (sb_37_93 (b_37_2 n) (sb_37_2 n) i0 j0 i1 j1 x2 S_3)
      · refine q_Sim.steps vc_37 4 (pc' := 28) (lv' := [(0, .inr (.inr (3, i0, j0))), (1, .inr (.inr (4, i1, j1))), (2, .inl x2)]) (st' := [.inl x2, .inr (.inr (24, i0, j0)), .inl x2, .inr (.inr (24, i0, j0))]) (V' := q_V S_3) rfl ?_
        refine q_Sim.ck vc_37 (c := v_in x2 64) (pc' := 29) (lv' := [(0, .inr (.inr (3, i0, j0))), (1, .inr (.inr (4, i1, j1))), (2, .inl x2)]) (st' := [.inl (S_3.1 (24, i0, j0) x2.toNatClampNeg), .inl x2, .inr (.inr (24, i0, j0))]) (V' := q_V S_3) rfl ?_
        refine q_Sim.letI (fun y_4 => ?_)
        refine q_Sim.steps vc_37 2 (pc' := 31) (lv' := [(0, .inr (.inr (3, i0, j0))), (1, .inr (.inr (4, i1, j1))), (2, .inl x2)]) (st' := [.inl (y_4 + 1), .inl x2, .inr (.inr (24, i0, j0))]) (V' := q_V S_3) rfl ?_
        refine q_Sim.ck vc_37 (c := v_in x2 64) (pc' := 32) (lv' := [(0, .inr (.inr (3, i0, j0))), (1, .inr (.inr (4, i1, j1))), (2, .inl x2)]) (st' := []) (V' := q_V (q_set S_3 (24, i0, j0) x2.toNatClampNeg (y_4 + 1))) rfl ?_
        refine q_Sim.letS (fun S_5 => ?_)
        refine q_Sim.steps vc_37 3 (pc' := 37) (lv' := [(0, .inr (.inr (3, i0, j0))), (1, .inr (.inr (4, i1, j1))), (2, .inl x2)]) (st' := [.inl x2, .inr (.inr (24, i0, j0))]) (V' := q_V S_5) rfl ?_
        refine q_Sim.ck vc_37 (c := v_in x2 64) (pc' := 38) (lv' := [(0, .inr (.inr (3, i0, j0))), (1, .inr (.inr (4, i1, j1))), (2, .inl x2)]) (st' := [.inl (S_5.1 (24, i0, j0) x2.toNatClampNeg)]) (V' := q_V S_5) rfl ?_
        refine q_Sim.letI (fun y_6 => ?_)
        refine q_Sim.steps vc_37 1 (pc' := 41) (lv' := [(0, .inr (.inr (3, i0, j0))), (1, .inr (.inr (4, i1, j1))), (2, .inl x2)]) (st' := [.inl 321, .inl y_6]) (V' := q_V S_5) rfl ?_
        refine q_Sim.br vc_37 (c := ¬ y_6 = 321) (t := 64) (f := 44) (lv' := [(0, .inr (.inr (3, i0, j0))), (1, .inr (.inr (4, i1, j1))), (2, .inl x2)]) (st' := []) (V' := q_V S_5) rfl ?_ ?_
        · refine q_Sim.steps vc_37 3 (pc' := 69) (lv' := [(0, .inr (.inr (3, i0, j0))), (1, .inr (.inr (4, i1, j1))), (2, .inl x2)]) (st' := [.inl x2, .inr (.inr (24, i0, j0))]) (V' := q_V S_5) rfl ?_
          refine q_Sim.ck vc_37 (c := v_in x2 64) (pc' := 70) (lv' := [(0, .inr (.inr (3, i0, j0))), (1, .inr (.inr (4, i1, j1))), (2, .inl x2)]) (st' := [.inl (S_5.1 (24, i0, j0) x2.toNatClampNeg)]) (V' := q_V S_5) rfl ?_
          refine q_Sim.letI (fun y_7 => ?_)
          refine q_Sim.steps vc_37 1 (pc' := 73) (lv' := [(0, .inr (.inr (3, i0, j0))), (1, .inr (.inr (4, i1, j1))), (2, .inl x2)]) (st' := [.inl 424, .inl y_7]) (V' := q_V S_5) rfl ?_
          refine q_Sim.br vc_37 (c := ¬ y_7 = 424) (t := 93) (f := 76) (lv' := [(0, .inr (.inr (3, i0, j0))), (1, .inr (.inr (4, i1, j1))), (2, .inl x2)]) (st' := []) (V' := q_V S_5) rfl ?_ ?_
          · exact q_Sim.sub2 (lv' := [(0, .inr (.inr (3, i0, j0))), (1, .inr (.inr (4, i1, j1))), (2, .inl x2)]) [0, 1, 2] rfl (by decide) ⟨rfl, rfl, rfl, trivial⟩ (sb_37_93 (b_37_2 n) (sb_37_2 n) i0 j0 i1 j1 x2 S_5)
          · refine q_Sim.steps vc_37 4 (pc' := 82) (lv' := [(0, .inr (.inr (3, i0, j0))), (1, .inr (.inr (4, i1, j1))), (2, .inl x2)]) (st' := [.inl 0, .inl x2, .inr (.inr (24, i0, j0))]) (V' := q_V S_5) rfl ?_
            refine q_Sim.ck vc_37 (c := v_in x2 64) (pc' := 83) (lv' := [(0, .inr (.inr (3, i0, j0))), (1, .inr (.inr (4, i1, j1))), (2, .inl x2)]) (st' := []) (V' := q_V (q_set S_5 (24, i0, j0) x2.toNatClampNeg 0)) rfl ?_
            refine q_Sim.letS (fun S_8 => ?_)
            refine q_Sim.steps vc_37 5 (pc' := 90) (lv' := [(0, .inr (.inr (3, i0, j0))), (1, .inr (.inr (4, i1, j1))), (2, .inl x2)]) (st' := [.inl ((S_8.1 (4, i1, j1) 3) + 1), .inr (.inr (4, i1, j1))]) (V' := q_V S_8) rfl ?_
            refine q_Sim.steps vc_37 1 (pc' := 93) (lv' := [(0, .inr (.inr (3, i0, j0))), (1, .inr (.inr (4, i1, j1))), (2, .inl x2)]) (st' := []) (V' := q_V (q_set S_8 (4, i1, j1) 3 ((S_8.1 (4, i1, j1) 3) + 1))) rfl ?_
            refine q_Sim.letS (fun S_9 => ?_)
            exact q_Sim.sub2 (lv' := [(0, .inr (.inr (3, i0, j0))), (1, .inr (.inr (4, i1, j1))), (2, .inl x2)]) [0, 1, 2] rfl (by decide) ⟨rfl, rfl, rfl, trivial⟩ (sb_37_93 (b_37_2 n) (sb_37_2 n) i0 j0 i1 j1 x2 S_9)
        · refine q_Sim.steps vc_37 4 (pc' := 50) (lv' := [(0, .inr (.inr (3, i0, j0))), (1, .inr (.inr (4, i1, j1))), (2, .inl x2)]) (st' := [.inl 0, .inl x2, .inr (.inr (24, i0, j0))]) (V' := q_V S_5) rfl ?_
          refine q_Sim.ck vc_37 (c := v_in x2 64) (pc' := 51) (lv' := [(0, .inr (.inr (3, i0, j0))), (1, .inr (.inr (4, i1, j1))), (2, .inl x2)]) (st' := []) (V' := q_V (q_set S_5 (24, i0, j0) x2.toNatClampNeg 0)) rfl ?_
          refine q_Sim.letS (fun S_10 => ?_)
          refine q_Sim.steps vc_37 5 (pc' := 58) (lv' := [(0, .inr (.inr (3, i0, j0))), (1, .inr (.inr (4, i1, j1))), (2, .inl x2)]) (st' := [.inl ((S_10.1 (4, i1, j1) 2) + 1), .inr (.inr (4, i1, j1))]) (V' := q_V S_10) rfl ?_
          refine q_Sim.steps vc_37 1 (pc' := 61) (lv' := [(0, .inr (.inr (3, i0, j0))), (1, .inr (.inr (4, i1, j1))), (2, .inl x2)]) (st' := []) (V' := q_V (q_set S_10 (4, i1, j1) 2 ((S_10.1 (4, i1, j1) 2) + 1))) rfl ?_
          refine q_Sim.letS (fun S_11 => ?_)
          refine q_Sim.steps vc_37 1 (pc' := 93) (lv' := [(0, .inr (.inr (3, i0, j0))), (1, .inr (.inr (4, i1, j1))), (2, .inl x2)]) (st' := []) (V' := q_V S_11) rfl ?_
          exact q_Sim.sub2 (lv' := [(0, .inr (.inr (3, i0, j0))), (1, .inr (.inr (4, i1, j1))), (2, .inl x2)]) [0, 1, 2] rfl (by decide) ⟨rfl, rfl, rfl, trivial⟩ (sb_37_93 (b_37_2 n) (sb_37_2 n) i0 j0 i1 j1 x2 S_11)
def f_37 (i0 : Nat) (j0 : Nat) (i1 : Nat) (j1 : Nat) (S : QS) : Option ((Unit) × QS) := b_37_2 q_N i0 j0 i1 j1 0 S
theorem s_37 (i0 : Nat) (j0 : Nat) (i1 : Nat) (j1 : Nat) (S : QS) : q_Sim 37 0 [(0, .inr (.inr (3, i0, j0))), (1, .inr (.inr (4, i1, j1)))] [] (q_V S) q_U (f_37 i0 j0 i1 j1 S) := by
  unfold f_37
  refine q_Sim.steps vc_37 2 (pc' := 2) (lv' := [(2, .inl 0), (0, .inr (.inr (3, i0, j0))), (1, .inr (.inr (4, i1, j1)))]) (st' := []) (V' := q_V S) rfl ?_
  exact q_Sim.sub2 (lv' := [(0, .inr (.inr (3, i0, j0))), (1, .inr (.inr (4, i1, j1))), (2, .inl 0)]) [0, 1, 2] rfl (by decide) ⟨rfl, rfl, rfl, trivial⟩ (sb_37_2 q_N i0 j0 i1 j1 0 S)
theorem vc_183 : v_code 183 = k_183 := rfl
theorem rc_183 (x0 : Int32) (x1 : Int32) : v_rcv 183 [.inl x0, .inl x1] = true := rfl
def f_183 (x0 : Int32) (x1 : Int32) (S : QS) : Option ((Int32) × QS) := if ¬ (x1 - x1 / 2 * 2) = 0 then (some ((x0 - 1) - (x1 / 2), S)) else (some (x0 + (x1 / 2), S))
theorem s_183 (x0 : Int32) (x1 : Int32) (S : QS) : q_Sim 183 0 [(0, .inl x0), (1, .inl x1)] [] (q_V S) q_I (f_183 x0 x1 S) := by
  unfold f_183
  refine q_Sim.steps vc_183 2 (pc' := 2) (lv' := [(0, .inl x0), (1, .inl x1)]) (st' := [.inl 2, .inl x1]) (V' := q_V S) rfl ?_
  refine q_Sim.okd vc_183 (c := decide (¬ (2 : Int32) = 0)) (pc' := 3) (lv' := [(0, .inl x0), (1, .inl x1)]) (st' := [.inl (x1 - x1 / 2 * 2)]) (V' := q_V S) rfl (by decide) ?_
  refine q_Sim.br vc_183 (c := ¬ (x1 - x1 / 2 * 2) = 0) (t := 14) (f := 6) (lv' := [(0, .inl x0), (1, .inl x1)]) (st' := []) (V' := q_V S) rfl ?_ ?_
  · refine q_Sim.steps vc_183 5 (pc' := 19) (lv' := [(0, .inl x0), (1, .inl x1)]) (st' := [.inl 2, .inl x1, .inl (x0 - 1)]) (V' := q_V S) rfl ?_
    refine q_Sim.okd vc_183 (c := decide (¬ (2 : Int32) = 0)) (pc' := 20) (lv' := [(0, .inl x0), (1, .inl x1)]) (st' := [.inl (x1 / 2), .inl (x0 - 1)]) (V' := q_V S) rfl (by decide) ?_
    refine q_Sim.steps vc_183 1 (pc' := 21) (lv' := [(0, .inl x0), (1, .inl x1)]) (st' := [.inl ((x0 - 1) - (x1 / 2))]) (V' := q_V S) rfl ?_
    exact q_Sim.ret vc_183 rfl
  · refine q_Sim.steps vc_183 3 (pc' := 9) (lv' := [(0, .inl x0), (1, .inl x1)]) (st' := [.inl 2, .inl x1, .inl x0]) (V' := q_V S) rfl ?_
    refine q_Sim.okd vc_183 (c := decide (¬ (2 : Int32) = 0)) (pc' := 10) (lv' := [(0, .inl x0), (1, .inl x1)]) (st' := [.inl (x1 / 2), .inl x0]) (V' := q_V S) rfl (by decide) ?_
    refine q_Sim.steps vc_183 2 (pc' := 21) (lv' := [(0, .inl x0), (1, .inl x1)]) (st' := [.inl (x0 + (x1 / 2))]) (V' := q_V S) rfl ?_
    exact q_Sim.ret vc_183 rfl
theorem vc_38 : v_code 38 = k_38 := rfl
theorem rc_38 (i0 : Nat) (j0 : Nat) (x1 : Int32) (x2 : Int32) : v_rcv 38 [.inr (.inr (3, i0, j0)), .inl x1, .inl x2] = true := rfl
def b_38_56 (back_5 : Nat → Nat → Int32 → Int32 → Int32 → Int32 → QS → Option ((Int32) × QS)) (i0 : Nat) (j0 : Nat) (x1 : Int32) (x2 : Int32) (x3 : Int32) (x4 : Int32) (S : QS) : Option ((Int32) × QS) := back_5 i0 j0 x1 x2 x3 (x4 + 1) S
theorem sb_38_56 (back_5 : Nat → Nat → Int32 → Int32 → Int32 → Int32 → QS → Option ((Int32) × QS)) (hb_5 : ∀ (i0 : Nat) (j0 : Nat) (x1 : Int32) (x2 : Int32) (x3 : Int32) (x4 : Int32) (S : QS), q_Sim 38 5 [(0, .inr (.inr (3, i0, j0))), (1, .inl x1), (2, .inl x2), (3, .inl x3), (4, .inl x4)] [] (q_V S) q_I (back_5 i0 j0 x1 x2 x3 x4 S)) (i0 : Nat) (j0 : Nat) (x1 : Int32) (x2 : Int32) (x3 : Int32) (x4 : Int32) (S : QS) : q_Sim 38 56 [(0, .inr (.inr (3, i0, j0))), (1, .inl x1), (2, .inl x2), (3, .inl x3), (4, .inl x4)] [] (q_V S) q_I (b_38_56 back_5 i0 j0 x1 x2 x3 x4 S) := by
  unfold b_38_56
  refine q_Sim.steps vc_38 2 (pc' := 5) (lv' := [(4, .inl (x4 + 1)), (0, .inr (.inr (3, i0, j0))), (1, .inl x1), (2, .inl x2), (3, .inl x3)]) (st' := []) (V' := q_V S) rfl ?_
  exact q_Sim.sub2 (lv' := [(0, .inr (.inr (3, i0, j0))), (1, .inl x1), (2, .inl x2), (3, .inl x3), (4, .inl (x4 + 1))]) [0, 1, 2, 3, 4] rfl (by decide) ⟨rfl, rfl, rfl, rfl, rfl, trivial⟩ (hb_5 i0 j0 x1 x2 x3 (x4 + 1) S)
def b_38_5 : Nat → Nat → Nat → Int32 → Int32 → Int32 → Int32 → QS → Option ((Int32) × QS)
  | 0, _, _, _, _, _, _, _ => none
  | n + 1, i0, j0, x1, x2, x3, x4, S => if 64 ≤ x4 then (some (x3, S)) else (if x2 ≤ x3 then (some (x3, S)) else (q_bd (f_183 32 x4 S) (fun r_1 S_2 => if (S_2.1 (3, i0, j0) 1) ≤ r_1 then (b_38_56 (b_38_5 n) i0 j0 x1 x2 x3 x4 S_2) else (q_ck (v_in r_1 64) (q_let (S_2.1 (24, i0, j0) r_1.toNatClampNeg) (fun y_3 => if ¬ y_3 = 0 then (b_38_56 (b_38_5 n) i0 j0 x1 x2 x3 x4 S_2) else (q_ck (v_in r_1 64) (q_let (q_set S_2 (24, i0, j0) r_1.toNatClampNeg x1) (fun S_4 => b_38_56 (b_38_5 n) i0 j0 x1 x2 (x3 + 1) x4 S_4)))))))))
theorem sb_38_5 : ∀ (n : Nat) (i0 : Nat) (j0 : Nat) (x1 : Int32) (x2 : Int32) (x3 : Int32) (x4 : Int32) (S : QS), q_Sim 38 5 [(0, .inr (.inr (3, i0, j0))), (1, .inl x1), (2, .inl x2), (3, .inl x3), (4, .inl x4)] [] (q_V S) q_I (b_38_5 n i0 j0 x1 x2 x3 x4 S)
  | 0, _, _, _, _, _, _, _ => q_Sim.none
  | n + 1, i0, j0, x1, x2, x3, x4, S => by
    rw [b_38_5]
    refine q_Sim.steps vc_38 2 (pc' := 9) (lv' := [(0, .inr (.inr (3, i0, j0))), (1, .inl x1), (2, .inl x2), (3, .inl x3), (4, .inl x4)]) (st' := [.inl 64, .inl x4]) (V' := q_V S) rfl ?_
    refine q_Sim.br vc_38 (c := 64 ≤ x4) (t := 62) (f := 12) (lv' := [(0, .inr (.inr (3, i0, j0))), (1, .inl x1), (2, .inl x2), (3, .inl x3), (4, .inl x4)]) (st' := []) (V' := q_V S) rfl ?_ ?_
    · refine q_Sim.steps vc_38 1 (pc' := 63) (lv' := [(0, .inr (.inr (3, i0, j0))), (1, .inl x1), (2, .inl x2), (3, .inl x3), (4, .inl x4)]) (st' := [.inl x3]) (V' := q_V S) rfl ?_
      exact q_Sim.ret vc_38 rfl
    · refine q_Sim.steps vc_38 2 (pc' := 14) (lv' := [(0, .inr (.inr (3, i0, j0))), (1, .inl x1), (2, .inl x2), (3, .inl x3), (4, .inl x4)]) (st' := [.inl x2, .inl x3]) (V' := q_V S) rfl ?_
      refine q_Sim.br vc_38 (c := x2 ≤ x3) (t := 62) (f := 17) (lv' := [(0, .inr (.inr (3, i0, j0))), (1, .inl x1), (2, .inl x2), (3, .inl x3), (4, .inl x4)]) (st' := []) (V' := q_V S) rfl ?_ ?_
      · refine q_Sim.steps vc_38 1 (pc' := 63) (lv' := [(0, .inr (.inr (3, i0, j0))), (1, .inl x1), (2, .inl x2), (3, .inl x3), (4, .inl x4)]) (st' := [.inl x3]) (V' := q_V S) rfl ?_
        exact q_Sim.ret vc_38 rfl
      · refine q_Sim.steps vc_38 2 (pc' := 21) (lv' := [(0, .inr (.inr (3, i0, j0))), (1, .inl x1), (2, .inl x2), (3, .inl x3), (4, .inl x4)]) (st' := [.inl x4, .inl 32]) (V' := q_V S) rfl ?_
        refine q_Sim.call vc_38 (as := [.inl 32, .inl x4]) (pc' := 24) (lv' := [(0, .inr (.inr (3, i0, j0))), (1, .inl x1), (2, .inl x2), (3, .inl x3), (4, .inl x4)]) (st' := []) (S := S) rfl (rc_183 32 x4) (s_183 32 x4 S) (fun r_1 S_2 => ?_)
        refine q_Sim.steps vc_38 4 (pc' := 32) (lv' := [(5, .inl r_1), (0, .inr (.inr (3, i0, j0))), (1, .inl x1), (2, .inl x2), (3, .inl x3), (4, .inl x4)]) (st' := [.inl (S_2.1 (3, i0, j0) 1), .inl r_1]) (V' := q_V S_2) rfl ?_
        refine q_Sim.br vc_38 (c := (S_2.1 (3, i0, j0) 1) ≤ r_1) (t := 56) (f := 35) (lv' := [(5, .inl r_1), (0, .inr (.inr (3, i0, j0))), (1, .inl x1), (2, .inl x2), (3, .inl x3), (4, .inl x4)]) (st' := []) (V' := q_V S_2) rfl ?_ ?_
        · exact q_Sim.sub2 (lv' := [(0, .inr (.inr (3, i0, j0))), (1, .inl x1), (2, .inl x2), (3, .inl x3), (4, .inl x4)]) [0, 1, 2, 3, 4] rfl (by decide) ⟨rfl, rfl, rfl, rfl, rfl, trivial⟩ (sb_38_56 (b_38_5 n) (sb_38_5 n) i0 j0 x1 x2 x3 x4 S_2)
        · refine q_Sim.steps vc_38 3 (pc' := 41) (lv' := [(5, .inl r_1), (0, .inr (.inr (3, i0, j0))), (1, .inl x1), (2, .inl x2), (3, .inl x3), (4, .inl x4)]) (st' := [.inl r_1, .inr (.inr (24, i0, j0))]) (V' := q_V S_2) rfl ?_
          refine q_Sim.ck vc_38 (c := v_in r_1 64) (pc' := 42) (lv' := [(5, .inl r_1), (0, .inr (.inr (3, i0, j0))), (1, .inl x1), (2, .inl x2), (3, .inl x3), (4, .inl x4)]) (st' := [.inl (S_2.1 (24, i0, j0) r_1.toNatClampNeg)]) (V' := q_V S_2) rfl ?_
          refine q_Sim.letI (fun y_3 => ?_)
          refine q_Sim.br vc_38 (c := ¬ y_3 = 0) (t := 56) (f := 45) (lv' := [(5, .inl r_1), (0, .inr (.inr (3, i0, j0))), (1, .inl x1), (2, .inl x2), (3, .inl x3), (4, .inl x4)]) (st' := []) (V' := q_V S_2) rfl ?_ ?_
          · exact q_Sim.sub2 (lv' := [(0, .inr (.inr (3, i0, j0))), (1, .inl x1), (2, .inl x2), (3, .inl x3), (4, .inl x4)]) [0, 1, 2, 3, 4] rfl (by decide) ⟨rfl, rfl, rfl, rfl, rfl, trivial⟩ (sb_38_56 (b_38_5 n) (sb_38_5 n) i0 j0 x1 x2 x3 x4 S_2)
          · refine q_Sim.steps vc_38 4 (pc' := 52) (lv' := [(5, .inl r_1), (0, .inr (.inr (3, i0, j0))), (1, .inl x1), (2, .inl x2), (3, .inl x3), (4, .inl x4)]) (st' := [.inl x1, .inl r_1, .inr (.inr (24, i0, j0))]) (V' := q_V S_2) rfl ?_
            refine q_Sim.ck vc_38 (c := v_in r_1 64) (pc' := 53) (lv' := [(5, .inl r_1), (0, .inr (.inr (3, i0, j0))), (1, .inl x1), (2, .inl x2), (3, .inl x3), (4, .inl x4)]) (st' := []) (V' := q_V (q_set S_2 (24, i0, j0) r_1.toNatClampNeg x1)) rfl ?_
            refine q_Sim.letS (fun S_4 => ?_)
            refine q_Sim.steps vc_38 1 (pc' := 56) (lv' := [(3, .inl (x3 + 1)), (5, .inl r_1), (0, .inr (.inr (3, i0, j0))), (1, .inl x1), (2, .inl x2), (4, .inl x4)]) (st' := []) (V' := q_V S_4) rfl ?_
            exact q_Sim.sub2 (lv' := [(0, .inr (.inr (3, i0, j0))), (1, .inl x1), (2, .inl x2), (3, .inl (x3 + 1)), (4, .inl x4)]) [0, 1, 2, 3, 4] rfl (by decide) ⟨rfl, rfl, rfl, rfl, rfl, trivial⟩ (sb_38_56 (b_38_5 n) (sb_38_5 n) i0 j0 x1 x2 (x3 + 1) x4 S_4)
def f_38 (i0 : Nat) (j0 : Nat) (x1 : Int32) (x2 : Int32) (S : QS) : Option ((Int32) × QS) := b_38_5 q_N i0 j0 x1 x2 0 0 S
theorem s_38 (i0 : Nat) (j0 : Nat) (x1 : Int32) (x2 : Int32) (S : QS) : q_Sim 38 0 [(0, .inr (.inr (3, i0, j0))), (1, .inl x1), (2, .inl x2)] [] (q_V S) q_I (f_38 i0 j0 x1 x2 S) := by
  unfold f_38
  refine q_Sim.steps vc_38 4 (pc' := 5) (lv' := [(4, .inl 0), (3, .inl 0), (0, .inr (.inr (3, i0, j0))), (1, .inl x1), (2, .inl x2)]) (st' := []) (V' := q_V S) rfl ?_
  exact q_Sim.sub2 (lv' := [(0, .inr (.inr (3, i0, j0))), (1, .inl x1), (2, .inl x2), (3, .inl 0), (4, .inl 0)]) [0, 1, 2, 3, 4] rfl (by decide) ⟨rfl, rfl, rfl, rfl, rfl, trivial⟩ (sb_38_5 q_N i0 j0 x1 x2 0 0 S)
theorem vc_182 : v_code 182 = k_182 := rfl
theorem rc_182 (x0 : Int32) : v_rcv 182 [.inl x0] = true := rfl
def b_182_56 (x1 : Int32) (xs0 : Int32) (S : QS) : Option ((Int32) × QS) := if 3 ≤ xs0 then (if 9 ≤ xs0 then (if x1 = 0 then (some (115, S)) else (some (83, S))) else (if x1 = 0 then (some (98, S)) else (some (66, S)))) else (if x1 = 0 then (some (101, S)) else (some (69, S)))
theorem sb_182_56 (x1 : Int32) (xs0 : Int32) (S : QS) : q_Sim 182 56 [(1, .inl x1)] [.inl xs0] (q_V S) q_I (b_182_56 x1 xs0 S) := by
  unfold b_182_56
  refine q_Sim.steps vc_182 3 (pc' := 59) (lv' := [(2, .inl xs0), (1, .inl x1)]) (st' := [.inl 3, .inl xs0]) (V' := q_V S) rfl ?_
  refine q_Sim.br vc_182 (c := 3 ≤ xs0) (t := 74) (f := 62) (lv' := [(2, .inl xs0), (1, .inl x1)]) (st' := []) (V' := q_V S) rfl ?_ ?_
  · refine q_Sim.steps vc_182 2 (pc' := 77) (lv' := [(2, .inl xs0), (1, .inl x1)]) (st' := [.inl 9, .inl xs0]) (V' := q_V S) rfl ?_
    refine q_Sim.br vc_182 (c := 9 ≤ xs0) (t := 92) (f := 80) (lv' := [(2, .inl xs0), (1, .inl x1)]) (st' := []) (V' := q_V S) rfl ?_ ?_
    · refine q_Sim.steps vc_182 1 (pc' := 93) (lv' := [(2, .inl xs0), (1, .inl x1)]) (st' := [.inl x1]) (V' := q_V S) rfl ?_
      refine q_Sim.br vc_182 (c := x1 = 0) (t := 101) (f := 96) (lv' := [(2, .inl xs0), (1, .inl x1)]) (st' := []) (V' := q_V S) rfl ?_ ?_
      · refine q_Sim.steps vc_182 1 (pc' := 103) (lv' := [(2, .inl xs0), (1, .inl x1)]) (st' := [.inl 115]) (V' := q_V S) rfl ?_
        exact q_Sim.ret vc_182 rfl
      · refine q_Sim.steps vc_182 2 (pc' := 103) (lv' := [(2, .inl xs0), (1, .inl x1)]) (st' := [.inl 83]) (V' := q_V S) rfl ?_
        exact q_Sim.ret vc_182 rfl
    · refine q_Sim.steps vc_182 1 (pc' := 81) (lv' := [(2, .inl xs0), (1, .inl x1)]) (st' := [.inl x1]) (V' := q_V S) rfl ?_
      refine q_Sim.br vc_182 (c := x1 = 0) (t := 89) (f := 84) (lv' := [(2, .inl xs0), (1, .inl x1)]) (st' := []) (V' := q_V S) rfl ?_ ?_
      · refine q_Sim.steps vc_182 1 (pc' := 91) (lv' := [(2, .inl xs0), (1, .inl x1)]) (st' := [.inl 98]) (V' := q_V S) rfl ?_
        exact q_Sim.ret vc_182 rfl
      · refine q_Sim.steps vc_182 2 (pc' := 91) (lv' := [(2, .inl xs0), (1, .inl x1)]) (st' := [.inl 66]) (V' := q_V S) rfl ?_
        exact q_Sim.ret vc_182 rfl
  · refine q_Sim.steps vc_182 1 (pc' := 63) (lv' := [(2, .inl xs0), (1, .inl x1)]) (st' := [.inl x1]) (V' := q_V S) rfl ?_
    refine q_Sim.br vc_182 (c := x1 = 0) (t := 71) (f := 66) (lv' := [(2, .inl xs0), (1, .inl x1)]) (st' := []) (V' := q_V S) rfl ?_ ?_
    · refine q_Sim.steps vc_182 1 (pc' := 73) (lv' := [(2, .inl xs0), (1, .inl x1)]) (st' := [.inl 101]) (V' := q_V S) rfl ?_
      exact q_Sim.ret vc_182 rfl
    · refine q_Sim.steps vc_182 2 (pc' := 73) (lv' := [(2, .inl xs0), (1, .inl x1)]) (st' := [.inl 69]) (V' := q_V S) rfl ?_
      exact q_Sim.ret vc_182 rfl
def b_182_38 (x0 : Int32) (xs0 : Int32) (S : QS) : Option ((Int32) × QS) := if xs0 = 0 then (b_182_56 xs0 (x0 - 300) S) else (b_182_56 xs0 (x0 - 400) S)
theorem sb_182_38 (x0 : Int32) (xs0 : Int32) (S : QS) : q_Sim 182 38 [(0, .inl x0)] [.inl xs0] (q_V S) q_I (b_182_38 x0 xs0 S) := by
  unfold b_182_38
  refine q_Sim.steps vc_182 2 (pc' := 40) (lv' := [(1, .inl xs0), (0, .inl x0)]) (st' := [.inl xs0]) (V' := q_V S) rfl ?_
  refine q_Sim.br vc_182 (c := xs0 = 0) (t := 51) (f := 43) (lv' := [(1, .inl xs0), (0, .inl x0)]) (st' := []) (V' := q_V S) rfl ?_ ?_
  · refine q_Sim.steps vc_182 3 (pc' := 56) (lv' := [(1, .inl xs0), (0, .inl x0)]) (st' := [.inl (x0 - 300)]) (V' := q_V S) rfl ?_
    exact q_Sim.sub2 (lv' := [(1, .inl xs0)]) [1] rfl (by decide) ⟨rfl, trivial⟩ (sb_182_56 xs0 (x0 - 300) S)
  · refine q_Sim.steps vc_182 4 (pc' := 56) (lv' := [(1, .inl xs0), (0, .inl x0)]) (st' := [.inl (x0 - 400)]) (V' := q_V S) rfl ?_
    exact q_Sim.sub2 (lv' := [(1, .inl xs0)]) [1] rfl (by decide) ⟨rfl, trivial⟩ (sb_182_56 xs0 (x0 - 400) S)
def f_182 (x0 : Int32) (S : QS) : Option ((Int32) × QS) := if ¬ x0 = 0 then (if 100 < x0 then (if ¬ x0 = 200 then (if x0 < 400 then (b_182_38 x0 0 S) else (b_182_38 x0 1 S)) else (some (112, S))) else (some (104, S))) else (some (46, S))
theorem s_182 (x0 : Int32) (S : QS) : q_Sim 182 0 [(0, .inl x0)] [] (q_V S) q_I (f_182 x0 S) := by
  unfold f_182
  refine q_Sim.steps vc_182 1 (pc' := 1) (lv' := [(0, .inl x0)]) (st' := [.inl x0]) (V' := q_V S) rfl ?_
  refine q_Sim.br vc_182 (c := ¬ x0 = 0) (t := 7) (f := 4) (lv' := [(0, .inl x0)]) (st' := []) (V' := q_V S) rfl ?_ ?_
  · refine q_Sim.steps vc_182 2 (pc' := 10) (lv' := [(0, .inl x0)]) (st' := [.inl 100, .inl x0]) (V' := q_V S) rfl ?_
    refine q_Sim.br vc_182 (c := 100 < x0) (t := 16) (f := 13) (lv' := [(0, .inl x0)]) (st' := []) (V' := q_V S) rfl ?_ ?_
    · refine q_Sim.steps vc_182 2 (pc' := 20) (lv' := [(0, .inl x0)]) (st' := [.inl 200, .inl x0]) (V' := q_V S) rfl ?_
      refine q_Sim.br vc_182 (c := ¬ x0 = 200) (t := 26) (f := 23) (lv' := [(0, .inl x0)]) (st' := []) (V' := q_V S) rfl ?_ ?_
      · refine q_Sim.steps vc_182 2 (pc' := 30) (lv' := [(0, .inl x0)]) (st' := [.inl 400, .inl x0]) (V' := q_V S) rfl ?_
        refine q_Sim.br vc_182 (c := x0 < 400) (t := 37) (f := 33) (lv' := [(0, .inl x0)]) (st' := []) (V' := q_V S) rfl ?_ ?_
        · refine q_Sim.steps vc_182 1 (pc' := 38) (lv' := [(0, .inl x0)]) (st' := [.inl 0]) (V' := q_V S) rfl ?_
          exact q_Sim.sub2 (lv' := [(0, .inl x0)]) [0] rfl (by decide) ⟨rfl, trivial⟩ (sb_182_38 x0 0 S)
        · refine q_Sim.steps vc_182 2 (pc' := 38) (lv' := [(0, .inl x0)]) (st' := [.inl 1]) (V' := q_V S) rfl ?_
          exact q_Sim.sub2 (lv' := [(0, .inl x0)]) [0] rfl (by decide) ⟨rfl, trivial⟩ (sb_182_38 x0 1 S)
      · refine q_Sim.steps vc_182 1 (pc' := 25) (lv' := [(0, .inl x0)]) (st' := [.inl 112]) (V' := q_V S) rfl ?_
        exact q_Sim.ret vc_182 rfl
    · refine q_Sim.steps vc_182 1 (pc' := 15) (lv' := [(0, .inl x0)]) (st' := [.inl 104]) (V' := q_V S) rfl ?_
      exact q_Sim.ret vc_182 rfl
  · refine q_Sim.steps vc_182 1 (pc' := 6) (lv' := [(0, .inl x0)]) (st' := [.inl 46]) (V' := q_V S) rfl ?_
    exact q_Sim.ret vc_182 rfl
theorem vc_40 : v_code 40 = k_40 := rfl
theorem rc_40 (i0 : Nat) (j0 : Nat) (x1 : Int32) (x2 : Int32) : v_rcv 40 [.inr (.inr (3, i0, j0)), .inl x1, .inl x2] = true := rfl
def b_40_41 (back_5 : Nat → Nat → Int32 → Int32 → Int32 → Int32 → QS → Option ((Int32) × QS)) (i0 : Nat) (j0 : Nat) (x1 : Int32) (x2 : Int32) (x3 : Int32) (x4 : Int32) (S : QS) : Option ((Int32) × QS) := back_5 i0 j0 x1 x2 x3 (x4 + 1) S
theorem sb_40_41 (back_5 : Nat → Nat → Int32 → Int32 → Int32 → Int32 → QS → Option ((Int32) × QS)) (hb_5 : ∀ (i0 : Nat) (j0 : Nat) (x1 : Int32) (x2 : Int32) (x3 : Int32) (x4 : Int32) (S : QS), q_Sim 40 5 [(0, .inr (.inr (3, i0, j0))), (1, .inl x1), (2, .inl x2), (3, .inl x3), (4, .inl x4)] [] (q_V S) q_I (back_5 i0 j0 x1 x2 x3 x4 S)) (i0 : Nat) (j0 : Nat) (x1 : Int32) (x2 : Int32) (x3 : Int32) (x4 : Int32) (S : QS) : q_Sim 40 41 [(0, .inr (.inr (3, i0, j0))), (1, .inl x1), (2, .inl x2), (3, .inl x3), (4, .inl x4)] [] (q_V S) q_I (b_40_41 back_5 i0 j0 x1 x2 x3 x4 S) := by
  unfold b_40_41
  refine q_Sim.steps vc_40 2 (pc' := 5) (lv' := [(4, .inl (x4 + 1)), (0, .inr (.inr (3, i0, j0))), (1, .inl x1), (2, .inl x2), (3, .inl x3)]) (st' := []) (V' := q_V S) rfl ?_
  exact q_Sim.sub2 (lv' := [(0, .inr (.inr (3, i0, j0))), (1, .inl x1), (2, .inl x2), (3, .inl x3), (4, .inl (x4 + 1))]) [0, 1, 2, 3, 4] rfl (by decide) ⟨rfl, rfl, rfl, rfl, rfl, trivial⟩ (hb_5 i0 j0 x1 x2 x3 (x4 + 1) S)
def b_40_38 (back_5 : Nat → Nat → Int32 → Int32 → Int32 → Int32 → QS → Option ((Int32) × QS)) (i0 : Nat) (j0 : Nat) (x1 : Int32) (x2 : Int32) (x3 : Int32) (x4 : Int32) (S : QS) : Option ((Int32) × QS) := b_40_41 back_5 i0 j0 x1 x2 (x3 + 1) x4 S
theorem sb_40_38 (back_5 : Nat → Nat → Int32 → Int32 → Int32 → Int32 → QS → Option ((Int32) × QS)) (hb_5 : ∀ (i0 : Nat) (j0 : Nat) (x1 : Int32) (x2 : Int32) (x3 : Int32) (x4 : Int32) (S : QS), q_Sim 40 5 [(0, .inr (.inr (3, i0, j0))), (1, .inl x1), (2, .inl x2), (3, .inl x3), (4, .inl x4)] [] (q_V S) q_I (back_5 i0 j0 x1 x2 x3 x4 S)) (i0 : Nat) (j0 : Nat) (x1 : Int32) (x2 : Int32) (x3 : Int32) (x4 : Int32) (S : QS) : q_Sim 40 38 [(0, .inr (.inr (3, i0, j0))), (1, .inl x1), (2, .inl x2), (3, .inl x3), (4, .inl x4)] [] (q_V S) q_I (b_40_38 back_5 i0 j0 x1 x2 x3 x4 S) := by
  unfold b_40_38
  refine q_Sim.steps vc_40 1 (pc' := 41) (lv' := [(3, .inl (x3 + 1)), (0, .inr (.inr (3, i0, j0))), (1, .inl x1), (2, .inl x2), (4, .inl x4)]) (st' := []) (V' := q_V S) rfl ?_
  exact q_Sim.sub2 (lv' := [(0, .inr (.inr (3, i0, j0))), (1, .inl x1), (2, .inl x2), (3, .inl (x3 + 1)), (4, .inl x4)]) [0, 1, 2, 3, 4] rfl (by decide) ⟨rfl, rfl, rfl, rfl, rfl, trivial⟩ (sb_40_41 back_5 hb_5 i0 j0 x1 x2 (x3 + 1) x4 S)
def b_40_5 : Nat → Nat → Nat → Int32 → Int32 → Int32 → Int32 → QS → Option ((Int32) × QS)
  | 0, _, _, _, _, _, _, _ => none
  | n + 1, i0, j0, x1, x2, x3, x4, S => if (S.1 (3, i0, j0) 1) ≤ x4 then (some (x3, S)) else (q_ck (v_in x4 64) (q_let (S.1 (24, i0, j0) x4.toNatClampNeg) (fun y_1 => q_bd (f_182 y_1 S) (fun r_2 S_3 => if r_2 = x1 then (b_40_38 (b_40_5 n) i0 j0 x1 x2 x3 x4 S_3) else (if ¬ r_2 = x2 then (b_40_41 (b_40_5 n) i0 j0 x1 x2 x3 x4 S_3) else (b_40_38 (b_40_5 n) i0 j0 x1 x2 x3 x4 S_3))))))
theorem sb_40_5 : ∀ (n : Nat) (i0 : Nat) (j0 : Nat) (x1 : Int32) (x2 : Int32) (x3 : Int32) (x4 : Int32) (S : QS), q_Sim 40 5 [(0, .inr (.inr (3, i0, j0))), (1, .inl x1), (2, .inl x2), (3, .inl x3), (4, .inl x4)] [] (q_V S) q_I (b_40_5 n i0 j0 x1 x2 x3 x4 S)
  | 0, _, _, _, _, _, _, _ => q_Sim.none
  | n + 1, i0, j0, x1, x2, x3, x4, S => by
    rw [b_40_5]
    refine q_Sim.steps vc_40 3 (pc' := 11) (lv' := [(0, .inr (.inr (3, i0, j0))), (1, .inl x1), (2, .inl x2), (3, .inl x3), (4, .inl x4)]) (st' := [.inl (S.1 (3, i0, j0) 1), .inl x4]) (V' := q_V S) rfl ?_
    refine q_Sim.br vc_40 (c := (S.1 (3, i0, j0) 1) ≤ x4) (t := 47) (f := 14) (lv' := [(0, .inr (.inr (3, i0, j0))), (1, .inl x1), (2, .inl x2), (3, .inl x3), (4, .inl x4)]) (st' := []) (V' := q_V S) rfl ?_ ?_
    · refine q_Sim.steps vc_40 1 (pc' := 48) (lv' := [(0, .inr (.inr (3, i0, j0))), (1, .inl x1), (2, .inl x2), (3, .inl x3), (4, .inl x4)]) (st' := [.inl x3]) (V' := q_V S) rfl ?_
      exact q_Sim.ret vc_40 rfl
    · refine q_Sim.steps vc_40 3 (pc' := 20) (lv' := [(0, .inr (.inr (3, i0, j0))), (1, .inl x1), (2, .inl x2), (3, .inl x3), (4, .inl x4)]) (st' := [.inl x4, .inr (.inr (24, i0, j0))]) (V' := q_V S) rfl ?_
      refine q_Sim.ck vc_40 (c := v_in x4 64) (pc' := 21) (lv' := [(0, .inr (.inr (3, i0, j0))), (1, .inl x1), (2, .inl x2), (3, .inl x3), (4, .inl x4)]) (st' := [.inl (S.1 (24, i0, j0) x4.toNatClampNeg)]) (V' := q_V S) rfl ?_
      refine q_Sim.letI (fun y_1 => ?_)
      refine q_Sim.call vc_40 (as := [.inl y_1]) (pc' := 24) (lv' := [(0, .inr (.inr (3, i0, j0))), (1, .inl x1), (2, .inl x2), (3, .inl x3), (4, .inl x4)]) (st' := []) (S := S) rfl (rc_182 y_1) (s_182 y_1 S) (fun r_2 S_3 => ?_)
      refine q_Sim.steps vc_40 3 (pc' := 29) (lv' := [(5, .inl r_2), (0, .inr (.inr (3, i0, j0))), (1, .inl x1), (2, .inl x2), (3, .inl x3), (4, .inl x4)]) (st' := [.inl x1, .inl r_2]) (V' := q_V S_3) rfl ?_
      refine q_Sim.br vc_40 (c := r_2 = x1) (t := 38) (f := 32) (lv' := [(5, .inl r_2), (0, .inr (.inr (3, i0, j0))), (1, .inl x1), (2, .inl x2), (3, .inl x3), (4, .inl x4)]) (st' := []) (V' := q_V S_3) rfl ?_ ?_
      · exact q_Sim.sub2 (lv' := [(0, .inr (.inr (3, i0, j0))), (1, .inl x1), (2, .inl x2), (3, .inl x3), (4, .inl x4)]) [0, 1, 2, 3, 4] rfl (by decide) ⟨rfl, rfl, rfl, rfl, rfl, trivial⟩ (sb_40_38 (b_40_5 n) (sb_40_5 n) i0 j0 x1 x2 x3 x4 S_3)
      · refine q_Sim.steps vc_40 2 (pc' := 35) (lv' := [(5, .inl r_2), (0, .inr (.inr (3, i0, j0))), (1, .inl x1), (2, .inl x2), (3, .inl x3), (4, .inl x4)]) (st' := [.inl x2, .inl r_2]) (V' := q_V S_3) rfl ?_
        refine q_Sim.br vc_40 (c := ¬ r_2 = x2) (t := 41) (f := 38) (lv' := [(5, .inl r_2), (0, .inr (.inr (3, i0, j0))), (1, .inl x1), (2, .inl x2), (3, .inl x3), (4, .inl x4)]) (st' := []) (V' := q_V S_3) rfl ?_ ?_
        · exact q_Sim.sub2 (lv' := [(0, .inr (.inr (3, i0, j0))), (1, .inl x1), (2, .inl x2), (3, .inl x3), (4, .inl x4)]) [0, 1, 2, 3, 4] rfl (by decide) ⟨rfl, rfl, rfl, rfl, rfl, trivial⟩ (sb_40_41 (b_40_5 n) (sb_40_5 n) i0 j0 x1 x2 x3 x4 S_3)
        · exact q_Sim.sub2 (lv' := [(0, .inr (.inr (3, i0, j0))), (1, .inl x1), (2, .inl x2), (3, .inl x3), (4, .inl x4)]) [0, 1, 2, 3, 4] rfl (by decide) ⟨rfl, rfl, rfl, rfl, rfl, trivial⟩ (sb_40_38 (b_40_5 n) (sb_40_5 n) i0 j0 x1 x2 x3 x4 S_3)
def f_40 (i0 : Nat) (j0 : Nat) (x1 : Int32) (x2 : Int32) (S : QS) : Option ((Int32) × QS) := b_40_5 q_N i0 j0 x1 x2 0 0 S
theorem s_40 (i0 : Nat) (j0 : Nat) (x1 : Int32) (x2 : Int32) (S : QS) : q_Sim 40 0 [(0, .inr (.inr (3, i0, j0))), (1, .inl x1), (2, .inl x2)] [] (q_V S) q_I (f_40 i0 j0 x1 x2 S) := by
  unfold f_40
  refine q_Sim.steps vc_40 4 (pc' := 5) (lv' := [(4, .inl 0), (3, .inl 0), (0, .inr (.inr (3, i0, j0))), (1, .inl x1), (2, .inl x2)]) (st' := []) (V' := q_V S) rfl ?_
  exact q_Sim.sub2 (lv' := [(0, .inr (.inr (3, i0, j0))), (1, .inl x1), (2, .inl x2), (3, .inl 0), (4, .inl 0)]) [0, 1, 2, 3, 4] rfl (by decide) ⟨rfl, rfl, rfl, rfl, rfl, trivial⟩ (sb_40_5 q_N i0 j0 x1 x2 0 0 S)
theorem vc_39 : v_code 39 = k_39 := rfl
theorem rc_39 (i0 : Nat) (j0 : Nat) (x1 : Int32) : v_rcv 39 [.inr (.inr (3, i0, j0)), .inl x1] = true := rfl
def f_39 (i0 : Nat) (j0 : Nat) (x1 : Int32) (S : QS) : Option ((Int32) × QS) := if x1 = 6 then (q_bd (f_32 i0 j0 S) (fun r_2 S_3 => some (r_2, S_3))) else (if x1 = 7 then (q_bd (f_40 i0 j0 101 69 S) (fun r_5 S_6 => some (r_5, S_6))) else (if x1 = 8 then (q_bd (f_40 i0 j0 98 66 S) (fun r_8 S_9 => some (r_8, S_9))) else (if x1 = 9 then (q_bd (f_40 i0 j0 115 83 S) (fun r_11 S_12 => some (r_11, S_12))) else (if x1 = 10 then (q_bd (f_40 i0 j0 46 46 S) (fun r_14 S_15 => some (r_14, S_15))) else (q_bd (f_40 i0 j0 112 112 S) (fun r_16 S_17 => some (r_16, S_17)))))))
theorem s_39 (i0 : Nat) (j0 : Nat) (x1 : Int32) (S : QS) : q_Sim 39 0 [(0, .inr (.inr (3, i0, j0))), (1, .inl x1)] [] (q_V S) q_I (f_39 i0 j0 x1 S) := by
  unfold f_39
  refine q_Sim.steps vc_39 1 (pc' := 1) (lv' := [(0, .inr (.inr (3, i0, j0))), (1, .inl x1)]) (st' := [.inl x1]) (V' := q_V S) rfl ?_
  refine q_Sim.ite (c := x1 = 6) (fun h_1 => q_Sim.sw vc_39 (lv' := [(0, .inr (.inr (3, i0, j0))), (1, .inl x1)]) (st' := []) (V' := q_V S) rfl h_1 rfl (t := 36) rfl ?_) (fun h_1 => ?_)
  · refine q_Sim.steps vc_39 1 (pc' := 37) (lv' := [(0, .inr (.inr (3, i0, j0))), (1, .inl x1)]) (st' := [.inr (.inr (3, i0, j0))]) (V' := q_V S) rfl ?_
    refine q_Sim.call vc_39 (as := [.inr (.inr (3, i0, j0))]) (pc' := 40) (lv' := [(0, .inr (.inr (3, i0, j0))), (1, .inl x1)]) (st' := []) (S := S) rfl (rc_32 i0 j0) (s_32 i0 j0 S) (fun r_2 S_3 => ?_)
    exact q_Sim.ret vc_39 rfl
  refine q_Sim.ite (c := x1 = 7) (fun h_4 => q_Sim.sw vc_39 (lv' := [(0, .inr (.inr (3, i0, j0))), (1, .inl x1)]) (st' := []) (V' := q_V S) rfl h_4 rfl (t := 41) rfl ?_) (fun h_4 => ?_)
  · refine q_Sim.steps vc_39 3 (pc' := 46) (lv' := [(0, .inr (.inr (3, i0, j0))), (1, .inl x1)]) (st' := [.inl 69, .inl 101, .inr (.inr (3, i0, j0))]) (V' := q_V S) rfl ?_
    refine q_Sim.call vc_39 (as := [.inr (.inr (3, i0, j0)), .inl 101, .inl 69]) (pc' := 49) (lv' := [(0, .inr (.inr (3, i0, j0))), (1, .inl x1)]) (st' := []) (S := S) rfl (rc_40 i0 j0 101 69) (s_40 i0 j0 101 69 S) (fun r_5 S_6 => ?_)
    exact q_Sim.ret vc_39 rfl
  refine q_Sim.ite (c := x1 = 8) (fun h_7 => q_Sim.sw vc_39 (lv' := [(0, .inr (.inr (3, i0, j0))), (1, .inl x1)]) (st' := []) (V' := q_V S) rfl h_7 rfl (t := 50) rfl ?_) (fun h_7 => ?_)
  · refine q_Sim.steps vc_39 3 (pc' := 55) (lv' := [(0, .inr (.inr (3, i0, j0))), (1, .inl x1)]) (st' := [.inl 66, .inl 98, .inr (.inr (3, i0, j0))]) (V' := q_V S) rfl ?_
    refine q_Sim.call vc_39 (as := [.inr (.inr (3, i0, j0)), .inl 98, .inl 66]) (pc' := 58) (lv' := [(0, .inr (.inr (3, i0, j0))), (1, .inl x1)]) (st' := []) (S := S) rfl (rc_40 i0 j0 98 66) (s_40 i0 j0 98 66 S) (fun r_8 S_9 => ?_)
    exact q_Sim.ret vc_39 rfl
  refine q_Sim.ite (c := x1 = 9) (fun h_10 => q_Sim.sw vc_39 (lv' := [(0, .inr (.inr (3, i0, j0))), (1, .inl x1)]) (st' := []) (V' := q_V S) rfl h_10 rfl (t := 59) rfl ?_) (fun h_10 => ?_)
  · refine q_Sim.steps vc_39 3 (pc' := 64) (lv' := [(0, .inr (.inr (3, i0, j0))), (1, .inl x1)]) (st' := [.inl 83, .inl 115, .inr (.inr (3, i0, j0))]) (V' := q_V S) rfl ?_
    refine q_Sim.call vc_39 (as := [.inr (.inr (3, i0, j0)), .inl 115, .inl 83]) (pc' := 67) (lv' := [(0, .inr (.inr (3, i0, j0))), (1, .inl x1)]) (st' := []) (S := S) rfl (rc_40 i0 j0 115 83) (s_40 i0 j0 115 83 S) (fun r_11 S_12 => ?_)
    exact q_Sim.ret vc_39 rfl
  refine q_Sim.ite (c := x1 = 10) (fun h_13 => q_Sim.sw vc_39 (lv' := [(0, .inr (.inr (3, i0, j0))), (1, .inl x1)]) (st' := []) (V' := q_V S) rfl h_13 rfl (t := 68) rfl ?_) (fun h_13 => ?_)
  · refine q_Sim.steps vc_39 3 (pc' := 73) (lv' := [(0, .inr (.inr (3, i0, j0))), (1, .inl x1)]) (st' := [.inl 46, .inl 46, .inr (.inr (3, i0, j0))]) (V' := q_V S) rfl ?_
    refine q_Sim.call vc_39 (as := [.inr (.inr (3, i0, j0)), .inl 46, .inl 46]) (pc' := 76) (lv' := [(0, .inr (.inr (3, i0, j0))), (1, .inl x1)]) (st' := []) (S := S) rfl (rc_40 i0 j0 46 46) (s_40 i0 j0 46 46 S) (fun r_14 S_15 => ?_)
    exact q_Sim.ret vc_39 rfl
  refine q_Sim.swd vc_39 (lv' := [(0, .inr (.inr (3, i0, j0))), (1, .inl x1)]) (st' := []) (V' := q_V S) rfl (fun k h1 h2 => ?_) (t := 77) rfl ?_
  · have h3 : k = 6 ∨ k = 7 ∨ k = 8 ∨ k = 9 ∨ k = 10 := by omega
    rcases h3 with rfl | rfl | rfl | rfl | rfl
    · exact q_ne h_1 rfl
    · exact q_ne h_4 rfl
    · exact q_ne h_7 rfl
    · exact q_ne h_10 rfl
    · exact q_ne h_13 rfl
  · refine q_Sim.steps vc_39 3 (pc' := 82) (lv' := [(0, .inr (.inr (3, i0, j0))), (1, .inl x1)]) (st' := [.inl 112, .inl 112, .inr (.inr (3, i0, j0))]) (V' := q_V S) rfl ?_
    refine q_Sim.call vc_39 (as := [.inr (.inr (3, i0, j0)), .inl 112, .inl 112]) (pc' := 85) (lv' := [(0, .inr (.inr (3, i0, j0))), (1, .inl x1)]) (st' := []) (S := S) rfl (rc_40 i0 j0 112 112) (s_40 i0 j0 112 112 S) (fun r_16 S_17 => ?_)
    exact q_Sim.ret vc_39 rfl
theorem vc_41 : v_code 41 = k_41 := rfl
theorem rc_41 (i0 : Nat) (j0 : Nat) (x1 : Int32) : v_rcv 41 [.inr (.inr (3, i0, j0)), .inl x1] = true := rfl
def b_41_12 : Nat → Nat → Nat → Int32 → Int32 → QS → Option ((Int32) × QS)
  | 0, _, _, _, _, _ => none
  | n + 1, i0, j0, x2, x3, S => if (S.1 (3, i0, j0) 1) ≤ x3 then (some (x2, S)) else (q_ck (v_in x3 64) (q_let (S.1 (24, i0, j0) x3.toNatClampNeg) (fun y_2 => q_let ((x2 * 31) + y_2) (fun y_3 => b_41_12 n i0 j0 y_3 (x3 + 1) S))))
theorem sb_41_12 : ∀ (n : Nat) (i0 : Nat) (j0 : Nat) (x2 : Int32) (x3 : Int32) (S : QS), q_Sim 41 12 [(0, .inr (.inr (3, i0, j0))), (2, .inl x2), (3, .inl x3)] [] (q_V S) q_I (b_41_12 n i0 j0 x2 x3 S)
  | 0, _, _, _, _, _ => q_Sim.none
  | n + 1, i0, j0, x2, x3, S => by
    rw [b_41_12]
    refine q_Sim.steps vc_41 3 (pc' := 17) (lv' := [(0, .inr (.inr (3, i0, j0))), (2, .inl x2), (3, .inl x3)]) (st' := [.inl (S.1 (3, i0, j0) 1), .inl x3]) (V' := q_V S) rfl ?_
    refine q_Sim.br vc_41 (c := (S.1 (3, i0, j0) 1) ≤ x3) (t := 38) (f := 20) (lv' := [(0, .inr (.inr (3, i0, j0))), (2, .inl x2), (3, .inl x3)]) (st' := []) (V' := q_V S) rfl ?_ ?_
    · refine q_Sim.steps vc_41 1 (pc' := 39) (lv' := [(0, .inr (.inr (3, i0, j0))), (2, .inl x2), (3, .inl x3)]) (st' := [.inl x2]) (V' := q_V S) rfl ?_
      exact q_Sim.ret vc_41 rfl
    · refine q_Sim.steps vc_41 6 (pc' := 29) (lv' := [(0, .inr (.inr (3, i0, j0))), (2, .inl x2), (3, .inl x3)]) (st' := [.inl x3, .inr (.inr (24, i0, j0)), .inl (x2 * 31)]) (V' := q_V S) rfl ?_
      refine q_Sim.ck vc_41 (c := v_in x3 64) (pc' := 30) (lv' := [(0, .inr (.inr (3, i0, j0))), (2, .inl x2), (3, .inl x3)]) (st' := [.inl (S.1 (24, i0, j0) x3.toNatClampNeg), .inl (x2 * 31)]) (V' := q_V S) rfl ?_
      refine q_Sim.letI (fun y_2 => ?_)
      refine q_Sim.steps vc_41 1 (pc' := 31) (lv' := [(0, .inr (.inr (3, i0, j0))), (2, .inl x2), (3, .inl x3)]) (st' := [.inl ((x2 * 31) + y_2)]) (V' := q_V S) rfl ?_
      refine q_Sim.letI (fun y_3 => ?_)
      refine q_Sim.steps vc_41 3 (pc' := 12) (lv' := [(3, .inl (x3 + 1)), (2, .inl y_3), (0, .inr (.inr (3, i0, j0)))]) (st' := []) (V' := q_V S) rfl ?_
      exact q_Sim.sub2 (lv' := [(0, .inr (.inr (3, i0, j0))), (2, .inl y_3), (3, .inl (x3 + 1))]) [0, 2, 3] rfl (by decide) ⟨rfl, rfl, rfl, trivial⟩ (sb_41_12 n i0 j0 y_3 (x3 + 1) S)
def f_41 (i0 : Nat) (j0 : Nat) (x1 : Int32) (S : QS) : Option ((Int32) × QS) := q_let ((x1 * 31) + (S.1 (3, i0, j0) 1)) (fun y_1 => b_41_12 q_N i0 j0 y_1 0 S)
theorem s_41 (i0 : Nat) (j0 : Nat) (x1 : Int32) (S : QS) : q_Sim 41 0 [(0, .inr (.inr (3, i0, j0))), (1, .inl x1)] [] (q_V S) q_I (f_41 i0 j0 x1 S) := by
  unfold f_41
  refine q_Sim.steps vc_41 6 (pc' := 9) (lv' := [(0, .inr (.inr (3, i0, j0))), (1, .inl x1)]) (st' := [.inl ((x1 * 31) + (S.1 (3, i0, j0) 1))]) (V' := q_V S) rfl ?_
  refine q_Sim.letI (fun y_1 => ?_)
  refine q_Sim.steps vc_41 3 (pc' := 12) (lv' := [(3, .inl 0), (2, .inl y_1), (0, .inr (.inr (3, i0, j0))), (1, .inl x1)]) (st' := []) (V' := q_V S) rfl ?_
  exact q_Sim.sub2 (lv' := [(0, .inr (.inr (3, i0, j0))), (2, .inl y_1), (3, .inl 0)]) [0, 2, 3] rfl (by decide) ⟨rfl, rfl, rfl, trivial⟩ (sb_41_12 q_N i0 j0 y_1 0 S)
theorem vc_52 : v_code 52 = k_52 := rfl
theorem rc_52 (i0 : Nat) (j0 : Nat) : v_rcv 52 [.inr (.inr (4, i0, j0))] = true := rfl
def f_52 (i0 : Nat) (j0 : Nat) (S : QS) : Option ((Unit) × QS) := q_let (q_set S (4, i0, j0) 6 0) (fun S_1 => q_let (q_set S_1 (4, i0, j0) 7 0) (fun S_2 => q_let (q_set S_2 (4, i0, j0) 8 0) (fun S_3 => some ((), S_3))))
theorem s_52 (i0 : Nat) (j0 : Nat) (S : QS) : q_Sim 52 0 [(0, .inr (.inr (4, i0, j0)))] [] (q_V S) q_U (f_52 i0 j0 S) := by
  unfold f_52
  refine q_Sim.steps vc_52 2 (pc' := 2) (lv' := [(0, .inr (.inr (4, i0, j0)))]) (st' := [.inl 0, .inr (.inr (4, i0, j0))]) (V' := q_V S) rfl ?_
  refine q_Sim.steps vc_52 1 (pc' := 5) (lv' := [(0, .inr (.inr (4, i0, j0)))]) (st' := []) (V' := q_V (q_set S (4, i0, j0) 6 0)) rfl ?_
  refine q_Sim.letS (fun S_1 => ?_)
  refine q_Sim.steps vc_52 2 (pc' := 7) (lv' := [(0, .inr (.inr (4, i0, j0)))]) (st' := [.inl 0, .inr (.inr (4, i0, j0))]) (V' := q_V S_1) rfl ?_
  refine q_Sim.steps vc_52 1 (pc' := 10) (lv' := [(0, .inr (.inr (4, i0, j0)))]) (st' := []) (V' := q_V (q_set S_1 (4, i0, j0) 7 0)) rfl ?_
  refine q_Sim.letS (fun S_2 => ?_)
  refine q_Sim.steps vc_52 2 (pc' := 12) (lv' := [(0, .inr (.inr (4, i0, j0)))]) (st' := [.inl 0, .inr (.inr (4, i0, j0))]) (V' := q_V S_2) rfl ?_
  refine q_Sim.steps vc_52 1 (pc' := 15) (lv' := [(0, .inr (.inr (4, i0, j0)))]) (st' := []) (V' := q_V (q_set S_2 (4, i0, j0) 8 0)) rfl ?_
  refine q_Sim.letS (fun S_3 => ?_)
  exact q_Sim.ret vc_52 rfl
theorem vc_43 : v_code 43 = k_43 := rfl
theorem rc_43 (i0 : Nat) (j0 : Nat) (x1 : Int32) : v_rcv 43 [.inr (.inr (4, i0, j0)), .inl x1] = true := rfl
def f_43 (i0 : Nat) (j0 : Nat) (x1 : Int32) (S : QS) : Option ((Unit) × QS) := q_let (q_set S (4, i0, j0) 1 0) (fun S_1 => q_let (q_set S_1 (4, i0, j0) 2 x1) (fun S_2 => q_let (q_set S_2 (4, i0, j0) 3 0) (fun S_3 => q_let (q_set S_3 (4, i0, j0) 4 0) (fun S_4 => q_let (q_set S_4 (4, i0, j0) 5 (-1)) (fun S_5 => q_bd (f_52 i0 j0 S_5) (fun r_6 S_7 => q_let (q_set S_7 (4, i0, j0) 9 0) (fun S_8 => q_let (q_set S_8 (4, i0, j0) 10 0) (fun S_9 => q_let (q_set S_9 (4, i0, j0) 11 0) (fun S_10 => some ((), S_10))))))))))
theorem s_43 (i0 : Nat) (j0 : Nat) (x1 : Int32) (S : QS) : q_Sim 43 0 [(0, .inr (.inr (4, i0, j0))), (1, .inl x1)] [] (q_V S) q_U (f_43 i0 j0 x1 S) := by
  unfold f_43
  refine q_Sim.steps vc_43 2 (pc' := 2) (lv' := [(0, .inr (.inr (4, i0, j0))), (1, .inl x1)]) (st' := [.inl 0, .inr (.inr (4, i0, j0))]) (V' := q_V S) rfl ?_
  refine q_Sim.steps vc_43 1 (pc' := 5) (lv' := [(0, .inr (.inr (4, i0, j0))), (1, .inl x1)]) (st' := []) (V' := q_V (q_set S (4, i0, j0) 1 0)) rfl ?_
  refine q_Sim.letS (fun S_1 => ?_)
  refine q_Sim.steps vc_43 2 (pc' := 7) (lv' := [(0, .inr (.inr (4, i0, j0))), (1, .inl x1)]) (st' := [.inl x1, .inr (.inr (4, i0, j0))]) (V' := q_V S_1) rfl ?_
  refine q_Sim.steps vc_43 1 (pc' := 10) (lv' := [(0, .inr (.inr (4, i0, j0))), (1, .inl x1)]) (st' := []) (V' := q_V (q_set S_1 (4, i0, j0) 2 x1)) rfl ?_
  refine q_Sim.letS (fun S_2 => ?_)
  refine q_Sim.steps vc_43 2 (pc' := 12) (lv' := [(0, .inr (.inr (4, i0, j0))), (1, .inl x1)]) (st' := [.inl 0, .inr (.inr (4, i0, j0))]) (V' := q_V S_2) rfl ?_
  refine q_Sim.steps vc_43 1 (pc' := 15) (lv' := [(0, .inr (.inr (4, i0, j0))), (1, .inl x1)]) (st' := []) (V' := q_V (q_set S_2 (4, i0, j0) 3 0)) rfl ?_
  refine q_Sim.letS (fun S_3 => ?_)
  refine q_Sim.steps vc_43 2 (pc' := 17) (lv' := [(0, .inr (.inr (4, i0, j0))), (1, .inl x1)]) (st' := [.inl 0, .inr (.inr (4, i0, j0))]) (V' := q_V S_3) rfl ?_
  refine q_Sim.steps vc_43 1 (pc' := 20) (lv' := [(0, .inr (.inr (4, i0, j0))), (1, .inl x1)]) (st' := []) (V' := q_V (q_set S_3 (4, i0, j0) 4 0)) rfl ?_
  refine q_Sim.letS (fun S_4 => ?_)
  refine q_Sim.steps vc_43 2 (pc' := 22) (lv' := [(0, .inr (.inr (4, i0, j0))), (1, .inl x1)]) (st' := [.inl (-1), .inr (.inr (4, i0, j0))]) (V' := q_V S_4) rfl ?_
  refine q_Sim.steps vc_43 1 (pc' := 25) (lv' := [(0, .inr (.inr (4, i0, j0))), (1, .inl x1)]) (st' := []) (V' := q_V (q_set S_4 (4, i0, j0) 5 (-1))) rfl ?_
  refine q_Sim.letS (fun S_5 => ?_)
  refine q_Sim.steps vc_43 1 (pc' := 26) (lv' := [(0, .inr (.inr (4, i0, j0))), (1, .inl x1)]) (st' := [.inr (.inr (4, i0, j0))]) (V' := q_V S_5) rfl ?_
  refine q_Sim.call vc_43 (as := [.inr (.inr (4, i0, j0))]) (pc' := 29) (lv' := [(0, .inr (.inr (4, i0, j0))), (1, .inl x1)]) (st' := []) (S := S_5) rfl (rc_52 i0 j0) (s_52 i0 j0 S_5) (fun r_6 S_7 => ?_)
  refine q_Sim.steps vc_43 2 (pc' := 31) (lv' := [(0, .inr (.inr (4, i0, j0))), (1, .inl x1)]) (st' := [.inl 0, .inr (.inr (4, i0, j0))]) (V' := q_V S_7) rfl ?_
  refine q_Sim.steps vc_43 1 (pc' := 34) (lv' := [(0, .inr (.inr (4, i0, j0))), (1, .inl x1)]) (st' := []) (V' := q_V (q_set S_7 (4, i0, j0) 9 0)) rfl ?_
  refine q_Sim.letS (fun S_8 => ?_)
  refine q_Sim.steps vc_43 2 (pc' := 36) (lv' := [(0, .inr (.inr (4, i0, j0))), (1, .inl x1)]) (st' := [.inl 0, .inr (.inr (4, i0, j0))]) (V' := q_V S_8) rfl ?_
  refine q_Sim.steps vc_43 1 (pc' := 39) (lv' := [(0, .inr (.inr (4, i0, j0))), (1, .inl x1)]) (st' := []) (V' := q_V (q_set S_8 (4, i0, j0) 10 0)) rfl ?_
  refine q_Sim.letS (fun S_9 => ?_)
  refine q_Sim.steps vc_43 2 (pc' := 41) (lv' := [(0, .inr (.inr (4, i0, j0))), (1, .inl x1)]) (st' := [.inl 0, .inr (.inr (4, i0, j0))]) (V' := q_V S_9) rfl ?_
  refine q_Sim.steps vc_43 1 (pc' := 44) (lv' := [(0, .inr (.inr (4, i0, j0))), (1, .inl x1)]) (st' := []) (V' := q_V (q_set S_9 (4, i0, j0) 11 0)) rfl ?_
  refine q_Sim.letS (fun S_10 => ?_)
  exact q_Sim.ret vc_43 rfl
