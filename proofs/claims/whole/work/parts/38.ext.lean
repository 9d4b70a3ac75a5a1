/-! ===== the code as functions, by program ===== -/
theorem vc_246 : v_code 246 = k_246 := rfl
theorem rc_246 (x0 : Int32) : v_rcv 246 [.inl x0] = true := rfl
def f_246 (x0 : Int32) (S : QS) : Option ((Int32) × QS) := if x0 = 0 then (some (0, S)) else (some (1, S))
theorem s_246 (x0 : Int32) (S : QS) : q_Sim 246 0 [(0, .inl x0)] [] (q_V S) q_I (f_246 x0 S) := by
  unfold f_246
  refine q_Sim.steps vc_246 1 (pc' := 1) (lv' := [(0, .inl x0)]) (st' := [.inl x0]) (V' := q_V S) rfl ?_
  refine q_Sim.br vc_246 (c := x0 = 0) (t := 8) (f := 4) (lv' := [(0, .inl x0)]) (st' := []) (V' := q_V S) rfl ?_ ?_
  · refine q_Sim.steps vc_246 1 (pc' := 9) (lv' := [(0, .inl x0)]) (st' := [.inl 0]) (V' := q_V S) rfl ?_
    exact q_Sim.ret vc_246 rfl
  · refine q_Sim.steps vc_246 2 (pc' := 9) (lv' := [(0, .inl x0)]) (st' := [.inl 1]) (V' := q_V S) rfl ?_
    exact q_Sim.ret vc_246 rfl
theorem vc_247 : v_code 247 = k_247 := rfl
theorem rc_247 (x1 : Int32) (x2 : Int32) : v_rcv 247 [.inr (.inr (11, 0, 0)), .inl x1, .inl x2] = true := rfl
def b_247_106 (xs0 : Int32) (S : QS) : Option ((Int32) × QS) := q_bd (f_246 xs0 S) (fun r_13 S_14 => some (r_13, S_14))
theorem sb_247_106 (xs0 : Int32) (S : QS) : q_Sim 247 106 [] [.inl xs0] (q_V S) q_I (b_247_106 xs0 S) := by
  unfold b_247_106
  refine q_Sim.call vc_247 (as := [.inl xs0]) (pc' := 109) (lv' := []) (st' := []) (S := S) rfl (rc_246 xs0) (s_246 xs0 S) (fun r_13 S_14 => ?_)
  exact q_Sim.ret vc_247 rfl
def b_247_123 (xs0 : Int32) (S : QS) : Option ((Int32) × QS) := q_bd (f_246 xs0 S) (fun r_18 S_19 => some (r_18, S_19))
theorem sb_247_123 (xs0 : Int32) (S : QS) : q_Sim 247 123 [] [.inl xs0] (q_V S) q_I (b_247_123 xs0 S) := by
  unfold b_247_123
  refine q_Sim.call vc_247 (as := [.inl xs0]) (pc' := 126) (lv' := []) (st' := []) (S := S) rfl (rc_246 xs0) (s_246 xs0 S) (fun r_18 S_19 => ?_)
  exact q_Sim.ret vc_247 rfl
def b_247_140 (xs0 : Int32) (S : QS) : Option ((Int32) × QS) := q_bd (f_246 xs0 S) (fun r_22 S_23 => some (r_22, S_23))
theorem sb_247_140 (xs0 : Int32) (S : QS) : q_Sim 247 140 [] [.inl xs0] (q_V S) q_I (b_247_140 xs0 S) := by
  unfold b_247_140
  refine q_Sim.call vc_247 (as := [.inl xs0]) (pc' := 143) (lv' := []) (st' := []) (S := S) rfl (rc_246 xs0) (s_246 xs0 S) (fun r_22 S_23 => ?_)
  exact q_Sim.ret vc_247 rfl
def b_247_35 (x1 : Int32) (x2 : Int32) (S : QS) : Option ((Int32) × QS) := if x2 = 2 then (q_bd (f_206 x1 S) (fun r_2 S_3 => some (r_2, S_3))) else (if x2 = 3 then (q_bd (f_208 x1 S) (fun r_5 S_6 => some (r_5, S_6))) else (if x2 = 4 then (q_bd (f_209 x1 S) (fun r_8 S_9 => some (r_8, S_9))) else (if x2 = 5 then (q_bd (f_206 x1 S) (fun r_11 S_12 => if r_11 ≤ 1100 then (b_247_106 0 S_12) else (b_247_106 1 S_12))) else (if x2 = 6 then (q_bd (f_208 x1 S) (fun r_16 S_17 => if r_16 ≤ 0 then (b_247_123 0 S_17) else (b_247_123 1 S_17))) else (q_bd (f_209 x1 S) (fun r_20 S_21 => if r_20 = 0 then (b_247_140 0 S_21) else (b_247_140 1 S_21)))))))
theorem sb_247_35 (x1 : Int32) (x2 : Int32) (S : QS) : q_Sim 247 35 [(0, .inr (.inr (11, 0, 0))), (1, .inl x1), (2, .inl x2)] [] (q_V S) q_I (b_247_35 x1 x2 S) := by
  unfold b_247_35
  refine q_Sim.steps vc_247 1 (pc' := 36) (lv' := [(0, .inr (.inr (11, 0, 0))), (1, .inl x1), (2, .inl x2)]) (st' := [.inl x2]) (V' := q_V S) rfl ?_
  refine q_Sim.ite (c := x2 = 2) (fun h_1 => q_Sim.sw vc_247 (lv' := [(0, .inr (.inr (11, 0, 0))), (1, .inl x1), (2, .inl x2)]) (st' := []) (V' := q_V S) rfl h_1 rfl (t := 72) rfl ?_) (fun h_1 => ?_)
  · refine q_Sim.steps vc_247 2 (pc' := 74) (lv' := [(0, .inr (.inr (11, 0, 0))), (1, .inl x1), (2, .inl x2)]) (st' := [.inl x1, .inr (.inr (11, 0, 0))]) (V' := q_V S) rfl ?_
    refine q_Sim.call vc_247 (as := [.inr (.inr (11, 0, 0)), .inl x1]) (pc' := 77) (lv' := [(0, .inr (.inr (11, 0, 0))), (1, .inl x1), (2, .inl x2)]) (st' := []) (S := S) rfl (rc_206 x1) (s_206 x1 S) (fun r_2 S_3 => ?_)
    exact q_Sim.ret vc_247 rfl
  refine q_Sim.ite (c := x2 = 3) (fun h_4 => q_Sim.sw vc_247 (lv' := [(0, .inr (.inr (11, 0, 0))), (1, .inl x1), (2, .inl x2)]) (st' := []) (V' := q_V S) rfl h_4 rfl (t := 78) rfl ?_) (fun h_4 => ?_)
  · refine q_Sim.steps vc_247 2 (pc' := 80) (lv' := [(0, .inr (.inr (11, 0, 0))), (1, .inl x1), (2, .inl x2)]) (st' := [.inl x1, .inr (.inr (11, 0, 0))]) (V' := q_V S) rfl ?_
    refine q_Sim.call vc_247 (as := [.inr (.inr (11, 0, 0)), .inl x1]) (pc' := 83) (lv' := [(0, .inr (.inr (11, 0, 0))), (1, .inl x1), (2, .inl x2)]) (st' := []) (S := S) rfl (rc_208 x1) (s_208 x1 S) (fun r_5 S_6 => ?_)
    exact q_Sim.ret vc_247 rfl
  refine q_Sim.ite (c := x2 = 4) (fun h_7 => q_Sim.sw vc_247 (lv' := [(0, .inr (.inr (11, 0, 0))), (1, .inl x1), (2, .inl x2)]) (st' := []) (V' := q_V S) rfl h_7 rfl (t := 84) rfl ?_) (fun h_7 => ?_)
  · refine q_Sim.steps vc_247 2 (pc' := 86) (lv' := [(0, .inr (.inr (11, 0, 0))), (1, .inl x1), (2, .inl x2)]) (st' := [.inl x1, .inr (.inr (11, 0, 0))]) (V' := q_V S) rfl ?_
    refine q_Sim.call vc_247 (as := [.inr (.inr (11, 0, 0)), .inl x1]) (pc' := 89) (lv' := [(0, .inr (.inr (11, 0, 0))), (1, .inl x1), (2, .inl x2)]) (st' := []) (S := S) rfl (rc_209 x1) (s_209 x1 S) (fun r_8 S_9 => ?_)
    exact q_Sim.ret vc_247 rfl
  refine q_Sim.ite (c := x2 = 5) (fun h_10 => q_Sim.sw vc_247 (lv' := [(0, .inr (.inr (11, 0, 0))), (1, .inl x1), (2, .inl x2)]) (st' := []) (V' := q_V S) rfl h_10 rfl (t := 90) rfl ?_) (fun h_10 => ?_)
  · refine q_Sim.steps vc_247 2 (pc' := 92) (lv' := [(0, .inr (.inr (11, 0, 0))), (1, .inl x1), (2, .inl x2)]) (st' := [.inl x1, .inr (.inr (11, 0, 0))]) (V' := q_V S) rfl ?_
    refine q_Sim.call vc_247 (as := [.inr (.inr (11, 0, 0)), .inl x1]) (pc' := 95) (lv' := [(0, .inr (.inr (11, 0, 0))), (1, .inl x1), (2, .inl x2)]) (st' := []) (S := S) rfl (rc_206 x1) (s_206 x1 S) (fun r_11 S_12 => ?_)
    refine q_Sim.steps vc_247 1 (pc' := 98) (lv' := [(0, .inr (.inr (11, 0, 0))), (1, .inl x1), (2, .inl x2)]) (st' := [.inl 1100, .inl r_11]) (V' := q_V S_12) rfl ?_
    refine q_Sim.br vc_247 (c := r_11 ≤ 1100) (t := 105) (f := 101) (lv' := [(0, .inr (.inr (11, 0, 0))), (1, .inl x1), (2, .inl x2)]) (st' := []) (V' := q_V S_12) rfl ?_ ?_
    · refine q_Sim.steps vc_247 1 (pc' := 106) (lv' := [(0, .inr (.inr (11, 0, 0))), (1, .inl x1), (2, .inl x2)]) (st' := [.inl 0]) (V' := q_V S_12) rfl ?_
      exact q_Sim.sub2 (lv' := []) [] rfl (by decide) trivial (sb_247_106 0 S_12)
    · refine q_Sim.steps vc_247 2 (pc' := 106) (lv' := [(0, .inr (.inr (11, 0, 0))), (1, .inl x1), (2, .inl x2)]) (st' := [.inl 1]) (V' := q_V S_12) rfl ?_
      exact q_Sim.sub2 (lv' := []) [] rfl (by decide) trivial (sb_247_106 1 S_12)
  refine q_Sim.ite (c := x2 = 6) (fun h_15 => q_Sim.sw vc_247 (lv' := [(0, .inr (.inr (11, 0, 0))), (1, .inl x1), (2, .inl x2)]) (st' := []) (V' := q_V S) rfl h_15 rfl (t := 110) rfl ?_) (fun h_15 => ?_)
  · refine q_Sim.steps vc_247 2 (pc' := 112) (lv' := [(0, .inr (.inr (11, 0, 0))), (1, .inl x1), (2, .inl x2)]) (st' := [.inl x1, .inr (.inr (11, 0, 0))]) (V' := q_V S) rfl ?_
    refine q_Sim.call vc_247 (as := [.inr (.inr (11, 0, 0)), .inl x1]) (pc' := 115) (lv' := [(0, .inr (.inr (11, 0, 0))), (1, .inl x1), (2, .inl x2)]) (st' := []) (S := S) rfl (rc_208 x1) (s_208 x1 S) (fun r_16 S_17 => ?_)
    refine q_Sim.br vc_247 (c := r_16 ≤ 0) (t := 122) (f := 118) (lv' := [(0, .inr (.inr (11, 0, 0))), (1, .inl x1), (2, .inl x2)]) (st' := []) (V' := q_V S_17) rfl ?_ ?_
    · refine q_Sim.steps vc_247 1 (pc' := 123) (lv' := [(0, .inr (.inr (11, 0, 0))), (1, .inl x1), (2, .inl x2)]) (st' := [.inl 0]) (V' := q_V S_17) rfl ?_
      exact q_Sim.sub2 (lv' := []) [] rfl (by decide) trivial (sb_247_123 0 S_17)
    · refine q_Sim.steps vc_247 2 (pc' := 123) (lv' := [(0, .inr (.inr (11, 0, 0))), (1, .inl x1), (2, .inl x2)]) (st' := [.inl 1]) (V' := q_V S_17) rfl ?_
      exact q_Sim.sub2 (lv' := []) [] rfl (by decide) trivial (sb_247_123 1 S_17)
  refine q_Sim.swd vc_247 (lv' := [(0, .inr (.inr (11, 0, 0))), (1, .inl x1), (2, .inl x2)]) (st' := []) (V' := q_V S) rfl (fun k h1 h2 => ?_) (t := 127) rfl ?_
  · have h3 : k = 2 ∨ k = 3 ∨ k = 4 ∨ k = 5 ∨ k = 6 := by omega
    rcases h3 with rfl | rfl | rfl | rfl | rfl
    · exact q_ne h_1 rfl
    · exact q_ne h_4 rfl
    · exact q_ne h_7 rfl
    · exact q_ne h_10 rfl
    · exact q_ne h_15 rfl
  · refine q_Sim.steps vc_247 2 (pc' := 129) (lv' := [(0, .inr (.inr (11, 0, 0))), (1, .inl x1), (2, .inl x2)]) (st' := [.inl x1, .inr (.inr (11, 0, 0))]) (V' := q_V S) rfl ?_
    refine q_Sim.call vc_247 (as := [.inr (.inr (11, 0, 0)), .inl x1]) (pc' := 132) (lv' := [(0, .inr (.inr (11, 0, 0))), (1, .inl x1), (2, .inl x2)]) (st' := []) (S := S) rfl (rc_209 x1) (s_209 x1 S) (fun r_20 S_21 => ?_)
    refine q_Sim.br vc_247 (c := r_20 = 0) (t := 139) (f := 135) (lv' := [(0, .inr (.inr (11, 0, 0))), (1, .inl x1), (2, .inl x2)]) (st' := []) (V' := q_V S_21) rfl ?_ ?_
    · refine q_Sim.steps vc_247 1 (pc' := 140) (lv' := [(0, .inr (.inr (11, 0, 0))), (1, .inl x1), (2, .inl x2)]) (st' := [.inl 0]) (V' := q_V S_21) rfl ?_
      exact q_Sim.sub2 (lv' := []) [] rfl (by decide) trivial (sb_247_140 0 S_21)
    · refine q_Sim.steps vc_247 2 (pc' := 140) (lv' := [(0, .inr (.inr (11, 0, 0))), (1, .inl x1), (2, .inl x2)]) (st' := [.inl 1]) (V' := q_V S_21) rfl ?_
      exact q_Sim.sub2 (lv' := []) [] rfl (by decide) trivial (sb_247_140 1 S_21)
def b_247_23 (x1 : Int32) (x2 : Int32) (S : QS) : Option ((Int32) × QS) := if ¬ x2 = 7 then (b_247_35 x1 x2 S) else (q_bd (f_205 13 S) (fun r_24 S_25 => b_247_35 x1 x2 S_25))
theorem sb_247_23 (x1 : Int32) (x2 : Int32) (S : QS) : q_Sim 247 23 [(0, .inr (.inr (11, 0, 0))), (1, .inl x1), (2, .inl x2)] [] (q_V S) q_I (b_247_23 x1 x2 S) := by
  unfold b_247_23
  refine q_Sim.steps vc_247 2 (pc' := 26) (lv' := [(0, .inr (.inr (11, 0, 0))), (1, .inl x1), (2, .inl x2)]) (st' := [.inl 7, .inl x2]) (V' := q_V S) rfl ?_
  refine q_Sim.br vc_247 (c := ¬ x2 = 7) (t := 35) (f := 29) (lv' := [(0, .inr (.inr (11, 0, 0))), (1, .inl x1), (2, .inl x2)]) (st' := []) (V' := q_V S) rfl ?_ ?_
  · exact q_Sim.sub2 (lv' := [(0, .inr (.inr (11, 0, 0))), (1, .inl x1), (2, .inl x2)]) [0, 1, 2] rfl (by decide) ⟨rfl, rfl, rfl, trivial⟩ (sb_247_35 x1 x2 S)
  · refine q_Sim.steps vc_247 2 (pc' := 32) (lv' := [(0, .inr (.inr (11, 0, 0))), (1, .inl x1), (2, .inl x2)]) (st' := [.inl 13, .inr (.inr (11, 0, 0))]) (V' := q_V S) rfl ?_
    refine q_Sim.call vc_247 (as := [.inr (.inr (11, 0, 0)), .inl 13]) (pc' := 35) (lv' := [(0, .inr (.inr (11, 0, 0))), (1, .inl x1), (2, .inl x2)]) (st' := []) (S := S) rfl (rc_205 13) (s_205 13 S) (fun r_24 S_25 => ?_)
    exact q_Sim.sub2 (lv' := [(0, .inr (.inr (11, 0, 0))), (1, .inl x1), (2, .inl x2)]) [0, 1, 2] rfl (by decide) ⟨rfl, rfl, rfl, trivial⟩ (sb_247_35 x1 x2 S_25)
def b_247_11 (x1 : Int32) (x2 : Int32) (S : QS) : Option ((Int32) × QS) := if ¬ x2 = 6 then (b_247_23 x1 x2 S) else (q_bd (f_205 15 S) (fun r_26 S_27 => b_247_23 x1 x2 S_27))
theorem sb_247_11 (x1 : Int32) (x2 : Int32) (S : QS) : q_Sim 247 11 [(0, .inr (.inr (11, 0, 0))), (1, .inl x1), (2, .inl x2)] [] (q_V S) q_I (b_247_11 x1 x2 S) := by
  unfold b_247_11
  refine q_Sim.steps vc_247 2 (pc' := 14) (lv' := [(0, .inr (.inr (11, 0, 0))), (1, .inl x1), (2, .inl x2)]) (st' := [.inl 6, .inl x2]) (V' := q_V S) rfl ?_
  refine q_Sim.br vc_247 (c := ¬ x2 = 6) (t := 23) (f := 17) (lv' := [(0, .inr (.inr (11, 0, 0))), (1, .inl x1), (2, .inl x2)]) (st' := []) (V' := q_V S) rfl ?_ ?_
  · exact q_Sim.sub2 (lv' := [(0, .inr (.inr (11, 0, 0))), (1, .inl x1), (2, .inl x2)]) [0, 1, 2] rfl (by decide) ⟨rfl, rfl, rfl, trivial⟩ (sb_247_23 x1 x2 S)
  · refine q_Sim.steps vc_247 2 (pc' := 20) (lv' := [(0, .inr (.inr (11, 0, 0))), (1, .inl x1), (2, .inl x2)]) (st' := [.inl 15, .inr (.inr (11, 0, 0))]) (V' := q_V S) rfl ?_
    refine q_Sim.call vc_247 (as := [.inr (.inr (11, 0, 0)), .inl 15]) (pc' := 23) (lv' := [(0, .inr (.inr (11, 0, 0))), (1, .inl x1), (2, .inl x2)]) (st' := []) (S := S) rfl (rc_205 15) (s_205 15 S) (fun r_26 S_27 => ?_)
    exact q_Sim.sub2 (lv' := [(0, .inr (.inr (11, 0, 0))), (1, .inl x1), (2, .inl x2)]) [0, 1, 2] rfl (by decide) ⟨rfl, rfl, rfl, trivial⟩ (sb_247_23 x1 x2 S_27)
def f_247 (x1 : Int32) (x2 : Int32) (S : QS) : Option ((Int32) × QS) := if ¬ x2 = 5 then (b_247_11 x1 x2 S) else (q_bd (f_205 14 S) (fun r_28 S_29 => b_247_11 x1 x2 S_29))
theorem s_247 (x1 : Int32) (x2 : Int32) (S : QS) : q_Sim 247 0 [(0, .inr (.inr (11, 0, 0))), (1, .inl x1), (2, .inl x2)] [] (q_V S) q_I (f_247 x1 x2 S) := by
  unfold f_247
  refine q_Sim.steps vc_247 2 (pc' := 2) (lv' := [(0, .inr (.inr (11, 0, 0))), (1, .inl x1), (2, .inl x2)]) (st' := [.inl 5, .inl x2]) (V' := q_V S) rfl ?_
  refine q_Sim.br vc_247 (c := ¬ x2 = 5) (t := 11) (f := 5) (lv' := [(0, .inr (.inr (11, 0, 0))), (1, .inl x1), (2, .inl x2)]) (st' := []) (V' := q_V S) rfl ?_ ?_
  · exact q_Sim.sub2 (lv' := [(0, .inr (.inr (11, 0, 0))), (1, .inl x1), (2, .inl x2)]) [0, 1, 2] rfl (by decide) ⟨rfl, rfl, rfl, trivial⟩ (sb_247_11 x1 x2 S)
  · refine q_Sim.steps vc_247 2 (pc' := 8) (lv' := [(0, .inr (.inr (11, 0, 0))), (1, .inl x1), (2, .inl x2)]) (st' := [.inl 14, .inr (.inr (11, 0, 0))]) (V' := q_V S) rfl ?_
    refine q_Sim.call vc_247 (as := [.inr (.inr (11, 0, 0)), .inl 14]) (pc' := 11) (lv' := [(0, .inr (.inr (11, 0, 0))), (1, .inl x1), (2, .inl x2)]) (st' := []) (S := S) rfl (rc_205 14) (s_205 14 S) (fun r_28 S_29 => ?_)
    exact q_Sim.sub2 (lv' := [(0, .inr (.inr (11, 0, 0))), (1, .inl x1), (2, .inl x2)]) [0, 1, 2] rfl (by decide) ⟨rfl, rfl, rfl, trivial⟩ (sb_247_11 x1 x2 S_29)
theorem vc_248 : v_code 248 = k_248 := rfl
theorem rc_248 (x1 : Int32) (x2 : Int32) : v_rcv 248 [.inr (.inr (11, 0, 0)), .inl x1, .inl x2] = true := rfl
def b_248_70 (x1 : Int32) (x2 : Int32) (x3 : Int32) (S : QS) : Option ((Int32) × QS) := if x3 ≤ 0 then (q_bd (f_189 x2 2 7 S) (fun r_3 S_4 => if r_3 = 0 then (if ¬ x2 = 10 then (if x2 = 0 then (q_bd (f_192 x1 0 S_4) (fun r_6 S_7 => q_bd (f_187 r_6 S_7) (fun r_8 S_9 => some (r_8, S_9)))) else (if x2 = 1 then (q_bd (f_192 x1 1 S_4) (fun r_11 S_12 => q_bd (f_187 r_11 S_12) (fun r_13 S_14 => some (r_13, S_14)))) else (if x2 = 8 then (q_bd (f_192 x1 2 S_4) (fun r_16 S_17 => q_bd (f_187 r_16 S_17) (fun r_18 S_19 => some (r_18, S_19)))) else (if x2 = 9 then (q_bd (f_192 x1 3 S_4) (fun r_21 S_22 => q_bd (f_187 r_21 S_22) (fun r_23 S_24 => some (r_23, S_24)))) else (if x2 = 11 then (q_bd (f_192 x1 4 S_4) (fun r_26 S_27 => q_bd (f_187 r_26 S_27) (fun r_28 S_29 => some (r_28, S_29)))) else (if x2 = 12 then (q_bd (f_192 x1 5 S_4) (fun r_31 S_32 => q_bd (f_187 r_31 S_32) (fun r_33 S_34 => some (r_33, S_34)))) else (if x2 = 13 then (q_bd (f_244 x1 S_4) (fun r_36 S_37 => q_bd (f_187 r_36 S_37) (fun r_38 S_39 => some (r_38, S_39)))) else (if x2 = 2 then (q_bd (f_245 x1 S_4) (fun r_40 S_41 => q_bd (f_187 r_40 S_41) (fun r_42 S_43 => some (r_42, S_43)))) else (if x2 = 3 then (q_bd (f_245 x1 S_4) (fun r_40 S_41 => q_bd (f_187 r_40 S_41) (fun r_42 S_43 => some (r_42, S_43)))) else (if x2 = 4 then (q_bd (f_245 x1 S_4) (fun r_40 S_41 => q_bd (f_187 r_40 S_41) (fun r_42 S_43 => some (r_42, S_43)))) else (if x2 = 5 then (q_bd (f_245 x1 S_4) (fun r_40 S_41 => q_bd (f_187 r_40 S_41) (fun r_42 S_43 => some (r_42, S_43)))) else (if x2 = 6 then (q_bd (f_245 x1 S_4) (fun r_40 S_41 => q_bd (f_187 r_40 S_41) (fun r_42 S_43 => some (r_42, S_43)))) else (if x2 = 7 then (q_bd (f_245 x1 S_4) (fun r_40 S_41 => q_bd (f_187 r_40 S_41) (fun r_42 S_43 => some (r_42, S_43)))) else (if x2 = 10 then (q_bd (f_245 x1 S_4) (fun r_40 S_41 => q_bd (f_187 r_40 S_41) (fun r_42 S_43 => some (r_42, S_43)))) else (q_bd (f_245 x1 S_4) (fun r_40 S_41 => q_bd (f_187 r_40 S_41) (fun r_42 S_43 => some (r_42, S_43)))))))))))))))))) else (q_bd (f_237 16 S_4) (fun r_51 S_52 => q_ck (v_in x1 200) (q_let (S_52.1 (46, 0, 0) x1.toNatClampNeg) (fun y_53 => q_bd (f_187 y_53 S_52) (fun r_54 S_55 => some (r_54, S_55))))))) else (q_bd (f_247 x1 x2 S_4) (fun r_56 S_57 => q_bd (f_187 r_56 S_57) (fun r_58 S_59 => some (r_58, S_59)))))) else (q_bd (f_186 x3 S) (fun r_60 S_61 => some (r_60, S_61)))
theorem sb_248_70 (x1 : Int32) (x2 : Int32) (x3 : Int32) (S : QS) : q_Sim 248 70 [(0, .inr (.inr (11, 0, 0))), (1, .inl x1), (2, .inl x2), (3, .inl x3)] [] (q_V S) q_I (b_248_70 x1 x2 x3 S) := by
  unfold b_248_70
  refine q_Sim.steps vc_248 1 (pc' := 71) (lv' := [(0, .inr (.inr (11, 0, 0))), (1, .inl x1), (2, .inl x2), (3, .inl x3)]) (st' := [.inl x3]) (V' := q_V S) rfl ?_
  refine q_Sim.br vc_248 (c := x3 ≤ 0) (t := 80) (f := 74) (lv' := [(0, .inr (.inr (11, 0, 0))), (1, .inl x1), (2, .inl x2), (3, .inl x3)]) (st' := []) (V' := q_V S) rfl ?_ ?_
  · refine q_Sim.steps vc_248 3 (pc' := 84) (lv' := [(0, .inr (.inr (11, 0, 0))), (1, .inl x1), (2, .inl x2), (3, .inl x3)]) (st' := [.inl 7, .inl 2, .inl x2]) (V' := q_V S) rfl ?_
    refine q_Sim.call vc_248 (as := [.inl x2, .inl 2, .inl 7]) (pc' := 87) (lv' := [(0, .inr (.inr (11, 0, 0))), (1, .inl x1), (2, .inl x2), (3, .inl x3)]) (st' := []) (S := S) rfl (rc_189 x2 2 7) (s_189 x2 2 7 S) (fun r_3 S_4 => ?_)
    refine q_Sim.br vc_248 (c := r_3 = 0) (t := 101) (f := 90) (lv' := [(0, .inr (.inr (11, 0, 0))), (1, .inl x1), (2, .inl x2), (3, .inl x3)]) (st' := []) (V' := q_V S_4) rfl ?_ ?_
    · refine q_Sim.steps vc_248 2 (pc' := 104) (lv' := [(0, .inr (.inr (11, 0, 0))), (1, .inl x1), (2, .inl x2), (3, .inl x3)]) (st' := [.inl 10, .inl x2]) (V' := q_V S_4) rfl ?_
      refine q_Sim.br vc_248 (c := ¬ x2 = 10) (t := 124) (f := 107) (lv' := [(0, .inr (.inr (11, 0, 0))), (1, .inl x1), (2, .inl x2), (3, .inl x3)]) (st' := []) (V' := q_V S_4) rfl ?_ ?_
      · refine q_Sim.steps vc_248 1 (pc' := 125) (lv' := [(0, .inr (.inr (11, 0, 0))), (1, .inl x1), (2, .inl x2), (3, .inl x3)]) (st' := [.inl x2]) (V' := q_V S_4) rfl ?_
        refine q_Sim.ite (c := x2 = 0) (fun h_5 => q_Sim.sw vc_248 (lv' := [(0, .inr (.inr (11, 0, 0))), (1, .inl x1), (2, .inl x2), (3, .inl x3)]) (st' := []) (V' := q_V S_4) rfl h_5 rfl (t := 196) rfl ?_) (fun h_5 => ?_)
        · refine q_Sim.steps vc_248 4 (pc' := 200) (lv' := [(0, .inr (.inr (11, 0, 0))), (1, .inl x1), (2, .inl x2), (3, .inl x3)]) (st' := [.inl 0, .inl x1, .inr (.inr (11, 0, 0)), .inr (.inr (11, 0, 0))]) (V' := q_V S_4) rfl ?_
          refine q_Sim.call vc_248 (as := [.inr (.inr (11, 0, 0)), .inl x1, .inl 0]) (pc' := 203) (lv' := [(0, .inr (.inr (11, 0, 0))), (1, .inl x1), (2, .inl x2), (3, .inl x3)]) (st' := [.inr (.inr (11, 0, 0))]) (S := S_4) rfl (rc_192 x1 0) (s_192 x1 0 S_4) (fun r_6 S_7 => ?_)
          refine q_Sim.call vc_248 (as := [.inr (.inr (11, 0, 0)), .inl r_6]) (pc' := 206) (lv' := [(0, .inr (.inr (11, 0, 0))), (1, .inl x1), (2, .inl x2), (3, .inl x3)]) (st' := []) (S := S_7) rfl (rc_187 r_6) (s_187 r_6 S_7) (fun r_8 S_9 => ?_)
          exact q_Sim.ret vc_248 rfl
        refine q_Sim.ite (c := x2 = 1) (fun h_10 => q_Sim.sw vc_248 (lv' := [(0, .inr (.inr (11, 0, 0))), (1, .inl x1), (2, .inl x2), (3, .inl x3)]) (st' := []) (V' := q_V S_4) rfl h_10 rfl (t := 207) rfl ?_) (fun h_10 => ?_)
        · refine q_Sim.steps vc_248 4 (pc' := 211) (lv' := [(0, .inr (.inr (11, 0, 0))), (1, .inl x1), (2, .inl x2), (3, .inl x3)]) (st' := [.inl 1, .inl x1, .inr (.inr (11, 0, 0)), .inr (.inr (11, 0, 0))]) (V' := q_V S_4) rfl ?_
          refine q_Sim.call vc_248 (as := [.inr (.inr (11, 0, 0)), .inl x1, .inl 1]) (pc' := 214) (lv' := [(0, .inr (.inr (11, 0, 0))), (1, .inl x1), (2, .inl x2), (3, .inl x3)]) (st' := [.inr (.inr (11, 0, 0))]) (S := S_4) rfl (rc_192 x1 1) (s_192 x1 1 S_4) (fun r_11 S_12 => ?_)
          refine q_Sim.call vc_248 (as := [.inr (.inr (11, 0, 0)), .inl r_11]) (pc' := 217) (lv' := [(0, .inr (.inr (11, 0, 0))), (1, .inl x1), (2, .inl x2), (3, .inl x3)]) (st' := []) (S := S_12) rfl (rc_187 r_11) (s_187 r_11 S_12) (fun r_13 S_14 => ?_)
          exact q_Sim.ret vc_248 rfl
        refine q_Sim.ite (c := x2 = 8) (fun h_15 => q_Sim.sw vc_248 (lv' := [(0, .inr (.inr (11, 0, 0))), (1, .inl x1), (2, .inl x2), (3, .inl x3)]) (st' := []) (V' := q_V S_4) rfl h_15 rfl (t := 218) rfl ?_) (fun h_15 => ?_)
        · refine q_Sim.steps vc_248 4 (pc' := 222) (lv' := [(0, .inr (.inr (11, 0, 0))), (1, .inl x1), (2, .inl x2), (3, .inl x3)]) (st' := [.inl 2, .inl x1, .inr (.inr (11, 0, 0)), .inr (.inr (11, 0, 0))]) (V' := q_V S_4) rfl ?_
          refine q_Sim.call vc_248 (as := [.inr (.inr (11, 0, 0)), .inl x1, .inl 2]) (pc' := 225) (lv' := [(0, .inr (.inr (11, 0, 0))), (1, .inl x1), (2, .inl x2), (3, .inl x3)]) (st' := [.inr (.inr (11, 0, 0))]) (S := S_4) rfl (rc_192 x1 2) (s_192 x1 2 S_4) (fun r_16 S_17 => ?_)
          refine q_Sim.call vc_248 (as := [.inr (.inr (11, 0, 0)), .inl r_16]) (pc' := 228) (lv' := [(0, .inr (.inr (11, 0, 0))), (1, .inl x1), (2, .inl x2), (3, .inl x3)]) (st' := []) (S := S_17) rfl (rc_187 r_16) (s_187 r_16 S_17) (fun r_18 S_19 => ?_)
          exact q_Sim.ret vc_248 rfl
        refine q_Sim.ite (c := x2 = 9) (fun h_20 => q_Sim.sw vc_248 (lv' := [(0, .inr (.inr (11, 0, 0))), (1, .inl x1), (2, .inl x2), (3, .inl x3)]) (st' := []) (V' := q_V S_4) rfl h_20 rfl (t := 229) rfl ?_) (fun h_20 => ?_)
        · refine q_Sim.steps vc_248 4 (pc' := 233) (lv' := [(0, .inr (.inr (11, 0, 0))), (1, .inl x1), (2, .inl x2), (3, .inl x3)]) (st' := [.inl 3, .inl x1, .inr (.inr (11, 0, 0)), .inr (.inr (11, 0, 0))]) (V' := q_V S_4) rfl ?_
          refine q_Sim.call vc_248 (as := [.inr (.inr (11, 0, 0)), .inl x1, .inl 3]) (pc' := 236) (lv' := [(0, .inr (.inr (11, 0, 0))), (1, .inl x1), (2, .inl x2), (3, .inl x3)]) (st' := [.inr (.inr (11, 0, 0))]) (S := S_4) rfl (rc_192 x1 3) (s_192 x1 3 S_4) (fun r_21 S_22 => ?_)
          refine q_Sim.call vc_248 (as := [.inr (.inr (11, 0, 0)), .inl r_21]) (pc' := 239) (lv' := [(0, .inr (.inr (11, 0, 0))), (1, .inl x1), (2, .inl x2), (3, .inl x3)]) (st' := []) (S := S_22) rfl (rc_187 r_21) (s_187 r_21 S_22) (fun r_23 S_24 => ?_)
          exact q_Sim.ret vc_248 rfl
        refine q_Sim.ite (c := x2 = 11) (fun h_25 => q_Sim.sw vc_248 (lv' := [(0, .inr (.inr (11, 0, 0))), (1, .inl x1), (2, .inl x2), (3, .inl x3)]) (st' := []) (V' := q_V S_4) rfl h_25 rfl (t := 240) rfl ?_) (fun h_25 => ?_)
        · refine q_Sim.steps vc_248 4 (pc' := 244) (lv' := [(0, .inr (.inr (11, 0, 0))), (1, .inl x1), (2, .inl x2), (3, .inl x3)]) (st' := [.inl 4, .inl x1, .inr (.inr (11, 0, 0)), .inr (.inr (11, 0, 0))]) (V' := q_V S_4) rfl ?_
          refine q_Sim.call vc_248 (as := [.inr (.inr (11, 0, 0)), .inl x1, .inl 4]) (pc' := 247) (lv' := [(0, .inr (.inr (11, 0, 0))), (1, .inl x1), (2, .inl x2), (3, .inl x3)]) (st' := [.inr (.inr (11, 0, 0))]) (S := S_4) rfl (rc_192 x1 4) (s_192 x1 4 S_4) (fun r_26 S_27 => ?_)
          refine q_Sim.call vc_248 (as := [.inr (.inr (11, 0, 0)), .inl r_26]) (pc' := 250) (lv' := [(0, .inr (.inr (11, 0, 0))), (1, .inl x1), (2, .inl x2), (3, .inl x3)]) (st' := []) (S := S_27) rfl (rc_187 r_26) (s_187 r_26 S_27) (fun r_28 S_29 => ?_)
          exact q_Sim.ret vc_248 rfl
        refine q_Sim.ite (c := x2 = 12) (fun h_30 => q_Sim.sw vc_248 (lv' := [(0, .inr (.inr (11, 0, 0))), (1, .inl x1), (2, .inl x2), (3, .inl x3)]) (st' := []) (V' := q_V S_4) rfl h_30 rfl (t := 251) rfl ?_) (fun h_30 => ?_)
        · refine q_Sim.steps vc_248 4 (pc' := 255) (lv' := [(0, .inr (.inr (11, 0, 0))), (1, .inl x1), (2, .inl x2), (3, .inl x3)]) (st' := [.inl 5, .inl x1, .inr (.inr (11, 0, 0)), .inr (.inr (11, 0, 0))]) (V' := q_V S_4) rfl ?_
          refine q_Sim.call vc_248 (as := [.inr (.inr (11, 0, 0)), .inl x1, .inl 5]) (pc' := 258) (lv' := [(0, .inr (.inr (11, 0, 0))), (1, .inl x1), (2, .inl x2), (3, .inl x3)]) (st' := [.inr (.inr (11, 0, 0))]) (S := S_4) rfl (rc_192 x1 5) (s_192 x1 5 S_4) (fun r_31 S_32 => ?_)
          refine q_Sim.call vc_248 (as := [.inr (.inr (11, 0, 0)), .inl r_31]) (pc' := 261) (lv' := [(0, .inr (.inr (11, 0, 0))), (1, .inl x1), (2, .inl x2), (3, .inl x3)]) (st' := []) (S := S_32) rfl (rc_187 r_31) (s_187 r_31 S_32) (fun r_33 S_34 => ?_)
          exact q_Sim.ret vc_248 rfl
        refine q_Sim.ite (c := x2 = 13) (fun h_35 => q_Sim.sw vc_248 (lv' := [(0, .inr (.inr (11, 0, 0))), (1, .inl x1), (2, .inl x2), (3, .inl x3)]) (st' := []) (V' := q_V S_4) rfl h_35 rfl (t := 262) rfl ?_) (fun h_35 => ?_)
        · refine q_Sim.steps vc_248 3 (pc' := 265) (lv' := [(0, .inr (.inr (11, 0, 0))), (1, .inl x1), (2, .inl x2), (3, .inl x3)]) (st' := [.inl x1, .inr (.inr (11, 0, 0)), .inr (.inr (11, 0, 0))]) (V' := q_V S_4) rfl ?_
          refine q_Sim.call vc_248 (as := [.inr (.inr (11, 0, 0)), .inl x1]) (pc' := 268) (lv' := [(0, .inr (.inr (11, 0, 0))), (1, .inl x1), (2, .inl x2), (3, .inl x3)]) (st' := [.inr (.inr (11, 0, 0))]) (S := S_4) rfl (rc_244 x1) (s_244 x1 S_4) (fun r_36 S_37 => ?_)
          refine q_Sim.call vc_248 (as := [.inr (.inr (11, 0, 0)), .inl r_36]) (pc' := 271) (lv' := [(0, .inr (.inr (11, 0, 0))), (1, .inl x1), (2, .inl x2), (3, .inl x3)]) (st' := []) (S := S_37) rfl (rc_187 r_36) (s_187 r_36 S_37) (fun r_38 S_39 => ?_)
          exact q_Sim.ret vc_248 rfl
        refine q_Sim.ite (c := x2 = 2) (fun h_44 => q_Sim.sw vc_248 (lv' := [(0, .inr (.inr (11, 0, 0))), (1, .inl x1), (2, .inl x2), (3, .inl x3)]) (st' := []) (V' := q_V S_4) rfl h_44 rfl (t := 272) rfl ?_) (fun h_44 => ?_)
        · refine q_Sim.steps vc_248 3 (pc' := 275) (lv' := [(0, .inr (.inr (11, 0, 0))), (1, .inl x1), (2, .inl x2), (3, .inl x3)]) (st' := [.inl x1, .inr (.inr (11, 0, 0)), .inr (.inr (11, 0, 0))]) (V' := q_V S_4) rfl ?_
          refine q_Sim.call vc_248 (as := [.inr (.inr (11, 0, 0)), .inl x1]) (pc' := 278) (lv' := [(0, .inr (.inr (11, 0, 0))), (1, .inl x1), (2, .inl x2), (3, .inl x3)]) (st' := [.inr (.inr (11, 0, 0))]) (S := S_4) rfl (rc_245 x1) (s_245 x1 S_4) (fun r_40 S_41 => ?_)
          refine q_Sim.call vc_248 (as := [.inr (.inr (11, 0, 0)), .inl r_40]) (pc' := 281) (lv' := [(0, .inr (.inr (11, 0, 0))), (1, .inl x1), (2, .inl x2), (3, .inl x3)]) (st' := []) (S := S_41) rfl (rc_187 r_40) (s_187 r_40 S_41) (fun r_42 S_43 => ?_)
          exact q_Sim.ret vc_248 rfl
        refine q_Sim.ite (c := x2 = 3) (fun h_45 => q_Sim.sw vc_248 (lv' := [(0, .inr (.inr (11, 0, 0))), (1, .inl x1), (2, .inl x2), (3, .inl x3)]) (st' := []) (V' := q_V S_4) rfl h_45 rfl (t := 272) rfl ?_) (fun h_45 => ?_)
        · refine q_Sim.steps vc_248 3 (pc' := 275) (lv' := [(0, .inr (.inr (11, 0, 0))), (1, .inl x1), (2, .inl x2), (3, .inl x3)]) (st' := [.inl x1, .inr (.inr (11, 0, 0)), .inr (.inr (11, 0, 0))]) (V' := q_V S_4) rfl ?_
          refine q_Sim.call vc_248 (as := [.inr (.inr (11, 0, 0)), .inl x1]) (pc' := 278) (lv' := [(0, .inr (.inr (11, 0, 0))), (1, .inl x1), (2, .inl x2), (3, .inl x3)]) (st' := [.inr (.inr (11, 0, 0))]) (S := S_4) rfl (rc_245 x1) (s_245 x1 S_4) (fun r_40 S_41 => ?_)
          refine q_Sim.call vc_248 (as := [.inr (.inr (11, 0, 0)), .inl r_40]) (pc' := 281) (lv' := [(0, .inr (.inr (11, 0, 0))), (1, .inl x1), (2, .inl x2), (3, .inl x3)]) (st' := []) (S := S_41) rfl (rc_187 r_40) (s_187 r_40 S_41) (fun r_42 S_43 => ?_)
          exact q_Sim.ret vc_248 rfl
        refine q_Sim.ite (c := x2 = 4) (fun h_46 => q_Sim.sw vc_248 (lv' := [(0, .inr (.inr (11, 0, 0))), (1, .inl x1), (2, .inl x2), (3, .inl x3)]) (st' := []) (V' := q_V S_4) rfl h_46 rfl (t := 272) rfl ?_) (fun h_46 => ?_)
        · refine q_Sim.steps vc_248 3 (pc' := 275) (lv' := [(0, .inr (.inr (11, 0, 0))), (1, .inl x1), (2, .inl x2), (3, .inl x3)]) (st' := [.inl x1, .inr (.inr (11, 0, 0)), .inr (.inr (11, 0, 0))]) (V' := q_V S_4) rfl ?_
          refine q_Sim.call vc_248 (as := [.inr (.inr (11, 0, 0)), .inl x1]) (pc' := 278) (lv' := [(0, .inr (.inr (11, 0, 0))), (1, .inl x1), (2, .inl x2), (3, .inl x3)]) (st' := [.inr (.inr (11, 0, 0))]) (S := S_4) rfl (rc_245 x1) (s_245 x1 S_4) (fun r_40 S_41 => ?_)
          refine q_Sim.call vc_248 (as := [.inr (.inr (11, 0, 0)), .inl r_40]) (pc' := 281) (lv' := [(0, .inr (.inr (11, 0, 0))), (1, .inl x1), (2, .inl x2), (3, .inl x3)]) (st' := []) (S := S_41) rfl (rc_187 r_40) (s_187 r_40 S_41) (fun r_42 S_43 => ?_)
          exact q_Sim.ret vc_248 rfl
        refine q_Sim.ite (c := x2 = 5) (fun h_47 => q_Sim.sw vc_248 (lv' := [(0, .inr (.inr (11, 0, 0))), (1, .inl x1), (2, .inl x2), (3, .inl x3)]) (st' := []) (V' := q_V S_4) rfl h_47 rfl (t := 272) rfl ?_) (fun h_47 => ?_)
        · refine q_Sim.steps vc_248 3 (pc' := 275) (lv' := [(0, .inr (.inr (11, 0, 0))), (1, .inl x1), (2, .inl x2), (3, .inl x3)]) (st' := [.inl x1, .inr (.inr (11, 0, 0)), .inr (.inr (11, 0, 0))]) (V' := q_V S_4) rfl ?_
          refine q_Sim.call vc_248 (as := [.inr (.inr (11, 0, 0)), .inl x1]) (pc' := 278) (lv' := [(0, .inr (.inr (11, 0, 0))), (1, .inl x1), (2, .inl x2), (3, .inl x3)]) (st' := [.inr (.inr (11, 0, 0))]) (S := S_4) rfl (rc_245 x1) (s_245 x1 S_4) (fun r_40 S_41 => ?_)
          refine q_Sim.call vc_248 (as := [.inr (.inr (11, 0, 0)), .inl r_40]) (pc' := 281) (lv' := [(0, .inr (.inr (11, 0, 0))), (1, .inl x1), (2, .inl x2), (3, .inl x3)]) (st' := []) (S := S_41) rfl (rc_187 r_40) (s_187 r_40 S_41) (fun r_42 S_43 => ?_)
          exact q_Sim.ret vc_248 rfl
        refine q_Sim.ite (c := x2 = 6) (fun h_48 => q_Sim.sw vc_248 (lv' := [(0, .inr (.inr (11, 0, 0))), (1, .inl x1), (2, .inl x2), (3, .inl x3)]) (st' := []) (V' := q_V S_4) rfl h_48 rfl (t := 272) rfl ?_) (fun h_48 => ?_)
        · refine q_Sim.steps vc_248 3 (pc' := 275) (lv' := [(0, .inr (.inr (11, 0, 0))), (1, .inl x1), (2, .inl x2), (3, .inl x3)]) (st' := [.inl x1, .inr (.inr (11, 0, 0)), .inr (.inr (11, 0, 0))]) (V' := q_V S_4) rfl ?_
          refine q_Sim.call vc_248 (as := [.inr (.inr (11, 0, 0)), .inl x1]) (pc' := 278) (lv' := [(0, .inr (.inr (11, 0, 0))), (1, .inl x1), (2, .inl x2), (3, .inl x3)]) (st' := [.inr (.inr (11, 0, 0))]) (S := S_4) rfl (rc_245 x1) (s_245 x1 S_4) (fun r_40 S_41 => ?_)
          refine q_Sim.call vc_248 (as := [.inr (.inr (11, 0, 0)), .inl r_40]) (pc' := 281) (lv' := [(0, .inr (.inr (11, 0, 0))), (1, .inl x1), (2, .inl x2), (3, .inl x3)]) (st' := []) (S := S_41) rfl (rc_187 r_40) (s_187 r_40 S_41) (fun r_42 S_43 => ?_)
          exact q_Sim.ret vc_248 rfl
        refine q_Sim.ite (c := x2 = 7) (fun h_49 => q_Sim.sw vc_248 (lv' := [(0, .inr (.inr (11, 0, 0))), (1, .inl x1), (2, .inl x2), (3, .inl x3)]) (st' := []) (V' := q_V S_4) rfl h_49 rfl (t := 272) rfl ?_) (fun h_49 => ?_)
        · refine q_Sim.steps vc_248 3 (pc' := 275) (lv' := [(0, .inr (.inr (11, 0, 0))), (1, .inl x1), (2, .inl x2), (3, .inl x3)]) (st' := [.inl x1, .inr (.inr (11, 0, 0)), .inr (.inr (11, 0, 0))]) (V' := q_V S_4) rfl ?_
          refine q_Sim.call vc_248 (as := [.inr (.inr (11, 0, 0)), .inl x1]) (pc' := 278) (lv' := [(0, .inr (.inr (11, 0, 0))), (1, .inl x1), (2, .inl x2), (3, .inl x3)]) (st' := [.inr (.inr (11, 0, 0))]) (S := S_4) rfl (rc_245 x1) (s_245 x1 S_4) (fun r_40 S_41 => ?_)
          refine q_Sim.call vc_248 (as := [.inr (.inr (11, 0, 0)), .inl r_40]) (pc' := 281) (lv' := [(0, .inr (.inr (11, 0, 0))), (1, .inl x1), (2, .inl x2), (3, .inl x3)]) (st' := []) (S := S_41) rfl (rc_187 r_40) (s_187 r_40 S_41) (fun r_42 S_43 => ?_)
          exact q_Sim.ret vc_248 rfl
        refine q_Sim.ite (c := x2 = 10) (fun h_50 => q_Sim.sw vc_248 (lv' := [(0, .inr (.inr (11, 0, 0))), (1, .inl x1), (2, .inl x2), (3, .inl x3)]) (st' := []) (V' := q_V S_4) rfl h_50 rfl (t := 272) rfl ?_) (fun h_50 => ?_)
        · refine q_Sim.steps vc_248 3 (pc' := 275) (lv' := [(0, .inr (.inr (11, 0, 0))), (1, .inl x1), (2, .inl x2), (3, .inl x3)]) (st' := [.inl x1, .inr (.inr (11, 0, 0)), .inr (.inr (11, 0, 0))]) (V' := q_V S_4) rfl ?_
          refine q_Sim.call vc_248 (as := [.inr (.inr (11, 0, 0)), .inl x1]) (pc' := 278) (lv' := [(0, .inr (.inr (11, 0, 0))), (1, .inl x1), (2, .inl x2), (3, .inl x3)]) (st' := [.inr (.inr (11, 0, 0))]) (S := S_4) rfl (rc_245 x1) (s_245 x1 S_4) (fun r_40 S_41 => ?_)
          refine q_Sim.call vc_248 (as := [.inr (.inr (11, 0, 0)), .inl r_40]) (pc' := 281) (lv' := [(0, .inr (.inr (11, 0, 0))), (1, .inl x1), (2, .inl x2), (3, .inl x3)]) (st' := []) (S := S_41) rfl (rc_187 r_40) (s_187 r_40 S_41) (fun r_42 S_43 => ?_)
          exact q_Sim.ret vc_248 rfl
        refine q_Sim.swd vc_248 (lv' := [(0, .inr (.inr (11, 0, 0))), (1, .inl x1), (2, .inl x2), (3, .inl x3)]) (st' := []) (V' := q_V S_4) rfl (fun k h1 h2 => ?_) (t := 272) rfl ?_
        · have h3 : k = 0 ∨ k = 1 ∨ k = 2 ∨ k = 3 ∨ k = 4 ∨ k = 5 ∨ k = 6 ∨ k = 7 ∨ k = 8 ∨ k = 9 ∨ k = 10 ∨ k = 11 ∨ k = 12 ∨ k = 13 := by omega
          rcases h3 with rfl | rfl | rfl | rfl | rfl | rfl | rfl | rfl | rfl | rfl | rfl | rfl | rfl | rfl
          · exact q_ne h_5 rfl
          · exact q_ne h_10 rfl
          · exact q_ne h_44 rfl
          · exact q_ne h_45 rfl
          · exact q_ne h_46 rfl
          · exact q_ne h_47 rfl
          · exact q_ne h_48 rfl
          · exact q_ne h_49 rfl
          · exact q_ne h_15 rfl
          · exact q_ne h_20 rfl
          · exact q_ne h_50 rfl
          · exact q_ne h_25 rfl
          · exact q_ne h_30 rfl
          · exact q_ne h_35 rfl
        · refine q_Sim.steps vc_248 3 (pc' := 275) (lv' := [(0, .inr (.inr (11, 0, 0))), (1, .inl x1), (2, .inl x2), (3, .inl x3)]) (st' := [.inl x1, .inr (.inr (11, 0, 0)), .inr (.inr (11, 0, 0))]) (V' := q_V S_4) rfl ?_
          refine q_Sim.call vc_248 (as := [.inr (.inr (11, 0, 0)), .inl x1]) (pc' := 278) (lv' := [(0, .inr (.inr (11, 0, 0))), (1, .inl x1), (2, .inl x2), (3, .inl x3)]) (st' := [.inr (.inr (11, 0, 0))]) (S := S_4) rfl (rc_245 x1) (s_245 x1 S_4) (fun r_40 S_41 => ?_)
          refine q_Sim.call vc_248 (as := [.inr (.inr (11, 0, 0)), .inl r_40]) (pc' := 281) (lv' := [(0, .inr (.inr (11, 0, 0))), (1, .inl x1), (2, .inl x2), (3, .inl x3)]) (st' := []) (S := S_41) rfl (rc_187 r_40) (s_187 r_40 S_41) (fun r_42 S_43 => ?_)
          exact q_Sim.ret vc_248 rfl
      · refine q_Sim.steps vc_248 2 (pc' := 110) (lv' := [(0, .inr (.inr (11, 0, 0))), (1, .inl x1), (2, .inl x2), (3, .inl x3)]) (st' := [.inl 16, .inr (.inr (11, 0, 0))]) (V' := q_V S_4) rfl ?_
        refine q_Sim.call vc_248 (as := [.inr (.inr (11, 0, 0)), .inl 16]) (pc' := 113) (lv' := [(0, .inr (.inr (11, 0, 0))), (1, .inl x1), (2, .inl x2), (3, .inl x3)]) (st' := []) (S := S_4) rfl (rc_237 16) (s_237 16 S_4) (fun r_51 S_52 => ?_)
        refine q_Sim.steps vc_248 4 (pc' := 119) (lv' := [(0, .inr (.inr (11, 0, 0))), (1, .inl x1), (2, .inl x2), (3, .inl x3)]) (st' := [.inl x1, .inr (.inr (46, 0, 0)), .inr (.inr (11, 0, 0))]) (V' := q_V S_52) rfl ?_
        refine q_Sim.ck vc_248 (c := v_in x1 200) (pc' := 120) (lv' := [(0, .inr (.inr (11, 0, 0))), (1, .inl x1), (2, .inl x2), (3, .inl x3)]) (st' := [.inl (S_52.1 (46, 0, 0) x1.toNatClampNeg), .inr (.inr (11, 0, 0))]) (V' := q_V S_52) rfl ?_
        refine q_Sim.letI (fun y_53 => ?_)
        refine q_Sim.call vc_248 (as := [.inr (.inr (11, 0, 0)), .inl y_53]) (pc' := 123) (lv' := [(0, .inr (.inr (11, 0, 0))), (1, .inl x1), (2, .inl x2), (3, .inl x3)]) (st' := []) (S := S_52) rfl (rc_187 y_53) (s_187 y_53 S_52) (fun r_54 S_55 => ?_)
        exact q_Sim.ret vc_248 rfl
    · refine q_Sim.steps vc_248 4 (pc' := 94) (lv' := [(0, .inr (.inr (11, 0, 0))), (1, .inl x1), (2, .inl x2), (3, .inl x3)]) (st' := [.inl x2, .inl x1, .inr (.inr (11, 0, 0)), .inr (.inr (11, 0, 0))]) (V' := q_V S_4) rfl ?_
      refine q_Sim.call vc_248 (as := [.inr (.inr (11, 0, 0)), .inl x1, .inl x2]) (pc' := 97) (lv' := [(0, .inr (.inr (11, 0, 0))), (1, .inl x1), (2, .inl x2), (3, .inl x3)]) (st' := [.inr (.inr (11, 0, 0))]) (S := S_4) rfl (rc_247 x1 x2) (s_247 x1 x2 S_4) (fun r_56 S_57 => ?_)
      refine q_Sim.call vc_248 (as := [.inr (.inr (11, 0, 0)), .inl r_56]) (pc' := 100) (lv' := [(0, .inr (.inr (11, 0, 0))), (1, .inl x1), (2, .inl x2), (3, .inl x3)]) (st' := []) (S := S_57) rfl (rc_187 r_56) (s_187 r_56 S_57) (fun r_58 S_59 => ?_)
      exact q_Sim.ret vc_248 rfl
  · refine q_Sim.steps vc_248 2 (pc' := 76) (lv' := [(0, .inr (.inr (11, 0, 0))), (1, .inl x1), (2, .inl x2), (3, .inl x3)]) (st' := [.inl x3, .inr (.inr (11, 0, 0))]) (V' := q_V S) rfl ?_
    refine q_Sim.call vc_248 (as := [.inr (.inr (11, 0, 0)), .inl x3]) (pc' := 79) (lv' := [(0, .inr (.inr (11, 0, 0))), (1, .inl x1), (2, .inl x2), (3, .inl x3)]) (st' := []) (S := S) rfl (rc_186 x3) (s_186 x3 S) (fun r_60 S_61 => ?_)
    exact q_Sim.ret vc_248 rfl
def b_248_68 (x1 : Int32) (x2 : Int32) (S : QS) : Option ((Int32) × QS) := b_248_70 x1 x2 3 S
theorem sb_248_68 (x1 : Int32) (x2 : Int32) (S : QS) : q_Sim 248 68 [(0, .inr (.inr (11, 0, 0))), (1, .inl x1), (2, .inl x2)] [] (q_V S) q_I (b_248_68 x1 x2 S) := by
  unfold b_248_68
  refine q_Sim.steps vc_248 2 (pc' := 70) (lv' := [(3, .inl 3), (0, .inr (.inr (11, 0, 0))), (1, .inl x1), (2, .inl x2)]) (st' := []) (V' := q_V S) rfl ?_
  exact q_Sim.sub2 (lv' := [(0, .inr (.inr (11, 0, 0))), (1, .inl x1), (2, .inl x2), (3, .inl 3)]) [0, 1, 2, 3] rfl (by decide) ⟨rfl, rfl, rfl, rfl, trivial⟩ (sb_248_70 x1 x2 3 S)
def b_248_58 (x1 : Int32) (x2 : Int32) (x3 : Int32) (S : QS) : Option ((Int32) × QS) := q_bd (f_192 x1 0 S) (fun r_64 S_65 => if r_64 = 2 then (b_248_70 x1 x2 x3 S_65) else (b_248_68 x1 x2 S_65))
theorem sb_248_58 (x1 : Int32) (x2 : Int32) (x3 : Int32) (S : QS) : q_Sim 248 58 [(0, .inr (.inr (11, 0, 0))), (1, .inl x1), (2, .inl x2), (3, .inl x3)] [] (q_V S) q_I (b_248_58 x1 x2 x3 S) := by
  unfold b_248_58
  refine q_Sim.steps vc_248 3 (pc' := 61) (lv' := [(0, .inr (.inr (11, 0, 0))), (1, .inl x1), (2, .inl x2), (3, .inl x3)]) (st' := [.inl 0, .inl x1, .inr (.inr (11, 0, 0))]) (V' := q_V S) rfl ?_
  refine q_Sim.call vc_248 (as := [.inr (.inr (11, 0, 0)), .inl x1, .inl 0]) (pc' := 64) (lv' := [(0, .inr (.inr (11, 0, 0))), (1, .inl x1), (2, .inl x2), (3, .inl x3)]) (st' := []) (S := S) rfl (rc_192 x1 0) (s_192 x1 0 S) (fun r_64 S_65 => ?_)
  refine q_Sim.steps vc_248 1 (pc' := 65) (lv' := [(0, .inr (.inr (11, 0, 0))), (1, .inl x1), (2, .inl x2), (3, .inl x3)]) (st' := [.inl 2, .inl r_64]) (V' := q_V S_65) rfl ?_
  refine q_Sim.br vc_248 (c := r_64 = 2) (t := 70) (f := 68) (lv' := [(0, .inr (.inr (11, 0, 0))), (1, .inl x1), (2, .inl x2), (3, .inl x3)]) (st' := []) (V' := q_V S_65) rfl ?_ ?_
  · exact q_Sim.sub2 (lv' := [(0, .inr (.inr (11, 0, 0))), (1, .inl x1), (2, .inl x2), (3, .inl x3)]) [0, 1, 2, 3] rfl (by decide) ⟨rfl, rfl, rfl, rfl, trivial⟩ (sb_248_70 x1 x2 x3 S_65)
  · exact q_Sim.sub2 (lv' := [(0, .inr (.inr (11, 0, 0))), (1, .inl x1), (2, .inl x2)]) [0, 1, 2] rfl (by decide) ⟨rfl, rfl, rfl, trivial⟩ (sb_248_68 x1 x2 S_65)
def b_248_46 (x1 : Int32) (x2 : Int32) (x3 : Int32) (S : QS) : Option ((Int32) × QS) := if x2 = 11 then (b_248_58 x1 x2 x3 S) else (if ¬ x2 = 12 then (b_248_70 x1 x2 x3 S) else (b_248_58 x1 x2 x3 S))
theorem sb_248_46 (x1 : Int32) (x2 : Int32) (x3 : Int32) (S : QS) : q_Sim 248 46 [(0, .inr (.inr (11, 0, 0))), (1, .inl x1), (2, .inl x2), (3, .inl x3)] [] (q_V S) q_I (b_248_46 x1 x2 x3 S) := by
  unfold b_248_46
  refine q_Sim.steps vc_248 2 (pc' := 49) (lv' := [(0, .inr (.inr (11, 0, 0))), (1, .inl x1), (2, .inl x2), (3, .inl x3)]) (st' := [.inl 11, .inl x2]) (V' := q_V S) rfl ?_
  refine q_Sim.br vc_248 (c := x2 = 11) (t := 58) (f := 52) (lv' := [(0, .inr (.inr (11, 0, 0))), (1, .inl x1), (2, .inl x2), (3, .inl x3)]) (st' := []) (V' := q_V S) rfl ?_ ?_
  · exact q_Sim.sub2 (lv' := [(0, .inr (.inr (11, 0, 0))), (1, .inl x1), (2, .inl x2), (3, .inl x3)]) [0, 1, 2, 3] rfl (by decide) ⟨rfl, rfl, rfl, rfl, trivial⟩ (sb_248_58 x1 x2 x3 S)
  · refine q_Sim.steps vc_248 2 (pc' := 55) (lv' := [(0, .inr (.inr (11, 0, 0))), (1, .inl x1), (2, .inl x2), (3, .inl x3)]) (st' := [.inl 12, .inl x2]) (V' := q_V S) rfl ?_
    refine q_Sim.br vc_248 (c := ¬ x2 = 12) (t := 70) (f := 58) (lv' := [(0, .inr (.inr (11, 0, 0))), (1, .inl x1), (2, .inl x2), (3, .inl x3)]) (st' := []) (V' := q_V S) rfl ?_ ?_
    · exact q_Sim.sub2 (lv' := [(0, .inr (.inr (11, 0, 0))), (1, .inl x1), (2, .inl x2), (3, .inl x3)]) [0, 1, 2, 3] rfl (by decide) ⟨rfl, rfl, rfl, rfl, trivial⟩ (sb_248_70 x1 x2 x3 S)
    · exact q_Sim.sub2 (lv' := [(0, .inr (.inr (11, 0, 0))), (1, .inl x1), (2, .inl x2), (3, .inl x3)]) [0, 1, 2, 3] rfl (by decide) ⟨rfl, rfl, rfl, rfl, trivial⟩ (sb_248_58 x1 x2 x3 S)
def b_248_38 (x1 : Int32) (x2 : Int32) (x3 : Int32) (S : QS) : Option ((Int32) × QS) := q_bd (f_204 x1 S) (fun r_62 S_63 => if r_62 = 0 then (b_248_68 x1 x2 S_63) else (b_248_46 x1 x2 x3 S_63))
theorem sb_248_38 (x1 : Int32) (x2 : Int32) (x3 : Int32) (S : QS) : q_Sim 248 38 [(0, .inr (.inr (11, 0, 0))), (1, .inl x1), (2, .inl x2), (3, .inl x3)] [] (q_V S) q_I (b_248_38 x1 x2 x3 S) := by
  unfold b_248_38
  refine q_Sim.steps vc_248 2 (pc' := 40) (lv' := [(0, .inr (.inr (11, 0, 0))), (1, .inl x1), (2, .inl x2), (3, .inl x3)]) (st' := [.inl x1, .inr (.inr (11, 0, 0))]) (V' := q_V S) rfl ?_
  refine q_Sim.call vc_248 (as := [.inr (.inr (11, 0, 0)), .inl x1]) (pc' := 43) (lv' := [(0, .inr (.inr (11, 0, 0))), (1, .inl x1), (2, .inl x2), (3, .inl x3)]) (st' := []) (S := S) rfl (rc_204 x1) (s_204 x1 S) (fun r_62 S_63 => ?_)
  refine q_Sim.br vc_248 (c := r_62 = 0) (t := 68) (f := 46) (lv' := [(0, .inr (.inr (11, 0, 0))), (1, .inl x1), (2, .inl x2), (3, .inl x3)]) (st' := []) (V' := q_V S_63) rfl ?_ ?_
  · exact q_Sim.sub2 (lv' := [(0, .inr (.inr (11, 0, 0))), (1, .inl x1), (2, .inl x2)]) [0, 1, 2] rfl (by decide) ⟨rfl, rfl, rfl, trivial⟩ (sb_248_68 x1 x2 S_63)
  · exact q_Sim.sub2 (lv' := [(0, .inr (.inr (11, 0, 0))), (1, .inl x1), (2, .inl x2), (3, .inl x3)]) [0, 1, 2, 3] rfl (by decide) ⟨rfl, rfl, rfl, rfl, trivial⟩ (sb_248_46 x1 x2 x3 S_63)
def b_248_23 (x1 : Int32) (x2 : Int32) (x3 : Int32) (S : QS) : Option ((Int32) × QS) := if ¬ x3 = 0 then (b_248_70 x1 x2 x3 S) else (if x2 = 4 then (b_248_38 x1 x2 x3 S) else (if ¬ x2 = 7 then (b_248_46 x1 x2 x3 S) else (b_248_38 x1 x2 x3 S)))
theorem sb_248_23 (x1 : Int32) (x2 : Int32) (x3 : Int32) (S : QS) : q_Sim 248 23 [(0, .inr (.inr (11, 0, 0))), (1, .inl x1), (2, .inl x2), (3, .inl x3)] [] (q_V S) q_I (b_248_23 x1 x2 x3 S) := by
  unfold b_248_23
  refine q_Sim.steps vc_248 1 (pc' := 24) (lv' := [(0, .inr (.inr (11, 0, 0))), (1, .inl x1), (2, .inl x2), (3, .inl x3)]) (st' := [.inl x3]) (V' := q_V S) rfl ?_
  refine q_Sim.br vc_248 (c := ¬ x3 = 0) (t := 70) (f := 27) (lv' := [(0, .inr (.inr (11, 0, 0))), (1, .inl x1), (2, .inl x2), (3, .inl x3)]) (st' := []) (V' := q_V S) rfl ?_ ?_
  · exact q_Sim.sub2 (lv' := [(0, .inr (.inr (11, 0, 0))), (1, .inl x1), (2, .inl x2), (3, .inl x3)]) [0, 1, 2, 3] rfl (by decide) ⟨rfl, rfl, rfl, rfl, trivial⟩ (sb_248_70 x1 x2 x3 S)
  · refine q_Sim.steps vc_248 2 (pc' := 29) (lv' := [(0, .inr (.inr (11, 0, 0))), (1, .inl x1), (2, .inl x2), (3, .inl x3)]) (st' := [.inl 4, .inl x2]) (V' := q_V S) rfl ?_
    refine q_Sim.br vc_248 (c := x2 = 4) (t := 38) (f := 32) (lv' := [(0, .inr (.inr (11, 0, 0))), (1, .inl x1), (2, .inl x2), (3, .inl x3)]) (st' := []) (V' := q_V S) rfl ?_ ?_
    · exact q_Sim.sub2 (lv' := [(0, .inr (.inr (11, 0, 0))), (1, .inl x1), (2, .inl x2), (3, .inl x3)]) [0, 1, 2, 3] rfl (by decide) ⟨rfl, rfl, rfl, rfl, trivial⟩ (sb_248_38 x1 x2 x3 S)
    · refine q_Sim.steps vc_248 2 (pc' := 35) (lv' := [(0, .inr (.inr (11, 0, 0))), (1, .inl x1), (2, .inl x2), (3, .inl x3)]) (st' := [.inl 7, .inl x2]) (V' := q_V S) rfl ?_
      refine q_Sim.br vc_248 (c := ¬ x2 = 7) (t := 46) (f := 38) (lv' := [(0, .inr (.inr (11, 0, 0))), (1, .inl x1), (2, .inl x2), (3, .inl x3)]) (st' := []) (V' := q_V S) rfl ?_ ?_
      · exact q_Sim.sub2 (lv' := [(0, .inr (.inr (11, 0, 0))), (1, .inl x1), (2, .inl x2), (3, .inl x3)]) [0, 1, 2, 3] rfl (by decide) ⟨rfl, rfl, rfl, rfl, trivial⟩ (sb_248_46 x1 x2 x3 S)
      · exact q_Sim.sub2 (lv' := [(0, .inr (.inr (11, 0, 0))), (1, .inl x1), (2, .inl x2), (3, .inl x3)]) [0, 1, 2, 3] rfl (by decide) ⟨rfl, rfl, rfl, rfl, trivial⟩ (sb_248_38 x1 x2 x3 S)
def f_248 (x1 : Int32) (x2 : Int32) (S : QS) : Option ((Int32) × QS) := q_bd (f_199 x1 S) (fun r_1 S_2 => if ¬ r_1 = 0 then (b_248_23 x1 x2 r_1 S_2) else (q_bd (f_189 x2 0 14 S_2) (fun r_66 S_67 => if ¬ r_66 = 0 then (b_248_23 x1 x2 r_1 S_67) else (b_248_23 x1 x2 6 S_67))))
theorem s_248 (x1 : Int32) (x2 : Int32) (S : QS) : q_Sim 248 0 [(0, .inr (.inr (11, 0, 0))), (1, .inl x1), (2, .inl x2)] [] (q_V S) q_I (f_248 x1 x2 S) := by
  unfold f_248
  refine q_Sim.steps vc_248 2 (pc' := 2) (lv' := [(0, .inr (.inr (11, 0, 0))), (1, .inl x1), (2, .inl x2)]) (st' := [.inl x1, .inr (.inr (11, 0, 0))]) (V' := q_V S) rfl ?_
  refine q_Sim.call vc_248 (as := [.inr (.inr (11, 0, 0)), .inl x1]) (pc' := 5) (lv' := [(0, .inr (.inr (11, 0, 0))), (1, .inl x1), (2, .inl x2)]) (st' := []) (S := S) rfl (rc_199 x1) (s_199 x1 S) (fun r_1 S_2 => ?_)
  refine q_Sim.steps vc_248 2 (pc' := 7) (lv' := [(3, .inl r_1), (0, .inr (.inr (11, 0, 0))), (1, .inl x1), (2, .inl x2)]) (st' := [.inl r_1]) (V' := q_V S_2) rfl ?_
  refine q_Sim.br vc_248 (c := ¬ r_1 = 0) (t := 23) (f := 10) (lv' := [(3, .inl r_1), (0, .inr (.inr (11, 0, 0))), (1, .inl x1), (2, .inl x2)]) (st' := []) (V' := q_V S_2) rfl ?_ ?_
  · exact q_Sim.sub2 (lv' := [(0, .inr (.inr (11, 0, 0))), (1, .inl x1), (2, .inl x2), (3, .inl r_1)]) [0, 1, 2, 3] rfl (by decide) ⟨rfl, rfl, rfl, rfl, trivial⟩ (sb_248_23 x1 x2 r_1 S_2)
  · refine q_Sim.steps vc_248 3 (pc' := 14) (lv' := [(3, .inl r_1), (0, .inr (.inr (11, 0, 0))), (1, .inl x1), (2, .inl x2)]) (st' := [.inl 14, .inl 0, .inl x2]) (V' := q_V S_2) rfl ?_
    refine q_Sim.call vc_248 (as := [.inl x2, .inl 0, .inl 14]) (pc' := 17) (lv' := [(3, .inl r_1), (0, .inr (.inr (11, 0, 0))), (1, .inl x1), (2, .inl x2)]) (st' := []) (S := S_2) rfl (rc_189 x2 0 14) (s_189 x2 0 14 S_2) (fun r_66 S_67 => ?_)
    refine q_Sim.br vc_248 (c := ¬ r_66 = 0) (t := 23) (f := 20) (lv' := [(3, .inl r_1), (0, .inr (.inr (11, 0, 0))), (1, .inl x1), (2, .inl x2)]) (st' := []) (V' := q_V S_67) rfl ?_ ?_
    · exact q_Sim.sub2 (lv' := [(0, .inr (.inr (11, 0, 0))), (1, .inl x1), (2, .inl x2), (3, .inl r_1)]) [0, 1, 2, 3] rfl (by decide) ⟨rfl, rfl, rfl, rfl, trivial⟩ (sb_248_23 x1 x2 r_1 S_67)
    · refine q_Sim.steps vc_248 2 (pc' := 23) (lv' := [(3, .inl 6), (0, .inr (.inr (11, 0, 0))), (1, .inl x1), (2, .inl x2)]) (st' := []) (V' := q_V S_67) rfl ?_
      exact q_Sim.sub2 (lv' := [(0, .inr (.inr (11, 0, 0))), (1, .inl x1), (2, .inl x2), (3, .inl 6)]) [0, 1, 2, 3] rfl (by decide) ⟨rfl, rfl, rfl, rfl, trivial⟩ (sb_248_23 x1 x2 6 S_67)
theorem vc_249 : v_code 249 = k_249 := rfl
theorem rc_249 (x1 : Int32) (x2 : Int32) : v_rcv 249 [.inr (.inr (11, 0, 0)), .inl x1, .inl x2] = true := rfl
def b_249_49 (x1 : Int32) (x2 : Int32) (x3 : Int32) (S : QS) : Option ((Int32) × QS) := if x3 ≤ 0 then (q_bd (f_188  S) (fun r_3 S_4 => q_bd (f_190 x1 3 S_4) (fun r_5 S_6 => q_bd (f_191 x1 3 x2 S_6) (fun r_7 S_8 => q_bd (f_187 r_5 S_8) (fun r_9 S_10 => some (r_9, S_10)))))) else (q_bd (f_186 x3 S) (fun r_11 S_12 => some (r_11, S_12)))
theorem sb_249_49 (x1 : Int32) (x2 : Int32) (x3 : Int32) (S : QS) : q_Sim 249 49 [(0, .inr (.inr (11, 0, 0))), (1, .inl x1), (2, .inl x2), (3, .inl x3)] [] (q_V S) q_I (b_249_49 x1 x2 x3 S) := by
  unfold b_249_49
  refine q_Sim.steps vc_249 1 (pc' := 50) (lv' := [(0, .inr (.inr (11, 0, 0))), (1, .inl x1), (2, .inl x2), (3, .inl x3)]) (st' := [.inl x3]) (V' := q_V S) rfl ?_
  refine q_Sim.br vc_249 (c := x3 ≤ 0) (t := 59) (f := 53) (lv' := [(0, .inr (.inr (11, 0, 0))), (1, .inl x1), (2, .inl x2), (3, .inl x3)]) (st' := []) (V' := q_V S) rfl ?_ ?_
  · refine q_Sim.steps vc_249 1 (pc' := 60) (lv' := [(0, .inr (.inr (11, 0, 0))), (1, .inl x1), (2, .inl x2), (3, .inl x3)]) (st' := [.inr (.inr (11, 0, 0))]) (V' := q_V S) rfl ?_
    refine q_Sim.call vc_249 (as := [.inr (.inr (11, 0, 0))]) (pc' := 63) (lv' := [(0, .inr (.inr (11, 0, 0))), (1, .inl x1), (2, .inl x2), (3, .inl x3)]) (st' := []) (S := S) rfl (rc_188 ) (s_188  S) (fun r_3 S_4 => ?_)
    refine q_Sim.steps vc_249 3 (pc' := 66) (lv' := [(0, .inr (.inr (11, 0, 0))), (1, .inl x1), (2, .inl x2), (3, .inl x3)]) (st' := [.inl 3, .inl x1, .inr (.inr (11, 0, 0))]) (V' := q_V S_4) rfl ?_
    refine q_Sim.call vc_249 (as := [.inr (.inr (11, 0, 0)), .inl x1, .inl 3]) (pc' := 69) (lv' := [(0, .inr (.inr (11, 0, 0))), (1, .inl x1), (2, .inl x2), (3, .inl x3)]) (st' := []) (S := S_4) rfl (rc_190 x1 3) (s_190 x1 3 S_4) (fun r_5 S_6 => ?_)
    refine q_Sim.steps vc_249 5 (pc' := 75) (lv' := [(4, .inl r_5), (0, .inr (.inr (11, 0, 0))), (1, .inl x1), (2, .inl x2), (3, .inl x3)]) (st' := [.inl x2, .inl 3, .inl x1, .inr (.inr (11, 0, 0))]) (V' := q_V S_6) rfl ?_
    refine q_Sim.call vc_249 (as := [.inr (.inr (11, 0, 0)), .inl x1, .inl 3, .inl x2]) (pc' := 78) (lv' := [(4, .inl r_5), (0, .inr (.inr (11, 0, 0))), (1, .inl x1), (2, .inl x2), (3, .inl x3)]) (st' := []) (S := S_6) rfl (rc_191 x1 3 x2) (s_191 x1 3 x2 S_6) (fun r_7 S_8 => ?_)
    refine q_Sim.steps vc_249 2 (pc' := 81) (lv' := [(4, .inl r_5), (0, .inr (.inr (11, 0, 0))), (1, .inl x1), (2, .inl x2), (3, .inl x3)]) (st' := [.inl r_5, .inr (.inr (11, 0, 0))]) (V' := q_V S_8) rfl ?_
    refine q_Sim.call vc_249 (as := [.inr (.inr (11, 0, 0)), .inl r_5]) (pc' := 84) (lv' := [(4, .inl r_5), (0, .inr (.inr (11, 0, 0))), (1, .inl x1), (2, .inl x2), (3, .inl x3)]) (st' := []) (S := S_8) rfl (rc_187 r_5) (s_187 r_5 S_8) (fun r_9 S_10 => ?_)
    exact q_Sim.ret vc_249 rfl
  · refine q_Sim.steps vc_249 2 (pc' := 55) (lv' := [(0, .inr (.inr (11, 0, 0))), (1, .inl x1), (2, .inl x2), (3, .inl x3)]) (st' := [.inl x3, .inr (.inr (11, 0, 0))]) (V' := q_V S) rfl ?_
    refine q_Sim.call vc_249 (as := [.inr (.inr (11, 0, 0)), .inl x3]) (pc' := 58) (lv' := [(0, .inr (.inr (11, 0, 0))), (1, .inl x1), (2, .inl x2), (3, .inl x3)]) (st' := []) (S := S) rfl (rc_186 x3) (s_186 x3 S) (fun r_11 S_12 => ?_)
    exact q_Sim.ret vc_249 rfl
def b_249_46 (x1 : Int32) (x2 : Int32) (S : QS) : Option ((Int32) × QS) := b_249_49 x1 x2 6 S
theorem sb_249_46 (x1 : Int32) (x2 : Int32) (S : QS) : q_Sim 249 46 [(0, .inr (.inr (11, 0, 0))), (1, .inl x1), (2, .inl x2)] [] (q_V S) q_I (b_249_46 x1 x2 S) := by
  unfold b_249_46
  refine q_Sim.steps vc_249 2 (pc' := 49) (lv' := [(3, .inl 6), (0, .inr (.inr (11, 0, 0))), (1, .inl x1), (2, .inl x2)]) (st' := []) (V' := q_V S) rfl ?_
  exact q_Sim.sub2 (lv' := [(0, .inr (.inr (11, 0, 0))), (1, .inl x1), (2, .inl x2), (3, .inl 6)]) [0, 1, 2, 3] rfl (by decide) ⟨rfl, rfl, rfl, rfl, trivial⟩ (sb_249_49 x1 x2 6 S)
def b_249_21 (x1 : Int32) (x2 : Int32) (x3 : Int32) (S : QS) : Option ((Int32) × QS) := if ¬ x3 = 0 then (b_249_49 x1 x2 x3 S) else (if x2 = (-1) then (b_249_49 x1 x2 x3 S) else (q_bd (f_244 x2 S) (fun r_13 S_14 => if 0 ≤ r_13 then (b_249_46 x1 x2 S_14) else (q_bd (f_245 x2 S_14) (fun r_15 S_16 => if r_15 < 0 then (b_249_49 x1 x2 x3 S_16) else (b_249_46 x1 x2 S_16))))))
theorem sb_249_21 (x1 : Int32) (x2 : Int32) (x3 : Int32) (S : QS) : q_Sim 249 21 [(0, .inr (.inr (11, 0, 0))), (1, .inl x1), (2, .inl x2), (3, .inl x3)] [] (q_V S) q_I (b_249_21 x1 x2 x3 S) := by
  unfold b_249_21
  refine q_Sim.steps vc_249 1 (pc' := 22) (lv' := [(0, .inr (.inr (11, 0, 0))), (1, .inl x1), (2, .inl x2), (3, .inl x3)]) (st' := [.inl x3]) (V' := q_V S) rfl ?_
  refine q_Sim.br vc_249 (c := ¬ x3 = 0) (t := 49) (f := 25) (lv' := [(0, .inr (.inr (11, 0, 0))), (1, .inl x1), (2, .inl x2), (3, .inl x3)]) (st' := []) (V' := q_V S) rfl ?_ ?_
  · exact q_Sim.sub2 (lv' := [(0, .inr (.inr (11, 0, 0))), (1, .inl x1), (2, .inl x2), (3, .inl x3)]) [0, 1, 2, 3] rfl (by decide) ⟨rfl, rfl, rfl, rfl, trivial⟩ (sb_249_49 x1 x2 x3 S)
  · refine q_Sim.steps vc_249 2 (pc' := 27) (lv' := [(0, .inr (.inr (11, 0, 0))), (1, .inl x1), (2, .inl x2), (3, .inl x3)]) (st' := [.inl (-1), .inl x2]) (V' := q_V S) rfl ?_
    refine q_Sim.br vc_249 (c := x2 = (-1)) (t := 49) (f := 30) (lv' := [(0, .inr (.inr (11, 0, 0))), (1, .inl x1), (2, .inl x2), (3, .inl x3)]) (st' := []) (V' := q_V S) rfl ?_ ?_
    · exact q_Sim.sub2 (lv' := [(0, .inr (.inr (11, 0, 0))), (1, .inl x1), (2, .inl x2), (3, .inl x3)]) [0, 1, 2, 3] rfl (by decide) ⟨rfl, rfl, rfl, rfl, trivial⟩ (sb_249_49 x1 x2 x3 S)
    · refine q_Sim.steps vc_249 2 (pc' := 32) (lv' := [(0, .inr (.inr (11, 0, 0))), (1, .inl x1), (2, .inl x2), (3, .inl x3)]) (st' := [.inl x2, .inr (.inr (11, 0, 0))]) (V' := q_V S) rfl ?_
      refine q_Sim.call vc_249 (as := [.inr (.inr (11, 0, 0)), .inl x2]) (pc' := 35) (lv' := [(0, .inr (.inr (11, 0, 0))), (1, .inl x1), (2, .inl x2), (3, .inl x3)]) (st' := []) (S := S) rfl (rc_244 x2) (s_244 x2 S) (fun r_13 S_14 => ?_)
      refine q_Sim.br vc_249 (c := 0 ≤ r_13) (t := 46) (f := 38) (lv' := [(0, .inr (.inr (11, 0, 0))), (1, .inl x1), (2, .inl x2), (3, .inl x3)]) (st' := []) (V' := q_V S_14) rfl ?_ ?_
      · exact q_Sim.sub2 (lv' := [(0, .inr (.inr (11, 0, 0))), (1, .inl x1), (2, .inl x2)]) [0, 1, 2] rfl (by decide) ⟨rfl, rfl, rfl, trivial⟩ (sb_249_46 x1 x2 S_14)
      · refine q_Sim.steps vc_249 2 (pc' := 40) (lv' := [(0, .inr (.inr (11, 0, 0))), (1, .inl x1), (2, .inl x2), (3, .inl x3)]) (st' := [.inl x2, .inr (.inr (11, 0, 0))]) (V' := q_V S_14) rfl ?_
        refine q_Sim.call vc_249 (as := [.inr (.inr (11, 0, 0)), .inl x2]) (pc' := 43) (lv' := [(0, .inr (.inr (11, 0, 0))), (1, .inl x1), (2, .inl x2), (3, .inl x3)]) (st' := []) (S := S_14) rfl (rc_245 x2) (s_245 x2 S_14) (fun r_15 S_16 => ?_)
        refine q_Sim.br vc_249 (c := r_15 < 0) (t := 49) (f := 46) (lv' := [(0, .inr (.inr (11, 0, 0))), (1, .inl x1), (2, .inl x2), (3, .inl x3)]) (st' := []) (V' := q_V S_16) rfl ?_ ?_
        · exact q_Sim.sub2 (lv' := [(0, .inr (.inr (11, 0, 0))), (1, .inl x1), (2, .inl x2), (3, .inl x3)]) [0, 1, 2, 3] rfl (by decide) ⟨rfl, rfl, rfl, rfl, trivial⟩ (sb_249_49 x1 x2 x3 S_16)
        · exact q_Sim.sub2 (lv' := [(0, .inr (.inr (11, 0, 0))), (1, .inl x1), (2, .inl x2)]) [0, 1, 2] rfl (by decide) ⟨rfl, rfl, rfl, trivial⟩ (sb_249_46 x1 x2 S_16)
def f_249 (x1 : Int32) (x2 : Int32) (S : QS) : Option ((Int32) × QS) := q_bd (f_198 x1 S) (fun r_1 S_2 => if ¬ r_1 = 0 then (b_249_21 x1 x2 r_1 S_2) else (if x2 = (-1) then (b_249_21 x1 x2 r_1 S_2) else (q_bd (f_199 x2 S_2) (fun r_17 S_18 => b_249_21 x1 x2 r_17 S_18))))
theorem s_249 (x1 : Int32) (x2 : Int32) (S : QS) : q_Sim 249 0 [(0, .inr (.inr (11, 0, 0))), (1, .inl x1), (2, .inl x2)] [] (q_V S) q_I (f_249 x1 x2 S) := by
  unfold f_249
  refine q_Sim.steps vc_249 2 (pc' := 2) (lv' := [(0, .inr (.inr (11, 0, 0))), (1, .inl x1), (2, .inl x2)]) (st' := [.inl x1, .inr (.inr (11, 0, 0))]) (V' := q_V S) rfl ?_
  refine q_Sim.call vc_249 (as := [.inr (.inr (11, 0, 0)), .inl x1]) (pc' := 5) (lv' := [(0, .inr (.inr (11, 0, 0))), (1, .inl x1), (2, .inl x2)]) (st' := []) (S := S) rfl (rc_198 x1) (s_198 x1 S) (fun r_1 S_2 => ?_)
  refine q_Sim.steps vc_249 2 (pc' := 7) (lv' := [(3, .inl r_1), (0, .inr (.inr (11, 0, 0))), (1, .inl x1), (2, .inl x2)]) (st' := [.inl r_1]) (V' := q_V S_2) rfl ?_
  refine q_Sim.br vc_249 (c := ¬ r_1 = 0) (t := 21) (f := 10) (lv' := [(3, .inl r_1), (0, .inr (.inr (11, 0, 0))), (1, .inl x1), (2, .inl x2)]) (st' := []) (V' := q_V S_2) rfl ?_ ?_
  · exact q_Sim.sub2 (lv' := [(0, .inr (.inr (11, 0, 0))), (1, .inl x1), (2, .inl x2), (3, .inl r_1)]) [0, 1, 2, 3] rfl (by decide) ⟨rfl, rfl, rfl, rfl, trivial⟩ (sb_249_21 x1 x2 r_1 S_2)
  · refine q_Sim.steps vc_249 2 (pc' := 12) (lv' := [(3, .inl r_1), (0, .inr (.inr (11, 0, 0))), (1, .inl x1), (2, .inl x2)]) (st' := [.inl (-1), .inl x2]) (V' := q_V S_2) rfl ?_
    refine q_Sim.br vc_249 (c := x2 = (-1)) (t := 21) (f := 15) (lv' := [(3, .inl r_1), (0, .inr (.inr (11, 0, 0))), (1, .inl x1), (2, .inl x2)]) (st' := []) (V' := q_V S_2) rfl ?_ ?_
    · exact q_Sim.sub2 (lv' := [(0, .inr (.inr (11, 0, 0))), (1, .inl x1), (2, .inl x2), (3, .inl r_1)]) [0, 1, 2, 3] rfl (by decide) ⟨rfl, rfl, rfl, rfl, trivial⟩ (sb_249_21 x1 x2 r_1 S_2)
    · refine q_Sim.steps vc_249 2 (pc' := 17) (lv' := [(3, .inl r_1), (0, .inr (.inr (11, 0, 0))), (1, .inl x1), (2, .inl x2)]) (st' := [.inl x2, .inr (.inr (11, 0, 0))]) (V' := q_V S_2) rfl ?_
      refine q_Sim.call vc_249 (as := [.inr (.inr (11, 0, 0)), .inl x2]) (pc' := 20) (lv' := [(3, .inl r_1), (0, .inr (.inr (11, 0, 0))), (1, .inl x1), (2, .inl x2)]) (st' := []) (S := S_2) rfl (rc_199 x2) (s_199 x2 S_2) (fun r_17 S_18 => ?_)
      refine q_Sim.steps vc_249 1 (pc' := 21) (lv' := [(3, .inl r_17), (0, .inr (.inr (11, 0, 0))), (1, .inl x1), (2, .inl x2)]) (st' := []) (V' := q_V S_18) rfl ?_
      exact q_Sim.sub2 (lv' := [(0, .inr (.inr (11, 0, 0))), (1, .inl x1), (2, .inl x2), (3, .inl r_17)]) [0, 1, 2, 3] rfl (by decide) ⟨rfl, rfl, rfl, rfl, trivial⟩ (sb_249_21 x1 x2 r_17 S_18)
theorem vc_250 : v_code 250 = k_250 := rfl
theorem rc_250 (x1 : Int32) (x2 : Int32) : v_rcv 250 [.inr (.inr (11, 0, 0)), .inl x1, .inl x2] = true := rfl
def b_250_40 (x1 : Int32) (x2 : Int32) (x3 : Int32) (S : QS) : Option ((Int32) × QS) := if x3 ≤ 0 then (q_bd (f_188  S) (fun r_3 S_4 => q_bd (f_192 x1 4 S_4) (fun r_5 S_6 => q_bd (f_193 x1 4 x2 S_6) (fun r_7 S_8 => q_bd (f_187 r_5 S_8) (fun r_9 S_10 => some (r_9, S_10)))))) else (q_bd (f_186 x3 S) (fun r_11 S_12 => some (r_11, S_12)))
theorem sb_250_40 (x1 : Int32) (x2 : Int32) (x3 : Int32) (S : QS) : q_Sim 250 40 [(0, .inr (.inr (11, 0, 0))), (1, .inl x1), (2, .inl x2), (3, .inl x3)] [] (q_V S) q_I (b_250_40 x1 x2 x3 S) := by
  unfold b_250_40
  refine q_Sim.steps vc_250 1 (pc' := 41) (lv' := [(0, .inr (.inr (11, 0, 0))), (1, .inl x1), (2, .inl x2), (3, .inl x3)]) (st' := [.inl x3]) (V' := q_V S) rfl ?_
  refine q_Sim.br vc_250 (c := x3 ≤ 0) (t := 50) (f := 44) (lv' := [(0, .inr (.inr (11, 0, 0))), (1, .inl x1), (2, .inl x2), (3, .inl x3)]) (st' := []) (V' := q_V S) rfl ?_ ?_
  · refine q_Sim.steps vc_250 1 (pc' := 51) (lv' := [(0, .inr (.inr (11, 0, 0))), (1, .inl x1), (2, .inl x2), (3, .inl x3)]) (st' := [.inr (.inr (11, 0, 0))]) (V' := q_V S) rfl ?_
    refine q_Sim.call vc_250 (as := [.inr (.inr (11, 0, 0))]) (pc' := 54) (lv' := [(0, .inr (.inr (11, 0, 0))), (1, .inl x1), (2, .inl x2), (3, .inl x3)]) (st' := []) (S := S) rfl (rc_188 ) (s_188  S) (fun r_3 S_4 => ?_)
    refine q_Sim.steps vc_250 3 (pc' := 57) (lv' := [(0, .inr (.inr (11, 0, 0))), (1, .inl x1), (2, .inl x2), (3, .inl x3)]) (st' := [.inl 4, .inl x1, .inr (.inr (11, 0, 0))]) (V' := q_V S_4) rfl ?_
    refine q_Sim.call vc_250 (as := [.inr (.inr (11, 0, 0)), .inl x1, .inl 4]) (pc' := 60) (lv' := [(0, .inr (.inr (11, 0, 0))), (1, .inl x1), (2, .inl x2), (3, .inl x3)]) (st' := []) (S := S_4) rfl (rc_192 x1 4) (s_192 x1 4 S_4) (fun r_5 S_6 => ?_)
    refine q_Sim.steps vc_250 5 (pc' := 66) (lv' := [(4, .inl r_5), (0, .inr (.inr (11, 0, 0))), (1, .inl x1), (2, .inl x2), (3, .inl x3)]) (st' := [.inl x2, .inl 4, .inl x1, .inr (.inr (11, 0, 0))]) (V' := q_V S_6) rfl ?_
    refine q_Sim.call vc_250 (as := [.inr (.inr (11, 0, 0)), .inl x1, .inl 4, .inl x2]) (pc' := 69) (lv' := [(4, .inl r_5), (0, .inr (.inr (11, 0, 0))), (1, .inl x1), (2, .inl x2), (3, .inl x3)]) (st' := []) (S := S_6) rfl (rc_193 x1 4 x2) (s_193 x1 4 x2 S_6) (fun r_7 S_8 => ?_)
    refine q_Sim.steps vc_250 2 (pc' := 72) (lv' := [(4, .inl r_5), (0, .inr (.inr (11, 0, 0))), (1, .inl x1), (2, .inl x2), (3, .inl x3)]) (st' := [.inl r_5, .inr (.inr (11, 0, 0))]) (V' := q_V S_8) rfl ?_
    refine q_Sim.call vc_250 (as := [.inr (.inr (11, 0, 0)), .inl r_5]) (pc' := 75) (lv' := [(4, .inl r_5), (0, .inr (.inr (11, 0, 0))), (1, .inl x1), (2, .inl x2), (3, .inl x3)]) (st' := []) (S := S_8) rfl (rc_187 r_5) (s_187 r_5 S_8) (fun r_9 S_10 => ?_)
    exact q_Sim.ret vc_250 rfl
  · refine q_Sim.steps vc_250 2 (pc' := 46) (lv' := [(0, .inr (.inr (11, 0, 0))), (1, .inl x1), (2, .inl x2), (3, .inl x3)]) (st' := [.inl x3, .inr (.inr (11, 0, 0))]) (V' := q_V S) rfl ?_
    refine q_Sim.call vc_250 (as := [.inr (.inr (11, 0, 0)), .inl x3]) (pc' := 49) (lv' := [(0, .inr (.inr (11, 0, 0))), (1, .inl x1), (2, .inl x2), (3, .inl x3)]) (st' := []) (S := S) rfl (rc_186 x3) (s_186 x3 S) (fun r_11 S_12 => ?_)
    exact q_Sim.ret vc_250 rfl
def b_250_22 (x1 : Int32) (x2 : Int32) (x3 : Int32) (S : QS) : Option ((Int32) × QS) := if ¬ x3 = 0 then (b_250_40 x1 x2 x3 S) else (q_bd (f_189 x2 0 200 S) (fun r_13 S_14 => if ¬ r_13 = 0 then (b_250_40 x1 x2 x3 S_14) else (b_250_40 x1 x2 6 S_14)))
theorem sb_250_22 (x1 : Int32) (x2 : Int32) (x3 : Int32) (S : QS) : q_Sim 250 22 [(0, .inr (.inr (11, 0, 0))), (1, .inl x1), (2, .inl x2), (3, .inl x3)] [] (q_V S) q_I (b_250_22 x1 x2 x3 S) := by
  unfold b_250_22
  refine q_Sim.steps vc_250 1 (pc' := 23) (lv' := [(0, .inr (.inr (11, 0, 0))), (1, .inl x1), (2, .inl x2), (3, .inl x3)]) (st' := [.inl x3]) (V' := q_V S) rfl ?_
  refine q_Sim.br vc_250 (c := ¬ x3 = 0) (t := 40) (f := 26) (lv' := [(0, .inr (.inr (11, 0, 0))), (1, .inl x1), (2, .inl x2), (3, .inl x3)]) (st' := []) (V' := q_V S) rfl ?_ ?_
  · exact q_Sim.sub2 (lv' := [(0, .inr (.inr (11, 0, 0))), (1, .inl x1), (2, .inl x2), (3, .inl x3)]) [0, 1, 2, 3] rfl (by decide) ⟨rfl, rfl, rfl, rfl, trivial⟩ (sb_250_40 x1 x2 x3 S)
  · refine q_Sim.steps vc_250 3 (pc' := 31) (lv' := [(0, .inr (.inr (11, 0, 0))), (1, .inl x1), (2, .inl x2), (3, .inl x3)]) (st' := [.inl 200, .inl 0, .inl x2]) (V' := q_V S) rfl ?_
    refine q_Sim.call vc_250 (as := [.inl x2, .inl 0, .inl 200]) (pc' := 34) (lv' := [(0, .inr (.inr (11, 0, 0))), (1, .inl x1), (2, .inl x2), (3, .inl x3)]) (st' := []) (S := S) rfl (rc_189 x2 0 200) (s_189 x2 0 200 S) (fun r_13 S_14 => ?_)
    refine q_Sim.br vc_250 (c := ¬ r_13 = 0) (t := 40) (f := 37) (lv' := [(0, .inr (.inr (11, 0, 0))), (1, .inl x1), (2, .inl x2), (3, .inl x3)]) (st' := []) (V' := q_V S_14) rfl ?_ ?_
    · exact q_Sim.sub2 (lv' := [(0, .inr (.inr (11, 0, 0))), (1, .inl x1), (2, .inl x2), (3, .inl x3)]) [0, 1, 2, 3] rfl (by decide) ⟨rfl, rfl, rfl, rfl, trivial⟩ (sb_250_40 x1 x2 x3 S_14)
    · refine q_Sim.steps vc_250 2 (pc' := 40) (lv' := [(3, .inl 6), (0, .inr (.inr (11, 0, 0))), (1, .inl x1), (2, .inl x2)]) (st' := []) (V' := q_V S_14) rfl ?_
      exact q_Sim.sub2 (lv' := [(0, .inr (.inr (11, 0, 0))), (1, .inl x1), (2, .inl x2), (3, .inl 6)]) [0, 1, 2, 3] rfl (by decide) ⟨rfl, rfl, rfl, rfl, trivial⟩ (sb_250_40 x1 x2 6 S_14)
def f_250 (x1 : Int32) (x2 : Int32) (S : QS) : Option ((Int32) × QS) := q_bd (f_199 x1 S) (fun r_1 S_2 => if ¬ r_1 = 0 then (b_250_22 x1 x2 r_1 S_2) else (q_bd (f_192 x1 0 S_2) (fun r_15 S_16 => if r_15 = 2 then (b_250_22 x1 x2 r_1 S_16) else (b_250_22 x1 x2 3 S_16))))
theorem s_250 (x1 : Int32) (x2 : Int32) (S : QS) : q_Sim 250 0 [(0, .inr (.inr (11, 0, 0))), (1, .inl x1), (2, .inl x2)] [] (q_V S) q_I (f_250 x1 x2 S) := by
  unfold f_250
  refine q_Sim.steps vc_250 2 (pc' := 2) (lv' := [(0, .inr (.inr (11, 0, 0))), (1, .inl x1), (2, .inl x2)]) (st' := [.inl x1, .inr (.inr (11, 0, 0))]) (V' := q_V S) rfl ?_
  refine q_Sim.call vc_250 (as := [.inr (.inr (11, 0, 0)), .inl x1]) (pc' := 5) (lv' := [(0, .inr (.inr (11, 0, 0))), (1, .inl x1), (2, .inl x2)]) (st' := []) (S := S) rfl (rc_199 x1) (s_199 x1 S) (fun r_1 S_2 => ?_)
  refine q_Sim.steps vc_250 2 (pc' := 7) (lv' := [(3, .inl r_1), (0, .inr (.inr (11, 0, 0))), (1, .inl x1), (2, .inl x2)]) (st' := [.inl r_1]) (V' := q_V S_2) rfl ?_
  refine q_Sim.br vc_250 (c := ¬ r_1 = 0) (t := 22) (f := 10) (lv' := [(3, .inl r_1), (0, .inr (.inr (11, 0, 0))), (1, .inl x1), (2, .inl x2)]) (st' := []) (V' := q_V S_2) rfl ?_ ?_
  · exact q_Sim.sub2 (lv' := [(0, .inr (.inr (11, 0, 0))), (1, .inl x1), (2, .inl x2), (3, .inl r_1)]) [0, 1, 2, 3] rfl (by decide) ⟨rfl, rfl, rfl, rfl, trivial⟩ (sb_250_22 x1 x2 r_1 S_2)
  · refine q_Sim.steps vc_250 3 (pc' := 13) (lv' := [(3, .inl r_1), (0, .inr (.inr (11, 0, 0))), (1, .inl x1), (2, .inl x2)]) (st' := [.inl 0, .inl x1, .inr (.inr (11, 0, 0))]) (V' := q_V S_2) rfl ?_
    refine q_Sim.call vc_250 (as := [.inr (.inr (11, 0, 0)), .inl x1, .inl 0]) (pc' := 16) (lv' := [(3, .inl r_1), (0, .inr (.inr (11, 0, 0))), (1, .inl x1), (2, .inl x2)]) (st' := []) (S := S_2) rfl (rc_192 x1 0) (s_192 x1 0 S_2) (fun r_15 S_16 => ?_)
    refine q_Sim.steps vc_250 1 (pc' := 17) (lv' := [(3, .inl r_1), (0, .inr (.inr (11, 0, 0))), (1, .inl x1), (2, .inl x2)]) (st' := [.inl 2, .inl r_15]) (V' := q_V S_16) rfl ?_
    refine q_Sim.br vc_250 (c := r_15 = 2) (t := 22) (f := 20) (lv' := [(3, .inl r_1), (0, .inr (.inr (11, 0, 0))), (1, .inl x1), (2, .inl x2)]) (st' := []) (V' := q_V S_16) rfl ?_ ?_
    · exact q_Sim.sub2 (lv' := [(0, .inr (.inr (11, 0, 0))), (1, .inl x1), (2, .inl x2), (3, .inl r_1)]) [0, 1, 2, 3] rfl (by decide) ⟨rfl, rfl, rfl, rfl, trivial⟩ (sb_250_22 x1 x2 r_1 S_16)
    · refine q_Sim.steps vc_250 2 (pc' := 22) (lv' := [(3, .inl 3), (0, .inr (.inr (11, 0, 0))), (1, .inl x1), (2, .inl x2)]) (st' := []) (V' := q_V S_16) rfl ?_
      exact q_Sim.sub2 (lv' := [(0, .inr (.inr (11, 0, 0))), (1, .inl x1), (2, .inl x2), (3, .inl 3)]) [0, 1, 2, 3] rfl (by decide) ⟨rfl, rfl, rfl, rfl, trivial⟩ (sb_250_22 x1 x2 3 S_16)
theorem vc_251 : v_code 251 = k_251 := rfl
theorem rc_251 (x1 : Int32) (x2 : Int32) : v_rcv 251 [.inr (.inr (11, 0, 0)), .inl x1, .inl x2] = true := rfl
def b_251_48 (x1 : Int32) (x2 : Int32) (x3 : Int32) (S : QS) : Option ((Int32) × QS) := if x3 ≤ 0 then (q_bd (f_188  S) (fun r_3 S_4 => q_bd (f_193 x1 0 2 S_4) (fun r_5 S_6 => q_bd (f_193 x1 4 0 S_6) (fun r_7 S_8 => q_bd (f_193 x1 5 x2 S_8) (fun r_9 S_10 => q_bd (f_187 1 S_10) (fun r_11 S_12 => some (r_11, S_12))))))) else (q_bd (f_186 x3 S) (fun r_13 S_14 => some (r_13, S_14)))
theorem sb_251_48 (x1 : Int32) (x2 : Int32) (x3 : Int32) (S : QS) : q_Sim 251 48 [(0, .inr (.inr (11, 0, 0))), (1, .inl x1), (2, .inl x2), (3, .inl x3)] [] (q_V S) q_I (b_251_48 x1 x2 x3 S) := by
  unfold b_251_48
  refine q_Sim.steps vc_251 1 (pc' := 49) (lv' := [(0, .inr (.inr (11, 0, 0))), (1, .inl x1), (2, .inl x2), (3, .inl x3)]) (st' := [.inl x3]) (V' := q_V S) rfl ?_
  refine q_Sim.br vc_251 (c := x3 ≤ 0) (t := 58) (f := 52) (lv' := [(0, .inr (.inr (11, 0, 0))), (1, .inl x1), (2, .inl x2), (3, .inl x3)]) (st' := []) (V' := q_V S) rfl ?_ ?_
  · refine q_Sim.steps vc_251 1 (pc' := 59) (lv' := [(0, .inr (.inr (11, 0, 0))), (1, .inl x1), (2, .inl x2), (3, .inl x3)]) (st' := [.inr (.inr (11, 0, 0))]) (V' := q_V S) rfl ?_
    refine q_Sim.call vc_251 (as := [.inr (.inr (11, 0, 0))]) (pc' := 62) (lv' := [(0, .inr (.inr (11, 0, 0))), (1, .inl x1), (2, .inl x2), (3, .inl x3)]) (st' := []) (S := S) rfl (rc_188 ) (s_188  S) (fun r_3 S_4 => ?_)
    refine q_Sim.steps vc_251 4 (pc' := 66) (lv' := [(0, .inr (.inr (11, 0, 0))), (1, .inl x1), (2, .inl x2), (3, .inl x3)]) (st' := [.inl 2, .inl 0, .inl x1, .inr (.inr (11, 0, 0))]) (V' := q_V S_4) rfl ?_
    refine q_Sim.call vc_251 (as := [.inr (.inr (11, 0, 0)), .inl x1, .inl 0, .inl 2]) (pc' := 69) (lv' := [(0, .inr (.inr (11, 0, 0))), (1, .inl x1), (2, .inl x2), (3, .inl x3)]) (st' := []) (S := S_4) rfl (rc_193 x1 0 2) (s_193 x1 0 2 S_4) (fun r_5 S_6 => ?_)
    refine q_Sim.steps vc_251 4 (pc' := 73) (lv' := [(0, .inr (.inr (11, 0, 0))), (1, .inl x1), (2, .inl x2), (3, .inl x3)]) (st' := [.inl 0, .inl 4, .inl x1, .inr (.inr (11, 0, 0))]) (V' := q_V S_6) rfl ?_
    refine q_Sim.call vc_251 (as := [.inr (.inr (11, 0, 0)), .inl x1, .inl 4, .inl 0]) (pc' := 76) (lv' := [(0, .inr (.inr (11, 0, 0))), (1, .inl x1), (2, .inl x2), (3, .inl x3)]) (st' := []) (S := S_6) rfl (rc_193 x1 4 0) (s_193 x1 4 0 S_6) (fun r_7 S_8 => ?_)
    refine q_Sim.steps vc_251 4 (pc' := 80) (lv' := [(0, .inr (.inr (11, 0, 0))), (1, .inl x1), (2, .inl x2), (3, .inl x3)]) (st' := [.inl x2, .inl 5, .inl x1, .inr (.inr (11, 0, 0))]) (V' := q_V S_8) rfl ?_
    refine q_Sim.call vc_251 (as := [.inr (.inr (11, 0, 0)), .inl x1, .inl 5, .inl x2]) (pc' := 83) (lv' := [(0, .inr (.inr (11, 0, 0))), (1, .inl x1), (2, .inl x2), (3, .inl x3)]) (st' := []) (S := S_8) rfl (rc_193 x1 5 x2) (s_193 x1 5 x2 S_8) (fun r_9 S_10 => ?_)
    refine q_Sim.steps vc_251 2 (pc' := 85) (lv' := [(0, .inr (.inr (11, 0, 0))), (1, .inl x1), (2, .inl x2), (3, .inl x3)]) (st' := [.inl 1, .inr (.inr (11, 0, 0))]) (V' := q_V S_10) rfl ?_
    refine q_Sim.call vc_251 (as := [.inr (.inr (11, 0, 0)), .inl 1]) (pc' := 88) (lv' := [(0, .inr (.inr (11, 0, 0))), (1, .inl x1), (2, .inl x2), (3, .inl x3)]) (st' := []) (S := S_10) rfl (rc_187 1) (s_187 1 S_10) (fun r_11 S_12 => ?_)
    exact q_Sim.ret vc_251 rfl
  · refine q_Sim.steps vc_251 2 (pc' := 54) (lv' := [(0, .inr (.inr (11, 0, 0))), (1, .inl x1), (2, .inl x2), (3, .inl x3)]) (st' := [.inl x3, .inr (.inr (11, 0, 0))]) (V' := q_V S) rfl ?_
    refine q_Sim.call vc_251 (as := [.inr (.inr (11, 0, 0)), .inl x3]) (pc' := 57) (lv' := [(0, .inr (.inr (11, 0, 0))), (1, .inl x1), (2, .inl x2), (3, .inl x3)]) (st' := []) (S := S) rfl (rc_186 x3) (s_186 x3 S) (fun r_13 S_14 => ?_)
    exact q_Sim.ret vc_251 rfl
def b_251_32 (x1 : Int32) (x2 : Int32) (x3 : Int32) (S : QS) : Option ((Int32) × QS) := if ¬ x3 = 0 then (b_251_48 x1 x2 x3 S) else (q_bd (f_192 x2 0 S) (fun r_15 S_16 => if r_15 = 3 then (b_251_48 x1 x2 x3 S_16) else (b_251_48 x1 x2 3 S_16)))
theorem sb_251_32 (x1 : Int32) (x2 : Int32) (x3 : Int32) (S : QS) : q_Sim 251 32 [(0, .inr (.inr (11, 0, 0))), (1, .inl x1), (2, .inl x2), (3, .inl x3)] [] (q_V S) q_I (b_251_32 x1 x2 x3 S) := by
  unfold b_251_32
  refine q_Sim.steps vc_251 1 (pc' := 33) (lv' := [(0, .inr (.inr (11, 0, 0))), (1, .inl x1), (2, .inl x2), (3, .inl x3)]) (st' := [.inl x3]) (V' := q_V S) rfl ?_
  refine q_Sim.br vc_251 (c := ¬ x3 = 0) (t := 48) (f := 36) (lv' := [(0, .inr (.inr (11, 0, 0))), (1, .inl x1), (2, .inl x2), (3, .inl x3)]) (st' := []) (V' := q_V S) rfl ?_ ?_
  · exact q_Sim.sub2 (lv' := [(0, .inr (.inr (11, 0, 0))), (1, .inl x1), (2, .inl x2), (3, .inl x3)]) [0, 1, 2, 3] rfl (by decide) ⟨rfl, rfl, rfl, rfl, trivial⟩ (sb_251_48 x1 x2 x3 S)
  · refine q_Sim.steps vc_251 3 (pc' := 39) (lv' := [(0, .inr (.inr (11, 0, 0))), (1, .inl x1), (2, .inl x2), (3, .inl x3)]) (st' := [.inl 0, .inl x2, .inr (.inr (11, 0, 0))]) (V' := q_V S) rfl ?_
    refine q_Sim.call vc_251 (as := [.inr (.inr (11, 0, 0)), .inl x2, .inl 0]) (pc' := 42) (lv' := [(0, .inr (.inr (11, 0, 0))), (1, .inl x1), (2, .inl x2), (3, .inl x3)]) (st' := []) (S := S) rfl (rc_192 x2 0) (s_192 x2 0 S) (fun r_15 S_16 => ?_)
    refine q_Sim.steps vc_251 1 (pc' := 43) (lv' := [(0, .inr (.inr (11, 0, 0))), (1, .inl x1), (2, .inl x2), (3, .inl x3)]) (st' := [.inl 3, .inl r_15]) (V' := q_V S_16) rfl ?_
    refine q_Sim.br vc_251 (c := r_15 = 3) (t := 48) (f := 46) (lv' := [(0, .inr (.inr (11, 0, 0))), (1, .inl x1), (2, .inl x2), (3, .inl x3)]) (st' := []) (V' := q_V S_16) rfl ?_ ?_
    · exact q_Sim.sub2 (lv' := [(0, .inr (.inr (11, 0, 0))), (1, .inl x1), (2, .inl x2), (3, .inl x3)]) [0, 1, 2, 3] rfl (by decide) ⟨rfl, rfl, rfl, rfl, trivial⟩ (sb_251_48 x1 x2 x3 S_16)
    · refine q_Sim.steps vc_251 2 (pc' := 48) (lv' := [(3, .inl 3), (0, .inr (.inr (11, 0, 0))), (1, .inl x1), (2, .inl x2)]) (st' := []) (V' := q_V S_16) rfl ?_
      exact q_Sim.sub2 (lv' := [(0, .inr (.inr (11, 0, 0))), (1, .inl x1), (2, .inl x2), (3, .inl 3)]) [0, 1, 2, 3] rfl (by decide) ⟨rfl, rfl, rfl, rfl, trivial⟩ (sb_251_48 x1 x2 3 S_16)
def b_251_22 (x1 : Int32) (x2 : Int32) (x3 : Int32) (S : QS) : Option ((Int32) × QS) := if ¬ x3 = 0 then (b_251_32 x1 x2 x3 S) else (q_bd (f_199 x2 S) (fun r_17 S_18 => b_251_32 x1 x2 r_17 S_18))
theorem sb_251_22 (x1 : Int32) (x2 : Int32) (x3 : Int32) (S : QS) : q_Sim 251 22 [(0, .inr (.inr (11, 0, 0))), (1, .inl x1), (2, .inl x2), (3, .inl x3)] [] (q_V S) q_I (b_251_22 x1 x2 x3 S) := by
  unfold b_251_22
  refine q_Sim.steps vc_251 1 (pc' := 23) (lv' := [(0, .inr (.inr (11, 0, 0))), (1, .inl x1), (2, .inl x2), (3, .inl x3)]) (st' := [.inl x3]) (V' := q_V S) rfl ?_
  refine q_Sim.br vc_251 (c := ¬ x3 = 0) (t := 32) (f := 26) (lv' := [(0, .inr (.inr (11, 0, 0))), (1, .inl x1), (2, .inl x2), (3, .inl x3)]) (st' := []) (V' := q_V S) rfl ?_ ?_
  · exact q_Sim.sub2 (lv' := [(0, .inr (.inr (11, 0, 0))), (1, .inl x1), (2, .inl x2), (3, .inl x3)]) [0, 1, 2, 3] rfl (by decide) ⟨rfl, rfl, rfl, rfl, trivial⟩ (sb_251_32 x1 x2 x3 S)
  · refine q_Sim.steps vc_251 2 (pc' := 28) (lv' := [(0, .inr (.inr (11, 0, 0))), (1, .inl x1), (2, .inl x2), (3, .inl x3)]) (st' := [.inl x2, .inr (.inr (11, 0, 0))]) (V' := q_V S) rfl ?_
    refine q_Sim.call vc_251 (as := [.inr (.inr (11, 0, 0)), .inl x2]) (pc' := 31) (lv' := [(0, .inr (.inr (11, 0, 0))), (1, .inl x1), (2, .inl x2), (3, .inl x3)]) (st' := []) (S := S) rfl (rc_199 x2) (s_199 x2 S) (fun r_17 S_18 => ?_)
    refine q_Sim.steps vc_251 1 (pc' := 32) (lv' := [(3, .inl r_17), (0, .inr (.inr (11, 0, 0))), (1, .inl x1), (2, .inl x2)]) (st' := []) (V' := q_V S_18) rfl ?_
    exact q_Sim.sub2 (lv' := [(0, .inr (.inr (11, 0, 0))), (1, .inl x1), (2, .inl x2), (3, .inl r_17)]) [0, 1, 2, 3] rfl (by decide) ⟨rfl, rfl, rfl, rfl, trivial⟩ (sb_251_32 x1 x2 r_17 S_18)
def f_251 (x1 : Int32) (x2 : Int32) (S : QS) : Option ((Int32) × QS) := q_bd (f_199 x1 S) (fun r_1 S_2 => if ¬ r_1 = 0 then (b_251_22 x1 x2 r_1 S_2) else (q_bd (f_192 x1 0 S_2) (fun r_19 S_20 => if r_19 = 1 then (b_251_22 x1 x2 r_1 S_20) else (b_251_22 x1 x2 3 S_20))))
theorem s_251 (x1 : Int32) (x2 : Int32) (S : QS) : q_Sim 251 0 [(0, .inr (.inr (11, 0, 0))), (1, .inl x1), (2, .inl x2)] [] (q_V S) q_I (f_251 x1 x2 S) := by
  unfold f_251
  refine q_Sim.steps vc_251 2 (pc' := 2) (lv' := [(0, .inr (.inr (11, 0, 0))), (1, .inl x1), (2, .inl x2)]) (st' := [.inl x1, .inr (.inr (11, 0, 0))]) (V' := q_V S) rfl ?_
  refine q_Sim.call vc_251 (as := [.inr (.inr (11, 0, 0)), .inl x1]) (pc' := 5) (lv' := [(0, .inr (.inr (11, 0, 0))), (1, .inl x1), (2, .inl x2)]) (st' := []) (S := S) rfl (rc_199 x1) (s_199 x1 S) (fun r_1 S_2 => ?_)
  refine q_Sim.steps vc_251 2 (pc' := 7) (lv' := [(3, .inl r_1), (0, .inr (.inr (11, 0, 0))), (1, .inl x1), (2, .inl x2)]) (st' := [.inl r_1]) (V' := q_V S_2) rfl ?_
  refine q_Sim.br vc_251 (c := ¬ r_1 = 0) (t := 22) (f := 10) (lv' := [(3, .inl r_1), (0, .inr (.inr (11, 0, 0))), (1, .inl x1), (2, .inl x2)]) (st' := []) (V' := q_V S_2) rfl ?_ ?_
  · exact q_Sim.sub2 (lv' := [(0, .inr (.inr (11, 0, 0))), (1, .inl x1), (2, .inl x2), (3, .inl r_1)]) [0, 1, 2, 3] rfl (by decide) ⟨rfl, rfl, rfl, rfl, trivial⟩ (sb_251_22 x1 x2 r_1 S_2)
  · refine q_Sim.steps vc_251 3 (pc' := 13) (lv' := [(3, .inl r_1), (0, .inr (.inr (11, 0, 0))), (1, .inl x1), (2, .inl x2)]) (st' := [.inl 0, .inl x1, .inr (.inr (11, 0, 0))]) (V' := q_V S_2) rfl ?_
    refine q_Sim.call vc_251 (as := [.inr (.inr (11, 0, 0)), .inl x1, .inl 0]) (pc' := 16) (lv' := [(3, .inl r_1), (0, .inr (.inr (11, 0, 0))), (1, .inl x1), (2, .inl x2)]) (st' := []) (S := S_2) rfl (rc_192 x1 0) (s_192 x1 0 S_2) (fun r_19 S_20 => ?_)
    refine q_Sim.steps vc_251 1 (pc' := 17) (lv' := [(3, .inl r_1), (0, .inr (.inr (11, 0, 0))), (1, .inl x1), (2, .inl x2)]) (st' := [.inl 1, .inl r_19]) (V' := q_V S_20) rfl ?_
    refine q_Sim.br vc_251 (c := r_19 = 1) (t := 22) (f := 20) (lv' := [(3, .inl r_1), (0, .inr (.inr (11, 0, 0))), (1, .inl x1), (2, .inl x2)]) (st' := []) (V' := q_V S_20) rfl ?_ ?_
    · exact q_Sim.sub2 (lv' := [(0, .inr (.inr (11, 0, 0))), (1, .inl x1), (2, .inl x2), (3, .inl r_1)]) [0, 1, 2, 3] rfl (by decide) ⟨rfl, rfl, rfl, rfl, trivial⟩ (sb_251_22 x1 x2 r_1 S_20)
    · refine q_Sim.steps vc_251 2 (pc' := 22) (lv' := [(3, .inl 3), (0, .inr (.inr (11, 0, 0))), (1, .inl x1), (2, .inl x2)]) (st' := []) (V' := q_V S_20) rfl ?_
      exact q_Sim.sub2 (lv' := [(0, .inr (.inr (11, 0, 0))), (1, .inl x1), (2, .inl x2), (3, .inl 3)]) [0, 1, 2, 3] rfl (by decide) ⟨rfl, rfl, rfl, rfl, trivial⟩ (sb_251_22 x1 x2 3 S_20)
theorem vc_252 : v_code 252 = k_252 := rfl
theorem rc_252 (x1 : Int32) : v_rcv 252 [.inr (.inr (11, 0, 0)), .inl x1] = true := rfl
def b_252_156 (back_5 : Int32 → Int32 → QS → Option ((Unit) × QS)) (x1 : Int32) (x2 : Int32) (S : QS) : Option ((Unit) × QS) := back_5 x1 (x2 + 1) S
theorem sb_252_156 (back_5 : Int32 → Int32 → QS → Option ((Unit) × QS)) (hb_5 : ∀ (x1 : Int32) (x2 : Int32) (S : QS), q_Sim 252 5 [(0, .inr (.inr (11, 0, 0))), (1, .inl x1), (2, .inl x2)] [] (q_V S) q_U (back_5 x1 x2 S)) (x1 : Int32) (x2 : Int32) (S : QS) : q_Sim 252 156 [(0, .inr (.inr (11, 0, 0))), (1, .inl x1), (2, .inl x2)] [] (q_V S) q_U (b_252_156 back_5 x1 x2 S) := by
  unfold b_252_156
  refine q_Sim.steps vc_252 2 (pc' := 5) (lv' := [(2, .inl (x2 + 1)), (0, .inr (.inr (11, 0, 0))), (1, .inl x1)]) (st' := []) (V' := q_V S) rfl ?_
  exact q_Sim.sub2 (lv' := [(0, .inr (.inr (11, 0, 0))), (1, .inl x1), (2, .inl (x2 + 1))]) [0, 1, 2] rfl (by decide) ⟨rfl, rfl, rfl, trivial⟩ (hb_5 x1 (x2 + 1) S)
def b_252_150 (back_5 : Int32 → Int32 → QS → Option ((Unit) × QS)) (back_33 : Int32 → Int32 → Int32 → Int32 → QS → Option ((Unit) × QS)) (x1 : Int32) (x2 : Int32) (x3 : Int32) (x4 : Int32) (S : QS) : Option ((Unit) × QS) := back_33 x1 x2 x3 (x4 + 1) S
theorem sb_252_150 (back_5 : Int32 → Int32 → QS → Option ((Unit) × QS)) (hb_5 : ∀ (x1 : Int32) (x2 : Int32) (S : QS), q_Sim 252 5 [(0, .inr (.inr (11, 0, 0))), (1, .inl x1), (2, .inl x2)] [] (q_V S) q_U (back_5 x1 x2 S)) (back_33 : Int32 → Int32 → Int32 → Int32 → QS → Option ((Unit) × QS)) (hb_33 : ∀ (x1 : Int32) (x2 : Int32) (x3 : Int32) (x4 : Int32) (S : QS), q_Sim 252 33 [(0, .inr (.inr (11, 0, 0))), (1, .inl x1), (2, .inl x2), (3, .inl x3), (4, .inl x4)] [] (q_V S) q_U (back_33 x1 x2 x3 x4 S)) (x1 : Int32) (x2 : Int32) (x3 : Int32) (x4 : Int32) (S : QS) : q_Sim 252 150 [(0, .inr (.inr (11, 0, 0))), (1, .inl x1), (2, .inl x2), (3, .inl x3), (4, .inl x4)] [] (q_V S) q_U (b_252_150 back_5 back_33 x1 x2 x3 x4 S) := by
  unfold b_252_150
  refine q_Sim.steps vc_252 2 (pc' := 33) (lv' := [(4, .inl (x4 + 1)), (0, .inr (.inr (11, 0, 0))), (1, .inl x1), (2, .inl x2), (3, .inl x3)]) (st' := []) (V' := q_V S) rfl ?_
  exact q_Sim.sub2 (lv' := [(0, .inr (.inr (11, 0, 0))), (1, .inl x1), (2, .inl x2), (3, .inl x3), (4, .inl (x4 + 1))]) [0, 1, 2, 3, 4] rfl (by decide) ⟨rfl, rfl, rfl, rfl, rfl, trivial⟩ (hb_33 x1 x2 x3 (x4 + 1) S)
def b_252_127 (back_5 : Int32 → Int32 → QS → Option ((Unit) × QS)) (back_33 : Int32 → Int32 → Int32 → Int32 → QS → Option ((Unit) × QS)) (x1 : Int32) (x2 : Int32) (x3 : Int32) (x4 : Int32) (x6 : Int32) (xs0 : Int32) (S : QS) : Option ((Unit) × QS) := if x6 = 0 then (b_252_150 back_5 back_33 x1 x2 x3 x4 S) else (q_bd (f_190 x1 xs0 S) (fun r_12 S_13 => q_bd (f_191 x1 xs0 (r_12 + 1) S_13) (fun r_14 S_15 => b_252_150 back_5 back_33 x1 x2 x3 x4 S_15)))
theorem sb_252_127 (back_5 : Int32 → Int32 → QS → Option ((Unit) × QS)) (hb_5 : ∀ (x1 : Int32) (x2 : Int32) (S : QS), q_Sim 252 5 [(0, .inr (.inr (11, 0, 0))), (1, .inl x1), (2, .inl x2)] [] (q_V S) q_U (back_5 x1 x2 S)) (back_33 : Int32 → Int32 → Int32 → Int32 → QS → Option ((Unit) × QS)) (hb_33 : ∀ (x1 : Int32) (x2 : Int32) (x3 : Int32) (x4 : Int32) (S : QS), q_Sim 252 33 [(0, .inr (.inr (11, 0, 0))), (1, .inl x1), (2, .inl x2), (3, .inl x3), (4, .inl x4)] [] (q_V S) q_U (back_33 x1 x2 x3 x4 S)) (x1 : Int32) (x2 : Int32) (x3 : Int32) (x4 : Int32) (x6 : Int32) (xs0 : Int32) (S : QS) : q_Sim 252 127 [(0, .inr (.inr (11, 0, 0))), (1, .inl x1), (2, .inl x2), (3, .inl x3), (4, .inl x4), (6, .inl x6)] [.inl xs0] (q_V S) q_U (b_252_127 back_5 back_33 x1 x2 x3 x4 x6 xs0 S) := by
  unfold b_252_127
  refine q_Sim.steps vc_252 2 (pc' := 131) (lv' := [(7, .inl xs0), (0, .inr (.inr (11, 0, 0))), (1, .inl x1), (2, .inl x2), (3, .inl x3), (4, .inl x4), (6, .inl x6)]) (st' := [.inl x6]) (V' := q_V S) rfl ?_
  refine q_Sim.br vc_252 (c := x6 = 0) (t := 150) (f := 134) (lv' := [(7, .inl xs0), (0, .inr (.inr (11, 0, 0))), (1, .inl x1), (2, .inl x2), (3, .inl x3), (4, .inl x4), (6, .inl x6)]) (st' := []) (V' := q_V S) rfl ?_ ?_
  · exact q_Sim.sub2 (lv' := [(0, .inr (.inr (11, 0, 0))), (1, .inl x1), (2, .inl x2), (3, .inl x3), (4, .inl x4)]) [0, 1, 2, 3, 4] rfl (by decide) ⟨rfl, rfl, rfl, rfl, rfl, trivial⟩ (sb_252_150 back_5 hb_5 back_33 hb_33 x1 x2 x3 x4 S)
  · refine q_Sim.steps vc_252 6 (pc' := 142) (lv' := [(7, .inl xs0), (0, .inr (.inr (11, 0, 0))), (1, .inl x1), (2, .inl x2), (3, .inl x3), (4, .inl x4), (6, .inl x6)]) (st' := [.inl xs0, .inl x1, .inr (.inr (11, 0, 0)), .inl xs0, .inl x1, .inr (.inr (11, 0, 0))]) (V' := q_V S) rfl ?_
    refine q_Sim.call vc_252 (as := [.inr (.inr (11, 0, 0)), .inl x1, .inl xs0]) (pc' := 145) (lv' := [(7, .inl xs0), (0, .inr (.inr (11, 0, 0))), (1, .inl x1), (2, .inl x2), (3, .inl x3), (4, .inl x4), (6, .inl x6)]) (st' := [.inl xs0, .inl x1, .inr (.inr (11, 0, 0))]) (S := S) rfl (rc_190 x1 xs0) (s_190 x1 xs0 S) (fun r_12 S_13 => ?_)
    refine q_Sim.steps vc_252 2 (pc' := 147) (lv' := [(7, .inl xs0), (0, .inr (.inr (11, 0, 0))), (1, .inl x1), (2, .inl x2), (3, .inl x3), (4, .inl x4), (6, .inl x6)]) (st' := [.inl (r_12 + 1), .inl xs0, .inl x1, .inr (.inr (11, 0, 0))]) (V' := q_V S_13) rfl ?_
    refine q_Sim.call vc_252 (as := [.inr (.inr (11, 0, 0)), .inl x1, .inl xs0, .inl (r_12 + 1)]) (pc' := 150) (lv' := [(7, .inl xs0), (0, .inr (.inr (11, 0, 0))), (1, .inl x1), (2, .inl x2), (3, .inl x3), (4, .inl x4), (6, .inl x6)]) (st' := []) (S := S_13) rfl (rc_191 x1 xs0 (r_12 + 1)) (s_191 x1 xs0 (r_12 + 1) S_13) (fun r_14 S_15 => ?_)
    exact q_Sim.sub2 (lv' := [(0, .inr (.inr (11, 0, 0))), (1, .inl x1), (2, .inl x2), (3, .inl x3), (4, .inl x4)]) [0, 1, 2, 3, 4] rfl (by decide) ⟨rfl, rfl, rfl, rfl, rfl, trivial⟩ (sb_252_150 back_5 hb_5 back_33 hb_33 x1 x2 x3 x4 S_15)
def b_252_111 (back_5 : Int32 → Int32 → QS → Option ((Unit) × QS)) (back_33 : Int32 → Int32 → Int32 → Int32 → QS → Option ((Unit) × QS)) (x1 : Int32) (x2 : Int32) (x3 : Int32) (x4 : Int32) (x5 : Int32) (x6 : Int32) (xs1 : Int32) (xs2 : Int32) (xs3 : Int32) (S : QS) : Option ((Unit) × QS) := q_bd (f_197 xs1 xs2 xs3 S) (fun r_10 S_11 => if x5 < 400 then (b_252_127 back_5 back_33 x1 x2 x3 x4 x6 0 S_11) else (b_252_127 back_5 back_33 x1 x2 x3 x4 x6 1 S_11))
theorem sb_252_111 (back_5 : Int32 → Int32 → QS → Option ((Unit) × QS)) (hb_5 : ∀ (x1 : Int32) (x2 : Int32) (S : QS), q_Sim 252 5 [(0, .inr (.inr (11, 0, 0))), (1, .inl x1), (2, .inl x2)] [] (q_V S) q_U (back_5 x1 x2 S)) (back_33 : Int32 → Int32 → Int32 → Int32 → QS → Option ((Unit) × QS)) (hb_33 : ∀ (x1 : Int32) (x2 : Int32) (x3 : Int32) (x4 : Int32) (S : QS), q_Sim 252 33 [(0, .inr (.inr (11, 0, 0))), (1, .inl x1), (2, .inl x2), (3, .inl x3), (4, .inl x4)] [] (q_V S) q_U (back_33 x1 x2 x3 x4 S)) (x1 : Int32) (x2 : Int32) (x3 : Int32) (x4 : Int32) (x5 : Int32) (x6 : Int32) (xs1 : Int32) (xs2 : Int32) (xs3 : Int32) (S : QS) : q_Sim 252 111 [(0, .inr (.inr (11, 0, 0))), (1, .inl x1), (2, .inl x2), (3, .inl x3), (4, .inl x4), (5, .inl x5), (6, .inl x6)] [.inl xs3, .inl xs2, .inl xs1, .inr (.inr (11, 0, 0))] (q_V S) q_U (b_252_111 back_5 back_33 x1 x2 x3 x4 x5 x6 xs1 xs2 xs3 S) := by
  unfold b_252_111
  refine q_Sim.call vc_252 (as := [.inr (.inr (11, 0, 0)), .inl xs1, .inl xs2, .inl xs3]) (pc' := 114) (lv' := [(0, .inr (.inr (11, 0, 0))), (1, .inl x1), (2, .inl x2), (3, .inl x3), (4, .inl x4), (5, .inl x5), (6, .inl x6)]) (st' := []) (S := S) rfl (rc_197 xs1 xs2 xs3) (s_197 xs1 xs2 xs3 S) (fun r_10 S_11 => ?_)
  refine q_Sim.steps vc_252 2 (pc' := 119) (lv' := [(0, .inr (.inr (11, 0, 0))), (1, .inl x1), (2, .inl x2), (3, .inl x3), (4, .inl x4), (5, .inl x5), (6, .inl x6)]) (st' := [.inl 400, .inl x5]) (V' := q_V S_11) rfl ?_
  refine q_Sim.br vc_252 (c := x5 < 400) (t := 126) (f := 122) (lv' := [(0, .inr (.inr (11, 0, 0))), (1, .inl x1), (2, .inl x2), (3, .inl x3), (4, .inl x4), (5, .inl x5), (6, .inl x6)]) (st' := []) (V' := q_V S_11) rfl ?_ ?_
  · refine q_Sim.steps vc_252 1 (pc' := 127) (lv' := [(0, .inr (.inr (11, 0, 0))), (1, .inl x1), (2, .inl x2), (3, .inl x3), (4, .inl x4), (5, .inl x5), (6, .inl x6)]) (st' := [.inl 0]) (V' := q_V S_11) rfl ?_
    exact q_Sim.sub2 (lv' := [(0, .inr (.inr (11, 0, 0))), (1, .inl x1), (2, .inl x2), (3, .inl x3), (4, .inl x4), (6, .inl x6)]) [0, 1, 2, 3, 4, 6] rfl (by decide) ⟨rfl, rfl, rfl, rfl, rfl, rfl, trivial⟩ (sb_252_127 back_5 hb_5 back_33 hb_33 x1 x2 x3 x4 x6 0 S_11)
  · refine q_Sim.steps vc_252 2 (pc' := 127) (lv' := [(0, .inr (.inr (11, 0, 0))), (1, .inl x1), (2, .inl x2), (3, .inl x3), (4, .inl x4), (5, .inl x5), (6, .inl x6)]) (st' := [.inl 1]) (V' := q_V S_11) rfl ?_
    exact q_Sim.sub2 (lv' := [(0, .inr (.inr (11, 0, 0))), (1, .inl x1), (2, .inl x2), (3, .inl x3), (4, .inl x4), (6, .inl x6)]) [0, 1, 2, 3, 4, 6] rfl (by decide) ⟨rfl, rfl, rfl, rfl, rfl, rfl, trivial⟩ (sb_252_127 back_5 hb_5 back_33 hb_33 x1 x2 x3 x4 x6 1 S_11)
def b_252_92 (back_5 : Int32 → Int32 → QS → Option ((Unit) × QS)) (back_33 : Int32 → Int32 → Int32 → Int32 → QS → Option ((Unit) × QS)) (x1 : Int32) (x2 : Int32) (x3 : Int32) (x4 : Int32) (x5 : Int32) (xs0 : Int32) (S : QS) : Option ((Unit) × QS) := if xs0 = 0 then (b_252_111 back_5 back_33 x1 x2 x3 x4 x5 xs0 x3 x4 (x5 + 1) S) else (b_252_111 back_5 back_33 x1 x2 x3 x4 x5 xs0 x3 x4 0 S)
theorem sb_252_92 (back_5 : Int32 → Int32 → QS → Option ((Unit) × QS)) (hb_5 : ∀ (x1 : Int32) (x2 : Int32) (S : QS), q_Sim 252 5 [(0, .inr (.inr (11, 0, 0))), (1, .inl x1), (2, .inl x2)] [] (q_V S) q_U (back_5 x1 x2 S)) (back_33 : Int32 → Int32 → Int32 → Int32 → QS → Option ((Unit) × QS)) (hb_33 : ∀ (x1 : Int32) (x2 : Int32) (x3 : Int32) (x4 : Int32) (S : QS), q_Sim 252 33 [(0, .inr (.inr (11, 0, 0))), (1, .inl x1), (2, .inl x2), (3, .inl x3), (4, .inl x4)] [] (q_V S) q_U (back_33 x1 x2 x3 x4 S)) (x1 : Int32) (x2 : Int32) (x3 : Int32) (x4 : Int32) (x5 : Int32) (xs0 : Int32) (S : QS) : q_Sim 252 92 [(0, .inr (.inr (11, 0, 0))), (1, .inl x1), (2, .inl x2), (3, .inl x3), (4, .inl x4), (5, .inl x5)] [.inl xs0] (q_V S) q_U (b_252_92 back_5 back_33 x1 x2 x3 x4 x5 xs0 S) := by
  unfold b_252_92
  refine q_Sim.steps vc_252 5 (pc' := 100) (lv' := [(6, .inl xs0), (0, .inr (.inr (11, 0, 0))), (1, .inl x1), (2, .inl x2), (3, .inl x3), (4, .inl x4), (5, .inl x5)]) (st' := [.inl xs0, .inl x4, .inl x3, .inr (.inr (11, 0, 0))]) (V' := q_V S) rfl ?_
  refine q_Sim.br vc_252 (c := xs0 = 0) (t := 107) (f := 103) (lv' := [(6, .inl xs0), (0, .inr (.inr (11, 0, 0))), (1, .inl x1), (2, .inl x2), (3, .inl x3), (4, .inl x4), (5, .inl x5)]) (st' := [.inl x4, .inl x3, .inr (.inr (11, 0, 0))]) (V' := q_V S) rfl ?_ ?_
  · refine q_Sim.steps vc_252 3 (pc' := 111) (lv' := [(6, .inl xs0), (0, .inr (.inr (11, 0, 0))), (1, .inl x1), (2, .inl x2), (3, .inl x3), (4, .inl x4), (5, .inl x5)]) (st' := [.inl (x5 + 1), .inl x4, .inl x3, .inr (.inr (11, 0, 0))]) (V' := q_V S) rfl ?_
    exact q_Sim.sub2 (lv' := [(0, .inr (.inr (11, 0, 0))), (1, .inl x1), (2, .inl x2), (3, .inl x3), (4, .inl x4), (5, .inl x5), (6, .inl xs0)]) [0, 1, 2, 3, 4, 5, 6] rfl (by decide) ⟨rfl, rfl, rfl, rfl, rfl, rfl, rfl, trivial⟩ (sb_252_111 back_5 hb_5 back_33 hb_33 x1 x2 x3 x4 x5 xs0 x3 x4 (x5 + 1) S)
  · refine q_Sim.steps vc_252 2 (pc' := 111) (lv' := [(6, .inl xs0), (0, .inr (.inr (11, 0, 0))), (1, .inl x1), (2, .inl x2), (3, .inl x3), (4, .inl x4), (5, .inl x5)]) (st' := [.inl 0, .inl x4, .inl x3, .inr (.inr (11, 0, 0))]) (V' := q_V S) rfl ?_
    exact q_Sim.sub2 (lv' := [(0, .inr (.inr (11, 0, 0))), (1, .inl x1), (2, .inl x2), (3, .inl x3), (4, .inl x4), (5, .inl x5), (6, .inl xs0)]) [0, 1, 2, 3, 4, 5, 6] rfl (by decide) ⟨rfl, rfl, rfl, rfl, rfl, rfl, rfl, trivial⟩ (sb_252_111 back_5 hb_5 back_33 hb_33 x1 x2 x3 x4 x5 xs0 x3 x4 0 S)
def b_252_87 (back_5 : Int32 → Int32 → QS → Option ((Unit) × QS)) (back_33 : Int32 → Int32 → Int32 → Int32 → QS → Option ((Unit) × QS)) (x1 : Int32) (x2 : Int32) (x3 : Int32) (x4 : Int32) (x5 : Int32) (S : QS) : Option ((Unit) × QS) := b_252_92 back_5 back_33 x1 x2 x3 x4 x5 1 S
theorem sb_252_87 (back_5 : Int32 → Int32 → QS → Option ((Unit) × QS)) (hb_5 : ∀ (x1 : Int32) (x2 : Int32) (S : QS), q_Sim 252 5 [(0, .inr (.inr (11, 0, 0))), (1, .inl x1), (2, .inl x2)] [] (q_V S) q_U (back_5 x1 x2 S)) (back_33 : Int32 → Int32 → Int32 → Int32 → QS → Option ((Unit) × QS)) (hb_33 : ∀ (x1 : Int32) (x2 : Int32) (x3 : Int32) (x4 : Int32) (S : QS), q_Sim 252 33 [(0, .inr (.inr (11, 0, 0))), (1, .inl x1), (2, .inl x2), (3, .inl x3), (4, .inl x4)] [] (q_V S) q_U (back_33 x1 x2 x3 x4 S)) (x1 : Int32) (x2 : Int32) (x3 : Int32) (x4 : Int32) (x5 : Int32) (S : QS) : q_Sim 252 87 [(0, .inr (.inr (11, 0, 0))), (1, .inl x1), (2, .inl x2), (3, .inl x3), (4, .inl x4), (5, .inl x5)] [] (q_V S) q_U (b_252_87 back_5 back_33 x1 x2 x3 x4 x5 S) := by
  unfold b_252_87
  refine q_Sim.steps vc_252 2 (pc' := 92) (lv' := [(0, .inr (.inr (11, 0, 0))), (1, .inl x1), (2, .inl x2), (3, .inl x3), (4, .inl x4), (5, .inl x5)]) (st' := [.inl 1]) (V' := q_V S) rfl ?_
  exact q_Sim.sub2 (lv' := [(0, .inr (.inr (11, 0, 0))), (1, .inl x1), (2, .inl x2), (3, .inl x3), (4, .inl x4), (5, .inl x5)]) [0, 1, 2, 3, 4, 5] rfl (by decide) ⟨rfl, rfl, rfl, rfl, rfl, rfl, trivial⟩ (sb_252_92 back_5 hb_5 back_33 hb_33 x1 x2 x3 x4 x5 1 S)
def b_252_33 (back_5 : Int32 → Int32 → QS → Option ((Unit) × QS)) : Nat → Int32 → Int32 → Int32 → Int32 → QS → Option ((Unit) × QS)
  | 0, _, _, _, _, _ => none
  | n + 1, x1, x2, x3, x4, S => if x3 < 0 then (b_252_156 back_5 x1 x2 S) else (q_bd (f_195 x3 S) (fun r_6 S_7 => if r_6 ≤ x4 then (b_252_156 back_5 x1 x2 S_7) else (q_bd (f_196 x3 x4 S_7) (fun r_8 S_9 => if 300 ≤ r_8 then (if (r_8 + 1) = 321 then (b_252_87 back_5 (b_252_33 back_5 n) x1 x2 x3 x4 r_8 S_9) else (if ¬ (r_8 + 1) = 424 then (b_252_92 back_5 (b_252_33 back_5 n) x1 x2 x3 x4 r_8 0 S_9) else (b_252_87 back_5 (b_252_33 back_5 n) x1 x2 x3 x4 r_8 S_9))) else (b_252_150 back_5 (b_252_33 back_5 n) x1 x2 x3 x4 S_9)))))
theorem sb_252_33 (back_5 : Int32 → Int32 → QS → Option ((Unit) × QS)) (hb_5 : ∀ (x1 : Int32) (x2 : Int32) (S : QS), q_Sim 252 5 [(0, .inr (.inr (11, 0, 0))), (1, .inl x1), (2, .inl x2)] [] (q_V S) q_U (back_5 x1 x2 S)) : ∀ (n : Nat) (x1 : Int32) (x2 : Int32) (x3 : Int32) (x4 : Int32) (S : QS), q_Sim 252 33 [(0, .inr (.inr (11, 0, 0))), (1, .inl x1), (2, .inl x2), (3, .inl x3), (4, .inl x4)] [] (q_V S) q_U (b_252_33 back_5 n x1 x2 x3 x4 S)
  | 0, _, _, _, _, _ => q_Sim.none
  | n + 1, x1, x2, x3, x4, S => by
    rw [b_252_33]
    refine q_Sim.steps vc_252 1 (pc' := 34) (lv' := [(0, .inr (.inr (11, 0, 0))), (1, .inl x1), (2, .inl x2), (3, .inl x3), (4, .inl x4)]) (st' := [.inl x3]) (V' := q_V S) rfl ?_
    refine q_Sim.br vc_252 (c := x3 < 0) (t := 156) (f := 37) (lv' := [(0, .inr (.inr (11, 0, 0))), (1, .inl x1), (2, .inl x2), (3, .inl x3), (4, .inl x4)]) (st' := []) (V' := q_V S) rfl ?_ ?_
    · exact q_Sim.sub2 (lv' := [(0, .inr (.inr (11, 0, 0))), (1, .inl x1), (2, .inl x2)]) [0, 1, 2] rfl (by decide) ⟨rfl, rfl, rfl, trivial⟩ (sb_252_156 back_5 hb_5 x1 x2 S)
    · refine q_Sim.steps vc_252 3 (pc' := 41) (lv' := [(0, .inr (.inr (11, 0, 0))), (1, .inl x1), (2, .inl x2), (3, .inl x3), (4, .inl x4)]) (st' := [.inl x3, .inr (.inr (11, 0, 0)), .inl x4]) (V' := q_V S) rfl ?_
      refine q_Sim.call vc_252 (as := [.inr (.inr (11, 0, 0)), .inl x3]) (pc' := 44) (lv' := [(0, .inr (.inr (11, 0, 0))), (1, .inl x1), (2, .inl x2), (3, .inl x3), (4, .inl x4)]) (st' := [.inl x4]) (S := S) rfl (rc_195 x3) (s_195 x3 S) (fun r_6 S_7 => ?_)
      refine q_Sim.br vc_252 (c := r_6 ≤ x4) (t := 156) (f := 47) (lv' := [(0, .inr (.inr (11, 0, 0))), (1, .inl x1), (2, .inl x2), (3, .inl x3), (4, .inl x4)]) (st' := []) (V' := q_V S_7) rfl ?_ ?_
      · exact q_Sim.sub2 (lv' := [(0, .inr (.inr (11, 0, 0))), (1, .inl x1), (2, .inl x2)]) [0, 1, 2] rfl (by decide) ⟨rfl, rfl, rfl, trivial⟩ (sb_252_156 back_5 hb_5 x1 x2 S_7)
      · refine q_Sim.steps vc_252 3 (pc' := 51) (lv' := [(0, .inr (.inr (11, 0, 0))), (1, .inl x1), (2, .inl x2), (3, .inl x3), (4, .inl x4)]) (st' := [.inl x4, .inl x3, .inr (.inr (11, 0, 0))]) (V' := q_V S_7) rfl ?_
        refine q_Sim.call vc_252 (as := [.inr (.inr (11, 0, 0)), .inl x3, .inl x4]) (pc' := 54) (lv' := [(0, .inr (.inr (11, 0, 0))), (1, .inl x1), (2, .inl x2), (3, .inl x3), (4, .inl x4)]) (st' := []) (S := S_7) rfl (rc_196 x3 x4) (s_196 x3 x4 S_7) (fun r_8 S_9 => ?_)
        refine q_Sim.steps vc_252 3 (pc' := 61) (lv' := [(5, .inl r_8), (0, .inr (.inr (11, 0, 0))), (1, .inl x1), (2, .inl x2), (3, .inl x3), (4, .inl x4)]) (st' := [.inl 300, .inl r_8]) (V' := q_V S_9) rfl ?_
        refine q_Sim.br vc_252 (c := 300 ≤ r_8) (t := 67) (f := 64) (lv' := [(5, .inl r_8), (0, .inr (.inr (11, 0, 0))), (1, .inl x1), (2, .inl x2), (3, .inl x3), (4, .inl x4)]) (st' := []) (V' := q_V S_9) rfl ?_ ?_
        · refine q_Sim.steps vc_252 4 (pc' := 74) (lv' := [(5, .inl r_8), (0, .inr (.inr (11, 0, 0))), (1, .inl x1), (2, .inl x2), (3, .inl x3), (4, .inl x4)]) (st' := [.inl 321, .inl (r_8 + 1)]) (V' := q_V S_9) rfl ?_
          refine q_Sim.br vc_252 (c := (r_8 + 1) = 321) (t := 87) (f := 77) (lv' := [(5, .inl r_8), (0, .inr (.inr (11, 0, 0))), (1, .inl x1), (2, .inl x2), (3, .inl x3), (4, .inl x4)]) (st' := []) (V' := q_V S_9) rfl ?_ ?_
          · exact q_Sim.sub2 (lv' := [(0, .inr (.inr (11, 0, 0))), (1, .inl x1), (2, .inl x2), (3, .inl x3), (4, .inl x4), (5, .inl r_8)]) [0, 1, 2, 3, 4, 5] rfl (by decide) ⟨rfl, rfl, rfl, rfl, rfl, rfl, trivial⟩ (sb_252_87 back_5 hb_5 (b_252_33 back_5 n) (sb_252_33 back_5 hb_5 n) x1 x2 x3 x4 r_8 S_9)
          · refine q_Sim.steps vc_252 4 (pc' := 84) (lv' := [(5, .inl r_8), (0, .inr (.inr (11, 0, 0))), (1, .inl x1), (2, .inl x2), (3, .inl x3), (4, .inl x4)]) (st' := [.inl 424, .inl (r_8 + 1)]) (V' := q_V S_9) rfl ?_
            refine q_Sim.br vc_252 (c := ¬ (r_8 + 1) = 424) (t := 91) (f := 87) (lv' := [(5, .inl r_8), (0, .inr (.inr (11, 0, 0))), (1, .inl x1), (2, .inl x2), (3, .inl x3), (4, .inl x4)]) (st' := []) (V' := q_V S_9) rfl ?_ ?_
            · refine q_Sim.steps vc_252 1 (pc' := 92) (lv' := [(5, .inl r_8), (0, .inr (.inr (11, 0, 0))), (1, .inl x1), (2, .inl x2), (3, .inl x3), (4, .inl x4)]) (st' := [.inl 0]) (V' := q_V S_9) rfl ?_
              exact q_Sim.sub2 (lv' := [(0, .inr (.inr (11, 0, 0))), (1, .inl x1), (2, .inl x2), (3, .inl x3), (4, .inl x4), (5, .inl r_8)]) [0, 1, 2, 3, 4, 5] rfl (by decide) ⟨rfl, rfl, rfl, rfl, rfl, rfl, trivial⟩ (sb_252_92 back_5 hb_5 (b_252_33 back_5 n) (sb_252_33 back_5 hb_5 n) x1 x2 x3 x4 r_8 0 S_9)
            · exact q_Sim.sub2 (lv' := [(0, .inr (.inr (11, 0, 0))), (1, .inl x1), (2, .inl x2), (3, .inl x3), (4, .inl x4), (5, .inl r_8)]) [0, 1, 2, 3, 4, 5] rfl (by decide) ⟨rfl, rfl, rfl, rfl, rfl, rfl, trivial⟩ (sb_252_87 back_5 hb_5 (b_252_33 back_5 n) (sb_252_33 back_5 hb_5 n) x1 x2 x3 x4 r_8 S_9)
        · refine q_Sim.steps vc_252 1 (pc' := 150) (lv' := [(5, .inl r_8), (0, .inr (.inr (11, 0, 0))), (1, .inl x1), (2, .inl x2), (3, .inl x3), (4, .inl x4)]) (st' := []) (V' := q_V S_9) rfl ?_
          exact q_Sim.sub2 (lv' := [(0, .inr (.inr (11, 0, 0))), (1, .inl x1), (2, .inl x2), (3, .inl x3), (4, .inl x4)]) [0, 1, 2, 3, 4] rfl (by decide) ⟨rfl, rfl, rfl, rfl, rfl, trivial⟩ (sb_252_150 back_5 hb_5 (b_252_33 back_5 n) (sb_252_33 back_5 hb_5 n) x1 x2 x3 x4 S_9)
def b_252_5 : Nat → Int32 → Int32 → QS → Option ((Unit) × QS)
  | 0, _, _, _ => none
  | n + 1, x1, x2, S => q_bd (f_190 x1 10 S) (fun r_2 S_3 => if ((96 * x1) + (12 * r_2)) ≤ x2 then (some ((), S_3)) else (q_bd (f_194 x2 S_3) (fun r_4 S_5 => b_252_33 (b_252_5 n) q_N x1 x2 r_4 0 S_5)))
theorem sb_252_5 : ∀ (n : Nat) (x1 : Int32) (x2 : Int32) (S : QS), q_Sim 252 5 [(0, .inr (.inr (11, 0, 0))), (1, .inl x1), (2, .inl x2)] [] (q_V S) q_U (b_252_5 n x1 x2 S)
  | 0, _, _, _ => q_Sim.none
  | n + 1, x1, x2, S => by
    rw [b_252_5]
    refine q_Sim.steps vc_252 8 (pc' := 16) (lv' := [(0, .inr (.inr (11, 0, 0))), (1, .inl x1), (2, .inl x2)]) (st' := [.inl 10, .inl x1, .inr (.inr (11, 0, 0)), .inl 12, .inl (96 * x1), .inl x2]) (V' := q_V S) rfl ?_
    refine q_Sim.call vc_252 (as := [.inr (.inr (11, 0, 0)), .inl x1, .inl 10]) (pc' := 19) (lv' := [(0, .inr (.inr (11, 0, 0))), (1, .inl x1), (2, .inl x2)]) (st' := [.inl 12, .inl (96 * x1), .inl x2]) (S := S) rfl (rc_190 x1 10) (s_190 x1 10 S) (fun r_2 S_3 => ?_)
    refine q_Sim.steps vc_252 2 (pc' := 21) (lv' := [(0, .inr (.inr (11, 0, 0))), (1, .inl x1), (2, .inl x2)]) (st' := [.inl ((96 * x1) + (12 * r_2)), .inl x2]) (V' := q_V S_3) rfl ?_
    refine q_Sim.br vc_252 (c := ((96 * x1) + (12 * r_2)) ≤ x2) (t := 162) (f := 24) (lv' := [(0, .inr (.inr (11, 0, 0))), (1, .inl x1), (2, .inl x2)]) (st' := []) (V' := q_V S_3) rfl ?_ ?_
    · exact q_Sim.ret vc_252 rfl
    · refine q_Sim.steps vc_252 2 (pc' := 26) (lv' := [(0, .inr (.inr (11, 0, 0))), (1, .inl x1), (2, .inl x2)]) (st' := [.inl x2, .inr (.inr (11, 0, 0))]) (V' := q_V S_3) rfl ?_
      refine q_Sim.call vc_252 (as := [.inr (.inr (11, 0, 0)), .inl x2]) (pc' := 29) (lv' := [(0, .inr (.inr (11, 0, 0))), (1, .inl x1), (2, .inl x2)]) (st' := []) (S := S_3) rfl (rc_194 x2) (s_194 x2 S_3) (fun r_4 S_5 => ?_)
      refine q_Sim.steps vc_252 3 (pc' := 33) (lv' := [(4, .inl 0), (3, .inl r_4), (0, .inr (.inr (11, 0, 0))), (1, .inl x1), (2, .inl x2)]) (st' := []) (V' := q_V S_5) rfl ?_
      exact q_Sim.sub2 (lv' := [(0, .inr (.inr (11, 0, 0))), (1, .inl x1), (2, .inl x2), (3, .inl r_4), (4, .inl 0)]) [0, 1, 2, 3, 4] rfl (by decide) ⟨rfl, rfl, rfl, rfl, rfl, trivial⟩ (sb_252_33 (b_252_5 n) (sb_252_5 n) q_N x1 x2 r_4 0 S_5)
def f_252 (x1 : Int32) (S : QS) : Option ((Unit) × QS) := q_let (96 * x1) (fun y_1 => b_252_5 q_N x1 y_1 S)
theorem s_252 (x1 : Int32) (S : QS) : q_Sim 252 0 [(0, .inr (.inr (11, 0, 0))), (1, .inl x1)] [] (q_V S) q_U (f_252 x1 S) := by
  unfold f_252
  refine q_Sim.steps vc_252 3 (pc' := 4) (lv' := [(0, .inr (.inr (11, 0, 0))), (1, .inl x1)]) (st' := [.inl (96 * x1)]) (V' := q_V S) rfl ?_
  refine q_Sim.letI (fun y_1 => ?_)
  refine q_Sim.steps vc_252 1 (pc' := 5) (lv' := [(2, .inl y_1), (0, .inr (.inr (11, 0, 0))), (1, .inl x1)]) (st' := []) (V' := q_V S) rfl ?_
  exact q_Sim.sub2 (lv' := [(0, .inr (.inr (11, 0, 0))), (1, .inl x1), (2, .inl y_1)]) [0, 1, 2] rfl (by decide) ⟨rfl, rfl, rfl, trivial⟩ (sb_252_5 q_N x1 y_1 S)
theorem vc_253 : v_code 253 = k_253 := rfl
theorem rc_253 (x0 : Int32) (x1 : Int32) : v_rcv 253 [.inl x0, .inl x1] = true := rfl
def f_253 (x0 : Int32) (x1 : Int32) (S : QS) : Option ((Int32) × QS) := if ¬ (x1 - x1 / 2 * 2) = 1 then (some (x0 + (x1 / 2), S)) else (some (x0 - ((x1 + 1) / 2), S))
theorem s_253 (x0 : Int32) (x1 : Int32) (S : QS) : q_Sim 253 0 [(0, .inl x0), (1, .inl x1)] [] (q_V S) q_I (f_253 x0 x1 S) := by
  unfold f_253
  refine q_Sim.steps vc_253 2 (pc' := 2) (lv' := [(0, .inl x0), (1, .inl x1)]) (st' := [.inl 2, .inl x1]) (V' := q_V S) rfl ?_
  refine q_Sim.okd vc_253 (c := decide (¬ (2 : Int32) = 0)) (pc' := 3) (lv' := [(0, .inl x0), (1, .inl x1)]) (st' := [.inl (x1 - x1 / 2 * 2)]) (V' := q_V S) rfl (by decide) ?_
  refine q_Sim.steps vc_253 1 (pc' := 4) (lv' := [(0, .inl x0), (1, .inl x1)]) (st' := [.inl 1, .inl (x1 - x1 / 2 * 2)]) (V' := q_V S) rfl ?_
  refine q_Sim.br vc_253 (c := ¬ (x1 - x1 / 2 * 2) = 1) (t := 17) (f := 7) (lv' := [(0, .inl x0), (1, .inl x1)]) (st' := []) (V' := q_V S) rfl ?_ ?_
  · refine q_Sim.steps vc_253 3 (pc' := 20) (lv' := [(0, .inl x0), (1, .inl x1)]) (st' := [.inl 2, .inl x1, .inl x0]) (V' := q_V S) rfl ?_
    refine q_Sim.okd vc_253 (c := decide (¬ (2 : Int32) = 0)) (pc' := 21) (lv' := [(0, .inl x0), (1, .inl x1)]) (st' := [.inl (x1 / 2), .inl x0]) (V' := q_V S) rfl (by decide) ?_
    refine q_Sim.steps vc_253 1 (pc' := 22) (lv' := [(0, .inl x0), (1, .inl x1)]) (st' := [.inl (x0 + (x1 / 2))]) (V' := q_V S) rfl ?_
    exact q_Sim.ret vc_253 rfl
  · refine q_Sim.steps vc_253 5 (pc' := 12) (lv' := [(0, .inl x0), (1, .inl x1)]) (st' := [.inl 2, .inl (x1 + 1), .inl x0]) (V' := q_V S) rfl ?_
    refine q_Sim.okd vc_253 (c := decide (¬ (2 : Int32) = 0)) (pc' := 13) (lv' := [(0, .inl x0), (1, .inl x1)]) (st' := [.inl ((x1 + 1) / 2), .inl x0]) (V' := q_V S) rfl (by decide) ?_
    refine q_Sim.steps vc_253 2 (pc' := 22) (lv' := [(0, .inl x0), (1, .inl x1)]) (st' := [.inl (x0 - ((x1 + 1) / 2))]) (V' := q_V S) rfl ?_
    exact q_Sim.ret vc_253 rfl
theorem vc_254 : v_code 254 = k_254 := rfl
theorem rc_254 (x1 : Int32) (x2 : Int32) (x3 : Int32) : v_rcv 254 [.inr (.inr (11, 0, 0)), .inl x1, .inl x2, .inl x3] = true := rfl
def b_254_128 (back_6 : Int32 → Int32 → Int32 → Int32 → QS → Option ((Unit) × QS)) (x1 : Int32) (x3 : Int32) (x4 : Int32) (x5 : Int32) (S : QS) : Option ((Unit) × QS) := back_6 x1 x3 x4 (x5 + 1) S
theorem sb_254_128 (back_6 : Int32 → Int32 → Int32 → Int32 → QS → Option ((Unit) × QS)) (hb_6 : ∀ (x1 : Int32) (x3 : Int32) (x4 : Int32) (x5 : Int32) (S : QS), q_Sim 254 6 [(0, .inr (.inr (11, 0, 0))), (1, .inl x1), (3, .inl x3), (4, .inl x4), (5, .inl x5)] [] (q_V S) q_U (back_6 x1 x3 x4 x5 S)) (x1 : Int32) (x3 : Int32) (x4 : Int32) (x5 : Int32) (S : QS) : q_Sim 254 128 [(0, .inr (.inr (11, 0, 0))), (1, .inl x1), (3, .inl x3), (4, .inl x4), (5, .inl x5)] [] (q_V S) q_U (b_254_128 back_6 x1 x3 x4 x5 S) := by
  unfold b_254_128
  refine q_Sim.steps vc_254 2 (pc' := 6) (lv' := [(5, .inl (x5 + 1)), (0, .inr (.inr (11, 0, 0))), (1, .inl x1), (3, .inl x3), (4, .inl x4)]) (st' := []) (V' := q_V S) rfl ?_
  exact q_Sim.sub2 (lv' := [(0, .inr (.inr (11, 0, 0))), (1, .inl x1), (3, .inl x3), (4, .inl x4), (5, .inl (x5 + 1))]) [0, 1, 3, 4, 5] rfl (by decide) ⟨rfl, rfl, rfl, rfl, rfl, trivial⟩ (hb_6 x1 x3 x4 (x5 + 1) S)
def b_254_122 (back_6 : Int32 → Int32 → Int32 → Int32 → QS → Option ((Unit) × QS)) (back_59 : Int32 → Int32 → Int32 → Int32 → Int32 → Int32 → QS → Option ((Unit) × QS)) (x1 : Int32) (x3 : Int32) (x4 : Int32) (x5 : Int32) (x6 : Int32) (x7 : Int32) (S : QS) : Option ((Unit) × QS) := back_59 x1 x3 x4 x5 x6 (x7 + 1) S
theorem sb_254_122 (back_6 : Int32 → Int32 → Int32 → Int32 → QS → Option ((Unit) × QS)) (hb_6 : ∀ (x1 : Int32) (x3 : Int32) (x4 : Int32) (x5 : Int32) (S : QS), q_Sim 254 6 [(0, .inr (.inr (11, 0, 0))), (1, .inl x1), (3, .inl x3), (4, .inl x4), (5, .inl x5)] [] (q_V S) q_U (back_6 x1 x3 x4 x5 S)) (back_59 : Int32 → Int32 → Int32 → Int32 → Int32 → Int32 → QS → Option ((Unit) × QS)) (hb_59 : ∀ (x1 : Int32) (x3 : Int32) (x4 : Int32) (x5 : Int32) (x6 : Int32) (x7 : Int32) (S : QS), q_Sim 254 59 [(0, .inr (.inr (11, 0, 0))), (1, .inl x1), (3, .inl x3), (4, .inl x4), (5, .inl x5), (6, .inl x6), (7, .inl x7)] [] (q_V S) q_U (back_59 x1 x3 x4 x5 x6 x7 S)) (x1 : Int32) (x3 : Int32) (x4 : Int32) (x5 : Int32) (x6 : Int32) (x7 : Int32) (S : QS) : q_Sim 254 122 [(0, .inr (.inr (11, 0, 0))), (1, .inl x1), (3, .inl x3), (4, .inl x4), (5, .inl x5), (6, .inl x6), (7, .inl x7)] [] (q_V S) q_U (b_254_122 back_6 back_59 x1 x3 x4 x5 x6 x7 S) := by
  unfold b_254_122
  refine q_Sim.steps vc_254 2 (pc' := 59) (lv' := [(7, .inl (x7 + 1)), (0, .inr (.inr (11, 0, 0))), (1, .inl x1), (3, .inl x3), (4, .inl x4), (5, .inl x5), (6, .inl x6)]) (st' := []) (V' := q_V S) rfl ?_
  exact q_Sim.sub2 (lv' := [(0, .inr (.inr (11, 0, 0))), (1, .inl x1), (3, .inl x3), (4, .inl x4), (5, .inl x5), (6, .inl x6), (7, .inl (x7 + 1))]) [0, 1, 3, 4, 5, 6, 7] rfl (by decide) ⟨rfl, rfl, rfl, rfl, rfl, rfl, rfl, trivial⟩ (hb_59 x1 x3 x4 x5 x6 (x7 + 1) S)
def b_254_59 (back_6 : Int32 → Int32 → Int32 → Int32 → QS → Option ((Unit) × QS)) : Nat → Int32 → Int32 → Int32 → Int32 → Int32 → Int32 → QS → Option ((Unit) × QS)
  | 0, _, _, _, _, _, _, _ => none
  | n + 1, x1, x3, x4, x5, x6, x7, S => if x6 < 0 then (b_254_128 back_6 x1 x3 x4 x5 S) else (if 64 ≤ x7 then (b_254_128 back_6 x1 x3 x4 x5 S) else (if x4 ≤ 0 then (b_254_128 back_6 x1 x3 x4 x5 S) else (q_bd (f_253 32 x7 S) (fun r_7 S_8 => q_bd (f_195 x6 S_8) (fun r_9 S_10 => if r_9 ≤ r_7 then (b_254_122 back_6 (b_254_59 back_6 n) x1 x3 x4 x5 x6 x7 S_10) else (q_bd (f_196 x6 r_7 S_10) (fun r_11 S_12 => if r_11 = 0 then (q_bd (f_197 x6 r_7 x3 S_12) (fun r_13 S_14 => b_254_122 back_6 (b_254_59 back_6 n) x1 x3 (x4 + (-1)) x5 x6 x7 S_14)) else (b_254_122 back_6 (b_254_59 back_6 n) x1 x3 x4 x5 x6 x7 S_12))))))))
theorem sb_254_59 (back_6 : Int32 → Int32 → Int32 → Int32 → QS → Option ((Unit) × QS)) (hb_6 : ∀ (x1 : Int32) (x3 : Int32) (x4 : Int32) (x5 : Int32) (S : QS), q_Sim 254 6 [(0, .inr (.inr (11, 0, 0))), (1, .inl x1), (3, .inl x3), (4, .inl x4), (5, .inl x5)] [] (q_V S) q_U (back_6 x1 x3 x4 x5 S)) : ∀ (n : Nat) (x1 : Int32) (x3 : Int32) (x4 : Int32) (x5 : Int32) (x6 : Int32) (x7 : Int32) (S : QS), q_Sim 254 59 [(0, .inr (.inr (11, 0, 0))), (1, .inl x1), (3, .inl x3), (4, .inl x4), (5, .inl x5), (6, .inl x6), (7, .inl x7)] [] (q_V S) q_U (b_254_59 back_6 n x1 x3 x4 x5 x6 x7 S)
  | 0, _, _, _, _, _, _, _ => q_Sim.none
  | n + 1, x1, x3, x4, x5, x6, x7, S => by
    rw [b_254_59]
    refine q_Sim.steps vc_254 1 (pc' := 61) (lv' := [(0, .inr (.inr (11, 0, 0))), (1, .inl x1), (3, .inl x3), (4, .inl x4), (5, .inl x5), (6, .inl x6), (7, .inl x7)]) (st' := [.inl x6]) (V' := q_V S) rfl ?_
    refine q_Sim.br vc_254 (c := x6 < 0) (t := 128) (f := 64) (lv' := [(0, .inr (.inr (11, 0, 0))), (1, .inl x1), (3, .inl x3), (4, .inl x4), (5, .inl x5), (6, .inl x6), (7, .inl x7)]) (st' := []) (V' := q_V S) rfl ?_ ?_
    · exact q_Sim.sub2 (lv' := [(0, .inr (.inr (11, 0, 0))), (1, .inl x1), (3, .inl x3), (4, .inl x4), (5, .inl x5)]) [0, 1, 3, 4, 5] rfl (by decide) ⟨rfl, rfl, rfl, rfl, rfl, trivial⟩ (sb_254_128 back_6 hb_6 x1 x3 x4 x5 S)
    · refine q_Sim.steps vc_254 2 (pc' := 68) (lv' := [(0, .inr (.inr (11, 0, 0))), (1, .inl x1), (3, .inl x3), (4, .inl x4), (5, .inl x5), (6, .inl x6), (7, .inl x7)]) (st' := [.inl 64, .inl x7]) (V' := q_V S) rfl ?_
      refine q_Sim.br vc_254 (c := 64 ≤ x7) (t := 128) (f := 71) (lv' := [(0, .inr (.inr (11, 0, 0))), (1, .inl x1), (3, .inl x3), (4, .inl x4), (5, .inl x5), (6, .inl x6), (7, .inl x7)]) (st' := []) (V' := q_V S) rfl ?_ ?_
      · exact q_Sim.sub2 (lv' := [(0, .inr (.inr (11, 0, 0))), (1, .inl x1), (3, .inl x3), (4, .inl x4), (5, .inl x5)]) [0, 1, 3, 4, 5] rfl (by decide) ⟨rfl, rfl, rfl, rfl, rfl, trivial⟩ (sb_254_128 back_6 hb_6 x1 x3 x4 x5 S)
      · refine q_Sim.steps vc_254 1 (pc' := 73) (lv' := [(0, .inr (.inr (11, 0, 0))), (1, .inl x1), (3, .inl x3), (4, .inl x4), (5, .inl x5), (6, .inl x6), (7, .inl x7)]) (st' := [.inl x4]) (V' := q_V S) rfl ?_
        refine q_Sim.br vc_254 (c := x4 ≤ 0) (t := 128) (f := 76) (lv' := [(0, .inr (.inr (11, 0, 0))), (1, .inl x1), (3, .inl x3), (4, .inl x4), (5, .inl x5), (6, .inl x6), (7, .inl x7)]) (st' := []) (V' := q_V S) rfl ?_ ?_
        · exact q_Sim.sub2 (lv' := [(0, .inr (.inr (11, 0, 0))), (1, .inl x1), (3, .inl x3), (4, .inl x4), (5, .inl x5)]) [0, 1, 3, 4, 5] rfl (by decide) ⟨rfl, rfl, rfl, rfl, rfl, trivial⟩ (sb_254_128 back_6 hb_6 x1 x3 x4 x5 S)
        · refine q_Sim.steps vc_254 2 (pc' := 80) (lv' := [(0, .inr (.inr (11, 0, 0))), (1, .inl x1), (3, .inl x3), (4, .inl x4), (5, .inl x5), (6, .inl x6), (7, .inl x7)]) (st' := [.inl x7, .inl 32]) (V' := q_V S) rfl ?_
          refine q_Sim.call vc_254 (as := [.inl 32, .inl x7]) (pc' := 83) (lv' := [(0, .inr (.inr (11, 0, 0))), (1, .inl x1), (3, .inl x3), (4, .inl x4), (5, .inl x5), (6, .inl x6), (7, .inl x7)]) (st' := []) (S := S) rfl (rc_253 32 x7) (s_253 32 x7 S) (fun r_7 S_8 => ?_)
          refine q_Sim.steps vc_254 4 (pc' := 90) (lv' := [(8, .inl r_7), (0, .inr (.inr (11, 0, 0))), (1, .inl x1), (3, .inl x3), (4, .inl x4), (5, .inl x5), (6, .inl x6), (7, .inl x7)]) (st' := [.inl x6, .inr (.inr (11, 0, 0)), .inl r_7]) (V' := q_V S_8) rfl ?_
          refine q_Sim.call vc_254 (as := [.inr (.inr (11, 0, 0)), .inl x6]) (pc' := 93) (lv' := [(8, .inl r_7), (0, .inr (.inr (11, 0, 0))), (1, .inl x1), (3, .inl x3), (4, .inl x4), (5, .inl x5), (6, .inl x6), (7, .inl x7)]) (st' := [.inl r_7]) (S := S_8) rfl (rc_195 x6) (s_195 x6 S_8) (fun r_9 S_10 => ?_)
          refine q_Sim.br vc_254 (c := r_9 ≤ r_7) (t := 122) (f := 96) (lv' := [(8, .inl r_7), (0, .inr (.inr (11, 0, 0))), (1, .inl x1), (3, .inl x3), (4, .inl x4), (5, .inl x5), (6, .inl x6), (7, .inl x7)]) (st' := []) (V' := q_V S_10) rfl ?_ ?_
          · exact q_Sim.sub2 (lv' := [(0, .inr (.inr (11, 0, 0))), (1, .inl x1), (3, .inl x3), (4, .inl x4), (5, .inl x5), (6, .inl x6), (7, .inl x7)]) [0, 1, 3, 4, 5, 6, 7] rfl (by decide) ⟨rfl, rfl, rfl, rfl, rfl, rfl, rfl, trivial⟩ (sb_254_122 back_6 hb_6 (b_254_59 back_6 n) (sb_254_59 back_6 hb_6 n) x1 x3 x4 x5 x6 x7 S_10)
          · refine q_Sim.steps vc_254 3 (pc' := 101) (lv' := [(8, .inl r_7), (0, .inr (.inr (11, 0, 0))), (1, .inl x1), (3, .inl x3), (4, .inl x4), (5, .inl x5), (6, .inl x6), (7, .inl x7)]) (st' := [.inl r_7, .inl x6, .inr (.inr (11, 0, 0))]) (V' := q_V S_10) rfl ?_
            refine q_Sim.call vc_254 (as := [.inr (.inr (11, 0, 0)), .inl x6, .inl r_7]) (pc' := 104) (lv' := [(8, .inl r_7), (0, .inr (.inr (11, 0, 0))), (1, .inl x1), (3, .inl x3), (4, .inl x4), (5, .inl x5), (6, .inl x6), (7, .inl x7)]) (st' := []) (S := S_10) rfl (rc_196 x6 r_7) (s_196 x6 r_7 S_10) (fun r_11 S_12 => ?_)
            refine q_Sim.br vc_254 (c := r_11 = 0) (t := 110) (f := 107) (lv' := [(8, .inl r_7), (0, .inr (.inr (11, 0, 0))), (1, .inl x1), (3, .inl x3), (4, .inl x4), (5, .inl x5), (6, .inl x6), (7, .inl x7)]) (st' := []) (V' := q_V S_12) rfl ?_ ?_
            · refine q_Sim.steps vc_254 4 (pc' := 116) (lv' := [(8, .inl r_7), (0, .inr (.inr (11, 0, 0))), (1, .inl x1), (3, .inl x3), (4, .inl x4), (5, .inl x5), (6, .inl x6), (7, .inl x7)]) (st' := [.inl x3, .inl r_7, .inl x6, .inr (.inr (11, 0, 0))]) (V' := q_V S_12) rfl ?_
              refine q_Sim.call vc_254 (as := [.inr (.inr (11, 0, 0)), .inl x6, .inl r_7, .inl x3]) (pc' := 119) (lv' := [(8, .inl r_7), (0, .inr (.inr (11, 0, 0))), (1, .inl x1), (3, .inl x3), (4, .inl x4), (5, .inl x5), (6, .inl x6), (7, .inl x7)]) (st' := []) (S := S_12) rfl (rc_197 x6 r_7 x3) (s_197 x6 r_7 x3 S_12) (fun r_13 S_14 => ?_)
              refine q_Sim.steps vc_254 1 (pc' := 122) (lv' := [(4, .inl (x4 + (-1))), (8, .inl r_7), (0, .inr (.inr (11, 0, 0))), (1, .inl x1), (3, .inl x3), (5, .inl x5), (6, .inl x6), (7, .inl x7)]) (st' := []) (V' := q_V S_14) rfl ?_
              exact q_Sim.sub2 (lv' := [(0, .inr (.inr (11, 0, 0))), (1, .inl x1), (3, .inl x3), (4, .inl (x4 + (-1))), (5, .inl x5), (6, .inl x6), (7, .inl x7)]) [0, 1, 3, 4, 5, 6, 7] rfl (by decide) ⟨rfl, rfl, rfl, rfl, rfl, rfl, rfl, trivial⟩ (sb_254_122 back_6 hb_6 (b_254_59 back_6 n) (sb_254_59 back_6 hb_6 n) x1 x3 (x4 + (-1)) x5 x6 x7 S_14)
            · refine q_Sim.steps vc_254 1 (pc' := 122) (lv' := [(8, .inl r_7), (0, .inr (.inr (11, 0, 0))), (1, .inl x1), (3, .inl x3), (4, .inl x4), (5, .inl x5), (6, .inl x6), (7, .inl x7)]) (st' := []) (V' := q_V S_12) rfl ?_
              exact q_Sim.sub2 (lv' := [(0, .inr (.inr (11, 0, 0))), (1, .inl x1), (3, .inl x3), (4, .inl x4), (5, .inl x5), (6, .inl x6), (7, .inl x7)]) [0, 1, 3, 4, 5, 6, 7] rfl (by decide) ⟨rfl, rfl, rfl, rfl, rfl, rfl, rfl, trivial⟩ (sb_254_122 back_6 hb_6 (b_254_59 back_6 n) (sb_254_59 back_6 hb_6 n) x1 x3 x4 x5 x6 x7 S_12)
def b_254_6 : Nat → Int32 → Int32 → Int32 → Int32 → QS → Option ((Unit) × QS)
  | 0, _, _, _, _, _ => none
  | n + 1, x1, x3, x4, x5, S => q_bd (f_190 x1 10 S) (fun r_1 S_2 => if (12 * r_1) ≤ x5 then (some ((), S_2)) else (if x4 ≤ 0 then (some ((), S_2)) else (q_bd (f_253 6 (x5 - x5 / 12 * 12) S_2) (fun r_3 S_4 => q_bd (f_194 (((96 * x1) + ((x5 / 12) * 12)) + r_3) S_4) (fun r_5 S_6 => b_254_59 (b_254_6 n) q_N x1 x3 x4 x5 r_5 0 S_6)))))
theorem sb_254_6 : ∀ (n : Nat) (x1 : Int32) (x3 : Int32) (x4 : Int32) (x5 : Int32) (S : QS), q_Sim 254 6 [(0, .inr (.inr (11, 0, 0))), (1, .inl x1), (3, .inl x3), (4, .inl x4), (5, .inl x5)] [] (q_V S) q_U (b_254_6 n x1 x3 x4 x5 S)
  | 0, _, _, _, _, _ => q_Sim.none
  | n + 1, x1, x3, x4, x5, S => by
    rw [b_254_6]
    refine q_Sim.steps vc_254 5 (pc' := 14) (lv' := [(0, .inr (.inr (11, 0, 0))), (1, .inl x1), (3, .inl x3), (4, .inl x4), (5, .inl x5)]) (st' := [.inl 10, .inl x1, .inr (.inr (11, 0, 0)), .inl 12, .inl x5]) (V' := q_V S) rfl ?_
    refine q_Sim.call vc_254 (as := [.inr (.inr (11, 0, 0)), .inl x1, .inl 10]) (pc' := 17) (lv' := [(0, .inr (.inr (11, 0, 0))), (1, .inl x1), (3, .inl x3), (4, .inl x4), (5, .inl x5)]) (st' := [.inl 12, .inl x5]) (S := S) rfl (rc_190 x1 10) (s_190 x1 10 S) (fun r_1 S_2 => ?_)
    refine q_Sim.steps vc_254 1 (pc' := 18) (lv' := [(0, .inr (.inr (11, 0, 0))), (1, .inl x1), (3, .inl x3), (4, .inl x4), (5, .inl x5)]) (st' := [.inl (12 * r_1), .inl x5]) (V' := q_V S_2) rfl ?_
    refine q_Sim.br vc_254 (c := (12 * r_1) ≤ x5) (t := 134) (f := 21) (lv' := [(0, .inr (.inr (11, 0, 0))), (1, .inl x1), (3, .inl x3), (4, .inl x4), (5, .inl x5)]) (st' := []) (V' := q_V S_2) rfl ?_ ?_
    · exact q_Sim.ret vc_254 rfl
    · refine q_Sim.steps vc_254 1 (pc' := 23) (lv' := [(0, .inr (.inr (11, 0, 0))), (1, .inl x1), (3, .inl x3), (4, .inl x4), (5, .inl x5)]) (st' := [.inl x4]) (V' := q_V S_2) rfl ?_
      refine q_Sim.br vc_254 (c := x4 ≤ 0) (t := 134) (f := 26) (lv' := [(0, .inr (.inr (11, 0, 0))), (1, .inl x1), (3, .inl x3), (4, .inl x4), (5, .inl x5)]) (st' := []) (V' := q_V S_2) rfl ?_ ?_
      · exact q_Sim.ret vc_254 rfl
      · refine q_Sim.steps vc_254 6 (pc' := 35) (lv' := [(0, .inr (.inr (11, 0, 0))), (1, .inl x1), (3, .inl x3), (4, .inl x4), (5, .inl x5)]) (st' := [.inl 12, .inl x5, .inl (96 * x1), .inr (.inr (11, 0, 0))]) (V' := q_V S_2) rfl ?_
        refine q_Sim.okd vc_254 (c := decide (¬ (12 : Int32) = 0)) (pc' := 36) (lv' := [(0, .inr (.inr (11, 0, 0))), (1, .inl x1), (3, .inl x3), (4, .inl x4), (5, .inl x5)]) (st' := [.inl (x5 / 12), .inl (96 * x1), .inr (.inr (11, 0, 0))]) (V' := q_V S_2) rfl (by decide) ?_
        refine q_Sim.steps vc_254 6 (pc' := 46) (lv' := [(0, .inr (.inr (11, 0, 0))), (1, .inl x1), (3, .inl x3), (4, .inl x4), (5, .inl x5)]) (st' := [.inl 12, .inl x5, .inl 6, .inl ((96 * x1) + ((x5 / 12) * 12)), .inr (.inr (11, 0, 0))]) (V' := q_V S_2) rfl ?_
        refine q_Sim.okd vc_254 (c := decide (¬ (12 : Int32) = 0)) (pc' := 47) (lv' := [(0, .inr (.inr (11, 0, 0))), (1, .inl x1), (3, .inl x3), (4, .inl x4), (5, .inl x5)]) (st' := [.inl (x5 - x5 / 12 * 12), .inl 6, .inl ((96 * x1) + ((x5 / 12) * 12)), .inr (.inr (11, 0, 0))]) (V' := q_V S_2) rfl (by decide) ?_
        refine q_Sim.call vc_254 (as := [.inl 6, .inl (x5 - x5 / 12 * 12)]) (pc' := 50) (lv' := [(0, .inr (.inr (11, 0, 0))), (1, .inl x1), (3, .inl x3), (4, .inl x4), (5, .inl x5)]) (st' := [.inl ((96 * x1) + ((x5 / 12) * 12)), .inr (.inr (11, 0, 0))]) (S := S_2) rfl (rc_253 6 (x5 - x5 / 12 * 12)) (s_253 6 (x5 - x5 / 12 * 12) S_2) (fun r_3 S_4 => ?_)
        refine q_Sim.steps vc_254 1 (pc' := 51) (lv' := [(0, .inr (.inr (11, 0, 0))), (1, .inl x1), (3, .inl x3), (4, .inl x4), (5, .inl x5)]) (st' := [.inl (((96 * x1) + ((x5 / 12) * 12)) + r_3), .inr (.inr (11, 0, 0))]) (V' := q_V S_4) rfl ?_
        refine q_Sim.call vc_254 (as := [.inr (.inr (11, 0, 0)), .inl (((96 * x1) + ((x5 / 12) * 12)) + r_3)]) (pc' := 54) (lv' := [(0, .inr (.inr (11, 0, 0))), (1, .inl x1), (3, .inl x3), (4, .inl x4), (5, .inl x5)]) (st' := []) (S := S_4) rfl (rc_194 (((96 * x1) + ((x5 / 12) * 12)) + r_3)) (s_194 (((96 * x1) + ((x5 / 12) * 12)) + r_3) S_4) (fun r_5 S_6 => ?_)
        refine q_Sim.steps vc_254 3 (pc' := 59) (lv' := [(7, .inl 0), (6, .inl r_5), (0, .inr (.inr (11, 0, 0))), (1, .inl x1), (3, .inl x3), (4, .inl x4), (5, .inl x5)]) (st' := []) (V' := q_V S_6) rfl ?_
        exact q_Sim.sub2 (lv' := [(0, .inr (.inr (11, 0, 0))), (1, .inl x1), (3, .inl x3), (4, .inl x4), (5, .inl x5), (6, .inl r_5), (7, .inl 0)]) [0, 1, 3, 4, 5, 6, 7] rfl (by decide) ⟨rfl, rfl, rfl, rfl, rfl, rfl, rfl, trivial⟩ (sb_254_59 (b_254_6 n) (sb_254_6 n) q_N x1 x3 x4 x5 r_5 0 S_6)
def f_254 (x1 : Int32) (x2 : Int32) (x3 : Int32) (S : QS) : Option ((Unit) × QS) := b_254_6 q_N x1 x3 x2 0 S
theorem s_254 (x1 : Int32) (x2 : Int32) (x3 : Int32) (S : QS) : q_Sim 254 0 [(0, .inr (.inr (11, 0, 0))), (1, .inl x1), (2, .inl x2), (3, .inl x3)] [] (q_V S) q_U (f_254 x1 x2 x3 S) := by
  unfold f_254
  refine q_Sim.steps vc_254 4 (pc' := 6) (lv' := [(5, .inl 0), (4, .inl x2), (0, .inr (.inr (11, 0, 0))), (1, .inl x1), (2, .inl x2), (3, .inl x3)]) (st' := []) (V' := q_V S) rfl ?_
  exact q_Sim.sub2 (lv' := [(0, .inr (.inr (11, 0, 0))), (1, .inl x1), (3, .inl x3), (4, .inl x2), (5, .inl 0)]) [0, 1, 3, 4, 5] rfl (by decide) ⟨rfl, rfl, rfl, rfl, rfl, trivial⟩ (sb_254_6 q_N x1 x3 x2 0 S)
theorem vc_255 : v_code 255 = k_255 := rfl
theorem rc_255 (x1 : Int32) : v_rcv 255 [.inr (.inr (11, 0, 0)), .inl x1] = true := rfl
def b_255_93 (xs1 : Int32) (xs2 : Int32) (xs3 : Int32) (S : QS) : Option ((Unit) × QS) := q_bd (f_254 xs1 xs2 xs3 S) (fun r_5 S_6 => some ((), S_6))
theorem sb_255_93 (xs1 : Int32) (xs2 : Int32) (xs3 : Int32) (S : QS) : q_Sim 255 93 [] [.inl xs3, .inl xs2, .inl xs1, .inr (.inr (11, 0, 0))] (q_V S) q_U (b_255_93 xs1 xs2 xs3 S) := by
  unfold b_255_93
  refine q_Sim.call vc_255 (as := [.inr (.inr (11, 0, 0)), .inl xs1, .inl xs2, .inl xs3]) (pc' := 96) (lv' := []) (st' := []) (S := S) rfl (rc_254 xs1 xs2 xs3) (s_254 xs1 xs2 xs3 S) (fun r_5 S_6 => ?_)
  exact q_Sim.ret vc_255 rfl
def b_255_79 (x4 : Int32) (xs1 : Int32) (xs2 : Int32) (S : QS) : Option ((Unit) × QS) := if 0 ≤ x4 then (b_255_93 xs1 xs2 300 S) else (b_255_93 xs1 xs2 400 S)
theorem sb_255_79 (x4 : Int32) (xs1 : Int32) (xs2 : Int32) (S : QS) : q_Sim 255 79 [(4, .inl x4)] [.inl xs2, .inl xs1, .inr (.inr (11, 0, 0))] (q_V S) q_U (b_255_79 x4 xs1 xs2 S) := by
  unfold b_255_79
  refine q_Sim.steps vc_255 1 (pc' := 81) (lv' := [(4, .inl x4)]) (st' := [.inl x4, .inl xs2, .inl xs1, .inr (.inr (11, 0, 0))]) (V' := q_V S) rfl ?_
  refine q_Sim.br vc_255 (c := 0 ≤ x4) (t := 90) (f := 84) (lv' := [(4, .inl x4)]) (st' := [.inl xs2, .inl xs1, .inr (.inr (11, 0, 0))]) (V' := q_V S) rfl ?_ ?_
  · refine q_Sim.steps vc_255 1 (pc' := 93) (lv' := [(4, .inl x4)]) (st' := [.inl 300, .inl xs2, .inl xs1, .inr (.inr (11, 0, 0))]) (V' := q_V S) rfl ?_
    exact q_Sim.sub2 (lv' := []) [] rfl (by decide) trivial (sb_255_93 xs1 xs2 300 S)
  · refine q_Sim.steps vc_255 2 (pc' := 93) (lv' := [(4, .inl x4)]) (st' := [.inl 400, .inl xs2, .inl xs1, .inr (.inr (11, 0, 0))]) (V' := q_V S) rfl ?_
    exact q_Sim.sub2 (lv' := []) [] rfl (by decide) trivial (sb_255_93 xs1 xs2 400 S)
def b_255_62 (x1 : Int32) (xs0 : Int32) (S : QS) : Option ((Unit) × QS) := if 0 ≤ xs0 then (b_255_79 xs0 x1 xs0 S) else (b_255_79 xs0 x1 (-xs0) S)
theorem sb_255_62 (x1 : Int32) (xs0 : Int32) (S : QS) : q_Sim 255 62 [(0, .inr (.inr (11, 0, 0))), (1, .inl x1)] [.inl xs0] (q_V S) q_U (b_255_62 x1 xs0 S) := by
  unfold b_255_62
  refine q_Sim.steps vc_255 4 (pc' := 68) (lv' := [(4, .inl xs0), (0, .inr (.inr (11, 0, 0))), (1, .inl x1)]) (st' := [.inl xs0, .inl x1, .inr (.inr (11, 0, 0))]) (V' := q_V S) rfl ?_
  refine q_Sim.br vc_255 (c := 0 ≤ xs0) (t := 77) (f := 71) (lv' := [(4, .inl xs0), (0, .inr (.inr (11, 0, 0))), (1, .inl x1)]) (st' := [.inl x1, .inr (.inr (11, 0, 0))]) (V' := q_V S) rfl ?_ ?_
  · refine q_Sim.steps vc_255 1 (pc' := 79) (lv' := [(4, .inl xs0), (0, .inr (.inr (11, 0, 0))), (1, .inl x1)]) (st' := [.inl xs0, .inl x1, .inr (.inr (11, 0, 0))]) (V' := q_V S) rfl ?_
    exact q_Sim.sub2 (lv' := [(4, .inl xs0)]) [4] rfl (by decide) ⟨rfl, trivial⟩ (sb_255_79 xs0 x1 xs0 S)
  · refine q_Sim.steps vc_255 3 (pc' := 79) (lv' := [(4, .inl xs0), (0, .inr (.inr (11, 0, 0))), (1, .inl x1)]) (st' := [.inl (-xs0), .inl x1, .inr (.inr (11, 0, 0))]) (V' := q_V S) rfl ?_
    exact q_Sim.sub2 (lv' := [(4, .inl xs0)]) [4] rfl (by decide) ⟨rfl, trivial⟩ (sb_255_79 xs0 x1 (-xs0) S)
def b_255_46 (x1 : Int32) (x2 : Int32) (x3 : Int32) (xs1 : Int32) (xs2 : Int32) (xs3 : Int32) (S : QS) : Option ((Unit) × QS) := q_bd (f_191 xs1 xs2 xs3 S) (fun r_3 S_4 => if x3 = 0 then (b_255_62 x1 0 S_4) else (q_bd (f_209 x2 S_4) (fun r_7 S_8 => b_255_62 x1 r_7 S_8)))
theorem sb_255_46 (x1 : Int32) (x2 : Int32) (x3 : Int32) (xs1 : Int32) (xs2 : Int32) (xs3 : Int32) (S : QS) : q_Sim 255 46 [(0, .inr (.inr (11, 0, 0))), (1, .inl x1), (2, .inl x2), (3, .inl x3)] [.inl xs3, .inl xs2, .inl xs1, .inr (.inr (11, 0, 0))] (q_V S) q_U (b_255_46 x1 x2 x3 xs1 xs2 xs3 S) := by
  unfold b_255_46
  refine q_Sim.call vc_255 (as := [.inr (.inr (11, 0, 0)), .inl xs1, .inl xs2, .inl xs3]) (pc' := 49) (lv' := [(0, .inr (.inr (11, 0, 0))), (1, .inl x1), (2, .inl x2), (3, .inl x3)]) (st' := []) (S := S) rfl (rc_191 xs1 xs2 xs3) (s_191 xs1 xs2 xs3 S) (fun r_3 S_4 => ?_)
  refine q_Sim.steps vc_255 1 (pc' := 50) (lv' := [(0, .inr (.inr (11, 0, 0))), (1, .inl x1), (2, .inl x2), (3, .inl x3)]) (st' := [.inl x3]) (V' := q_V S_4) rfl ?_
  refine q_Sim.br vc_255 (c := x3 = 0) (t := 61) (f := 53) (lv' := [(0, .inr (.inr (11, 0, 0))), (1, .inl x1), (2, .inl x2), (3, .inl x3)]) (st' := []) (V' := q_V S_4) rfl ?_ ?_
  · refine q_Sim.steps vc_255 1 (pc' := 62) (lv' := [(0, .inr (.inr (11, 0, 0))), (1, .inl x1), (2, .inl x2), (3, .inl x3)]) (st' := [.inl 0]) (V' := q_V S_4) rfl ?_
    exact q_Sim.sub2 (lv' := [(0, .inr (.inr (11, 0, 0))), (1, .inl x1)]) [0, 1] rfl (by decide) ⟨rfl, rfl, trivial⟩ (sb_255_62 x1 0 S_4)
  · refine q_Sim.steps vc_255 2 (pc' := 55) (lv' := [(0, .inr (.inr (11, 0, 0))), (1, .inl x1), (2, .inl x2), (3, .inl x3)]) (st' := [.inl x2, .inr (.inr (11, 0, 0))]) (V' := q_V S_4) rfl ?_
    refine q_Sim.call vc_255 (as := [.inr (.inr (11, 0, 0)), .inl x2]) (pc' := 58) (lv' := [(0, .inr (.inr (11, 0, 0))), (1, .inl x1), (2, .inl x2), (3, .inl x3)]) (st' := []) (S := S_4) rfl (rc_209 x2) (s_209 x2 S_4) (fun r_7 S_8 => ?_)
    refine q_Sim.steps vc_255 1 (pc' := 62) (lv' := [(0, .inr (.inr (11, 0, 0))), (1, .inl x1), (2, .inl x2), (3, .inl x3)]) (st' := [.inl r_7]) (V' := q_V S_8) rfl ?_
    exact q_Sim.sub2 (lv' := [(0, .inr (.inr (11, 0, 0))), (1, .inl x1)]) [0, 1] rfl (by decide) ⟨rfl, rfl, trivial⟩ (sb_255_62 x1 r_7 S_8)
def b_255_24 (x1 : Int32) (x2 : Int32) (xs0 : Int32) (S : QS) : Option ((Unit) × QS) := if 0 ≤ x2 then (if xs0 = 0 then (b_255_46 x1 x2 xs0 x1 9 3 S) else (b_255_46 x1 x2 xs0 x1 9 0 S)) else (b_255_46 x1 x2 xs0 x1 9 1 S)
theorem sb_255_24 (x1 : Int32) (x2 : Int32) (xs0 : Int32) (S : QS) : q_Sim 255 24 [(0, .inr (.inr (11, 0, 0))), (1, .inl x1), (2, .inl x2)] [.inl xs0] (q_V S) q_U (b_255_24 x1 x2 xs0 S) := by
  unfold b_255_24
  refine q_Sim.steps vc_255 5 (pc' := 30) (lv' := [(3, .inl xs0), (0, .inr (.inr (11, 0, 0))), (1, .inl x1), (2, .inl x2)]) (st' := [.inl x2, .inl 9, .inl x1, .inr (.inr (11, 0, 0))]) (V' := q_V S) rfl ?_
  refine q_Sim.br vc_255 (c := 0 ≤ x2) (t := 37) (f := 33) (lv' := [(3, .inl xs0), (0, .inr (.inr (11, 0, 0))), (1, .inl x1), (2, .inl x2)]) (st' := [.inl 9, .inl x1, .inr (.inr (11, 0, 0))]) (V' := q_V S) rfl ?_ ?_
  · refine q_Sim.steps vc_255 1 (pc' := 38) (lv' := [(3, .inl xs0), (0, .inr (.inr (11, 0, 0))), (1, .inl x1), (2, .inl x2)]) (st' := [.inl xs0, .inl 9, .inl x1, .inr (.inr (11, 0, 0))]) (V' := q_V S) rfl ?_
    refine q_Sim.br vc_255 (c := xs0 = 0) (t := 45) (f := 41) (lv' := [(3, .inl xs0), (0, .inr (.inr (11, 0, 0))), (1, .inl x1), (2, .inl x2)]) (st' := [.inl 9, .inl x1, .inr (.inr (11, 0, 0))]) (V' := q_V S) rfl ?_ ?_
    · refine q_Sim.steps vc_255 1 (pc' := 46) (lv' := [(3, .inl xs0), (0, .inr (.inr (11, 0, 0))), (1, .inl x1), (2, .inl x2)]) (st' := [.inl 3, .inl 9, .inl x1, .inr (.inr (11, 0, 0))]) (V' := q_V S) rfl ?_
      exact q_Sim.sub2 (lv' := [(0, .inr (.inr (11, 0, 0))), (1, .inl x1), (2, .inl x2), (3, .inl xs0)]) [0, 1, 2, 3] rfl (by decide) ⟨rfl, rfl, rfl, rfl, trivial⟩ (sb_255_46 x1 x2 xs0 x1 9 3 S)
    · refine q_Sim.steps vc_255 2 (pc' := 46) (lv' := [(3, .inl xs0), (0, .inr (.inr (11, 0, 0))), (1, .inl x1), (2, .inl x2)]) (st' := [.inl 0, .inl 9, .inl x1, .inr (.inr (11, 0, 0))]) (V' := q_V S) rfl ?_
      exact q_Sim.sub2 (lv' := [(0, .inr (.inr (11, 0, 0))), (1, .inl x1), (2, .inl x2), (3, .inl xs0)]) [0, 1, 2, 3] rfl (by decide) ⟨rfl, rfl, rfl, rfl, trivial⟩ (sb_255_46 x1 x2 xs0 x1 9 0 S)
  · refine q_Sim.steps vc_255 2 (pc' := 46) (lv' := [(3, .inl xs0), (0, .inr (.inr (11, 0, 0))), (1, .inl x1), (2, .inl x2)]) (st' := [.inl 1, .inl 9, .inl x1, .inr (.inr (11, 0, 0))]) (V' := q_V S) rfl ?_
    exact q_Sim.sub2 (lv' := [(0, .inr (.inr (11, 0, 0))), (1, .inl x1), (2, .inl x2), (3, .inl xs0)]) [0, 1, 2, 3] rfl (by decide) ⟨rfl, rfl, rfl, rfl, trivial⟩ (sb_255_46 x1 x2 xs0 x1 9 1 S)
def b_255_23 (x1 : Int32) (x2 : Int32) (S : QS) : Option ((Unit) × QS) := b_255_24 x1 x2 0 S
theorem sb_255_23 (x1 : Int32) (x2 : Int32) (S : QS) : q_Sim 255 23 [(0, .inr (.inr (11, 0, 0))), (1, .inl x1), (2, .inl x2)] [] (q_V S) q_U (b_255_23 x1 x2 S) := by
  unfold b_255_23
  refine q_Sim.steps vc_255 1 (pc' := 24) (lv' := [(0, .inr (.inr (11, 0, 0))), (1, .inl x1), (2, .inl x2)]) (st' := [.inl 0]) (V' := q_V S) rfl ?_
  exact q_Sim.sub2 (lv' := [(0, .inr (.inr (11, 0, 0))), (1, .inl x1), (2, .inl x2)]) [0, 1, 2] rfl (by decide) ⟨rfl, rfl, rfl, trivial⟩ (sb_255_24 x1 x2 0 S)
def f_255 (x1 : Int32) (S : QS) : Option ((Unit) × QS) := q_bd (f_190 x1 3 S) (fun r_1 S_2 => if r_1 < 0 then (b_255_23 x1 r_1 S_2) else (q_bd (f_204 r_1 S_2) (fun r_9 S_10 => if r_9 = 0 then (b_255_23 x1 r_1 S_10) else (b_255_24 x1 r_1 1 S_10))))
theorem s_255 (x1 : Int32) (S : QS) : q_Sim 255 0 [(0, .inr (.inr (11, 0, 0))), (1, .inl x1)] [] (q_V S) q_U (f_255 x1 S) := by
  unfold f_255
  refine q_Sim.steps vc_255 3 (pc' := 3) (lv' := [(0, .inr (.inr (11, 0, 0))), (1, .inl x1)]) (st' := [.inl 3, .inl x1, .inr (.inr (11, 0, 0))]) (V' := q_V S) rfl ?_
  refine q_Sim.call vc_255 (as := [.inr (.inr (11, 0, 0)), .inl x1, .inl 3]) (pc' := 6) (lv' := [(0, .inr (.inr (11, 0, 0))), (1, .inl x1)]) (st' := []) (S := S) rfl (rc_190 x1 3) (s_190 x1 3 S) (fun r_1 S_2 => ?_)
  refine q_Sim.steps vc_255 2 (pc' := 8) (lv' := [(2, .inl r_1), (0, .inr (.inr (11, 0, 0))), (1, .inl x1)]) (st' := [.inl r_1]) (V' := q_V S_2) rfl ?_
  refine q_Sim.br vc_255 (c := r_1 < 0) (t := 23) (f := 11) (lv' := [(2, .inl r_1), (0, .inr (.inr (11, 0, 0))), (1, .inl x1)]) (st' := []) (V' := q_V S_2) rfl ?_ ?_
  · exact q_Sim.sub2 (lv' := [(0, .inr (.inr (11, 0, 0))), (1, .inl x1), (2, .inl r_1)]) [0, 1, 2] rfl (by decide) ⟨rfl, rfl, rfl, trivial⟩ (sb_255_23 x1 r_1 S_2)
  · refine q_Sim.steps vc_255 2 (pc' := 13) (lv' := [(2, .inl r_1), (0, .inr (.inr (11, 0, 0))), (1, .inl x1)]) (st' := [.inl r_1, .inr (.inr (11, 0, 0))]) (V' := q_V S_2) rfl ?_
    refine q_Sim.call vc_255 (as := [.inr (.inr (11, 0, 0)), .inl r_1]) (pc' := 16) (lv' := [(2, .inl r_1), (0, .inr (.inr (11, 0, 0))), (1, .inl x1)]) (st' := []) (S := S_2) rfl (rc_204 r_1) (s_204 r_1 S_2) (fun r_9 S_10 => ?_)
    refine q_Sim.br vc_255 (c := r_9 = 0) (t := 23) (f := 19) (lv' := [(2, .inl r_1), (0, .inr (.inr (11, 0, 0))), (1, .inl x1)]) (st' := []) (V' := q_V S_10) rfl ?_ ?_
    · exact q_Sim.sub2 (lv' := [(0, .inr (.inr (11, 0, 0))), (1, .inl x1), (2, .inl r_1)]) [0, 1, 2] rfl (by decide) ⟨rfl, rfl, rfl, trivial⟩ (sb_255_23 x1 r_1 S_10)
    · refine q_Sim.steps vc_255 2 (pc' := 24) (lv' := [(2, .inl r_1), (0, .inr (.inr (11, 0, 0))), (1, .inl x1)]) (st' := [.inl 1]) (V' := q_V S_10) rfl ?_
      exact q_Sim.sub2 (lv' := [(0, .inr (.inr (11, 0, 0))), (1, .inl x1), (2, .inl r_1)]) [0, 1, 2] rfl (by decide) ⟨rfl, rfl, rfl, trivial⟩ (sb_255_24 x1 r_1 1 S_10)
theorem vc_256 : v_code 256 = k_256 := rfl
theorem rc_256 (x1 : Int32) : v_rcv 256 [.inr (.inr (11, 0, 0)), .inl x1] = true := rfl
def b_256_207 (xs1 : Int32) (xs2 : Int32) (xs3 : Int32) (S : QS) : Option ((Unit) × QS) := q_bd (f_191 xs1 xs2 xs3 S) (fun r_19 S_20 => some ((), S_20))
theorem sb_256_207 (xs1 : Int32) (xs2 : Int32) (xs3 : Int32) (S : QS) : q_Sim 256 207 [] [.inl xs3, .inl xs2, .inl xs1, .inr (.inr (11, 0, 0))] (q_V S) q_U (b_256_207 xs1 xs2 xs3 S) := by
  unfold b_256_207
  refine q_Sim.call vc_256 (as := [.inr (.inr (11, 0, 0)), .inl xs1, .inl xs2, .inl xs3]) (pc' := 210) (lv' := []) (st' := []) (S := S) rfl (rc_191 xs1 xs2 xs3) (s_191 xs1 xs2 xs3 S) (fun r_19 S_20 => ?_)
  exact q_Sim.ret vc_256 rfl
def b_256_163 (back_42 : Int32 → Int32 → Int32 → QS → Option ((Unit) × QS)) (x1 : Int32) (x3 : Int32) (x4 : Int32) (S : QS) : Option ((Unit) × QS) := back_42 x1 x3 (x4 + 1) S
theorem sb_256_163 (back_42 : Int32 → Int32 → Int32 → QS → Option ((Unit) × QS)) (hb_42 : ∀ (x1 : Int32) (x3 : Int32) (x4 : Int32) (S : QS), q_Sim 256 42 [(0, .inr (.inr (11, 0, 0))), (1, .inl x1), (3, .inl x3), (4, .inl x4)] [] (q_V S) q_U (back_42 x1 x3 x4 S)) (x1 : Int32) (x3 : Int32) (x4 : Int32) (S : QS) : q_Sim 256 163 [(0, .inr (.inr (11, 0, 0))), (1, .inl x1), (3, .inl x3), (4, .inl x4)] [] (q_V S) q_U (b_256_163 back_42 x1 x3 x4 S) := by
  unfold b_256_163
  refine q_Sim.steps vc_256 2 (pc' := 42) (lv' := [(4, .inl (x4 + 1)), (0, .inr (.inr (11, 0, 0))), (1, .inl x1), (3, .inl x3)]) (st' := []) (V' := q_V S) rfl ?_
  exact q_Sim.sub2 (lv' := [(0, .inr (.inr (11, 0, 0))), (1, .inl x1), (3, .inl x3), (4, .inl (x4 + 1))]) [0, 1, 3, 4] rfl (by decide) ⟨rfl, rfl, rfl, rfl, trivial⟩ (hb_42 x1 x3 (x4 + 1) S)
def b_256_157 (back_42 : Int32 → Int32 → Int32 → QS → Option ((Unit) × QS)) (back_73 : Int32 → Int32 → Int32 → Int32 → Int32 → QS → Option ((Unit) × QS)) (x1 : Int32) (x3 : Int32) (x4 : Int32) (x5 : Int32) (x6 : Int32) (S : QS) : Option ((Unit) × QS) := back_73 x1 x3 x4 x5 (x6 + 1) S
theorem sb_256_157 (back_42 : Int32 → Int32 → Int32 → QS → Option ((Unit) × QS)) (hb_42 : ∀ (x1 : Int32) (x3 : Int32) (x4 : Int32) (S : QS), q_Sim 256 42 [(0, .inr (.inr (11, 0, 0))), (1, .inl x1), (3, .inl x3), (4, .inl x4)] [] (q_V S) q_U (back_42 x1 x3 x4 S)) (back_73 : Int32 → Int32 → Int32 → Int32 → Int32 → QS → Option ((Unit) × QS)) (hb_73 : ∀ (x1 : Int32) (x3 : Int32) (x4 : Int32) (x5 : Int32) (x6 : Int32) (S : QS), q_Sim 256 73 [(0, .inr (.inr (11, 0, 0))), (1, .inl x1), (3, .inl x3), (4, .inl x4), (5, .inl x5), (6, .inl x6)] [] (q_V S) q_U (back_73 x1 x3 x4 x5 x6 S)) (x1 : Int32) (x3 : Int32) (x4 : Int32) (x5 : Int32) (x6 : Int32) (S : QS) : q_Sim 256 157 [(0, .inr (.inr (11, 0, 0))), (1, .inl x1), (3, .inl x3), (4, .inl x4), (5, .inl x5), (6, .inl x6)] [] (q_V S) q_U (b_256_157 back_42 back_73 x1 x3 x4 x5 x6 S) := by
  unfold b_256_157
  refine q_Sim.steps vc_256 2 (pc' := 73) (lv' := [(6, .inl (x6 + 1)), (0, .inr (.inr (11, 0, 0))), (1, .inl x1), (3, .inl x3), (4, .inl x4), (5, .inl x5)]) (st' := []) (V' := q_V S) rfl ?_
  exact q_Sim.sub2 (lv' := [(0, .inr (.inr (11, 0, 0))), (1, .inl x1), (3, .inl x3), (4, .inl x4), (5, .inl x5), (6, .inl (x6 + 1))]) [0, 1, 3, 4, 5, 6] rfl (by decide) ⟨rfl, rfl, rfl, rfl, rfl, rfl, trivial⟩ (hb_73 x1 x3 x4 x5 (x6 + 1) S)
def b_256_126 (back_42 : Int32 → Int32 → Int32 → QS → Option ((Unit) × QS)) (back_73 : Int32 → Int32 → Int32 → Int32 → Int32 → QS → Option ((Unit) × QS)) (x1 : Int32) (x3 : Int32) (x4 : Int32) (x5 : Int32) (x6 : Int32) (x7 : Int32) (xs0 : Int32) (S : QS) : Option ((Unit) × QS) := q_bd (f_197 x5 x6 (x7 - xs0) S) (fun r_29 S_30 => q_ck (v_in 5 19520) (q_let (S_30.1 (40, 0, 0) (5 : Int32).toNatClampNeg) (fun y_31 => q_ck (v_in 5 19520) (q_let (q_set S_30 (40, 0, 0) (5 : Int32).toNatClampNeg (y_31 + xs0)) (fun S_32 => q_let (x3 - xs0) (fun y_33 => b_256_157 back_42 back_73 x1 y_33 x4 x5 x6 S_32))))))
theorem sb_256_126 (back_42 : Int32 → Int32 → Int32 → QS → Option ((Unit) × QS)) (hb_42 : ∀ (x1 : Int32) (x3 : Int32) (x4 : Int32) (S : QS), q_Sim 256 42 [(0, .inr (.inr (11, 0, 0))), (1, .inl x1), (3, .inl x3), (4, .inl x4)] [] (q_V S) q_U (back_42 x1 x3 x4 S)) (back_73 : Int32 → Int32 → Int32 → Int32 → Int32 → QS → Option ((Unit) × QS)) (hb_73 : ∀ (x1 : Int32) (x3 : Int32) (x4 : Int32) (x5 : Int32) (x6 : Int32) (S : QS), q_Sim 256 73 [(0, .inr (.inr (11, 0, 0))), (1, .inl x1), (3, .inl x3), (4, .inl x4), (5, .inl x5), (6, .inl x6)] [] (q_V S) q_U (back_73 x1 x3 x4 x5 x6 S)) (x1 : Int32) (x3 : Int32) (x4 : Int32) (x5 : Int32) (x6 : Int32) (x7 : Int32) (xs0 : Int32) (S : QS) : q_Sim 256 126 [(0, .inr (.inr (11, 0, 0))), (1, .inl x1), (3, .inl x3), (4, .inl x4), (5, .inl x5), (6, .inl x6), (7, .inl x7)] [.inl xs0] (q_V S) q_U (b_256_126 back_42 back_73 x1 x3 x4 x5 x6 x7 xs0 S) := by
  unfold b_256_126
  refine q_Sim.steps vc_256 7 (pc' := 138) (lv' := [(8, .inl xs0), (0, .inr (.inr (11, 0, 0))), (1, .inl x1), (3, .inl x3), (4, .inl x4), (5, .inl x5), (6, .inl x6), (7, .inl x7)]) (st' := [.inl (x7 - xs0), .inl x6, .inl x5, .inr (.inr (11, 0, 0))]) (V' := q_V S) rfl ?_
  refine q_Sim.call vc_256 (as := [.inr (.inr (11, 0, 0)), .inl x5, .inl x6, .inl (x7 - xs0)]) (pc' := 141) (lv' := [(8, .inl xs0), (0, .inr (.inr (11, 0, 0))), (1, .inl x1), (3, .inl x3), (4, .inl x4), (5, .inl x5), (6, .inl x6), (7, .inl x7)]) (st' := []) (S := S) rfl (rc_197 x5 x6 (x7 - xs0)) (s_197 x5 x6 (x7 - xs0) S) (fun r_29 S_30 => ?_)
  refine q_Sim.steps vc_256 4 (pc' := 147) (lv' := [(8, .inl xs0), (0, .inr (.inr (11, 0, 0))), (1, .inl x1), (3, .inl x3), (4, .inl x4), (5, .inl x5), (6, .inl x6), (7, .inl x7)]) (st' := [.inl 5, .inr (.inr (40, 0, 0)), .inl 5, .inr (.inr (40, 0, 0))]) (V' := q_V S_30) rfl ?_
  refine q_Sim.ck vc_256 (c := v_in 5 19520) (pc' := 148) (lv' := [(8, .inl xs0), (0, .inr (.inr (11, 0, 0))), (1, .inl x1), (3, .inl x3), (4, .inl x4), (5, .inl x5), (6, .inl x6), (7, .inl x7)]) (st' := [.inl (S_30.1 (40, 0, 0) (5 : Int32).toNatClampNeg), .inl 5, .inr (.inr (40, 0, 0))]) (V' := q_V S_30) rfl ?_
  refine q_Sim.letI (fun y_31 => ?_)
  refine q_Sim.steps vc_256 2 (pc' := 151) (lv' := [(8, .inl xs0), (0, .inr (.inr (11, 0, 0))), (1, .inl x1), (3, .inl x3), (4, .inl x4), (5, .inl x5), (6, .inl x6), (7, .inl x7)]) (st' := [.inl (y_31 + xs0), .inl 5, .inr (.inr (40, 0, 0))]) (V' := q_V S_30) rfl ?_
  refine q_Sim.ck vc_256 (c := v_in 5 19520) (pc' := 152) (lv' := [(8, .inl xs0), (0, .inr (.inr (11, 0, 0))), (1, .inl x1), (3, .inl x3), (4, .inl x4), (5, .inl x5), (6, .inl x6), (7, .inl x7)]) (st' := []) (V' := q_V (q_set S_30 (40, 0, 0) (5 : Int32).toNatClampNeg (y_31 + xs0))) rfl ?_
  refine q_Sim.letS (fun S_32 => ?_)
  refine q_Sim.steps vc_256 3 (pc' := 156) (lv' := [(8, .inl xs0), (0, .inr (.inr (11, 0, 0))), (1, .inl x1), (3, .inl x3), (4, .inl x4), (5, .inl x5), (6, .inl x6), (7, .inl x7)]) (st' := [.inl (x3 - xs0)]) (V' := q_V S_32) rfl ?_
  refine q_Sim.letI (fun y_33 => ?_)
  refine q_Sim.steps vc_256 1 (pc' := 157) (lv' := [(3, .inl y_33), (8, .inl xs0), (0, .inr (.inr (11, 0, 0))), (1, .inl x1), (4, .inl x4), (5, .inl x5), (6, .inl x6), (7, .inl x7)]) (st' := []) (V' := q_V S_32) rfl ?_
  exact q_Sim.sub2 (lv' := [(0, .inr (.inr (11, 0, 0))), (1, .inl x1), (3, .inl y_33), (4, .inl x4), (5, .inl x5), (6, .inl x6)]) [0, 1, 3, 4, 5, 6] rfl (by decide) ⟨rfl, rfl, rfl, rfl, rfl, rfl, trivial⟩ (sb_256_157 back_42 hb_42 back_73 hb_73 x1 y_33 x4 x5 x6 S_32)
def b_256_73 (back_42 : Int32 → Int32 → Int32 → QS → Option ((Unit) × QS)) : Nat → Int32 → Int32 → Int32 → Int32 → Int32 → QS → Option ((Unit) × QS)
  | 0, _, _, _, _, _, _ => none
  | n + 1, x1, x3, x4, x5, x6, S => if x5 < 0 then (b_256_163 back_42 x1 x3 x4 S) else (q_bd (f_195 x5 S) (fun r_23 S_24 => if r_23 ≤ x6 then (b_256_163 back_42 x1 x3 x4 S_24) else (if x3 ≤ 0 then (b_256_163 back_42 x1 x3 x4 S_24) else (q_bd (f_196 x5 x6 S_24) (fun r_25 S_26 => q_bd (f_203 r_25 S_26) (fun r_27 S_28 => if ¬ r_27 = 0 then (if x3 ≤ r_25 then (b_256_126 back_42 (b_256_73 back_42 n) x1 x3 x4 x5 x6 r_25 x3 S_28) else (b_256_126 back_42 (b_256_73 back_42 n) x1 x3 x4 x5 x6 r_25 r_25 S_28)) else (b_256_157 back_42 (b_256_73 back_42 n) x1 x3 x4 x5 x6 S_28)))))))
theorem sb_256_73 (back_42 : Int32 → Int32 → Int32 → QS → Option ((Unit) × QS)) (hb_42 : ∀ (x1 : Int32) (x3 : Int32) (x4 : Int32) (S : QS), q_Sim 256 42 [(0, .inr (.inr (11, 0, 0))), (1, .inl x1), (3, .inl x3), (4, .inl x4)] [] (q_V S) q_U (back_42 x1 x3 x4 S)) : ∀ (n : Nat) (x1 : Int32) (x3 : Int32) (x4 : Int32) (x5 : Int32) (x6 : Int32) (S : QS), q_Sim 256 73 [(0, .inr (.inr (11, 0, 0))), (1, .inl x1), (3, .inl x3), (4, .inl x4), (5, .inl x5), (6, .inl x6)] [] (q_V S) q_U (b_256_73 back_42 n x1 x3 x4 x5 x6 S)
  | 0, _, _, _, _, _, _ => q_Sim.none
  | n + 1, x1, x3, x4, x5, x6, S => by
    rw [b_256_73]
    refine q_Sim.steps vc_256 1 (pc' := 75) (lv' := [(0, .inr (.inr (11, 0, 0))), (1, .inl x1), (3, .inl x3), (4, .inl x4), (5, .inl x5), (6, .inl x6)]) (st' := [.inl x5]) (V' := q_V S) rfl ?_
    refine q_Sim.br vc_256 (c := x5 < 0) (t := 163) (f := 78) (lv' := [(0, .inr (.inr (11, 0, 0))), (1, .inl x1), (3, .inl x3), (4, .inl x4), (5, .inl x5), (6, .inl x6)]) (st' := []) (V' := q_V S) rfl ?_ ?_
    · exact q_Sim.sub2 (lv' := [(0, .inr (.inr (11, 0, 0))), (1, .inl x1), (3, .inl x3), (4, .inl x4)]) [0, 1, 3, 4] rfl (by decide) ⟨rfl, rfl, rfl, rfl, trivial⟩ (sb_256_163 back_42 hb_42 x1 x3 x4 S)
    · refine q_Sim.steps vc_256 3 (pc' := 83) (lv' := [(0, .inr (.inr (11, 0, 0))), (1, .inl x1), (3, .inl x3), (4, .inl x4), (5, .inl x5), (6, .inl x6)]) (st' := [.inl x5, .inr (.inr (11, 0, 0)), .inl x6]) (V' := q_V S) rfl ?_
      refine q_Sim.call vc_256 (as := [.inr (.inr (11, 0, 0)), .inl x5]) (pc' := 86) (lv' := [(0, .inr (.inr (11, 0, 0))), (1, .inl x1), (3, .inl x3), (4, .inl x4), (5, .inl x5), (6, .inl x6)]) (st' := [.inl x6]) (S := S) rfl (rc_195 x5) (s_195 x5 S) (fun r_23 S_24 => ?_)
      refine q_Sim.br vc_256 (c := r_23 ≤ x6) (t := 163) (f := 89) (lv' := [(0, .inr (.inr (11, 0, 0))), (1, .inl x1), (3, .inl x3), (4, .inl x4), (5, .inl x5), (6, .inl x6)]) (st' := []) (V' := q_V S_24) rfl ?_ ?_
      · exact q_Sim.sub2 (lv' := [(0, .inr (.inr (11, 0, 0))), (1, .inl x1), (3, .inl x3), (4, .inl x4)]) [0, 1, 3, 4] rfl (by decide) ⟨rfl, rfl, rfl, rfl, trivial⟩ (sb_256_163 back_42 hb_42 x1 x3 x4 S_24)
      · refine q_Sim.steps vc_256 1 (pc' := 90) (lv' := [(0, .inr (.inr (11, 0, 0))), (1, .inl x1), (3, .inl x3), (4, .inl x4), (5, .inl x5), (6, .inl x6)]) (st' := [.inl x3]) (V' := q_V S_24) rfl ?_
        refine q_Sim.br vc_256 (c := x3 ≤ 0) (t := 163) (f := 93) (lv' := [(0, .inr (.inr (11, 0, 0))), (1, .inl x1), (3, .inl x3), (4, .inl x4), (5, .inl x5), (6, .inl x6)]) (st' := []) (V' := q_V S_24) rfl ?_ ?_
        · exact q_Sim.sub2 (lv' := [(0, .inr (.inr (11, 0, 0))), (1, .inl x1), (3, .inl x3), (4, .inl x4)]) [0, 1, 3, 4] rfl (by decide) ⟨rfl, rfl, rfl, rfl, trivial⟩ (sb_256_163 back_42 hb_42 x1 x3 x4 S_24)
        · refine q_Sim.steps vc_256 3 (pc' := 98) (lv' := [(0, .inr (.inr (11, 0, 0))), (1, .inl x1), (3, .inl x3), (4, .inl x4), (5, .inl x5), (6, .inl x6)]) (st' := [.inl x6, .inl x5, .inr (.inr (11, 0, 0))]) (V' := q_V S_24) rfl ?_
          refine q_Sim.call vc_256 (as := [.inr (.inr (11, 0, 0)), .inl x5, .inl x6]) (pc' := 101) (lv' := [(0, .inr (.inr (11, 0, 0))), (1, .inl x1), (3, .inl x3), (4, .inl x4), (5, .inl x5), (6, .inl x6)]) (st' := []) (S := S_24) rfl (rc_196 x5 x6) (s_196 x5 x6 S_24) (fun r_25 S_26 => ?_)
          refine q_Sim.steps vc_256 2 (pc' := 105) (lv' := [(7, .inl r_25), (0, .inr (.inr (11, 0, 0))), (1, .inl x1), (3, .inl x3), (4, .inl x4), (5, .inl x5), (6, .inl x6)]) (st' := [.inl r_25]) (V' := q_V S_26) rfl ?_
          refine q_Sim.call vc_256 (as := [.inl r_25]) (pc' := 108) (lv' := [(7, .inl r_25), (0, .inr (.inr (11, 0, 0))), (1, .inl x1), (3, .inl x3), (4, .inl x4), (5, .inl x5), (6, .inl x6)]) (st' := []) (S := S_26) rfl (rc_203 r_25) (s_203 r_25 S_26) (fun r_27 S_28 => ?_)
          refine q_Sim.br vc_256 (c := ¬ r_27 = 0) (t := 114) (f := 111) (lv' := [(7, .inl r_25), (0, .inr (.inr (11, 0, 0))), (1, .inl x1), (3, .inl x3), (4, .inl x4), (5, .inl x5), (6, .inl x6)]) (st' := []) (V' := q_V S_28) rfl ?_ ?_
          · refine q_Sim.steps vc_256 2 (pc' := 117) (lv' := [(7, .inl r_25), (0, .inr (.inr (11, 0, 0))), (1, .inl x1), (3, .inl x3), (4, .inl x4), (5, .inl x5), (6, .inl x6)]) (st' := [.inl x3, .inl r_25]) (V' := q_V S_28) rfl ?_
            refine q_Sim.br vc_256 (c := x3 ≤ r_25) (t := 125) (f := 120) (lv' := [(7, .inl r_25), (0, .inr (.inr (11, 0, 0))), (1, .inl x1), (3, .inl x3), (4, .inl x4), (5, .inl x5), (6, .inl x6)]) (st' := []) (V' := q_V S_28) rfl ?_ ?_
            · refine q_Sim.steps vc_256 1 (pc' := 126) (lv' := [(7, .inl r_25), (0, .inr (.inr (11, 0, 0))), (1, .inl x1), (3, .inl x3), (4, .inl x4), (5, .inl x5), (6, .inl x6)]) (st' := [.inl x3]) (V' := q_V S_28) rfl ?_
              exact q_Sim.sub2 (lv' := [(0, .inr (.inr (11, 0, 0))), (1, .inl x1), (3, .inl x3), (4, .inl x4), (5, .inl x5), (6, .inl x6), (7, .inl r_25)]) [0, 1, 3, 4, 5, 6, 7] rfl (by decide) ⟨rfl, rfl, rfl, rfl, rfl, rfl, rfl, trivial⟩ (sb_256_126 back_42 hb_42 (b_256_73 back_42 n) (sb_256_73 back_42 hb_42 n) x1 x3 x4 x5 x6 r_25 x3 S_28)
            · refine q_Sim.steps vc_256 2 (pc' := 126) (lv' := [(7, .inl r_25), (0, .inr (.inr (11, 0, 0))), (1, .inl x1), (3, .inl x3), (4, .inl x4), (5, .inl x5), (6, .inl x6)]) (st' := [.inl r_25]) (V' := q_V S_28) rfl ?_
              exact q_Sim.sub2 (lv' := [(0, .inr (.inr (11, 0, 0))), (1, .inl x1), (3, .inl x3), (4, .inl x4), (5, .inl x5), (6, .inl x6), (7, .inl r_25)]) [0, 1, 3, 4, 5, 6, 7] rfl (by decide) ⟨rfl, rfl, rfl, rfl, rfl, rfl, rfl, trivial⟩ (sb_256_126 back_42 hb_42 (b_256_73 back_42 n) (sb_256_73 back_42 hb_42 n) x1 x3 x4 x5 x6 r_25 r_25 S_28)
          · refine q_Sim.steps vc_256 1 (pc' := 157) (lv' := [(7, .inl r_25), (0, .inr (.inr (11, 0, 0))), (1, .inl x1), (3, .inl x3), (4, .inl x4), (5, .inl x5), (6, .inl x6)]) (st' := []) (V' := q_V S_28) rfl ?_
            exact q_Sim.sub2 (lv' := [(0, .inr (.inr (11, 0, 0))), (1, .inl x1), (3, .inl x3), (4, .inl x4), (5, .inl x5), (6, .inl x6)]) [0, 1, 3, 4, 5, 6] rfl (by decide) ⟨rfl, rfl, rfl, rfl, rfl, rfl, trivial⟩ (sb_256_157 back_42 hb_42 (b_256_73 back_42 n) (sb_256_73 back_42 hb_42 n) x1 x3 x4 x5 x6 S_28)
def b_256_42 : Nat → Int32 → Int32 → Int32 → QS → Option ((Unit) × QS)
  | 0, _, _, _, _ => none
  | n + 1, x1, x3, x4, S => q_bd (f_190 x1 10 S) (fun r_12 S_13 => if ((96 * x1) + (12 * r_12)) ≤ x4 then (q_let (100 * x3.toInt64) (fun y_14 => q_bd (f_190 x1 0 S_13) (fun r_15 S_16 => if (lg_cmp y_14 r_15.toInt64) < 0 then (q_bd (f_190 x1 0 S_16) (fun r_17 S_18 => b_256_207 x1 0 (r_17 - y_14.toInt32) S_18)) else (b_256_207 x1 0 0 S_16)))) else (q_bd (f_194 x4 S_13) (fun r_21 S_22 => b_256_73 (b_256_42 n) q_N x1 x3 x4 r_21 0 S_22)))
theorem sb_256_42 : ∀ (n : Nat) (x1 : Int32) (x3 : Int32) (x4 : Int32) (S : QS), q_Sim 256 42 [(0, .inr (.inr (11, 0, 0))), (1, .inl x1), (3, .inl x3), (4, .inl x4)] [] (q_V S) q_U (b_256_42 n x1 x3 x4 S)
  | 0, _, _, _, _ => q_Sim.none
  | n + 1, x1, x3, x4, S => by
    rw [b_256_42]
    refine q_Sim.steps vc_256 8 (pc' := 54) (lv' := [(0, .inr (.inr (11, 0, 0))), (1, .inl x1), (3, .inl x3), (4, .inl x4)]) (st' := [.inl 10, .inl x1, .inr (.inr (11, 0, 0)), .inl 12, .inl (96 * x1), .inl x4]) (V' := q_V S) rfl ?_
    refine q_Sim.call vc_256 (as := [.inr (.inr (11, 0, 0)), .inl x1, .inl 10]) (pc' := 57) (lv' := [(0, .inr (.inr (11, 0, 0))), (1, .inl x1), (3, .inl x3), (4, .inl x4)]) (st' := [.inl 12, .inl (96 * x1), .inl x4]) (S := S) rfl (rc_190 x1 10) (s_190 x1 10 S) (fun r_12 S_13 => ?_)
    refine q_Sim.steps vc_256 2 (pc' := 59) (lv' := [(0, .inr (.inr (11, 0, 0))), (1, .inl x1), (3, .inl x3), (4, .inl x4)]) (st' := [.inl ((96 * x1) + (12 * r_12)), .inl x4]) (V' := q_V S_13) rfl ?_
    refine q_Sim.br vc_256 (c := ((96 * x1) + (12 * r_12)) ≤ x4) (t := 169) (f := 62) (lv' := [(0, .inr (.inr (11, 0, 0))), (1, .inl x1), (3, .inl x3), (4, .inl x4)]) (st' := []) (V' := q_V S_13) rfl ?_ ?_
    · refine q_Sim.steps vc_256 4 (pc' := 175) (lv' := [(0, .inr (.inr (11, 0, 0))), (1, .inl x1), (3, .inl x3), (4, .inl x4)]) (st' := [.inr (.inl (100 * x3.toInt64))]) (V' := q_V S_13) rfl ?_
      refine q_Sim.letJ (fun y_14 => ?_)
      refine q_Sim.steps vc_256 8 (pc' := 185) (lv' := [(4, .inr (.inl y_14)), (0, .inr (.inr (11, 0, 0))), (1, .inl x1), (3, .inl x3)]) (st' := [.inl 0, .inl x1, .inr (.inr (11, 0, 0)), .inr (.inl y_14), .inl 0, .inl x1, .inr (.inr (11, 0, 0))]) (V' := q_V S_13) rfl ?_
      refine q_Sim.call vc_256 (as := [.inr (.inr (11, 0, 0)), .inl x1, .inl 0]) (pc' := 188) (lv' := [(4, .inr (.inl y_14)), (0, .inr (.inr (11, 0, 0))), (1, .inl x1), (3, .inl x3)]) (st' := [.inr (.inl y_14), .inl 0, .inl x1, .inr (.inr (11, 0, 0))]) (S := S_13) rfl (rc_190 x1 0) (s_190 x1 0 S_13) (fun r_15 S_16 => ?_)
      refine q_Sim.steps vc_256 2 (pc' := 190) (lv' := [(4, .inr (.inl y_14)), (0, .inr (.inr (11, 0, 0))), (1, .inl x1), (3, .inl x3)]) (st' := [.inl (lg_cmp y_14 r_15.toInt64), .inl 0, .inl x1, .inr (.inr (11, 0, 0))]) (V' := q_V S_16) rfl ?_
      refine q_Sim.br vc_256 (c := (lg_cmp y_14 r_15.toInt64) < 0) (t := 197) (f := 193) (lv' := [(4, .inr (.inl y_14)), (0, .inr (.inr (11, 0, 0))), (1, .inl x1), (3, .inl x3)]) (st' := [.inl 0, .inl x1, .inr (.inr (11, 0, 0))]) (V' := q_V S_16) rfl ?_ ?_
      · refine q_Sim.steps vc_256 3 (pc' := 200) (lv' := [(4, .inr (.inl y_14)), (0, .inr (.inr (11, 0, 0))), (1, .inl x1), (3, .inl x3)]) (st' := [.inl 0, .inl x1, .inr (.inr (11, 0, 0)), .inl 0, .inl x1, .inr (.inr (11, 0, 0))]) (V' := q_V S_16) rfl ?_
        refine q_Sim.call vc_256 (as := [.inr (.inr (11, 0, 0)), .inl x1, .inl 0]) (pc' := 203) (lv' := [(4, .inr (.inl y_14)), (0, .inr (.inr (11, 0, 0))), (1, .inl x1), (3, .inl x3)]) (st' := [.inl 0, .inl x1, .inr (.inr (11, 0, 0))]) (S := S_16) rfl (rc_190 x1 0) (s_190 x1 0 S_16) (fun r_17 S_18 => ?_)
        refine q_Sim.steps vc_256 3 (pc' := 207) (lv' := [(4, .inr (.inl y_14)), (0, .inr (.inr (11, 0, 0))), (1, .inl x1), (3, .inl x3)]) (st' := [.inl (r_17 - y_14.toInt32), .inl 0, .inl x1, .inr (.inr (11, 0, 0))]) (V' := q_V S_18) rfl ?_
        exact q_Sim.sub2 (lv' := []) [] rfl (by decide) trivial (sb_256_207 x1 0 (r_17 - y_14.toInt32) S_18)
      · refine q_Sim.steps vc_256 2 (pc' := 207) (lv' := [(4, .inr (.inl y_14)), (0, .inr (.inr (11, 0, 0))), (1, .inl x1), (3, .inl x3)]) (st' := [.inl 0, .inl 0, .inl x1, .inr (.inr (11, 0, 0))]) (V' := q_V S_16) rfl ?_
        exact q_Sim.sub2 (lv' := []) [] rfl (by decide) trivial (sb_256_207 x1 0 0 S_16)
    · refine q_Sim.steps vc_256 2 (pc' := 65) (lv' := [(0, .inr (.inr (11, 0, 0))), (1, .inl x1), (3, .inl x3), (4, .inl x4)]) (st' := [.inl x4, .inr (.inr (11, 0, 0))]) (V' := q_V S_13) rfl ?_
      refine q_Sim.call vc_256 (as := [.inr (.inr (11, 0, 0)), .inl x4]) (pc' := 68) (lv' := [(0, .inr (.inr (11, 0, 0))), (1, .inl x1), (3, .inl x3), (4, .inl x4)]) (st' := []) (S := S_13) rfl (rc_194 x4) (s_194 x4 S_13) (fun r_21 S_22 => ?_)
      refine q_Sim.steps vc_256 3 (pc' := 73) (lv' := [(6, .inl 0), (5, .inl r_21), (0, .inr (.inr (11, 0, 0))), (1, .inl x1), (3, .inl x3), (4, .inl x4)]) (st' := []) (V' := q_V S_22) rfl ?_
      exact q_Sim.sub2 (lv' := [(0, .inr (.inr (11, 0, 0))), (1, .inl x1), (3, .inl x3), (4, .inl x4), (5, .inl r_21), (6, .inl 0)]) [0, 1, 3, 4, 5, 6] rfl (by decide) ⟨rfl, rfl, rfl, rfl, rfl, rfl, trivial⟩ (sb_256_73 (b_256_42 n) (sb_256_42 n) q_N x1 x3 x4 r_21 0 S_22)
def f_256 (x1 : Int32) (S : QS) : Option ((Unit) × QS) := q_bd (f_190 x1 2 S) (fun r_1 S_2 => q_bd (f_190 x1 0 S_2) (fun r_3 S_4 => q_bd (f_190 x1 1 S_4) (fun r_5 S_6 => q_let ((r_1 + r_3) + r_5) (fun y_7 => q_let (y_7 / 100) (fun y_8 => q_bd (f_191 x1 2 (y_7 - y_7 / 100 * 100) S_6) (fun r_9 S_10 => q_let (96 * x1) (fun y_11 => b_256_42 q_N x1 y_8 y_11 S_10)))))))
theorem s_256 (x1 : Int32) (S : QS) : q_Sim 256 0 [(0, .inr (.inr (11, 0, 0))), (1, .inl x1)] [] (q_V S) q_U (f_256 x1 S) := by
  unfold f_256
  refine q_Sim.steps vc_256 3 (pc' := 3) (lv' := [(0, .inr (.inr (11, 0, 0))), (1, .inl x1)]) (st' := [.inl 2, .inl x1, .inr (.inr (11, 0, 0))]) (V' := q_V S) rfl ?_
  refine q_Sim.call vc_256 (as := [.inr (.inr (11, 0, 0)), .inl x1, .inl 2]) (pc' := 6) (lv' := [(0, .inr (.inr (11, 0, 0))), (1, .inl x1)]) (st' := []) (S := S) rfl (rc_190 x1 2) (s_190 x1 2 S) (fun r_1 S_2 => ?_)
  refine q_Sim.steps vc_256 3 (pc' := 9) (lv' := [(0, .inr (.inr (11, 0, 0))), (1, .inl x1)]) (st' := [.inl 0, .inl x1, .inr (.inr (11, 0, 0)), .inl r_1]) (V' := q_V S_2) rfl ?_
  refine q_Sim.call vc_256 (as := [.inr (.inr (11, 0, 0)), .inl x1, .inl 0]) (pc' := 12) (lv' := [(0, .inr (.inr (11, 0, 0))), (1, .inl x1)]) (st' := [.inl r_1]) (S := S_2) rfl (rc_190 x1 0) (s_190 x1 0 S_2) (fun r_3 S_4 => ?_)
  refine q_Sim.steps vc_256 4 (pc' := 16) (lv' := [(0, .inr (.inr (11, 0, 0))), (1, .inl x1)]) (st' := [.inl 1, .inl x1, .inr (.inr (11, 0, 0)), .inl (r_1 + r_3)]) (V' := q_V S_4) rfl ?_
  refine q_Sim.call vc_256 (as := [.inr (.inr (11, 0, 0)), .inl x1, .inl 1]) (pc' := 19) (lv' := [(0, .inr (.inr (11, 0, 0))), (1, .inl x1)]) (st' := [.inl (r_1 + r_3)]) (S := S_4) rfl (rc_190 x1 1) (s_190 x1 1 S_4) (fun r_5 S_6 => ?_)
  refine q_Sim.steps vc_256 1 (pc' := 20) (lv' := [(0, .inr (.inr (11, 0, 0))), (1, .inl x1)]) (st' := [.inl ((r_1 + r_3) + r_5)]) (V' := q_V S_6) rfl ?_
  refine q_Sim.letI (fun y_7 => ?_)
  refine q_Sim.steps vc_256 3 (pc' := 24) (lv' := [(2, .inl y_7), (0, .inr (.inr (11, 0, 0))), (1, .inl x1)]) (st' := [.inl 100, .inl y_7]) (V' := q_V S_6) rfl ?_
  refine q_Sim.okd vc_256 (c := decide (¬ (100 : Int32) = 0)) (pc' := 25) (lv' := [(2, .inl y_7), (0, .inr (.inr (11, 0, 0))), (1, .inl x1)]) (st' := [.inl (y_7 / 100)]) (V' := q_V S_6) rfl (by decide) ?_
  refine q_Sim.letI (fun y_8 => ?_)
  refine q_Sim.steps vc_256 6 (pc' := 32) (lv' := [(3, .inl y_8), (2, .inl y_7), (0, .inr (.inr (11, 0, 0))), (1, .inl x1)]) (st' := [.inl 100, .inl y_7, .inl 2, .inl x1, .inr (.inr (11, 0, 0))]) (V' := q_V S_6) rfl ?_
  refine q_Sim.okd vc_256 (c := decide (¬ (100 : Int32) = 0)) (pc' := 33) (lv' := [(3, .inl y_8), (2, .inl y_7), (0, .inr (.inr (11, 0, 0))), (1, .inl x1)]) (st' := [.inl (y_7 - y_7 / 100 * 100), .inl 2, .inl x1, .inr (.inr (11, 0, 0))]) (V' := q_V S_6) rfl (by decide) ?_
  refine q_Sim.call vc_256 (as := [.inr (.inr (11, 0, 0)), .inl x1, .inl 2, .inl (y_7 - y_7 / 100 * 100)]) (pc' := 36) (lv' := [(3, .inl y_8), (2, .inl y_7), (0, .inr (.inr (11, 0, 0))), (1, .inl x1)]) (st' := []) (S := S_6) rfl (rc_191 x1 2 (y_7 - y_7 / 100 * 100)) (s_191 x1 2 (y_7 - y_7 / 100 * 100) S_6) (fun r_9 S_10 => ?_)
  refine q_Sim.steps vc_256 3 (pc' := 40) (lv' := [(3, .inl y_8), (2, .inl y_7), (0, .inr (.inr (11, 0, 0))), (1, .inl x1)]) (st' := [.inl (96 * x1)]) (V' := q_V S_10) rfl ?_
  refine q_Sim.letI (fun y_11 => ?_)
  refine q_Sim.steps vc_256 1 (pc' := 42) (lv' := [(4, .inl y_11), (3, .inl y_8), (2, .inl y_7), (0, .inr (.inr (11, 0, 0))), (1, .inl x1)]) (st' := []) (V' := q_V S_10) rfl ?_
  exact q_Sim.sub2 (lv' := [(0, .inr (.inr (11, 0, 0))), (1, .inl x1), (3, .inl y_8), (4, .inl y_11)]) [0, 1, 3, 4] rfl (by decide) ⟨rfl, rfl, rfl, rfl, trivial⟩ (sb_256_42 q_N x1 y_8 y_11 S_10)
theorem vc_257 : v_code 257 = k_257 := rfl
theorem rc_257 (x1 : Int32) : v_rcv 257 [.inr (.inr (11, 0, 0)), .inl x1] = true := rfl
def b_257_59 (back_23 : Int32 → Int32 → QS → Option ((Int32) × QS)) : Nat → Int32 → Int32 → Int32 → QS → Option ((Int32) × QS)
  | 0, _, _, _, _ => none
  | n + 1, x1, x2, x3, S => q_ck (v_in 0 19520) (q_let (S.1 (40, 0, 0) (0 : Int32).toNatClampNeg) (fun y_9 => if y_9 ≤ x3 then (q_ck (v_in 3 19520) (q_let (S.1 (40, 0, 0) (3 : Int32).toNatClampNeg) (fun y_10 => q_ck (v_in 3 19520) (q_let (q_set S (40, 0, 0) (3 : Int32).toNatClampNeg (y_10 + 1)) (fun S_11 => back_23 x1 (x2 + 1) S_11))))) else (q_bd (f_252 x3 S) (fun r_12 S_13 => q_bd (f_255 x3 S_13) (fun r_14 S_15 => q_bd (f_256 x3 S_15) (fun r_16 S_17 => q_bd (f_190 x3 0 S_17) (fun r_18 S_19 => q_bd (f_190 x3 0 S_19) (fun r_20 S_21 => q_bd (f_191 x3 0 (r_18 - (r_20 / 40)) S_21) (fun r_22 S_23 => b_257_59 back_23 n x1 x2 (x3 + 1) S_23)))))))))
theorem sb_257_59 (back_23 : Int32 → Int32 → QS → Option ((Int32) × QS)) (hb_23 : ∀ (x1 : Int32) (x2 : Int32) (S : QS), q_Sim 257 23 [(0, .inr (.inr (11, 0, 0))), (1, .inl x1), (2, .inl x2)] [] (q_V S) q_I (back_23 x1 x2 S)) : ∀ (n : Nat) (x1 : Int32) (x2 : Int32) (x3 : Int32) (S : QS), q_Sim 257 59 [(0, .inr (.inr (11, 0, 0))), (1, .inl x1), (2, .inl x2), (3, .inl x3)] [] (q_V S) q_I (b_257_59 back_23 n x1 x2 x3 S)
  | 0, _, _, _, _ => q_Sim.none
  | n + 1, x1, x2, x3, S => by
    rw [b_257_59]
    refine q_Sim.steps vc_257 4 (pc' := 65) (lv' := [(0, .inr (.inr (11, 0, 0))), (1, .inl x1), (2, .inl x2), (3, .inl x3)]) (st' := [.inl 0, .inr (.inr (40, 0, 0)), .inl x3]) (V' := q_V S) rfl ?_
    refine q_Sim.ck vc_257 (c := v_in 0 19520) (pc' := 66) (lv' := [(0, .inr (.inr (11, 0, 0))), (1, .inl x1), (2, .inl x2), (3, .inl x3)]) (st' := [.inl (S.1 (40, 0, 0) (0 : Int32).toNatClampNeg), .inl x3]) (V' := q_V S) rfl ?_
    refine q_Sim.letI (fun y_9 => ?_)
    refine q_Sim.br vc_257 (c := y_9 ≤ x3) (t := 112) (f := 69) (lv' := [(0, .inr (.inr (11, 0, 0))), (1, .inl x1), (2, .inl x2), (3, .inl x3)]) (st' := []) (V' := q_V S) rfl ?_ ?_
    · refine q_Sim.steps vc_257 4 (pc' := 118) (lv' := [(0, .inr (.inr (11, 0, 0))), (1, .inl x1), (2, .inl x2), (3, .inl x3)]) (st' := [.inl 3, .inr (.inr (40, 0, 0)), .inl 3, .inr (.inr (40, 0, 0))]) (V' := q_V S) rfl ?_
      refine q_Sim.ck vc_257 (c := v_in 3 19520) (pc' := 119) (lv' := [(0, .inr (.inr (11, 0, 0))), (1, .inl x1), (2, .inl x2), (3, .inl x3)]) (st' := [.inl (S.1 (40, 0, 0) (3 : Int32).toNatClampNeg), .inl 3, .inr (.inr (40, 0, 0))]) (V' := q_V S) rfl ?_
      refine q_Sim.letI (fun y_10 => ?_)
      refine q_Sim.steps vc_257 2 (pc' := 121) (lv' := [(0, .inr (.inr (11, 0, 0))), (1, .inl x1), (2, .inl x2), (3, .inl x3)]) (st' := [.inl (y_10 + 1), .inl 3, .inr (.inr (40, 0, 0))]) (V' := q_V S) rfl ?_
      refine q_Sim.ck vc_257 (c := v_in 3 19520) (pc' := 122) (lv' := [(0, .inr (.inr (11, 0, 0))), (1, .inl x1), (2, .inl x2), (3, .inl x3)]) (st' := []) (V' := q_V (q_set S (40, 0, 0) (3 : Int32).toNatClampNeg (y_10 + 1))) rfl ?_
      refine q_Sim.letS (fun S_11 => ?_)
      refine q_Sim.steps vc_257 2 (pc' := 23) (lv' := [(2, .inl (x2 + 1)), (0, .inr (.inr (11, 0, 0))), (1, .inl x1), (3, .inl x3)]) (st' := []) (V' := q_V S_11) rfl ?_
      exact q_Sim.sub2 (lv' := [(0, .inr (.inr (11, 0, 0))), (1, .inl x1), (2, .inl (x2 + 1))]) [0, 1, 2] rfl (by decide) ⟨rfl, rfl, rfl, trivial⟩ (hb_23 x1 (x2 + 1) S_11)
    · refine q_Sim.steps vc_257 2 (pc' := 71) (lv' := [(0, .inr (.inr (11, 0, 0))), (1, .inl x1), (2, .inl x2), (3, .inl x3)]) (st' := [.inl x3, .inr (.inr (11, 0, 0))]) (V' := q_V S) rfl ?_
      refine q_Sim.call vc_257 (as := [.inr (.inr (11, 0, 0)), .inl x3]) (pc' := 74) (lv' := [(0, .inr (.inr (11, 0, 0))), (1, .inl x1), (2, .inl x2), (3, .inl x3)]) (st' := []) (S := S) rfl (rc_252 x3) (s_252 x3 S) (fun r_12 S_13 => ?_)
      refine q_Sim.steps vc_257 2 (pc' := 76) (lv' := [(0, .inr (.inr (11, 0, 0))), (1, .inl x1), (2, .inl x2), (3, .inl x3)]) (st' := [.inl x3, .inr (.inr (11, 0, 0))]) (V' := q_V S_13) rfl ?_
      refine q_Sim.call vc_257 (as := [.inr (.inr (11, 0, 0)), .inl x3]) (pc' := 79) (lv' := [(0, .inr (.inr (11, 0, 0))), (1, .inl x1), (2, .inl x2), (3, .inl x3)]) (st' := []) (S := S_13) rfl (rc_255 x3) (s_255 x3 S_13) (fun r_14 S_15 => ?_)
      refine q_Sim.steps vc_257 2 (pc' := 81) (lv' := [(0, .inr (.inr (11, 0, 0))), (1, .inl x1), (2, .inl x2), (3, .inl x3)]) (st' := [.inl x3, .inr (.inr (11, 0, 0))]) (V' := q_V S_15) rfl ?_
      refine q_Sim.call vc_257 (as := [.inr (.inr (11, 0, 0)), .inl x3]) (pc' := 84) (lv' := [(0, .inr (.inr (11, 0, 0))), (1, .inl x1), (2, .inl x2), (3, .inl x3)]) (st' := []) (S := S_15) rfl (rc_256 x3) (s_256 x3 S_15) (fun r_16 S_17 => ?_)
      refine q_Sim.steps vc_257 6 (pc' := 90) (lv' := [(0, .inr (.inr (11, 0, 0))), (1, .inl x1), (2, .inl x2), (3, .inl x3)]) (st' := [.inl 0, .inl x3, .inr (.inr (11, 0, 0)), .inl 0, .inl x3, .inr (.inr (11, 0, 0))]) (V' := q_V S_17) rfl ?_
      refine q_Sim.call vc_257 (as := [.inr (.inr (11, 0, 0)), .inl x3, .inl 0]) (pc' := 93) (lv' := [(0, .inr (.inr (11, 0, 0))), (1, .inl x1), (2, .inl x2), (3, .inl x3)]) (st' := [.inl 0, .inl x3, .inr (.inr (11, 0, 0))]) (S := S_17) rfl (rc_190 x3 0) (s_190 x3 0 S_17) (fun r_18 S_19 => ?_)
      refine q_Sim.steps vc_257 3 (pc' := 96) (lv' := [(0, .inr (.inr (11, 0, 0))), (1, .inl x1), (2, .inl x2), (3, .inl x3)]) (st' := [.inl 0, .inl x3, .inr (.inr (11, 0, 0)), .inl r_18, .inl 0, .inl x3, .inr (.inr (11, 0, 0))]) (V' := q_V S_19) rfl ?_
      refine q_Sim.call vc_257 (as := [.inr (.inr (11, 0, 0)), .inl x3, .inl 0]) (pc' := 99) (lv' := [(0, .inr (.inr (11, 0, 0))), (1, .inl x1), (2, .inl x2), (3, .inl x3)]) (st' := [.inl r_18, .inl 0, .inl x3, .inr (.inr (11, 0, 0))]) (S := S_19) rfl (rc_190 x3 0) (s_190 x3 0 S_19) (fun r_20 S_21 => ?_)
      refine q_Sim.steps vc_257 1 (pc' := 101) (lv' := [(0, .inr (.inr (11, 0, 0))), (1, .inl x1), (2, .inl x2), (3, .inl x3)]) (st' := [.inl 40, .inl r_20, .inl r_18, .inl 0, .inl x3, .inr (.inr (11, 0, 0))]) (V' := q_V S_21) rfl ?_
      refine q_Sim.okd vc_257 (c := decide (¬ (40 : Int32) = 0)) (pc' := 102) (lv' := [(0, .inr (.inr (11, 0, 0))), (1, .inl x1), (2, .inl x2), (3, .inl x3)]) (st' := [.inl (r_20 / 40), .inl r_18, .inl 0, .inl x3, .inr (.inr (11, 0, 0))]) (V' := q_V S_21) rfl (by decide) ?_
      refine q_Sim.steps vc_257 1 (pc' := 103) (lv' := [(0, .inr (.inr (11, 0, 0))), (1, .inl x1), (2, .inl x2), (3, .inl x3)]) (st' := [.inl (r_18 - (r_20 / 40)), .inl 0, .inl x3, .inr (.inr (11, 0, 0))]) (V' := q_V S_21) rfl ?_
      refine q_Sim.call vc_257 (as := [.inr (.inr (11, 0, 0)), .inl x3, .inl 0, .inl (r_18 - (r_20 / 40))]) (pc' := 106) (lv' := [(0, .inr (.inr (11, 0, 0))), (1, .inl x1), (2, .inl x2), (3, .inl x3)]) (st' := []) (S := S_21) rfl (rc_191 x3 0 (r_18 - (r_20 / 40))) (s_191 x3 0 (r_18 - (r_20 / 40)) S_21) (fun r_22 S_23 => ?_)
      refine q_Sim.steps vc_257 2 (pc' := 59) (lv' := [(3, .inl (x3 + 1)), (0, .inr (.inr (11, 0, 0))), (1, .inl x1), (2, .inl x2)]) (st' := []) (V' := q_V S_23) rfl ?_
      exact q_Sim.sub2 (lv' := [(0, .inr (.inr (11, 0, 0))), (1, .inl x1), (2, .inl x2), (3, .inl (x3 + 1))]) [0, 1, 2, 3] rfl (by decide) ⟨rfl, rfl, rfl, rfl, trivial⟩ (sb_257_59 back_23 hb_23 n x1 x2 (x3 + 1) S_23)
def b_257_30 (back_23 : Int32 → Int32 → QS → Option ((Int32) × QS)) : Nat → Int32 → Int32 → Int32 → QS → Option ((Int32) × QS)
  | 0, _, _, _, _ => none
  | n + 1, x1, x2, x3, S => q_ck (v_in 2 19520) (q_let (S.1 (40, 0, 0) (2 : Int32).toNatClampNeg) (fun y_8 => if y_8 ≤ x3 then (b_257_59 back_23 q_N x1 x2 0 S) else (q_bd (f_205 16 S) (fun r_24 S_25 => q_bd (f_207 x3 S_25) (fun r_26 S_27 => b_257_30 back_23 n x1 x2 (x3 + 1) S_27)))))
theorem sb_257_30 (back_23 : Int32 → Int32 → QS → Option ((Int32) × QS)) (hb_23 : ∀ (x1 : Int32) (x2 : Int32) (S : QS), q_Sim 257 23 [(0, .inr (.inr (11, 0, 0))), (1, .inl x1), (2, .inl x2)] [] (q_V S) q_I (back_23 x1 x2 S)) : ∀ (n : Nat) (x1 : Int32) (x2 : Int32) (x3 : Int32) (S : QS), q_Sim 257 30 [(0, .inr (.inr (11, 0, 0))), (1, .inl x1), (2, .inl x2), (3, .inl x3)] [] (q_V S) q_I (b_257_30 back_23 n x1 x2 x3 S)
  | 0, _, _, _, _ => q_Sim.none
  | n + 1, x1, x2, x3, S => by
    rw [b_257_30]
    refine q_Sim.steps vc_257 4 (pc' := 36) (lv' := [(0, .inr (.inr (11, 0, 0))), (1, .inl x1), (2, .inl x2), (3, .inl x3)]) (st' := [.inl 2, .inr (.inr (40, 0, 0)), .inl x3]) (V' := q_V S) rfl ?_
    refine q_Sim.ck vc_257 (c := v_in 2 19520) (pc' := 37) (lv' := [(0, .inr (.inr (11, 0, 0))), (1, .inl x1), (2, .inl x2), (3, .inl x3)]) (st' := [.inl (S.1 (40, 0, 0) (2 : Int32).toNatClampNeg), .inl x3]) (V' := q_V S) rfl ?_
    refine q_Sim.letI (fun y_8 => ?_)
    refine q_Sim.br vc_257 (c := y_8 ≤ x3) (t := 57) (f := 40) (lv' := [(0, .inr (.inr (11, 0, 0))), (1, .inl x1), (2, .inl x2), (3, .inl x3)]) (st' := []) (V' := q_V S) rfl ?_ ?_
    · refine q_Sim.steps vc_257 2 (pc' := 59) (lv' := [(3, .inl 0), (0, .inr (.inr (11, 0, 0))), (1, .inl x1), (2, .inl x2)]) (st' := []) (V' := q_V S) rfl ?_
      exact q_Sim.sub2 (lv' := [(0, .inr (.inr (11, 0, 0))), (1, .inl x1), (2, .inl x2), (3, .inl 0)]) [0, 1, 2, 3] rfl (by decide) ⟨rfl, rfl, rfl, rfl, trivial⟩ (sb_257_59 back_23 hb_23 q_N x1 x2 0 S)
    · refine q_Sim.steps vc_257 2 (pc' := 43) (lv' := [(0, .inr (.inr (11, 0, 0))), (1, .inl x1), (2, .inl x2), (3, .inl x3)]) (st' := [.inl 16, .inr (.inr (11, 0, 0))]) (V' := q_V S) rfl ?_
      refine q_Sim.call vc_257 (as := [.inr (.inr (11, 0, 0)), .inl 16]) (pc' := 46) (lv' := [(0, .inr (.inr (11, 0, 0))), (1, .inl x1), (2, .inl x2), (3, .inl x3)]) (st' := []) (S := S) rfl (rc_205 16) (s_205 16 S) (fun r_24 S_25 => ?_)
      refine q_Sim.steps vc_257 2 (pc' := 48) (lv' := [(0, .inr (.inr (11, 0, 0))), (1, .inl x1), (2, .inl x2), (3, .inl x3)]) (st' := [.inl x3, .inr (.inr (11, 0, 0))]) (V' := q_V S_25) rfl ?_
      refine q_Sim.call vc_257 (as := [.inr (.inr (11, 0, 0)), .inl x3]) (pc' := 51) (lv' := [(0, .inr (.inr (11, 0, 0))), (1, .inl x1), (2, .inl x2), (3, .inl x3)]) (st' := []) (S := S_25) rfl (rc_207 x3) (s_207 x3 S_25) (fun r_26 S_27 => ?_)
      refine q_Sim.steps vc_257 2 (pc' := 30) (lv' := [(3, .inl (x3 + 1)), (0, .inr (.inr (11, 0, 0))), (1, .inl x1), (2, .inl x2)]) (st' := []) (V' := q_V S_27) rfl ?_
      exact q_Sim.sub2 (lv' := [(0, .inr (.inr (11, 0, 0))), (1, .inl x1), (2, .inl x2), (3, .inl (x3 + 1))]) [0, 1, 2, 3] rfl (by decide) ⟨rfl, rfl, rfl, rfl, trivial⟩ (sb_257_30 back_23 hb_23 n x1 x2 (x3 + 1) S_27)
def b_257_23 : Nat → Int32 → Int32 → QS → Option ((Int32) × QS)
  | 0, _, _, _ => none
  | n + 1, x1, x2, S => if x1 ≤ x2 then (q_ck (v_in 3 19520) (q_let (S.1 (40, 0, 0) (3 : Int32).toNatClampNeg) (fun y_5 => q_bd (f_187 y_5 S) (fun r_6 S_7 => some (r_6, S_7))))) else (b_257_30 (b_257_23 n) q_N x1 x2 0 S)
theorem sb_257_23 : ∀ (n : Nat) (x1 : Int32) (x2 : Int32) (S : QS), q_Sim 257 23 [(0, .inr (.inr (11, 0, 0))), (1, .inl x1), (2, .inl x2)] [] (q_V S) q_I (b_257_23 n x1 x2 S)
  | 0, _, _, _ => q_Sim.none
  | n + 1, x1, x2, S => by
    rw [b_257_23]
    refine q_Sim.steps vc_257 2 (pc' := 25) (lv' := [(0, .inr (.inr (11, 0, 0))), (1, .inl x1), (2, .inl x2)]) (st' := [.inl x1, .inl x2]) (V' := q_V S) rfl ?_
    refine q_Sim.br vc_257 (c := x1 ≤ x2) (t := 128) (f := 28) (lv' := [(0, .inr (.inr (11, 0, 0))), (1, .inl x1), (2, .inl x2)]) (st' := []) (V' := q_V S) rfl ?_ ?_
    · refine q_Sim.steps vc_257 4 (pc' := 134) (lv' := [(0, .inr (.inr (11, 0, 0))), (1, .inl x1), (2, .inl x2)]) (st' := [.inl 3, .inr (.inr (40, 0, 0)), .inr (.inr (11, 0, 0))]) (V' := q_V S) rfl ?_
      refine q_Sim.ck vc_257 (c := v_in 3 19520) (pc' := 135) (lv' := [(0, .inr (.inr (11, 0, 0))), (1, .inl x1), (2, .inl x2)]) (st' := [.inl (S.1 (40, 0, 0) (3 : Int32).toNatClampNeg), .inr (.inr (11, 0, 0))]) (V' := q_V S) rfl ?_
      refine q_Sim.letI (fun y_5 => ?_)
      refine q_Sim.call vc_257 (as := [.inr (.inr (11, 0, 0)), .inl y_5]) (pc' := 138) (lv' := [(0, .inr (.inr (11, 0, 0))), (1, .inl x1), (2, .inl x2)]) (st' := []) (S := S) rfl (rc_187 y_5) (s_187 y_5 S) (fun r_6 S_7 => ?_)
      exact q_Sim.ret vc_257 rfl
    · refine q_Sim.steps vc_257 2 (pc' := 30) (lv' := [(3, .inl 0), (0, .inr (.inr (11, 0, 0))), (1, .inl x1), (2, .inl x2)]) (st' := []) (V' := q_V S) rfl ?_
      exact q_Sim.sub2 (lv' := [(0, .inr (.inr (11, 0, 0))), (1, .inl x1), (2, .inl x2), (3, .inl 0)]) [0, 1, 2, 3] rfl (by decide) ⟨rfl, rfl, rfl, rfl, trivial⟩ (sb_257_30 (b_257_23 n) (sb_257_23 n) q_N x1 x2 0 S)
def f_257 (x1 : Int32) (S : QS) : Option ((Int32) × QS) := q_bd (f_189 x1 1 30 S) (fun r_1 S_2 => if ¬ r_1 = 0 then (q_bd (f_188  S_2) (fun r_3 S_4 => b_257_23 q_N x1 0 S_4)) else (q_bd (f_186 6 S_2) (fun r_28 S_29 => some (r_28, S_29))))
theorem s_257 (x1 : Int32) (S : QS) : q_Sim 257 0 [(0, .inr (.inr (11, 0, 0))), (1, .inl x1)] [] (q_V S) q_I (f_257 x1 S) := by
  unfold f_257
  refine q_Sim.steps vc_257 3 (pc' := 4) (lv' := [(0, .inr (.inr (11, 0, 0))), (1, .inl x1)]) (st' := [.inl 30, .inl 1, .inl x1]) (V' := q_V S) rfl ?_
  refine q_Sim.call vc_257 (as := [.inl x1, .inl 1, .inl 30]) (pc' := 7) (lv' := [(0, .inr (.inr (11, 0, 0))), (1, .inl x1)]) (st' := []) (S := S) rfl (rc_189 x1 1 30) (s_189 x1 1 30 S) (fun r_1 S_2 => ?_)
  refine q_Sim.br vc_257 (c := ¬ r_1 = 0) (t := 17) (f := 10) (lv' := [(0, .inr (.inr (11, 0, 0))), (1, .inl x1)]) (st' := []) (V' := q_V S_2) rfl ?_ ?_
  · refine q_Sim.steps vc_257 1 (pc' := 18) (lv' := [(0, .inr (.inr (11, 0, 0))), (1, .inl x1)]) (st' := [.inr (.inr (11, 0, 0))]) (V' := q_V S_2) rfl ?_
    refine q_Sim.call vc_257 (as := [.inr (.inr (11, 0, 0))]) (pc' := 21) (lv' := [(0, .inr (.inr (11, 0, 0))), (1, .inl x1)]) (st' := []) (S := S_2) rfl (rc_188 ) (s_188  S_2) (fun r_3 S_4 => ?_)
    refine q_Sim.steps vc_257 2 (pc' := 23) (lv' := [(2, .inl 0), (0, .inr (.inr (11, 0, 0))), (1, .inl x1)]) (st' := []) (V' := q_V S_4) rfl ?_
    exact q_Sim.sub2 (lv' := [(0, .inr (.inr (11, 0, 0))), (1, .inl x1), (2, .inl 0)]) [0, 1, 2] rfl (by decide) ⟨rfl, rfl, rfl, trivial⟩ (sb_257_23 q_N x1 0 S_4)
  · refine q_Sim.steps vc_257 2 (pc' := 13) (lv' := [(0, .inr (.inr (11, 0, 0))), (1, .inl x1)]) (st' := [.inl 6, .inr (.inr (11, 0, 0))]) (V' := q_V S_2) rfl ?_
    refine q_Sim.call vc_257 (as := [.inr (.inr (11, 0, 0)), .inl 6]) (pc' := 16) (lv' := [(0, .inr (.inr (11, 0, 0))), (1, .inl x1)]) (st' := []) (S := S_2) rfl (rc_186 6) (s_186 6 S_2) (fun r_28 S_29 => ?_)
    exact q_Sim.ret vc_257 rfl
theorem vc_258 : v_code 258 = k_258 := rfl
theorem rc_258 (x1 : Int32) (x2 : Int32) : v_rcv 258 [.inr (.inr (11, 0, 0)), .inl x1, .inl x2] = true := rfl
def b_258_126 (x4 : Int32) (S : QS) : Option ((Int32) × QS) := q_bd (f_187 x4 S) (fun r_16 S_17 => some (r_16, S_17))
theorem sb_258_126 (x4 : Int32) (S : QS) : q_Sim 258 126 [(0, .inr (.inr (11, 0, 0))), (4, .inl x4)] [] (q_V S) q_I (b_258_126 x4 S) := by
  unfold b_258_126
  refine q_Sim.steps vc_258 2 (pc' := 129) (lv' := [(0, .inr (.inr (11, 0, 0))), (4, .inl x4)]) (st' := [.inl x4, .inr (.inr (11, 0, 0))]) (V' := q_V S) rfl ?_
  refine q_Sim.call vc_258 (as := [.inr (.inr (11, 0, 0)), .inl x4]) (pc' := 132) (lv' := [(0, .inr (.inr (11, 0, 0))), (4, .inl x4)]) (st' := []) (S := S) rfl (rc_187 x4) (s_187 x4 S) (fun r_16 S_17 => ?_)
  exact q_Sim.ret vc_258 rfl
def b_258_72 (x1 : Int32) (x2 : Int32) (x4 : Int32) (xs0 : Int32) (xs1 : Int32) (S : QS) : Option ((Int32) × QS) := q_ck (decide (¬ xs1 = 0)) (q_let (xs0 / xs1) (fun y_9 => q_bd (f_193 x4 6 y_9 S) (fun r_10 S_11 => q_bd (f_190 x1 0 S_11) (fun r_12 S_13 => q_bd (f_191 x1 0 (r_12 - y_9) S_13) (fun r_14 S_15 => if ¬ x2 = 4 then (b_258_126 x4 S_15) else (q_bd (f_190 x1 3 S_15) (fun r_18 S_19 => q_bd (f_193 x4 7 r_18 S_19) (fun r_20 S_21 => q_bd (f_191 x1 3 (-1) S_21) (fun r_22 S_23 => b_258_126 x4 S_23)))))))))
theorem sb_258_72 (x1 : Int32) (x2 : Int32) (x4 : Int32) (xs0 : Int32) (xs1 : Int32) (S : QS) : q_Sim 258 72 [(0, .inr (.inr (11, 0, 0))), (1, .inl x1), (2, .inl x2), (4, .inl x4)] [.inl xs1, .inl xs0] (q_V S) q_I (b_258_72 x1 x2 x4 xs0 xs1 S) := by
  unfold b_258_72
  refine q_Sim.ck vc_258 (c := decide (¬ xs1 = 0)) (pc' := 73) (lv' := [(0, .inr (.inr (11, 0, 0))), (1, .inl x1), (2, .inl x2), (4, .inl x4)]) (st' := [.inl (xs0 / xs1)]) (V' := q_V S) rfl ?_
  refine q_Sim.letI (fun y_9 => ?_)
  refine q_Sim.steps vc_258 5 (pc' := 82) (lv' := [(5, .inl y_9), (0, .inr (.inr (11, 0, 0))), (1, .inl x1), (2, .inl x2), (4, .inl x4)]) (st' := [.inl y_9, .inl 6, .inl x4, .inr (.inr (11, 0, 0))]) (V' := q_V S) rfl ?_
  refine q_Sim.call vc_258 (as := [.inr (.inr (11, 0, 0)), .inl x4, .inl 6, .inl y_9]) (pc' := 85) (lv' := [(5, .inl y_9), (0, .inr (.inr (11, 0, 0))), (1, .inl x1), (2, .inl x2), (4, .inl x4)]) (st' := []) (S := S) rfl (rc_193 x4 6 y_9) (s_193 x4 6 y_9 S) (fun r_10 S_11 => ?_)
  refine q_Sim.steps vc_258 6 (pc' := 91) (lv' := [(5, .inl y_9), (0, .inr (.inr (11, 0, 0))), (1, .inl x1), (2, .inl x2), (4, .inl x4)]) (st' := [.inl 0, .inl x1, .inr (.inr (11, 0, 0)), .inl 0, .inl x1, .inr (.inr (11, 0, 0))]) (V' := q_V S_11) rfl ?_
  refine q_Sim.call vc_258 (as := [.inr (.inr (11, 0, 0)), .inl x1, .inl 0]) (pc' := 94) (lv' := [(5, .inl y_9), (0, .inr (.inr (11, 0, 0))), (1, .inl x1), (2, .inl x2), (4, .inl x4)]) (st' := [.inl 0, .inl x1, .inr (.inr (11, 0, 0))]) (S := S_11) rfl (rc_190 x1 0) (s_190 x1 0 S_11) (fun r_12 S_13 => ?_)
  refine q_Sim.steps vc_258 2 (pc' := 97) (lv' := [(5, .inl y_9), (0, .inr (.inr (11, 0, 0))), (1, .inl x1), (2, .inl x2), (4, .inl x4)]) (st' := [.inl (r_12 - y_9), .inl 0, .inl x1, .inr (.inr (11, 0, 0))]) (V' := q_V S_13) rfl ?_
  refine q_Sim.call vc_258 (as := [.inr (.inr (11, 0, 0)), .inl x1, .inl 0, .inl (r_12 - y_9)]) (pc' := 100) (lv' := [(5, .inl y_9), (0, .inr (.inr (11, 0, 0))), (1, .inl x1), (2, .inl x2), (4, .inl x4)]) (st' := []) (S := S_13) rfl (rc_191 x1 0 (r_12 - y_9)) (s_191 x1 0 (r_12 - y_9) S_13) (fun r_14 S_15 => ?_)
  refine q_Sim.steps vc_258 2 (pc' := 102) (lv' := [(5, .inl y_9), (0, .inr (.inr (11, 0, 0))), (1, .inl x1), (2, .inl x2), (4, .inl x4)]) (st' := [.inl 4, .inl x2]) (V' := q_V S_15) rfl ?_
  refine q_Sim.br vc_258 (c := ¬ x2 = 4) (t := 126) (f := 105) (lv' := [(5, .inl y_9), (0, .inr (.inr (11, 0, 0))), (1, .inl x1), (2, .inl x2), (4, .inl x4)]) (st' := []) (V' := q_V S_15) rfl ?_ ?_
  · exact q_Sim.sub2 (lv' := [(0, .inr (.inr (11, 0, 0))), (4, .inl x4)]) [0, 4] rfl (by decide) ⟨rfl, rfl, trivial⟩ (sb_258_126 x4 S_15)
  · refine q_Sim.steps vc_258 6 (pc' := 113) (lv' := [(5, .inl y_9), (0, .inr (.inr (11, 0, 0))), (1, .inl x1), (2, .inl x2), (4, .inl x4)]) (st' := [.inl 3, .inl x1, .inr (.inr (11, 0, 0)), .inl 7, .inl x4, .inr (.inr (11, 0, 0))]) (V' := q_V S_15) rfl ?_
    refine q_Sim.call vc_258 (as := [.inr (.inr (11, 0, 0)), .inl x1, .inl 3]) (pc' := 116) (lv' := [(5, .inl y_9), (0, .inr (.inr (11, 0, 0))), (1, .inl x1), (2, .inl x2), (4, .inl x4)]) (st' := [.inl 7, .inl x4, .inr (.inr (11, 0, 0))]) (S := S_15) rfl (rc_190 x1 3) (s_190 x1 3 S_15) (fun r_18 S_19 => ?_)
    refine q_Sim.call vc_258 (as := [.inr (.inr (11, 0, 0)), .inl x4, .inl 7, .inl r_18]) (pc' := 119) (lv' := [(5, .inl y_9), (0, .inr (.inr (11, 0, 0))), (1, .inl x1), (2, .inl x2), (4, .inl x4)]) (st' := []) (S := S_19) rfl (rc_193 x4 7 r_18) (s_193 x4 7 r_18 S_19) (fun r_20 S_21 => ?_)
    refine q_Sim.steps vc_258 4 (pc' := 123) (lv' := [(5, .inl y_9), (0, .inr (.inr (11, 0, 0))), (1, .inl x1), (2, .inl x2), (4, .inl x4)]) (st' := [.inl (-1), .inl 3, .inl x1, .inr (.inr (11, 0, 0))]) (V' := q_V S_21) rfl ?_
    refine q_Sim.call vc_258 (as := [.inr (.inr (11, 0, 0)), .inl x1, .inl 3, .inl (-1)]) (pc' := 126) (lv' := [(5, .inl y_9), (0, .inr (.inr (11, 0, 0))), (1, .inl x1), (2, .inl x2), (4, .inl x4)]) (st' := []) (S := S_21) rfl (rc_191 x1 3 (-1)) (s_191 x1 3 (-1) S_21) (fun r_22 S_23 => ?_)
    exact q_Sim.sub2 (lv' := [(0, .inr (.inr (11, 0, 0))), (4, .inl x4)]) [0, 4] rfl (by decide) ⟨rfl, rfl, trivial⟩ (sb_258_126 x4 S_23)
def b_258_35 (x1 : Int32) (x2 : Int32) (x3 : Int32) (S : QS) : Option ((Int32) × QS) := if x3 ≤ 0 then (q_bd (f_188  S) (fun r_3 S_4 => q_bd (f_235 x2 S_4) (fun r_5 S_6 => q_bd (f_190 x1 0 S_6) (fun r_7 S_8 => if ¬ x2 = 4 then (b_258_72 x1 x2 r_5 r_7 3 S_8) else (b_258_72 x1 x2 r_5 r_7 2 S_8))))) else (q_bd (f_186 x3 S) (fun r_24 S_25 => some (r_24, S_25)))
theorem sb_258_35 (x1 : Int32) (x2 : Int32) (x3 : Int32) (S : QS) : q_Sim 258 35 [(0, .inr (.inr (11, 0, 0))), (1, .inl x1), (2, .inl x2), (3, .inl x3)] [] (q_V S) q_I (b_258_35 x1 x2 x3 S) := by
  unfold b_258_35
  refine q_Sim.steps vc_258 1 (pc' := 36) (lv' := [(0, .inr (.inr (11, 0, 0))), (1, .inl x1), (2, .inl x2), (3, .inl x3)]) (st' := [.inl x3]) (V' := q_V S) rfl ?_
  refine q_Sim.br vc_258 (c := x3 ≤ 0) (t := 45) (f := 39) (lv' := [(0, .inr (.inr (11, 0, 0))), (1, .inl x1), (2, .inl x2), (3, .inl x3)]) (st' := []) (V' := q_V S) rfl ?_ ?_
  · refine q_Sim.steps vc_258 1 (pc' := 46) (lv' := [(0, .inr (.inr (11, 0, 0))), (1, .inl x1), (2, .inl x2), (3, .inl x3)]) (st' := [.inr (.inr (11, 0, 0))]) (V' := q_V S) rfl ?_
    refine q_Sim.call vc_258 (as := [.inr (.inr (11, 0, 0))]) (pc' := 49) (lv' := [(0, .inr (.inr (11, 0, 0))), (1, .inl x1), (2, .inl x2), (3, .inl x3)]) (st' := []) (S := S) rfl (rc_188 ) (s_188  S) (fun r_3 S_4 => ?_)
    refine q_Sim.steps vc_258 2 (pc' := 51) (lv' := [(0, .inr (.inr (11, 0, 0))), (1, .inl x1), (2, .inl x2), (3, .inl x3)]) (st' := [.inl x2, .inr (.inr (11, 0, 0))]) (V' := q_V S_4) rfl ?_
    refine q_Sim.call vc_258 (as := [.inr (.inr (11, 0, 0)), .inl x2]) (pc' := 54) (lv' := [(0, .inr (.inr (11, 0, 0))), (1, .inl x1), (2, .inl x2), (3, .inl x3)]) (st' := []) (S := S_4) rfl (rc_235 x2) (s_235 x2 S_4) (fun r_5 S_6 => ?_)
    refine q_Sim.steps vc_258 4 (pc' := 59) (lv' := [(4, .inl r_5), (0, .inr (.inr (11, 0, 0))), (1, .inl x1), (2, .inl x2), (3, .inl x3)]) (st' := [.inl 0, .inl x1, .inr (.inr (11, 0, 0))]) (V' := q_V S_6) rfl ?_
    refine q_Sim.call vc_258 (as := [.inr (.inr (11, 0, 0)), .inl x1, .inl 0]) (pc' := 62) (lv' := [(4, .inl r_5), (0, .inr (.inr (11, 0, 0))), (1, .inl x1), (2, .inl x2), (3, .inl x3)]) (st' := []) (S := S_6) rfl (rc_190 x1 0) (s_190 x1 0 S_6) (fun r_7 S_8 => ?_)
    refine q_Sim.steps vc_258 2 (pc' := 64) (lv' := [(4, .inl r_5), (0, .inr (.inr (11, 0, 0))), (1, .inl x1), (2, .inl x2), (3, .inl x3)]) (st' := [.inl 4, .inl x2, .inl r_7]) (V' := q_V S_8) rfl ?_
    refine q_Sim.br vc_258 (c := ¬ x2 = 4) (t := 71) (f := 67) (lv' := [(4, .inl r_5), (0, .inr (.inr (11, 0, 0))), (1, .inl x1), (2, .inl x2), (3, .inl x3)]) (st' := [.inl r_7]) (V' := q_V S_8) rfl ?_ ?_
    · refine q_Sim.steps vc_258 1 (pc' := 72) (lv' := [(4, .inl r_5), (0, .inr (.inr (11, 0, 0))), (1, .inl x1), (2, .inl x2), (3, .inl x3)]) (st' := [.inl 3, .inl r_7]) (V' := q_V S_8) rfl ?_
      exact q_Sim.sub2 (lv' := [(0, .inr (.inr (11, 0, 0))), (1, .inl x1), (2, .inl x2), (4, .inl r_5)]) [0, 1, 2, 4] rfl (by decide) ⟨rfl, rfl, rfl, rfl, trivial⟩ (sb_258_72 x1 x2 r_5 r_7 3 S_8)
    · refine q_Sim.steps vc_258 2 (pc' := 72) (lv' := [(4, .inl r_5), (0, .inr (.inr (11, 0, 0))), (1, .inl x1), (2, .inl x2), (3, .inl x3)]) (st' := [.inl 2, .inl r_7]) (V' := q_V S_8) rfl ?_
      exact q_Sim.sub2 (lv' := [(0, .inr (.inr (11, 0, 0))), (1, .inl x1), (2, .inl x2), (4, .inl r_5)]) [0, 1, 2, 4] rfl (by decide) ⟨rfl, rfl, rfl, rfl, trivial⟩ (sb_258_72 x1 x2 r_5 r_7 2 S_8)
  · refine q_Sim.steps vc_258 2 (pc' := 41) (lv' := [(0, .inr (.inr (11, 0, 0))), (1, .inl x1), (2, .inl x2), (3, .inl x3)]) (st' := [.inl x3, .inr (.inr (11, 0, 0))]) (V' := q_V S) rfl ?_
    refine q_Sim.call vc_258 (as := [.inr (.inr (11, 0, 0)), .inl x3]) (pc' := 44) (lv' := [(0, .inr (.inr (11, 0, 0))), (1, .inl x1), (2, .inl x2), (3, .inl x3)]) (st' := []) (S := S) rfl (rc_186 x3) (s_186 x3 S) (fun r_24 S_25 => ?_)
    exact q_Sim.ret vc_258 rfl
def b_258_32 (x1 : Int32) (x2 : Int32) (S : QS) : Option ((Int32) × QS) := b_258_35 x1 x2 6 S
theorem sb_258_32 (x1 : Int32) (x2 : Int32) (S : QS) : q_Sim 258 32 [(0, .inr (.inr (11, 0, 0))), (1, .inl x1), (2, .inl x2)] [] (q_V S) q_I (b_258_32 x1 x2 S) := by
  unfold b_258_32
  refine q_Sim.steps vc_258 2 (pc' := 35) (lv' := [(3, .inl 6), (0, .inr (.inr (11, 0, 0))), (1, .inl x1), (2, .inl x2)]) (st' := []) (V' := q_V S) rfl ?_
  exact q_Sim.sub2 (lv' := [(0, .inr (.inr (11, 0, 0))), (1, .inl x1), (2, .inl x2), (3, .inl 6)]) [0, 1, 2, 3] rfl (by decide) ⟨rfl, rfl, rfl, rfl, trivial⟩ (sb_258_35 x1 x2 6 S)
def b_258_20 (x1 : Int32) (x2 : Int32) (x3 : Int32) (S : QS) : Option ((Int32) × QS) := q_ck (v_in 2 19520) (q_let (S.1 (40, 0, 0) (2 : Int32).toNatClampNeg) (fun y_26 => if ¬ y_26 = 200 then (b_258_35 x1 x2 x3 S) else (b_258_32 x1 x2 S)))
theorem sb_258_20 (x1 : Int32) (x2 : Int32) (x3 : Int32) (S : QS) : q_Sim 258 20 [(0, .inr (.inr (11, 0, 0))), (1, .inl x1), (2, .inl x2), (3, .inl x3)] [] (q_V S) q_I (b_258_20 x1 x2 x3 S) := by
  unfold b_258_20
  refine q_Sim.steps vc_258 3 (pc' := 25) (lv' := [(0, .inr (.inr (11, 0, 0))), (1, .inl x1), (2, .inl x2), (3, .inl x3)]) (st' := [.inl 2, .inr (.inr (40, 0, 0))]) (V' := q_V S) rfl ?_
  refine q_Sim.ck vc_258 (c := v_in 2 19520) (pc' := 26) (lv' := [(0, .inr (.inr (11, 0, 0))), (1, .inl x1), (2, .inl x2), (3, .inl x3)]) (st' := [.inl (S.1 (40, 0, 0) (2 : Int32).toNatClampNeg)]) (V' := q_V S) rfl ?_
  refine q_Sim.letI (fun y_26 => ?_)
  refine q_Sim.steps vc_258 1 (pc' := 29) (lv' := [(0, .inr (.inr (11, 0, 0))), (1, .inl x1), (2, .inl x2), (3, .inl x3)]) (st' := [.inl 200, .inl y_26]) (V' := q_V S) rfl ?_
  refine q_Sim.br vc_258 (c := ¬ y_26 = 200) (t := 35) (f := 32) (lv' := [(0, .inr (.inr (11, 0, 0))), (1, .inl x1), (2, .inl x2), (3, .inl x3)]) (st' := []) (V' := q_V S) rfl ?_ ?_
  · exact q_Sim.sub2 (lv' := [(0, .inr (.inr (11, 0, 0))), (1, .inl x1), (2, .inl x2), (3, .inl x3)]) [0, 1, 2, 3] rfl (by decide) ⟨rfl, rfl, rfl, rfl, trivial⟩ (sb_258_35 x1 x2 x3 S)
  · exact q_Sim.sub2 (lv' := [(0, .inr (.inr (11, 0, 0))), (1, .inl x1), (2, .inl x2)]) [0, 1, 2] rfl (by decide) ⟨rfl, rfl, rfl, trivial⟩ (sb_258_32 x1 x2 S)
def f_258 (x1 : Int32) (x2 : Int32) (S : QS) : Option ((Int32) × QS) := q_bd (f_198 x1 S) (fun r_1 S_2 => if ¬ r_1 = 0 then (b_258_35 x1 x2 r_1 S_2) else (if x2 = 4 then (b_258_20 x1 x2 r_1 S_2) else (if ¬ x2 = 5 then (b_258_32 x1 x2 S_2) else (b_258_20 x1 x2 r_1 S_2))))
theorem s_258 (x1 : Int32) (x2 : Int32) (S : QS) : q_Sim 258 0 [(0, .inr (.inr (11, 0, 0))), (1, .inl x1), (2, .inl x2)] [] (q_V S) q_I (f_258 x1 x2 S) := by
  unfold f_258
  refine q_Sim.steps vc_258 2 (pc' := 2) (lv' := [(0, .inr (.inr (11, 0, 0))), (1, .inl x1), (2, .inl x2)]) (st' := [.inl x1, .inr (.inr (11, 0, 0))]) (V' := q_V S) rfl ?_
  refine q_Sim.call vc_258 (as := [.inr (.inr (11, 0, 0)), .inl x1]) (pc' := 5) (lv' := [(0, .inr (.inr (11, 0, 0))), (1, .inl x1), (2, .inl x2)]) (st' := []) (S := S) rfl (rc_198 x1) (s_198 x1 S) (fun r_1 S_2 => ?_)
  refine q_Sim.steps vc_258 2 (pc' := 7) (lv' := [(3, .inl r_1), (0, .inr (.inr (11, 0, 0))), (1, .inl x1), (2, .inl x2)]) (st' := [.inl r_1]) (V' := q_V S_2) rfl ?_
  refine q_Sim.br vc_258 (c := ¬ r_1 = 0) (t := 35) (f := 10) (lv' := [(3, .inl r_1), (0, .inr (.inr (11, 0, 0))), (1, .inl x1), (2, .inl x2)]) (st' := []) (V' := q_V S_2) rfl ?_ ?_
  · exact q_Sim.sub2 (lv' := [(0, .inr (.inr (11, 0, 0))), (1, .inl x1), (2, .inl x2), (3, .inl r_1)]) [0, 1, 2, 3] rfl (by decide) ⟨rfl, rfl, rfl, rfl, trivial⟩ (sb_258_35 x1 x2 r_1 S_2)
  · refine q_Sim.steps vc_258 2 (pc' := 12) (lv' := [(3, .inl r_1), (0, .inr (.inr (11, 0, 0))), (1, .inl x1), (2, .inl x2)]) (st' := [.inl 4, .inl x2]) (V' := q_V S_2) rfl ?_
    refine q_Sim.br vc_258 (c := x2 = 4) (t := 20) (f := 15) (lv' := [(3, .inl r_1), (0, .inr (.inr (11, 0, 0))), (1, .inl x1), (2, .inl x2)]) (st' := []) (V' := q_V S_2) rfl ?_ ?_
    · exact q_Sim.sub2 (lv' := [(0, .inr (.inr (11, 0, 0))), (1, .inl x1), (2, .inl x2), (3, .inl r_1)]) [0, 1, 2, 3] rfl (by decide) ⟨rfl, rfl, rfl, rfl, trivial⟩ (sb_258_20 x1 x2 r_1 S_2)
    · refine q_Sim.steps vc_258 2 (pc' := 17) (lv' := [(3, .inl r_1), (0, .inr (.inr (11, 0, 0))), (1, .inl x1), (2, .inl x2)]) (st' := [.inl 5, .inl x2]) (V' := q_V S_2) rfl ?_
      refine q_Sim.br vc_258 (c := ¬ x2 = 5) (t := 32) (f := 20) (lv' := [(3, .inl r_1), (0, .inr (.inr (11, 0, 0))), (1, .inl x1), (2, .inl x2)]) (st' := []) (V' := q_V S_2) rfl ?_ ?_
      · exact q_Sim.sub2 (lv' := [(0, .inr (.inr (11, 0, 0))), (1, .inl x1), (2, .inl x2)]) [0, 1, 2] rfl (by decide) ⟨rfl, rfl, rfl, trivial⟩ (sb_258_32 x1 x2 S_2)
      · exact q_Sim.sub2 (lv' := [(0, .inr (.inr (11, 0, 0))), (1, .inl x1), (2, .inl x2), (3, .inl r_1)]) [0, 1, 2, 3] rfl (by decide) ⟨rfl, rfl, rfl, rfl, trivial⟩ (sb_258_20 x1 x2 r_1 S_2)
theorem vc_259 : v_code 259 = k_259 := rfl
theorem rc_259 (x1 : Int32) (x2 : Int32) : v_rcv 259 [.inr (.inr (11, 0, 0)), .inl x1, .inl x2] = true := rfl
def b_259_98 (x1 : Int32) (x4 : Int32) (S : QS) : Option ((Int32) × QS) := q_bd (f_193 x1 7 (-1) S) (fun r_15 S_16 => q_bd (f_187 x4 S_16) (fun r_17 S_18 => some (r_17, S_18)))
theorem sb_259_98 (x1 : Int32) (x4 : Int32) (S : QS) : q_Sim 259 98 [(0, .inr (.inr (11, 0, 0))), (1, .inl x1), (4, .inl x4)] [] (q_V S) q_I (b_259_98 x1 x4 S) := by
  unfold b_259_98
  refine q_Sim.steps vc_259 4 (pc' := 103) (lv' := [(0, .inr (.inr (11, 0, 0))), (1, .inl x1), (4, .inl x4)]) (st' := [.inl (-1), .inl 7, .inl x1, .inr (.inr (11, 0, 0))]) (V' := q_V S) rfl ?_
  refine q_Sim.call vc_259 (as := [.inr (.inr (11, 0, 0)), .inl x1, .inl 7, .inl (-1)]) (pc' := 106) (lv' := [(0, .inr (.inr (11, 0, 0))), (1, .inl x1), (4, .inl x4)]) (st' := []) (S := S) rfl (rc_193 x1 7 (-1)) (s_193 x1 7 (-1) S) (fun r_15 S_16 => ?_)
  refine q_Sim.steps vc_259 2 (pc' := 109) (lv' := [(0, .inr (.inr (11, 0, 0))), (1, .inl x1), (4, .inl x4)]) (st' := [.inl x4, .inr (.inr (11, 0, 0))]) (V' := q_V S_16) rfl ?_
  refine q_Sim.call vc_259 (as := [.inr (.inr (11, 0, 0)), .inl x4]) (pc' := 112) (lv' := [(0, .inr (.inr (11, 0, 0))), (1, .inl x1), (4, .inl x4)]) (st' := []) (S := S_16) rfl (rc_187 x4) (s_187 x4 S_16) (fun r_17 S_18 => ?_)
  exact q_Sim.ret vc_259 rfl
def b_259_32 (x1 : Int32) (x2 : Int32) (x3 : Int32) (S : QS) : Option ((Int32) × QS) := if x3 ≤ 0 then (q_bd (f_188  S) (fun r_3 S_4 => q_bd (f_208 x1 S_4) (fun r_5 S_6 => q_bd (f_190 x2 0 S_6) (fun r_7 S_8 => q_bd (f_191 x2 0 (r_7 + r_5) S_8) (fun r_9 S_10 => q_bd (f_193 x1 6 0 S_10) (fun r_11 S_12 => q_bd (f_190 x2 3 S_12) (fun r_13 S_14 => if 0 ≤ r_13 then (b_259_98 x1 r_5 S_14) else (q_bd (f_192 x1 7 S_14) (fun r_19 S_20 => q_bd (f_191 x2 3 r_19 S_20) (fun r_21 S_22 => b_259_98 x1 r_5 S_22)))))))))) else (q_bd (f_186 x3 S) (fun r_23 S_24 => some (r_23, S_24)))
theorem sb_259_32 (x1 : Int32) (x2 : Int32) (x3 : Int32) (S : QS) : q_Sim 259 32 [(0, .inr (.inr (11, 0, 0))), (1, .inl x1), (2, .inl x2), (3, .inl x3)] [] (q_V S) q_I (b_259_32 x1 x2 x3 S) := by
  unfold b_259_32
  refine q_Sim.steps vc_259 1 (pc' := 33) (lv' := [(0, .inr (.inr (11, 0, 0))), (1, .inl x1), (2, .inl x2), (3, .inl x3)]) (st' := [.inl x3]) (V' := q_V S) rfl ?_
  refine q_Sim.br vc_259 (c := x3 ≤ 0) (t := 42) (f := 36) (lv' := [(0, .inr (.inr (11, 0, 0))), (1, .inl x1), (2, .inl x2), (3, .inl x3)]) (st' := []) (V' := q_V S) rfl ?_ ?_
  · refine q_Sim.steps vc_259 1 (pc' := 43) (lv' := [(0, .inr (.inr (11, 0, 0))), (1, .inl x1), (2, .inl x2), (3, .inl x3)]) (st' := [.inr (.inr (11, 0, 0))]) (V' := q_V S) rfl ?_
    refine q_Sim.call vc_259 (as := [.inr (.inr (11, 0, 0))]) (pc' := 46) (lv' := [(0, .inr (.inr (11, 0, 0))), (1, .inl x1), (2, .inl x2), (3, .inl x3)]) (st' := []) (S := S) rfl (rc_188 ) (s_188  S) (fun r_3 S_4 => ?_)
    refine q_Sim.steps vc_259 2 (pc' := 48) (lv' := [(0, .inr (.inr (11, 0, 0))), (1, .inl x1), (2, .inl x2), (3, .inl x3)]) (st' := [.inl x1, .inr (.inr (11, 0, 0))]) (V' := q_V S_4) rfl ?_
    refine q_Sim.call vc_259 (as := [.inr (.inr (11, 0, 0)), .inl x1]) (pc' := 51) (lv' := [(0, .inr (.inr (11, 0, 0))), (1, .inl x1), (2, .inl x2), (3, .inl x3)]) (st' := []) (S := S_4) rfl (rc_208 x1) (s_208 x1 S_4) (fun r_5 S_6 => ?_)
    refine q_Sim.steps vc_259 7 (pc' := 59) (lv' := [(4, .inl r_5), (0, .inr (.inr (11, 0, 0))), (1, .inl x1), (2, .inl x2), (3, .inl x3)]) (st' := [.inl 0, .inl x2, .inr (.inr (11, 0, 0)), .inl 0, .inl x2, .inr (.inr (11, 0, 0))]) (V' := q_V S_6) rfl ?_
    refine q_Sim.call vc_259 (as := [.inr (.inr (11, 0, 0)), .inl x2, .inl 0]) (pc' := 62) (lv' := [(4, .inl r_5), (0, .inr (.inr (11, 0, 0))), (1, .inl x1), (2, .inl x2), (3, .inl x3)]) (st' := [.inl 0, .inl x2, .inr (.inr (11, 0, 0))]) (S := S_6) rfl (rc_190 x2 0) (s_190 x2 0 S_6) (fun r_7 S_8 => ?_)
    refine q_Sim.steps vc_259 2 (pc' := 65) (lv' := [(4, .inl r_5), (0, .inr (.inr (11, 0, 0))), (1, .inl x1), (2, .inl x2), (3, .inl x3)]) (st' := [.inl (r_7 + r_5), .inl 0, .inl x2, .inr (.inr (11, 0, 0))]) (V' := q_V S_8) rfl ?_
    refine q_Sim.call vc_259 (as := [.inr (.inr (11, 0, 0)), .inl x2, .inl 0, .inl (r_7 + r_5)]) (pc' := 68) (lv' := [(4, .inl r_5), (0, .inr (.inr (11, 0, 0))), (1, .inl x1), (2, .inl x2), (3, .inl x3)]) (st' := []) (S := S_8) rfl (rc_191 x2 0 (r_7 + r_5)) (s_191 x2 0 (r_7 + r_5) S_8) (fun r_9 S_10 => ?_)
    refine q_Sim.steps vc_259 4 (pc' := 73) (lv' := [(4, .inl r_5), (0, .inr (.inr (11, 0, 0))), (1, .inl x1), (2, .inl x2), (3, .inl x3)]) (st' := [.inl 0, .inl 6, .inl x1, .inr (.inr (11, 0, 0))]) (V' := q_V S_10) rfl ?_
    refine q_Sim.call vc_259 (as := [.inr (.inr (11, 0, 0)), .inl x1, .inl 6, .inl 0]) (pc' := 76) (lv' := [(4, .inl r_5), (0, .inr (.inr (11, 0, 0))), (1, .inl x1), (2, .inl x2), (3, .inl x3)]) (st' := []) (S := S_10) rfl (rc_193 x1 6 0) (s_193 x1 6 0 S_10) (fun r_11 S_12 => ?_)
    refine q_Sim.steps vc_259 3 (pc' := 79) (lv' := [(4, .inl r_5), (0, .inr (.inr (11, 0, 0))), (1, .inl x1), (2, .inl x2), (3, .inl x3)]) (st' := [.inl 3, .inl x2, .inr (.inr (11, 0, 0))]) (V' := q_V S_12) rfl ?_
    refine q_Sim.call vc_259 (as := [.inr (.inr (11, 0, 0)), .inl x2, .inl 3]) (pc' := 82) (lv' := [(4, .inl r_5), (0, .inr (.inr (11, 0, 0))), (1, .inl x1), (2, .inl x2), (3, .inl x3)]) (st' := []) (S := S_12) rfl (rc_190 x2 3) (s_190 x2 3 S_12) (fun r_13 S_14 => ?_)
    refine q_Sim.br vc_259 (c := 0 ≤ r_13) (t := 98) (f := 85) (lv' := [(4, .inl r_5), (0, .inr (.inr (11, 0, 0))), (1, .inl x1), (2, .inl x2), (3, .inl x3)]) (st' := []) (V' := q_V S_14) rfl ?_ ?_
    · exact q_Sim.sub2 (lv' := [(0, .inr (.inr (11, 0, 0))), (1, .inl x1), (4, .inl r_5)]) [0, 1, 4] rfl (by decide) ⟨rfl, rfl, rfl, trivial⟩ (sb_259_98 x1 r_5 S_14)
    · refine q_Sim.steps vc_259 6 (pc' := 92) (lv' := [(4, .inl r_5), (0, .inr (.inr (11, 0, 0))), (1, .inl x1), (2, .inl x2), (3, .inl x3)]) (st' := [.inl 7, .inl x1, .inr (.inr (11, 0, 0)), .inl 3, .inl x2, .inr (.inr (11, 0, 0))]) (V' := q_V S_14) rfl ?_
      refine q_Sim.call vc_259 (as := [.inr (.inr (11, 0, 0)), .inl x1, .inl 7]) (pc' := 95) (lv' := [(4, .inl r_5), (0, .inr (.inr (11, 0, 0))), (1, .inl x1), (2, .inl x2), (3, .inl x3)]) (st' := [.inl 3, .inl x2, .inr (.inr (11, 0, 0))]) (S := S_14) rfl (rc_192 x1 7) (s_192 x1 7 S_14) (fun r_19 S_20 => ?_)
      refine q_Sim.call vc_259 (as := [.inr (.inr (11, 0, 0)), .inl x2, .inl 3, .inl r_19]) (pc' := 98) (lv' := [(4, .inl r_5), (0, .inr (.inr (11, 0, 0))), (1, .inl x1), (2, .inl x2), (3, .inl x3)]) (st' := []) (S := S_20) rfl (rc_191 x2 3 r_19) (s_191 x2 3 r_19 S_20) (fun r_21 S_22 => ?_)
      exact q_Sim.sub2 (lv' := [(0, .inr (.inr (11, 0, 0))), (1, .inl x1), (4, .inl r_5)]) [0, 1, 4] rfl (by decide) ⟨rfl, rfl, rfl, trivial⟩ (sb_259_98 x1 r_5 S_22)
  · refine q_Sim.steps vc_259 2 (pc' := 38) (lv' := [(0, .inr (.inr (11, 0, 0))), (1, .inl x1), (2, .inl x2), (3, .inl x3)]) (st' := [.inl x3, .inr (.inr (11, 0, 0))]) (V' := q_V S) rfl ?_
    refine q_Sim.call vc_259 (as := [.inr (.inr (11, 0, 0)), .inl x3]) (pc' := 41) (lv' := [(0, .inr (.inr (11, 0, 0))), (1, .inl x1), (2, .inl x2), (3, .inl x3)]) (st' := []) (S := S) rfl (rc_186 x3) (s_186 x3 S) (fun r_23 S_24 => ?_)
    exact q_Sim.ret vc_259 rfl
def b_259_22 (x1 : Int32) (x2 : Int32) (x3 : Int32) (S : QS) : Option ((Int32) × QS) := if ¬ x3 = 0 then (b_259_32 x1 x2 x3 S) else (q_bd (f_198 x2 S) (fun r_25 S_26 => b_259_32 x1 x2 r_25 S_26))
theorem sb_259_22 (x1 : Int32) (x2 : Int32) (x3 : Int32) (S : QS) : q_Sim 259 22 [(0, .inr (.inr (11, 0, 0))), (1, .inl x1), (2, .inl x2), (3, .inl x3)] [] (q_V S) q_I (b_259_22 x1 x2 x3 S) := by
  unfold b_259_22
  refine q_Sim.steps vc_259 1 (pc' := 23) (lv' := [(0, .inr (.inr (11, 0, 0))), (1, .inl x1), (2, .inl x2), (3, .inl x3)]) (st' := [.inl x3]) (V' := q_V S) rfl ?_
  refine q_Sim.br vc_259 (c := ¬ x3 = 0) (t := 32) (f := 26) (lv' := [(0, .inr (.inr (11, 0, 0))), (1, .inl x1), (2, .inl x2), (3, .inl x3)]) (st' := []) (V' := q_V S) rfl ?_ ?_
  · exact q_Sim.sub2 (lv' := [(0, .inr (.inr (11, 0, 0))), (1, .inl x1), (2, .inl x2), (3, .inl x3)]) [0, 1, 2, 3] rfl (by decide) ⟨rfl, rfl, rfl, rfl, trivial⟩ (sb_259_32 x1 x2 x3 S)
  · refine q_Sim.steps vc_259 2 (pc' := 28) (lv' := [(0, .inr (.inr (11, 0, 0))), (1, .inl x1), (2, .inl x2), (3, .inl x3)]) (st' := [.inl x2, .inr (.inr (11, 0, 0))]) (V' := q_V S) rfl ?_
    refine q_Sim.call vc_259 (as := [.inr (.inr (11, 0, 0)), .inl x2]) (pc' := 31) (lv' := [(0, .inr (.inr (11, 0, 0))), (1, .inl x1), (2, .inl x2), (3, .inl x3)]) (st' := []) (S := S) rfl (rc_198 x2) (s_198 x2 S) (fun r_25 S_26 => ?_)
    refine q_Sim.steps vc_259 1 (pc' := 32) (lv' := [(3, .inl r_25), (0, .inr (.inr (11, 0, 0))), (1, .inl x1), (2, .inl x2)]) (st' := []) (V' := q_V S_26) rfl ?_
    exact q_Sim.sub2 (lv' := [(0, .inr (.inr (11, 0, 0))), (1, .inl x1), (2, .inl x2), (3, .inl r_25)]) [0, 1, 2, 3] rfl (by decide) ⟨rfl, rfl, rfl, rfl, trivial⟩ (sb_259_32 x1 x2 r_25 S_26)
def f_259 (x1 : Int32) (x2 : Int32) (S : QS) : Option ((Int32) × QS) := q_bd (f_199 x1 S) (fun r_1 S_2 => if ¬ r_1 = 0 then (b_259_22 x1 x2 r_1 S_2) else (q_bd (f_192 x1 0 S_2) (fun r_27 S_28 => if 4 ≤ r_27 then (b_259_22 x1 x2 r_1 S_28) else (b_259_22 x1 x2 3 S_28))))
theorem s_259 (x1 : Int32) (x2 : Int32) (S : QS) : q_Sim 259 0 [(0, .inr (.inr (11, 0, 0))), (1, .inl x1), (2, .inl x2)] [] (q_V S) q_I (f_259 x1 x2 S) := by
  unfold f_259
  refine q_Sim.steps vc_259 2 (pc' := 2) (lv' := [(0, .inr (.inr (11, 0, 0))), (1, .inl x1), (2, .inl x2)]) (st' := [.inl x1, .inr (.inr (11, 0, 0))]) (V' := q_V S) rfl ?_
  refine q_Sim.call vc_259 (as := [.inr (.inr (11, 0, 0)), .inl x1]) (pc' := 5) (lv' := [(0, .inr (.inr (11, 0, 0))), (1, .inl x1), (2, .inl x2)]) (st' := []) (S := S) rfl (rc_199 x1) (s_199 x1 S) (fun r_1 S_2 => ?_)
  refine q_Sim.steps vc_259 2 (pc' := 7) (lv' := [(3, .inl r_1), (0, .inr (.inr (11, 0, 0))), (1, .inl x1), (2, .inl x2)]) (st' := [.inl r_1]) (V' := q_V S_2) rfl ?_
  refine q_Sim.br vc_259 (c := ¬ r_1 = 0) (t := 22) (f := 10) (lv' := [(3, .inl r_1), (0, .inr (.inr (11, 0, 0))), (1, .inl x1), (2, .inl x2)]) (st' := []) (V' := q_V S_2) rfl ?_ ?_
  · exact q_Sim.sub2 (lv' := [(0, .inr (.inr (11, 0, 0))), (1, .inl x1), (2, .inl x2), (3, .inl r_1)]) [0, 1, 2, 3] rfl (by decide) ⟨rfl, rfl, rfl, rfl, trivial⟩ (sb_259_22 x1 x2 r_1 S_2)
  · refine q_Sim.steps vc_259 3 (pc' := 13) (lv' := [(3, .inl r_1), (0, .inr (.inr (11, 0, 0))), (1, .inl x1), (2, .inl x2)]) (st' := [.inl 0, .inl x1, .inr (.inr (11, 0, 0))]) (V' := q_V S_2) rfl ?_
    refine q_Sim.call vc_259 (as := [.inr (.inr (11, 0, 0)), .inl x1, .inl 0]) (pc' := 16) (lv' := [(3, .inl r_1), (0, .inr (.inr (11, 0, 0))), (1, .inl x1), (2, .inl x2)]) (st' := []) (S := S_2) rfl (rc_192 x1 0) (s_192 x1 0 S_2) (fun r_27 S_28 => ?_)
    refine q_Sim.steps vc_259 1 (pc' := 17) (lv' := [(3, .inl r_1), (0, .inr (.inr (11, 0, 0))), (1, .inl x1), (2, .inl x2)]) (st' := [.inl 4, .inl r_27]) (V' := q_V S_28) rfl ?_
    refine q_Sim.br vc_259 (c := 4 ≤ r_27) (t := 22) (f := 20) (lv' := [(3, .inl r_1), (0, .inr (.inr (11, 0, 0))), (1, .inl x1), (2, .inl x2)]) (st' := []) (V' := q_V S_28) rfl ?_ ?_
    · exact q_Sim.sub2 (lv' := [(0, .inr (.inr (11, 0, 0))), (1, .inl x1), (2, .inl x2), (3, .inl r_1)]) [0, 1, 2, 3] rfl (by decide) ⟨rfl, rfl, rfl, rfl, trivial⟩ (sb_259_22 x1 x2 r_1 S_28)
    · refine q_Sim.steps vc_259 2 (pc' := 22) (lv' := [(3, .inl 3), (0, .inr (.inr (11, 0, 0))), (1, .inl x1), (2, .inl x2)]) (st' := []) (V' := q_V S_28) rfl ?_
      exact q_Sim.sub2 (lv' := [(0, .inr (.inr (11, 0, 0))), (1, .inl x1), (2, .inl x2), (3, .inl 3)]) [0, 1, 2, 3] rfl (by decide) ⟨rfl, rfl, rfl, rfl, trivial⟩ (sb_259_22 x1 x2 3 S_28)
