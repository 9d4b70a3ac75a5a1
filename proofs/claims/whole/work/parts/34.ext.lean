/-! ===== the code as functions, by program ===== -/
theorem vc_139 : v_code 139 = k_139 := rfl
theorem rc_139  : v_rcv 139 [.inr (.inr (10, 0, 0))] = true := rfl
def f_139  (S : QS) : Option ((Int32) × QS) := some (S.1 (10, 0, 0) 4, S)
theorem s_139  (S : QS) : q_Sim 139 0 [(0, .inr (.inr (10, 0, 0)))] [] (q_V S) q_I (f_139  S) := by
  unfold f_139
  refine q_Sim.steps vc_139 2 (pc' := 4) (lv' := [(0, .inr (.inr (10, 0, 0)))]) (st' := [.inl (S.1 (10, 0, 0) 4)]) (V' := q_V S) rfl ?_
  exact q_Sim.ret vc_139 rfl
theorem vc_173 : v_code 173 = k_173 := rfl
theorem rc_173 (x1 : Int32) (x2 : Int32) : v_rcv 173 [.inr (.inr (10, 0, 0)), .inl x1, .inl x2] = true := rfl
def f_173 (x1 : Int32) (x2 : Int32) (S : QS) : Option ((Int32) × QS) := q_bd (f_172 x1 S) (fun r_1 S_2 => if r_1 = 0 then (q_bd (f_172 x2 S_2) (fun r_3 S_4 => some (r_3, S_4))) else (some (r_1, S_2)))
theorem s_173 (x1 : Int32) (x2 : Int32) (S : QS) : q_Sim 173 0 [(0, .inr (.inr (10, 0, 0))), (1, .inl x1), (2, .inl x2)] [] (q_V S) q_I (f_173 x1 x2 S) := by
  unfold f_173
  refine q_Sim.steps vc_173 2 (pc' := 2) (lv' := [(0, .inr (.inr (10, 0, 0))), (1, .inl x1), (2, .inl x2)]) (st' := [.inl x1, .inr (.inr (10, 0, 0))]) (V' := q_V S) rfl ?_
  refine q_Sim.call vc_173 (as := [.inr (.inr (10, 0, 0)), .inl x1]) (pc' := 5) (lv' := [(0, .inr (.inr (10, 0, 0))), (1, .inl x1), (2, .inl x2)]) (st' := []) (S := S) rfl (rc_172 x1) (s_172 x1 S) (fun r_1 S_2 => ?_)
  refine q_Sim.steps vc_173 2 (pc' := 7) (lv' := [(3, .inl r_1), (0, .inr (.inr (10, 0, 0))), (1, .inl x1), (2, .inl x2)]) (st' := [.inl r_1]) (V' := q_V S_2) rfl ?_
  refine q_Sim.br vc_173 (c := r_1 = 0) (t := 14) (f := 10) (lv' := [(3, .inl r_1), (0, .inr (.inr (10, 0, 0))), (1, .inl x1), (2, .inl x2)]) (st' := []) (V' := q_V S_2) rfl ?_ ?_
  · refine q_Sim.steps vc_173 2 (pc' := 16) (lv' := [(3, .inl r_1), (0, .inr (.inr (10, 0, 0))), (1, .inl x1), (2, .inl x2)]) (st' := [.inl x2, .inr (.inr (10, 0, 0))]) (V' := q_V S_2) rfl ?_
    refine q_Sim.call vc_173 (as := [.inr (.inr (10, 0, 0)), .inl x2]) (pc' := 19) (lv' := [(3, .inl r_1), (0, .inr (.inr (10, 0, 0))), (1, .inl x1), (2, .inl x2)]) (st' := []) (S := S_2) rfl (rc_172 x2) (s_172 x2 S_2) (fun r_3 S_4 => ?_)
    exact q_Sim.ret vc_173 rfl
  · refine q_Sim.steps vc_173 2 (pc' := 19) (lv' := [(3, .inl r_1), (0, .inr (.inr (10, 0, 0))), (1, .inl x1), (2, .inl x2)]) (st' := [.inl r_1]) (V' := q_V S_2) rfl ?_
    exact q_Sim.ret vc_173 rfl
theorem vc_140 : v_code 140 = k_140 := rfl
theorem rc_140 (x1 : Int32) (x2 : Int32) : v_rcv 140 [.inr (.inr (10, 0, 0)), .inl x1, .inl x2] = true := rfl
def b_140_66  (S : QS) : Option ((Int32) × QS) := q_bd (f_170 6 S) (fun r_7 S_8 => some (r_7, S_8))
theorem sb_140_66  (S : QS) : q_Sim 140 66 [(0, .inr (.inr (10, 0, 0)))] [] (q_V S) q_I (b_140_66  S) := by
  unfold b_140_66
  refine q_Sim.steps vc_140 2 (pc' := 69) (lv' := [(0, .inr (.inr (10, 0, 0)))]) (st' := [.inl 6, .inr (.inr (10, 0, 0))]) (V' := q_V S) rfl ?_
  refine q_Sim.call vc_140 (as := [.inr (.inr (10, 0, 0)), .inl 6]) (pc' := 72) (lv' := [(0, .inr (.inr (10, 0, 0)))]) (st' := []) (S := S) rfl (rc_170 6) (s_170 6 S) (fun r_7 S_8 => ?_)
  exact q_Sim.ret vc_140 rfl
def f_140 (x1 : Int32) (x2 : Int32) (S : QS) : Option ((Int32) × QS) := q_bd (f_173 x1 x2 S) (fun r_1 S_2 => if r_1 = 0 then (q_bd (f_91 S_2.2.2.1.1 x1 S_2) (fun r_3 S_4 => q_bd (f_91 S_4.2.2.1.1 x2 S_4) (fun r_5 S_6 => if ¬ (S_6.1 (4, r_3.1, r_3.2) 1) = 0 then (if x1 = x2 then (b_140_66  S_6) else (if (S_6.1 (4, r_5.1, r_5.2) 1) < 8 then (q_bd (f_171  S_6) (fun r_9 S_10 => q_bd (f_47 r_5.1 r_5.2 r_3.1 r_3.2 ((S_10.1 (4, r_3.1, r_3.2) 1) - 1) S_10) (fun r_11 S_12 => q_bd (f_169 ((S_12.1 (4, r_5.1, r_5.2) 1) - 1) S_12) (fun r_13 S_14 => some (r_13, S_14))))) else (b_140_66  S_6))) else (q_bd (f_170 2 S_6) (fun r_15 S_16 => some (r_15, S_16)))))) else (q_bd (f_170 r_1 S_2) (fun r_17 S_18 => some (r_17, S_18))))
theorem s_140 (x1 : Int32) (x2 : Int32) (S : QS) : q_Sim 140 0 [(0, .inr (.inr (10, 0, 0))), (1, .inl x1), (2, .inl x2)] [] (q_V S) q_I (f_140 x1 x2 S) := by
  unfold f_140
  refine q_Sim.steps vc_140 3 (pc' := 3) (lv' := [(0, .inr (.inr (10, 0, 0))), (1, .inl x1), (2, .inl x2)]) (st' := [.inl x2, .inl x1, .inr (.inr (10, 0, 0))]) (V' := q_V S) rfl ?_
  refine q_Sim.call vc_140 (as := [.inr (.inr (10, 0, 0)), .inl x1, .inl x2]) (pc' := 6) (lv' := [(0, .inr (.inr (10, 0, 0))), (1, .inl x1), (2, .inl x2)]) (st' := []) (S := S) rfl (rc_173 x1 x2) (s_173 x1 x2 S) (fun r_1 S_2 => ?_)
  refine q_Sim.steps vc_140 2 (pc' := 8) (lv' := [(3, .inl r_1), (0, .inr (.inr (10, 0, 0))), (1, .inl x1), (2, .inl x2)]) (st' := [.inl r_1]) (V' := q_V S_2) rfl ?_
  refine q_Sim.br vc_140 (c := r_1 = 0) (t := 17) (f := 11) (lv' := [(3, .inl r_1), (0, .inr (.inr (10, 0, 0))), (1, .inl x1), (2, .inl x2)]) (st' := []) (V' := q_V S_2) rfl ?_ ?_
  · refine q_Sim.steps vc_140 3 (pc' := 22) (lv' := [(3, .inl r_1), (0, .inr (.inr (10, 0, 0))), (1, .inl x1), (2, .inl x2)]) (st' := [.inl x1, .inr (.inr (9, S_2.2.2.1.1, 0))]) (V' := q_V S_2) rfl ?_
    refine q_Sim.call vc_140 (as := [.inr (.inr (9, S_2.2.2.1.1, 0)), .inl x1]) (pc' := 25) (lv' := [(3, .inl r_1), (0, .inr (.inr (10, 0, 0))), (1, .inl x1), (2, .inl x2)]) (st' := []) (S := S_2) rfl (rc_91 S_2.2.2.1.1 x1) (s_91 S_2.2.2.1.1 x1 S_2) (fun r_3 S_4 => ?_)
    refine q_Sim.steps vc_140 4 (pc' := 32) (lv' := [(4, .inr (.inr (4, r_3.1, r_3.2))), (3, .inl r_1), (0, .inr (.inr (10, 0, 0))), (1, .inl x1), (2, .inl x2)]) (st' := [.inl x2, .inr (.inr (9, S_4.2.2.1.1, 0))]) (V' := q_V S_4) rfl ?_
    refine q_Sim.call vc_140 (as := [.inr (.inr (9, S_4.2.2.1.1, 0)), .inl x2]) (pc' := 35) (lv' := [(4, .inr (.inr (4, r_3.1, r_3.2))), (3, .inl r_1), (0, .inr (.inr (10, 0, 0))), (1, .inl x1), (2, .inl x2)]) (st' := []) (S := S_4) rfl (rc_91 S_4.2.2.1.1 x2) (s_91 S_4.2.2.1.1 x2 S_4) (fun r_5 S_6 => ?_)
    refine q_Sim.steps vc_140 3 (pc' := 42) (lv' := [(5, .inr (.inr (4, r_5.1, r_5.2))), (4, .inr (.inr (4, r_3.1, r_3.2))), (3, .inl r_1), (0, .inr (.inr (10, 0, 0))), (1, .inl x1), (2, .inl x2)]) (st' := [.inl (S_6.1 (4, r_3.1, r_3.2) 1)]) (V' := q_V S_6) rfl ?_
    refine q_Sim.br vc_140 (c := ¬ (S_6.1 (4, r_3.1, r_3.2) 1) = 0) (t := 51) (f := 45) (lv' := [(5, .inr (.inr (4, r_5.1, r_5.2))), (4, .inr (.inr (4, r_3.1, r_3.2))), (3, .inl r_1), (0, .inr (.inr (10, 0, 0))), (1, .inl x1), (2, .inl x2)]) (st' := []) (V' := q_V S_6) rfl ?_ ?_
    · refine q_Sim.steps vc_140 2 (pc' := 53) (lv' := [(5, .inr (.inr (4, r_5.1, r_5.2))), (4, .inr (.inr (4, r_3.1, r_3.2))), (3, .inl r_1), (0, .inr (.inr (10, 0, 0))), (1, .inl x1), (2, .inl x2)]) (st' := [.inl x2, .inl x1]) (V' := q_V S_6) rfl ?_
      refine q_Sim.br vc_140 (c := x1 = x2) (t := 66) (f := 56) (lv' := [(5, .inr (.inr (4, r_5.1, r_5.2))), (4, .inr (.inr (4, r_3.1, r_3.2))), (3, .inl r_1), (0, .inr (.inr (10, 0, 0))), (1, .inl x1), (2, .inl x2)]) (st' := []) (V' := q_V S_6) rfl ?_ ?_
      · exact q_Sim.sub2 (lv' := [(0, .inr (.inr (10, 0, 0)))]) [0] rfl (by decide) ⟨rfl, trivial⟩ (sb_140_66  S_6)
      · refine q_Sim.steps vc_140 3 (pc' := 63) (lv' := [(5, .inr (.inr (4, r_5.1, r_5.2))), (4, .inr (.inr (4, r_3.1, r_3.2))), (3, .inl r_1), (0, .inr (.inr (10, 0, 0))), (1, .inl x1), (2, .inl x2)]) (st' := [.inl 8, .inl (S_6.1 (4, r_5.1, r_5.2) 1)]) (V' := q_V S_6) rfl ?_
        refine q_Sim.br vc_140 (c := (S_6.1 (4, r_5.1, r_5.2) 1) < 8) (t := 73) (f := 66) (lv' := [(5, .inr (.inr (4, r_5.1, r_5.2))), (4, .inr (.inr (4, r_3.1, r_3.2))), (3, .inl r_1), (0, .inr (.inr (10, 0, 0))), (1, .inl x1), (2, .inl x2)]) (st' := []) (V' := q_V S_6) rfl ?_ ?_
        · refine q_Sim.steps vc_140 1 (pc' := 74) (lv' := [(5, .inr (.inr (4, r_5.1, r_5.2))), (4, .inr (.inr (4, r_3.1, r_3.2))), (3, .inl r_1), (0, .inr (.inr (10, 0, 0))), (1, .inl x1), (2, .inl x2)]) (st' := [.inr (.inr (10, 0, 0))]) (V' := q_V S_6) rfl ?_
          refine q_Sim.call vc_140 (as := [.inr (.inr (10, 0, 0))]) (pc' := 77) (lv' := [(5, .inr (.inr (4, r_5.1, r_5.2))), (4, .inr (.inr (4, r_3.1, r_3.2))), (3, .inl r_1), (0, .inr (.inr (10, 0, 0))), (1, .inl x1), (2, .inl x2)]) (st' := []) (S := S_6) rfl (rc_171 ) (s_171  S_6) (fun r_9 S_10 => ?_)
          refine q_Sim.steps vc_140 6 (pc' := 88) (lv' := [(5, .inr (.inr (4, r_5.1, r_5.2))), (4, .inr (.inr (4, r_3.1, r_3.2))), (3, .inl r_1), (0, .inr (.inr (10, 0, 0))), (1, .inl x1), (2, .inl x2)]) (st' := [.inl ((S_10.1 (4, r_3.1, r_3.2) 1) - 1), .inr (.inr (4, r_3.1, r_3.2)), .inr (.inr (4, r_5.1, r_5.2))]) (V' := q_V S_10) rfl ?_
          refine q_Sim.call vc_140 (as := [.inr (.inr (4, r_5.1, r_5.2)), .inr (.inr (4, r_3.1, r_3.2)), .inl ((S_10.1 (4, r_3.1, r_3.2) 1) - 1)]) (pc' := 91) (lv' := [(5, .inr (.inr (4, r_5.1, r_5.2))), (4, .inr (.inr (4, r_3.1, r_3.2))), (3, .inl r_1), (0, .inr (.inr (10, 0, 0))), (1, .inl x1), (2, .inl x2)]) (st' := []) (S := S_10) rfl (rc_47 r_5.1 r_5.2 r_3.1 r_3.2 ((S_10.1 (4, r_3.1, r_3.2) 1) - 1)) (s_47 r_5.1 r_5.2 r_3.1 r_3.2 ((S_10.1 (4, r_3.1, r_3.2) 1) - 1) S_10) (fun r_11 S_12 => ?_)
          refine q_Sim.steps vc_140 5 (pc' := 99) (lv' := [(5, .inr (.inr (4, r_5.1, r_5.2))), (4, .inr (.inr (4, r_3.1, r_3.2))), (3, .inl r_1), (0, .inr (.inr (10, 0, 0))), (1, .inl x1), (2, .inl x2)]) (st' := [.inl ((S_12.1 (4, r_5.1, r_5.2) 1) - 1), .inr (.inr (10, 0, 0))]) (V' := q_V S_12) rfl ?_
          refine q_Sim.call vc_140 (as := [.inr (.inr (10, 0, 0)), .inl ((S_12.1 (4, r_5.1, r_5.2) 1) - 1)]) (pc' := 102) (lv' := [(5, .inr (.inr (4, r_5.1, r_5.2))), (4, .inr (.inr (4, r_3.1, r_3.2))), (3, .inl r_1), (0, .inr (.inr (10, 0, 0))), (1, .inl x1), (2, .inl x2)]) (st' := []) (S := S_12) rfl (rc_169 ((S_12.1 (4, r_5.1, r_5.2) 1) - 1)) (s_169 ((S_12.1 (4, r_5.1, r_5.2) 1) - 1) S_12) (fun r_13 S_14 => ?_)
          exact q_Sim.ret vc_140 rfl
        · exact q_Sim.sub2 (lv' := [(0, .inr (.inr (10, 0, 0)))]) [0] rfl (by decide) ⟨rfl, trivial⟩ (sb_140_66  S_6)
    · refine q_Sim.steps vc_140 2 (pc' := 47) (lv' := [(5, .inr (.inr (4, r_5.1, r_5.2))), (4, .inr (.inr (4, r_3.1, r_3.2))), (3, .inl r_1), (0, .inr (.inr (10, 0, 0))), (1, .inl x1), (2, .inl x2)]) (st' := [.inl 2, .inr (.inr (10, 0, 0))]) (V' := q_V S_6) rfl ?_
      refine q_Sim.call vc_140 (as := [.inr (.inr (10, 0, 0)), .inl 2]) (pc' := 50) (lv' := [(5, .inr (.inr (4, r_5.1, r_5.2))), (4, .inr (.inr (4, r_3.1, r_3.2))), (3, .inl r_1), (0, .inr (.inr (10, 0, 0))), (1, .inl x1), (2, .inl x2)]) (st' := []) (S := S_6) rfl (rc_170 2) (s_170 2 S_6) (fun r_15 S_16 => ?_)
      exact q_Sim.ret vc_140 rfl
  · refine q_Sim.steps vc_140 2 (pc' := 13) (lv' := [(3, .inl r_1), (0, .inr (.inr (10, 0, 0))), (1, .inl x1), (2, .inl x2)]) (st' := [.inl r_1, .inr (.inr (10, 0, 0))]) (V' := q_V S_2) rfl ?_
    refine q_Sim.call vc_140 (as := [.inr (.inr (10, 0, 0)), .inl r_1]) (pc' := 16) (lv' := [(3, .inl r_1), (0, .inr (.inr (10, 0, 0))), (1, .inl x1), (2, .inl x2)]) (st' := []) (S := S_2) rfl (rc_170 r_1) (s_170 r_1 S_2) (fun r_17 S_18 => ?_)
    exact q_Sim.ret vc_140 rfl
theorem vc_141 : v_code 141 = k_141 := rfl
theorem rc_141 (x1 : Int32) (x2 : Int32) : v_rcv 141 [.inr (.inr (10, 0, 0)), .inl x1, .inl x2] = true := rfl
def b_141_58  (S : QS) : Option ((Int32) × QS) := q_bd (f_170 6 S) (fun r_7 S_8 => some (r_7, S_8))
theorem sb_141_58  (S : QS) : q_Sim 141 58 [(0, .inr (.inr (10, 0, 0)))] [] (q_V S) q_I (b_141_58  S) := by
  unfold b_141_58
  refine q_Sim.steps vc_141 2 (pc' := 61) (lv' := [(0, .inr (.inr (10, 0, 0)))]) (st' := [.inl 6, .inr (.inr (10, 0, 0))]) (V' := q_V S) rfl ?_
  refine q_Sim.call vc_141 (as := [.inr (.inr (10, 0, 0)), .inl 6]) (pc' := 64) (lv' := [(0, .inr (.inr (10, 0, 0)))]) (st' := []) (S := S) rfl (rc_170 6) (s_170 6 S) (fun r_7 S_8 => ?_)
  exact q_Sim.ret vc_141 rfl
def f_141 (x1 : Int32) (x2 : Int32) (S : QS) : Option ((Int32) × QS) := q_bd (f_173 x1 x2 S) (fun r_1 S_2 => if r_1 = 0 then (q_bd (f_91 S_2.2.2.1.1 x1 S_2) (fun r_3 S_4 => q_bd (f_91 S_4.2.2.1.1 x2 S_4) (fun r_5 S_6 => if x1 = x2 then (b_141_58  S_6) else (if ((S_6.1 (4, r_3.1, r_3.2) 1) + (S_6.1 (4, r_5.1, r_5.2) 1)) ≤ 8 then (q_bd (f_171  S_6) (fun r_9 S_10 => q_let (S_10.1 (4, r_3.1, r_3.2) 1) (fun y_11 => q_bd (f_47 r_3.1 r_3.2 r_5.1 r_5.2 0 S_10) (fun r_12 S_13 => q_bd (f_48 r_3.1 r_3.2 r_5.1 r_5.2 S_13) (fun r_14 S_15 => q_bd (f_169 y_11 S_15) (fun r_16 S_17 => some (r_16, S_17))))))) else (b_141_58  S_6))))) else (q_bd (f_170 r_1 S_2) (fun r_18 S_19 => some (r_18, S_19))))
theorem s_141 (x1 : Int32) (x2 : Int32) (S : QS) : q_Sim 141 0 [(0, .inr (.inr (10, 0, 0))), (1, .inl x1), (2, .inl x2)] [] (q_V S) q_I (f_141 x1 x2 S) := by
  unfold f_141
  refine q_Sim.steps vc_141 3 (pc' := 3) (lv' := [(0, .inr (.inr (10, 0, 0))), (1, .inl x1), (2, .inl x2)]) (st' := [.inl x2, .inl x1, .inr (.inr (10, 0, 0))]) (V' := q_V S) rfl ?_
  refine q_Sim.call vc_141 (as := [.inr (.inr (10, 0, 0)), .inl x1, .inl x2]) (pc' := 6) (lv' := [(0, .inr (.inr (10, 0, 0))), (1, .inl x1), (2, .inl x2)]) (st' := []) (S := S) rfl (rc_173 x1 x2) (s_173 x1 x2 S) (fun r_1 S_2 => ?_)
  refine q_Sim.steps vc_141 2 (pc' := 8) (lv' := [(3, .inl r_1), (0, .inr (.inr (10, 0, 0))), (1, .inl x1), (2, .inl x2)]) (st' := [.inl r_1]) (V' := q_V S_2) rfl ?_
  refine q_Sim.br vc_141 (c := r_1 = 0) (t := 17) (f := 11) (lv' := [(3, .inl r_1), (0, .inr (.inr (10, 0, 0))), (1, .inl x1), (2, .inl x2)]) (st' := []) (V' := q_V S_2) rfl ?_ ?_
  · refine q_Sim.steps vc_141 3 (pc' := 22) (lv' := [(3, .inl r_1), (0, .inr (.inr (10, 0, 0))), (1, .inl x1), (2, .inl x2)]) (st' := [.inl x1, .inr (.inr (9, S_2.2.2.1.1, 0))]) (V' := q_V S_2) rfl ?_
    refine q_Sim.call vc_141 (as := [.inr (.inr (9, S_2.2.2.1.1, 0)), .inl x1]) (pc' := 25) (lv' := [(3, .inl r_1), (0, .inr (.inr (10, 0, 0))), (1, .inl x1), (2, .inl x2)]) (st' := []) (S := S_2) rfl (rc_91 S_2.2.2.1.1 x1) (s_91 S_2.2.2.1.1 x1 S_2) (fun r_3 S_4 => ?_)
    refine q_Sim.steps vc_141 4 (pc' := 32) (lv' := [(4, .inr (.inr (4, r_3.1, r_3.2))), (3, .inl r_1), (0, .inr (.inr (10, 0, 0))), (1, .inl x1), (2, .inl x2)]) (st' := [.inl x2, .inr (.inr (9, S_4.2.2.1.1, 0))]) (V' := q_V S_4) rfl ?_
    refine q_Sim.call vc_141 (as := [.inr (.inr (9, S_4.2.2.1.1, 0)), .inl x2]) (pc' := 35) (lv' := [(4, .inr (.inr (4, r_3.1, r_3.2))), (3, .inl r_1), (0, .inr (.inr (10, 0, 0))), (1, .inl x1), (2, .inl x2)]) (st' := []) (S := S_4) rfl (rc_91 S_4.2.2.1.1 x2) (s_91 S_4.2.2.1.1 x2 S_4) (fun r_5 S_6 => ?_)
    refine q_Sim.steps vc_141 3 (pc' := 39) (lv' := [(5, .inr (.inr (4, r_5.1, r_5.2))), (4, .inr (.inr (4, r_3.1, r_3.2))), (3, .inl r_1), (0, .inr (.inr (10, 0, 0))), (1, .inl x1), (2, .inl x2)]) (st' := [.inl x2, .inl x1]) (V' := q_V S_6) rfl ?_
    refine q_Sim.br vc_141 (c := x1 = x2) (t := 58) (f := 42) (lv' := [(5, .inr (.inr (4, r_5.1, r_5.2))), (4, .inr (.inr (4, r_3.1, r_3.2))), (3, .inl r_1), (0, .inr (.inr (10, 0, 0))), (1, .inl x1), (2, .inl x2)]) (st' := []) (V' := q_V S_6) rfl ?_ ?_
    · exact q_Sim.sub2 (lv' := [(0, .inr (.inr (10, 0, 0)))]) [0] rfl (by decide) ⟨rfl, trivial⟩ (sb_141_58  S_6)
    · refine q_Sim.steps vc_141 6 (pc' := 55) (lv' := [(5, .inr (.inr (4, r_5.1, r_5.2))), (4, .inr (.inr (4, r_3.1, r_3.2))), (3, .inl r_1), (0, .inr (.inr (10, 0, 0))), (1, .inl x1), (2, .inl x2)]) (st' := [.inl 8, .inl ((S_6.1 (4, r_3.1, r_3.2) 1) + (S_6.1 (4, r_5.1, r_5.2) 1))]) (V' := q_V S_6) rfl ?_
      refine q_Sim.br vc_141 (c := ((S_6.1 (4, r_3.1, r_3.2) 1) + (S_6.1 (4, r_5.1, r_5.2) 1)) ≤ 8) (t := 65) (f := 58) (lv' := [(5, .inr (.inr (4, r_5.1, r_5.2))), (4, .inr (.inr (4, r_3.1, r_3.2))), (3, .inl r_1), (0, .inr (.inr (10, 0, 0))), (1, .inl x1), (2, .inl x2)]) (st' := []) (V' := q_V S_6) rfl ?_ ?_
      · refine q_Sim.steps vc_141 1 (pc' := 66) (lv' := [(5, .inr (.inr (4, r_5.1, r_5.2))), (4, .inr (.inr (4, r_3.1, r_3.2))), (3, .inl r_1), (0, .inr (.inr (10, 0, 0))), (1, .inl x1), (2, .inl x2)]) (st' := [.inr (.inr (10, 0, 0))]) (V' := q_V S_6) rfl ?_
        refine q_Sim.call vc_141 (as := [.inr (.inr (10, 0, 0))]) (pc' := 69) (lv' := [(5, .inr (.inr (4, r_5.1, r_5.2))), (4, .inr (.inr (4, r_3.1, r_3.2))), (3, .inl r_1), (0, .inr (.inr (10, 0, 0))), (1, .inl x1), (2, .inl x2)]) (st' := []) (S := S_6) rfl (rc_171 ) (s_171  S_6) (fun r_9 S_10 => ?_)
        refine q_Sim.steps vc_141 2 (pc' := 74) (lv' := [(5, .inr (.inr (4, r_5.1, r_5.2))), (4, .inr (.inr (4, r_3.1, r_3.2))), (3, .inl r_1), (0, .inr (.inr (10, 0, 0))), (1, .inl x1), (2, .inl x2)]) (st' := [.inl (S_10.1 (4, r_3.1, r_3.2) 1)]) (V' := q_V S_10) rfl ?_
        refine q_Sim.letI (fun y_11 => ?_)
        refine q_Sim.steps vc_141 4 (pc' := 81) (lv' := [(6, .inl y_11), (5, .inr (.inr (4, r_5.1, r_5.2))), (4, .inr (.inr (4, r_3.1, r_3.2))), (3, .inl r_1), (0, .inr (.inr (10, 0, 0))), (1, .inl x1), (2, .inl x2)]) (st' := [.inl 0, .inr (.inr (4, r_5.1, r_5.2)), .inr (.inr (4, r_3.1, r_3.2))]) (V' := q_V S_10) rfl ?_
        refine q_Sim.call vc_141 (as := [.inr (.inr (4, r_3.1, r_3.2)), .inr (.inr (4, r_5.1, r_5.2)), .inl 0]) (pc' := 84) (lv' := [(6, .inl y_11), (5, .inr (.inr (4, r_5.1, r_5.2))), (4, .inr (.inr (4, r_3.1, r_3.2))), (3, .inl r_1), (0, .inr (.inr (10, 0, 0))), (1, .inl x1), (2, .inl x2)]) (st' := []) (S := S_10) rfl (rc_47 r_3.1 r_3.2 r_5.1 r_5.2 0) (s_47 r_3.1 r_3.2 r_5.1 r_5.2 0 S_10) (fun r_12 S_13 => ?_)
        refine q_Sim.steps vc_141 2 (pc' := 88) (lv' := [(6, .inl y_11), (5, .inr (.inr (4, r_5.1, r_5.2))), (4, .inr (.inr (4, r_3.1, r_3.2))), (3, .inl r_1), (0, .inr (.inr (10, 0, 0))), (1, .inl x1), (2, .inl x2)]) (st' := [.inr (.inr (4, r_5.1, r_5.2)), .inr (.inr (4, r_3.1, r_3.2))]) (V' := q_V S_13) rfl ?_
        refine q_Sim.call vc_141 (as := [.inr (.inr (4, r_3.1, r_3.2)), .inr (.inr (4, r_5.1, r_5.2))]) (pc' := 91) (lv' := [(6, .inl y_11), (5, .inr (.inr (4, r_5.1, r_5.2))), (4, .inr (.inr (4, r_3.1, r_3.2))), (3, .inl r_1), (0, .inr (.inr (10, 0, 0))), (1, .inl x1), (2, .inl x2)]) (st' := []) (S := S_13) rfl (rc_48 r_3.1 r_3.2 r_5.1 r_5.2) (s_48 r_3.1 r_3.2 r_5.1 r_5.2 S_13) (fun r_14 S_15 => ?_)
        refine q_Sim.steps vc_141 2 (pc' := 94) (lv' := [(6, .inl y_11), (5, .inr (.inr (4, r_5.1, r_5.2))), (4, .inr (.inr (4, r_3.1, r_3.2))), (3, .inl r_1), (0, .inr (.inr (10, 0, 0))), (1, .inl x1), (2, .inl x2)]) (st' := [.inl y_11, .inr (.inr (10, 0, 0))]) (V' := q_V S_15) rfl ?_
        refine q_Sim.call vc_141 (as := [.inr (.inr (10, 0, 0)), .inl y_11]) (pc' := 97) (lv' := [(6, .inl y_11), (5, .inr (.inr (4, r_5.1, r_5.2))), (4, .inr (.inr (4, r_3.1, r_3.2))), (3, .inl r_1), (0, .inr (.inr (10, 0, 0))), (1, .inl x1), (2, .inl x2)]) (st' := []) (S := S_15) rfl (rc_169 y_11) (s_169 y_11 S_15) (fun r_16 S_17 => ?_)
        exact q_Sim.ret vc_141 rfl
      · exact q_Sim.sub2 (lv' := [(0, .inr (.inr (10, 0, 0)))]) [0] rfl (by decide) ⟨rfl, trivial⟩ (sb_141_58  S_6)
  · refine q_Sim.steps vc_141 2 (pc' := 13) (lv' := [(3, .inl r_1), (0, .inr (.inr (10, 0, 0))), (1, .inl x1), (2, .inl x2)]) (st' := [.inl r_1, .inr (.inr (10, 0, 0))]) (V' := q_V S_2) rfl ?_
    refine q_Sim.call vc_141 (as := [.inr (.inr (10, 0, 0)), .inl r_1]) (pc' := 16) (lv' := [(3, .inl r_1), (0, .inr (.inr (10, 0, 0))), (1, .inl x1), (2, .inl x2)]) (st' := []) (S := S_2) rfl (rc_170 r_1) (s_170 r_1 S_2) (fun r_18 S_19 => ?_)
    exact q_Sim.ret vc_141 rfl
theorem vc_142 : v_code 142 = k_142 := rfl
theorem rc_142 (x1 : Int32) (x2 : Int32) (x3 : Int32) : v_rcv 142 [.inr (.inr (10, 0, 0)), .inl x1, .inl x2, .inl x3] = true := rfl
def b_142_53  (S : QS) : Option ((Int32) × QS) := q_bd (f_170 6 S) (fun r_7 S_8 => some (r_7, S_8))
theorem sb_142_53  (S : QS) : q_Sim 142 53 [(0, .inr (.inr (10, 0, 0)))] [] (q_V S) q_I (b_142_53  S) := by
  unfold b_142_53
  refine q_Sim.steps vc_142 2 (pc' := 56) (lv' := [(0, .inr (.inr (10, 0, 0)))]) (st' := [.inl 6, .inr (.inr (10, 0, 0))]) (V' := q_V S) rfl ?_
  refine q_Sim.call vc_142 (as := [.inr (.inr (10, 0, 0)), .inl 6]) (pc' := 59) (lv' := [(0, .inr (.inr (10, 0, 0)))]) (st' := []) (S := S) rfl (rc_170 6) (s_170 6 S) (fun r_7 S_8 => ?_)
  exact q_Sim.ret vc_142 rfl
def b_142_73  (S : QS) : Option ((Int32) × QS) := q_bd (f_170 2 S) (fun r_9 S_10 => some (r_9, S_10))
theorem sb_142_73  (S : QS) : q_Sim 142 73 [(0, .inr (.inr (10, 0, 0)))] [] (q_V S) q_I (b_142_73  S) := by
  unfold b_142_73
  refine q_Sim.steps vc_142 2 (pc' := 75) (lv' := [(0, .inr (.inr (10, 0, 0)))]) (st' := [.inl 2, .inr (.inr (10, 0, 0))]) (V' := q_V S) rfl ?_
  refine q_Sim.call vc_142 (as := [.inr (.inr (10, 0, 0)), .inl 2]) (pc' := 78) (lv' := [(0, .inr (.inr (10, 0, 0)))]) (st' := []) (S := S) rfl (rc_170 2) (s_170 2 S) (fun r_9 S_10 => ?_)
  exact q_Sim.ret vc_142 rfl
def f_142 (x1 : Int32) (x2 : Int32) (x3 : Int32) (S : QS) : Option ((Int32) × QS) := q_bd (f_173 x1 x3 S) (fun r_1 S_2 => if r_1 = 0 then (q_bd (f_91 S_2.2.2.1.1 x1 S_2) (fun r_3 S_4 => q_bd (f_91 S_4.2.2.1.1 x3 S_4) (fun r_5 S_6 => if x1 = x3 then (b_142_53  S_6) else (if (S_6.1 (4, r_5.1, r_5.2) 1) ≤ 0 then (if x2 < 0 then (b_142_73  S_6) else (if x2 ≤ (S_6.1 (4, r_3.1, r_3.2) 1) then (if ¬ (S_6.1 (4, r_3.1, r_3.2) 1) = 0 then (q_bd (f_171  S_6) (fun r_11 S_12 => q_let ((S_12.1 (4, r_3.1, r_3.2) 1) - x2) (fun y_13 => q_bd (f_49 r_5.1 r_5.2 r_3.1 r_3.2 y_13 (S_12.1 (4, r_3.1, r_3.2) 1) S_12) (fun r_14 S_15 => q_bd (f_47 r_5.1 r_5.2 r_3.1 r_3.2 x2 S_15) (fun r_16 S_17 => q_bd (f_169 y_13 S_17) (fun r_18 S_19 => some (r_18, S_19))))))) else (q_bd (f_170 4 S_6) (fun r_20 S_21 => some (r_20, S_21)))) else (b_142_73  S_6))) else (b_142_53  S_6))))) else (q_bd (f_170 r_1 S_2) (fun r_22 S_23 => some (r_22, S_23))))
theorem s_142 (x1 : Int32) (x2 : Int32) (x3 : Int32) (S : QS) : q_Sim 142 0 [(0, .inr (.inr (10, 0, 0))), (1, .inl x1), (2, .inl x2), (3, .inl x3)] [] (q_V S) q_I (f_142 x1 x2 x3 S) := by
  unfold f_142
  refine q_Sim.steps vc_142 3 (pc' := 3) (lv' := [(0, .inr (.inr (10, 0, 0))), (1, .inl x1), (2, .inl x2), (3, .inl x3)]) (st' := [.inl x3, .inl x1, .inr (.inr (10, 0, 0))]) (V' := q_V S) rfl ?_
  refine q_Sim.call vc_142 (as := [.inr (.inr (10, 0, 0)), .inl x1, .inl x3]) (pc' := 6) (lv' := [(0, .inr (.inr (10, 0, 0))), (1, .inl x1), (2, .inl x2), (3, .inl x3)]) (st' := []) (S := S) rfl (rc_173 x1 x3) (s_173 x1 x3 S) (fun r_1 S_2 => ?_)
  refine q_Sim.steps vc_142 2 (pc' := 10) (lv' := [(4, .inl r_1), (0, .inr (.inr (10, 0, 0))), (1, .inl x1), (2, .inl x2), (3, .inl x3)]) (st' := [.inl r_1]) (V' := q_V S_2) rfl ?_
  refine q_Sim.br vc_142 (c := r_1 = 0) (t := 20) (f := 13) (lv' := [(4, .inl r_1), (0, .inr (.inr (10, 0, 0))), (1, .inl x1), (2, .inl x2), (3, .inl x3)]) (st' := []) (V' := q_V S_2) rfl ?_ ?_
  · refine q_Sim.steps vc_142 3 (pc' := 25) (lv' := [(4, .inl r_1), (0, .inr (.inr (10, 0, 0))), (1, .inl x1), (2, .inl x2), (3, .inl x3)]) (st' := [.inl x1, .inr (.inr (9, S_2.2.2.1.1, 0))]) (V' := q_V S_2) rfl ?_
    refine q_Sim.call vc_142 (as := [.inr (.inr (9, S_2.2.2.1.1, 0)), .inl x1]) (pc' := 28) (lv' := [(4, .inl r_1), (0, .inr (.inr (10, 0, 0))), (1, .inl x1), (2, .inl x2), (3, .inl x3)]) (st' := []) (S := S_2) rfl (rc_91 S_2.2.2.1.1 x1) (s_91 S_2.2.2.1.1 x1 S_2) (fun r_3 S_4 => ?_)
    refine q_Sim.steps vc_142 4 (pc' := 35) (lv' := [(5, .inr (.inr (4, r_3.1, r_3.2))), (4, .inl r_1), (0, .inr (.inr (10, 0, 0))), (1, .inl x1), (2, .inl x2), (3, .inl x3)]) (st' := [.inl x3, .inr (.inr (9, S_4.2.2.1.1, 0))]) (V' := q_V S_4) rfl ?_
    refine q_Sim.call vc_142 (as := [.inr (.inr (9, S_4.2.2.1.1, 0)), .inl x3]) (pc' := 38) (lv' := [(5, .inr (.inr (4, r_3.1, r_3.2))), (4, .inl r_1), (0, .inr (.inr (10, 0, 0))), (1, .inl x1), (2, .inl x2), (3, .inl x3)]) (st' := []) (S := S_4) rfl (rc_91 S_4.2.2.1.1 x3) (s_91 S_4.2.2.1.1 x3 S_4) (fun r_5 S_6 => ?_)
    refine q_Sim.steps vc_142 3 (pc' := 42) (lv' := [(6, .inr (.inr (4, r_5.1, r_5.2))), (5, .inr (.inr (4, r_3.1, r_3.2))), (4, .inl r_1), (0, .inr (.inr (10, 0, 0))), (1, .inl x1), (2, .inl x2), (3, .inl x3)]) (st' := [.inl x3, .inl x1]) (V' := q_V S_6) rfl ?_
    refine q_Sim.br vc_142 (c := x1 = x3) (t := 53) (f := 45) (lv' := [(6, .inr (.inr (4, r_5.1, r_5.2))), (5, .inr (.inr (4, r_3.1, r_3.2))), (4, .inl r_1), (0, .inr (.inr (10, 0, 0))), (1, .inl x1), (2, .inl x2), (3, .inl x3)]) (st' := []) (V' := q_V S_6) rfl ?_ ?_
    · exact q_Sim.sub2 (lv' := [(0, .inr (.inr (10, 0, 0)))]) [0] rfl (by decide) ⟨rfl, trivial⟩ (sb_142_53  S_6)
    · refine q_Sim.steps vc_142 2 (pc' := 50) (lv' := [(6, .inr (.inr (4, r_5.1, r_5.2))), (5, .inr (.inr (4, r_3.1, r_3.2))), (4, .inl r_1), (0, .inr (.inr (10, 0, 0))), (1, .inl x1), (2, .inl x2), (3, .inl x3)]) (st' := [.inl (S_6.1 (4, r_5.1, r_5.2) 1)]) (V' := q_V S_6) rfl ?_
      refine q_Sim.br vc_142 (c := (S_6.1 (4, r_5.1, r_5.2) 1) ≤ 0) (t := 60) (f := 53) (lv' := [(6, .inr (.inr (4, r_5.1, r_5.2))), (5, .inr (.inr (4, r_3.1, r_3.2))), (4, .inl r_1), (0, .inr (.inr (10, 0, 0))), (1, .inl x1), (2, .inl x2), (3, .inl x3)]) (st' := []) (V' := q_V S_6) rfl ?_ ?_
      · refine q_Sim.steps vc_142 1 (pc' := 61) (lv' := [(6, .inr (.inr (4, r_5.1, r_5.2))), (5, .inr (.inr (4, r_3.1, r_3.2))), (4, .inl r_1), (0, .inr (.inr (10, 0, 0))), (1, .inl x1), (2, .inl x2), (3, .inl x3)]) (st' := [.inl x2]) (V' := q_V S_6) rfl ?_
        refine q_Sim.br vc_142 (c := x2 < 0) (t := 73) (f := 64) (lv' := [(6, .inr (.inr (4, r_5.1, r_5.2))), (5, .inr (.inr (4, r_3.1, r_3.2))), (4, .inl r_1), (0, .inr (.inr (10, 0, 0))), (1, .inl x1), (2, .inl x2), (3, .inl x3)]) (st' := []) (V' := q_V S_6) rfl ?_ ?_
        · exact q_Sim.sub2 (lv' := [(0, .inr (.inr (10, 0, 0)))]) [0] rfl (by decide) ⟨rfl, trivial⟩ (sb_142_73  S_6)
        · refine q_Sim.steps vc_142 3 (pc' := 70) (lv' := [(6, .inr (.inr (4, r_5.1, r_5.2))), (5, .inr (.inr (4, r_3.1, r_3.2))), (4, .inl r_1), (0, .inr (.inr (10, 0, 0))), (1, .inl x1), (2, .inl x2), (3, .inl x3)]) (st' := [.inl (S_6.1 (4, r_3.1, r_3.2) 1), .inl x2]) (V' := q_V S_6) rfl ?_
          refine q_Sim.br vc_142 (c := x2 ≤ (S_6.1 (4, r_3.1, r_3.2) 1)) (t := 79) (f := 73) (lv' := [(6, .inr (.inr (4, r_5.1, r_5.2))), (5, .inr (.inr (4, r_3.1, r_3.2))), (4, .inl r_1), (0, .inr (.inr (10, 0, 0))), (1, .inl x1), (2, .inl x2), (3, .inl x3)]) (st' := []) (V' := q_V S_6) rfl ?_ ?_
          · refine q_Sim.steps vc_142 2 (pc' := 84) (lv' := [(6, .inr (.inr (4, r_5.1, r_5.2))), (5, .inr (.inr (4, r_3.1, r_3.2))), (4, .inl r_1), (0, .inr (.inr (10, 0, 0))), (1, .inl x1), (2, .inl x2), (3, .inl x3)]) (st' := [.inl (S_6.1 (4, r_3.1, r_3.2) 1)]) (V' := q_V S_6) rfl ?_
            refine q_Sim.br vc_142 (c := ¬ (S_6.1 (4, r_3.1, r_3.2) 1) = 0) (t := 93) (f := 87) (lv' := [(6, .inr (.inr (4, r_5.1, r_5.2))), (5, .inr (.inr (4, r_3.1, r_3.2))), (4, .inl r_1), (0, .inr (.inr (10, 0, 0))), (1, .inl x1), (2, .inl x2), (3, .inl x3)]) (st' := []) (V' := q_V S_6) rfl ?_ ?_
            · refine q_Sim.steps vc_142 1 (pc' := 94) (lv' := [(6, .inr (.inr (4, r_5.1, r_5.2))), (5, .inr (.inr (4, r_3.1, r_3.2))), (4, .inl r_1), (0, .inr (.inr (10, 0, 0))), (1, .inl x1), (2, .inl x2), (3, .inl x3)]) (st' := [.inr (.inr (10, 0, 0))]) (V' := q_V S_6) rfl ?_
              refine q_Sim.call vc_142 (as := [.inr (.inr (10, 0, 0))]) (pc' := 97) (lv' := [(6, .inr (.inr (4, r_5.1, r_5.2))), (5, .inr (.inr (4, r_3.1, r_3.2))), (4, .inl r_1), (0, .inr (.inr (10, 0, 0))), (1, .inl x1), (2, .inl x2), (3, .inl x3)]) (st' := []) (S := S_6) rfl (rc_171 ) (s_171  S_6) (fun r_11 S_12 => ?_)
              refine q_Sim.steps vc_142 4 (pc' := 104) (lv' := [(6, .inr (.inr (4, r_5.1, r_5.2))), (5, .inr (.inr (4, r_3.1, r_3.2))), (4, .inl r_1), (0, .inr (.inr (10, 0, 0))), (1, .inl x1), (2, .inl x2), (3, .inl x3)]) (st' := [.inl ((S_12.1 (4, r_3.1, r_3.2) 1) - x2)]) (V' := q_V S_12) rfl ?_
              refine q_Sim.letI (fun y_13 => ?_)
              refine q_Sim.steps vc_142 6 (pc' := 117) (lv' := [(7, .inl y_13), (6, .inr (.inr (4, r_5.1, r_5.2))), (5, .inr (.inr (4, r_3.1, r_3.2))), (4, .inl r_1), (0, .inr (.inr (10, 0, 0))), (1, .inl x1), (2, .inl x2), (3, .inl x3)]) (st' := [.inl (S_12.1 (4, r_3.1, r_3.2) 1), .inl y_13, .inr (.inr (4, r_3.1, r_3.2)), .inr (.inr (4, r_5.1, r_5.2))]) (V' := q_V S_12) rfl ?_
              refine q_Sim.call vc_142 (as := [.inr (.inr (4, r_5.1, r_5.2)), .inr (.inr (4, r_3.1, r_3.2)), .inl y_13, .inl (S_12.1 (4, r_3.1, r_3.2) 1)]) (pc' := 120) (lv' := [(7, .inl y_13), (6, .inr (.inr (4, r_5.1, r_5.2))), (5, .inr (.inr (4, r_3.1, r_3.2))), (4, .inl r_1), (0, .inr (.inr (10, 0, 0))), (1, .inl x1), (2, .inl x2), (3, .inl x3)]) (st' := []) (S := S_12) rfl (rc_49 r_5.1 r_5.2 r_3.1 r_3.2 y_13 (S_12.1 (4, r_3.1, r_3.2) 1)) (s_49 r_5.1 r_5.2 r_3.1 r_3.2 y_13 (S_12.1 (4, r_3.1, r_3.2) 1) S_12) (fun r_14 S_15 => ?_)
              refine q_Sim.steps vc_142 3 (pc' := 125) (lv' := [(7, .inl y_13), (6, .inr (.inr (4, r_5.1, r_5.2))), (5, .inr (.inr (4, r_3.1, r_3.2))), (4, .inl r_1), (0, .inr (.inr (10, 0, 0))), (1, .inl x1), (2, .inl x2), (3, .inl x3)]) (st' := [.inl x2, .inr (.inr (4, r_3.1, r_3.2)), .inr (.inr (4, r_5.1, r_5.2))]) (V' := q_V S_15) rfl ?_
              refine q_Sim.call vc_142 (as := [.inr (.inr (4, r_5.1, r_5.2)), .inr (.inr (4, r_3.1, r_3.2)), .inl x2]) (pc' := 128) (lv' := [(7, .inl y_13), (6, .inr (.inr (4, r_5.1, r_5.2))), (5, .inr (.inr (4, r_3.1, r_3.2))), (4, .inl r_1), (0, .inr (.inr (10, 0, 0))), (1, .inl x1), (2, .inl x2), (3, .inl x3)]) (st' := []) (S := S_15) rfl (rc_47 r_5.1 r_5.2 r_3.1 r_3.2 x2) (s_47 r_5.1 r_5.2 r_3.1 r_3.2 x2 S_15) (fun r_16 S_17 => ?_)
              refine q_Sim.steps vc_142 2 (pc' := 131) (lv' := [(7, .inl y_13), (6, .inr (.inr (4, r_5.1, r_5.2))), (5, .inr (.inr (4, r_3.1, r_3.2))), (4, .inl r_1), (0, .inr (.inr (10, 0, 0))), (1, .inl x1), (2, .inl x2), (3, .inl x3)]) (st' := [.inl y_13, .inr (.inr (10, 0, 0))]) (V' := q_V S_17) rfl ?_
              refine q_Sim.call vc_142 (as := [.inr (.inr (10, 0, 0)), .inl y_13]) (pc' := 134) (lv' := [(7, .inl y_13), (6, .inr (.inr (4, r_5.1, r_5.2))), (5, .inr (.inr (4, r_3.1, r_3.2))), (4, .inl r_1), (0, .inr (.inr (10, 0, 0))), (1, .inl x1), (2, .inl x2), (3, .inl x3)]) (st' := []) (S := S_17) rfl (rc_169 y_13) (s_169 y_13 S_17) (fun r_18 S_19 => ?_)
              exact q_Sim.ret vc_142 rfl
            · refine q_Sim.steps vc_142 2 (pc' := 89) (lv' := [(6, .inr (.inr (4, r_5.1, r_5.2))), (5, .inr (.inr (4, r_3.1, r_3.2))), (4, .inl r_1), (0, .inr (.inr (10, 0, 0))), (1, .inl x1), (2, .inl x2), (3, .inl x3)]) (st' := [.inl 4, .inr (.inr (10, 0, 0))]) (V' := q_V S_6) rfl ?_
              refine q_Sim.call vc_142 (as := [.inr (.inr (10, 0, 0)), .inl 4]) (pc' := 92) (lv' := [(6, .inr (.inr (4, r_5.1, r_5.2))), (5, .inr (.inr (4, r_3.1, r_3.2))), (4, .inl r_1), (0, .inr (.inr (10, 0, 0))), (1, .inl x1), (2, .inl x2), (3, .inl x3)]) (st' := []) (S := S_6) rfl (rc_170 4) (s_170 4 S_6) (fun r_20 S_21 => ?_)
              exact q_Sim.ret vc_142 rfl
          · exact q_Sim.sub2 (lv' := [(0, .inr (.inr (10, 0, 0)))]) [0] rfl (by decide) ⟨rfl, trivial⟩ (sb_142_73  S_6)
      · exact q_Sim.sub2 (lv' := [(0, .inr (.inr (10, 0, 0)))]) [0] rfl (by decide) ⟨rfl, trivial⟩ (sb_142_53  S_6)
  · refine q_Sim.steps vc_142 2 (pc' := 16) (lv' := [(4, .inl r_1), (0, .inr (.inr (10, 0, 0))), (1, .inl x1), (2, .inl x2), (3, .inl x3)]) (st' := [.inl r_1, .inr (.inr (10, 0, 0))]) (V' := q_V S_2) rfl ?_
    refine q_Sim.call vc_142 (as := [.inr (.inr (10, 0, 0)), .inl r_1]) (pc' := 19) (lv' := [(4, .inl r_1), (0, .inr (.inr (10, 0, 0))), (1, .inl x1), (2, .inl x2), (3, .inl x3)]) (st' := []) (S := S_2) rfl (rc_170 r_1) (s_170 r_1 S_2) (fun r_22 S_23 => ?_)
    exact q_Sim.ret vc_142 rfl
theorem vc_143 : v_code 143 = k_143 := rfl
theorem rc_143 (x1 : Int32) : v_rcv 143 [.inr (.inr (10, 0, 0)), .inl x1] = true := rfl
def b_143_22  (S : QS) : Option ((Int32) × QS) := q_bd (f_170 6 S) (fun r_1 S_2 => some (r_1, S_2))
theorem sb_143_22  (S : QS) : q_Sim 143 22 [(0, .inr (.inr (10, 0, 0)))] [] (q_V S) q_I (b_143_22  S) := by
  unfold b_143_22
  refine q_Sim.steps vc_143 2 (pc' := 25) (lv' := [(0, .inr (.inr (10, 0, 0)))]) (st' := [.inl 6, .inr (.inr (10, 0, 0))]) (V' := q_V S) rfl ?_
  refine q_Sim.call vc_143 (as := [.inr (.inr (10, 0, 0)), .inl 6]) (pc' := 28) (lv' := [(0, .inr (.inr (10, 0, 0)))]) (st' := []) (S := S) rfl (rc_170 6) (s_170 6 S) (fun r_1 S_2 => ?_)
  exact q_Sim.ret vc_143 rfl
def f_143 (x1 : Int32) (S : QS) : Option ((Int32) × QS) := if x1 < 0 then (b_143_22  S) else (if 3 < x1 then (b_143_22  S) else (if (S.1 (9, S.2.2.1.1, 0) 7) < 200 then (q_bd (f_171  S) (fun r_3 S_4 => q_bd (f_96 S_4.2.2.1.1 x1 S_4) (fun r_5 S_6 => q_bd (f_169 r_5 S_6) (fun r_7 S_8 => some (r_7, S_8))))) else (b_143_22  S)))
theorem s_143 (x1 : Int32) (S : QS) : q_Sim 143 0 [(0, .inr (.inr (10, 0, 0))), (1, .inl x1)] [] (q_V S) q_I (f_143 x1 S) := by
  unfold f_143
  refine q_Sim.steps vc_143 1 (pc' := 1) (lv' := [(0, .inr (.inr (10, 0, 0))), (1, .inl x1)]) (st' := [.inl x1]) (V' := q_V S) rfl ?_
  refine q_Sim.br vc_143 (c := x1 < 0) (t := 22) (f := 4) (lv' := [(0, .inr (.inr (10, 0, 0))), (1, .inl x1)]) (st' := []) (V' := q_V S) rfl ?_ ?_
  · exact q_Sim.sub2 (lv' := [(0, .inr (.inr (10, 0, 0)))]) [0] rfl (by decide) ⟨rfl, trivial⟩ (sb_143_22  S)
  · refine q_Sim.steps vc_143 2 (pc' := 6) (lv' := [(0, .inr (.inr (10, 0, 0))), (1, .inl x1)]) (st' := [.inl 3, .inl x1]) (V' := q_V S) rfl ?_
    refine q_Sim.br vc_143 (c := 3 < x1) (t := 22) (f := 9) (lv' := [(0, .inr (.inr (10, 0, 0))), (1, .inl x1)]) (st' := []) (V' := q_V S) rfl ?_ ?_
    · exact q_Sim.sub2 (lv' := [(0, .inr (.inr (10, 0, 0)))]) [0] rfl (by decide) ⟨rfl, trivial⟩ (sb_143_22  S)
    · refine q_Sim.steps vc_143 4 (pc' := 19) (lv' := [(0, .inr (.inr (10, 0, 0))), (1, .inl x1)]) (st' := [.inl 200, .inl (S.1 (9, S.2.2.1.1, 0) 7)]) (V' := q_V S) rfl ?_
      refine q_Sim.br vc_143 (c := (S.1 (9, S.2.2.1.1, 0) 7) < 200) (t := 29) (f := 22) (lv' := [(0, .inr (.inr (10, 0, 0))), (1, .inl x1)]) (st' := []) (V' := q_V S) rfl ?_ ?_
      · refine q_Sim.steps vc_143 1 (pc' := 30) (lv' := [(0, .inr (.inr (10, 0, 0))), (1, .inl x1)]) (st' := [.inr (.inr (10, 0, 0))]) (V' := q_V S) rfl ?_
        refine q_Sim.call vc_143 (as := [.inr (.inr (10, 0, 0))]) (pc' := 33) (lv' := [(0, .inr (.inr (10, 0, 0))), (1, .inl x1)]) (st' := []) (S := S) rfl (rc_171 ) (s_171  S) (fun r_3 S_4 => ?_)
        refine q_Sim.steps vc_143 4 (pc' := 39) (lv' := [(0, .inr (.inr (10, 0, 0))), (1, .inl x1)]) (st' := [.inl x1, .inr (.inr (9, S_4.2.2.1.1, 0)), .inr (.inr (10, 0, 0))]) (V' := q_V S_4) rfl ?_
        refine q_Sim.call vc_143 (as := [.inr (.inr (9, S_4.2.2.1.1, 0)), .inl x1]) (pc' := 42) (lv' := [(0, .inr (.inr (10, 0, 0))), (1, .inl x1)]) (st' := [.inr (.inr (10, 0, 0))]) (S := S_4) rfl (rc_96 S_4.2.2.1.1 x1) (s_96 S_4.2.2.1.1 x1 S_4) (fun r_5 S_6 => ?_)
        refine q_Sim.call vc_143 (as := [.inr (.inr (10, 0, 0)), .inl r_5]) (pc' := 45) (lv' := [(0, .inr (.inr (10, 0, 0))), (1, .inl x1)]) (st' := []) (S := S_6) rfl (rc_169 r_5) (s_169 r_5 S_6) (fun r_7 S_8 => ?_)
        exact q_Sim.ret vc_143 rfl
      · exact q_Sim.sub2 (lv' := [(0, .inr (.inr (10, 0, 0)))]) [0] rfl (by decide) ⟨rfl, trivial⟩ (sb_143_22  S)
theorem vc_174 : v_code 174 = k_174 := rfl
theorem rc_174 (x1 : Int32) : v_rcv 174 [.inr (.inr (10, 0, 0)), .inl x1] = true := rfl
def f_174 (x1 : Int32) (S : QS) : Option ((Int32) × QS) := if x1 < 0 then (some (2, S)) else (if x1 < 200 then (if (S.1 (9, S.2.2.1.1, 0) 7) ≤ x1 then (some (1, S)) else (some (0, S))) else (some (2, S)))
theorem s_174 (x1 : Int32) (S : QS) : q_Sim 174 0 [(0, .inr (.inr (10, 0, 0))), (1, .inl x1)] [] (q_V S) q_I (f_174 x1 S) := by
  unfold f_174
  refine q_Sim.steps vc_174 1 (pc' := 1) (lv' := [(0, .inr (.inr (10, 0, 0))), (1, .inl x1)]) (st' := [.inl x1]) (V' := q_V S) rfl ?_
  refine q_Sim.br vc_174 (c := x1 < 0) (t := 11) (f := 4) (lv' := [(0, .inr (.inr (10, 0, 0))), (1, .inl x1)]) (st' := []) (V' := q_V S) rfl ?_ ?_
  · refine q_Sim.steps vc_174 1 (pc' := 12) (lv' := [(0, .inr (.inr (10, 0, 0))), (1, .inl x1)]) (st' := [.inl 2]) (V' := q_V S) rfl ?_
    exact q_Sim.ret vc_174 rfl
  · refine q_Sim.steps vc_174 2 (pc' := 8) (lv' := [(0, .inr (.inr (10, 0, 0))), (1, .inl x1)]) (st' := [.inl 200, .inl x1]) (V' := q_V S) rfl ?_
    refine q_Sim.br vc_174 (c := x1 < 200) (t := 13) (f := 11) (lv' := [(0, .inr (.inr (10, 0, 0))), (1, .inl x1)]) (st' := []) (V' := q_V S) rfl ?_ ?_
    · refine q_Sim.steps vc_174 4 (pc' := 21) (lv' := [(0, .inr (.inr (10, 0, 0))), (1, .inl x1)]) (st' := [.inl (S.1 (9, S.2.2.1.1, 0) 7), .inl x1]) (V' := q_V S) rfl ?_
      refine q_Sim.br vc_174 (c := (S.1 (9, S.2.2.1.1, 0) 7) ≤ x1) (t := 28) (f := 24) (lv' := [(0, .inr (.inr (10, 0, 0))), (1, .inl x1)]) (st' := []) (V' := q_V S) rfl ?_ ?_
      · refine q_Sim.steps vc_174 1 (pc' := 29) (lv' := [(0, .inr (.inr (10, 0, 0))), (1, .inl x1)]) (st' := [.inl 1]) (V' := q_V S) rfl ?_
        exact q_Sim.ret vc_174 rfl
      · refine q_Sim.steps vc_174 2 (pc' := 29) (lv' := [(0, .inr (.inr (10, 0, 0))), (1, .inl x1)]) (st' := [.inl 0]) (V' := q_V S) rfl ?_
        exact q_Sim.ret vc_174 rfl
    · refine q_Sim.steps vc_174 1 (pc' := 12) (lv' := [(0, .inr (.inr (10, 0, 0))), (1, .inl x1)]) (st' := [.inl 2]) (V' := q_V S) rfl ?_
      exact q_Sim.ret vc_174 rfl
theorem vc_179 : v_code 179 = k_179 := rfl
theorem rc_179 (x1 : Int32) (x2 : Int32) (x3 : Int32) : v_rcv 179 [.inr (.inr (10, 0, 0)), .inl x1, .inl x2, .inl x3] = true := rfl
def b_179_117 (x1 : Int32) (x2 : Int32) (x3 : Int32) (S : QS) : Option ((Int32) × QS) := q_bd (f_60 S.2.2.1.1 x1 S) (fun r_5 S_6 => q_bd (f_58 x2 S_6) (fun r_7 S_8 => if ¬ r_7 = 0 then (some (7, S_8)) else (q_bd (f_58 x3 S_8) (fun r_9 S_10 => if r_9 = 0 then (q_bd (f_61 S_10.2.2.1.1 x1 x2 x3 S_10) (fun r_11 S_12 => if r_11 ≤ 15 then (some (0, S_12)) else (some (6, S_12)))) else (some (7, S_10))))))
theorem sb_179_117 (x1 : Int32) (x2 : Int32) (x3 : Int32) (S : QS) : q_Sim 179 117 [(0, .inr (.inr (10, 0, 0))), (1, .inl x1), (2, .inl x2), (3, .inl x3)] [] (q_V S) q_I (b_179_117 x1 x2 x3 S) := by
  unfold b_179_117
  refine q_Sim.steps vc_179 5 (pc' := 126) (lv' := [(0, .inr (.inr (10, 0, 0))), (1, .inl x1), (2, .inl x2), (3, .inl x3)]) (st' := [.inl x1, .inr (.inr (9, S.2.2.1.1, 0)), .inr (.inr (5, 0, 0))]) (V' := q_V S) rfl ?_
  refine q_Sim.call vc_179 (as := [.inr (.inr (5, 0, 0)), .inr (.inr (9, S.2.2.1.1, 0)), .inl x1]) (pc' := 129) (lv' := [(0, .inr (.inr (10, 0, 0))), (1, .inl x1), (2, .inl x2), (3, .inl x3)]) (st' := []) (S := S) rfl (rc_60 S.2.2.1.1 x1) (s_60 S.2.2.1.1 x1 S) (fun r_5 S_6 => ?_)
  refine q_Sim.steps vc_179 3 (pc' := 134) (lv' := [(0, .inr (.inr (10, 0, 0))), (1, .inl x1), (2, .inl x2), (3, .inl x3)]) (st' := [.inl x2, .inr (.inr (5, 0, 0))]) (V' := q_V S_6) rfl ?_
  refine q_Sim.call vc_179 (as := [.inr (.inr (5, 0, 0)), .inl x2]) (pc' := 137) (lv' := [(0, .inr (.inr (10, 0, 0))), (1, .inl x1), (2, .inl x2), (3, .inl x3)]) (st' := []) (S := S_6) rfl (rc_58 x2) (s_58 x2 S_6) (fun r_7 S_8 => ?_)
  refine q_Sim.br vc_179 (c := ¬ r_7 = 0) (t := 151) (f := 140) (lv' := [(0, .inr (.inr (10, 0, 0))), (1, .inl x1), (2, .inl x2), (3, .inl x3)]) (st' := []) (V' := q_V S_8) rfl ?_ ?_
  · refine q_Sim.steps vc_179 1 (pc' := 153) (lv' := [(0, .inr (.inr (10, 0, 0))), (1, .inl x1), (2, .inl x2), (3, .inl x3)]) (st' := [.inl 7]) (V' := q_V S_8) rfl ?_
    exact q_Sim.ret vc_179 rfl
  · refine q_Sim.steps vc_179 3 (pc' := 145) (lv' := [(0, .inr (.inr (10, 0, 0))), (1, .inl x1), (2, .inl x2), (3, .inl x3)]) (st' := [.inl x3, .inr (.inr (5, 0, 0))]) (V' := q_V S_8) rfl ?_
    refine q_Sim.call vc_179 (as := [.inr (.inr (5, 0, 0)), .inl x3]) (pc' := 148) (lv' := [(0, .inr (.inr (10, 0, 0))), (1, .inl x1), (2, .inl x2), (3, .inl x3)]) (st' := []) (S := S_8) rfl (rc_58 x3) (s_58 x3 S_8) (fun r_9 S_10 => ?_)
    refine q_Sim.br vc_179 (c := r_9 = 0) (t := 154) (f := 151) (lv' := [(0, .inr (.inr (10, 0, 0))), (1, .inl x1), (2, .inl x2), (3, .inl x3)]) (st' := []) (V' := q_V S_10) rfl ?_ ?_
    · refine q_Sim.steps vc_179 7 (pc' := 165) (lv' := [(0, .inr (.inr (10, 0, 0))), (1, .inl x1), (2, .inl x2), (3, .inl x3)]) (st' := [.inl x3, .inl x2, .inl x1, .inr (.inr (9, S_10.2.2.1.1, 0)), .inr (.inr (5, 0, 0))]) (V' := q_V S_10) rfl ?_
      refine q_Sim.call vc_179 (as := [.inr (.inr (5, 0, 0)), .inr (.inr (9, S_10.2.2.1.1, 0)), .inl x1, .inl x2, .inl x3]) (pc' := 168) (lv' := [(0, .inr (.inr (10, 0, 0))), (1, .inl x1), (2, .inl x2), (3, .inl x3)]) (st' := []) (S := S_10) rfl (rc_61 S_10.2.2.1.1 x1 x2 x3) (s_61 S_10.2.2.1.1 x1 x2 x3 S_10) (fun r_11 S_12 => ?_)
      refine q_Sim.steps vc_179 1 (pc' := 170) (lv' := [(0, .inr (.inr (10, 0, 0))), (1, .inl x1), (2, .inl x2), (3, .inl x3)]) (st' := [.inl 15, .inl r_11]) (V' := q_V S_12) rfl ?_
      refine q_Sim.br vc_179 (c := r_11 ≤ 15) (t := 178) (f := 173) (lv' := [(0, .inr (.inr (10, 0, 0))), (1, .inl x1), (2, .inl x2), (3, .inl x3)]) (st' := []) (V' := q_V S_12) rfl ?_ ?_
      · refine q_Sim.steps vc_179 1 (pc' := 179) (lv' := [(0, .inr (.inr (10, 0, 0))), (1, .inl x1), (2, .inl x2), (3, .inl x3)]) (st' := [.inl 0]) (V' := q_V S_12) rfl ?_
        exact q_Sim.ret vc_179 rfl
      · refine q_Sim.steps vc_179 2 (pc' := 179) (lv' := [(0, .inr (.inr (10, 0, 0))), (1, .inl x1), (2, .inl x2), (3, .inl x3)]) (st' := [.inl 6]) (V' := q_V S_12) rfl ?_
        exact q_Sim.ret vc_179 rfl
    · refine q_Sim.steps vc_179 1 (pc' := 153) (lv' := [(0, .inr (.inr (10, 0, 0))), (1, .inl x1), (2, .inl x2), (3, .inl x3)]) (st' := [.inl 7]) (V' := q_V S_10) rfl ?_
      exact q_Sim.ret vc_179 rfl
def b_179_86 (x1 : Int32) (x2 : Int32) (x3 : Int32) (x4 : Int32) (S : QS) : Option ((Int32) × QS) := if x4 = 0 then (q_bd (f_93 S.2.2.1.1 x1 S) (fun r_3 S_4 => if ¬ (S_4.1 (8, r_3.1, r_3.2) 0) = 3 then (b_179_117 x1 x2 x3 S_4) else (if x3 = (-1) then (b_179_117 x1 x2 x3 S_4) else (some (6, S_4))))) else (some (x4, S))
theorem sb_179_86 (x1 : Int32) (x2 : Int32) (x3 : Int32) (x4 : Int32) (S : QS) : q_Sim 179 86 [(0, .inr (.inr (10, 0, 0))), (1, .inl x1), (2, .inl x2), (3, .inl x3), (4, .inl x4)] [] (q_V S) q_I (b_179_86 x1 x2 x3 x4 S) := by
  unfold b_179_86
  refine q_Sim.steps vc_179 1 (pc' := 88) (lv' := [(0, .inr (.inr (10, 0, 0))), (1, .inl x1), (2, .inl x2), (3, .inl x3), (4, .inl x4)]) (st' := [.inl x4]) (V' := q_V S) rfl ?_
  refine q_Sim.br vc_179 (c := x4 = 0) (t := 94) (f := 91) (lv' := [(0, .inr (.inr (10, 0, 0))), (1, .inl x1), (2, .inl x2), (3, .inl x3), (4, .inl x4)]) (st' := []) (V' := q_V S) rfl ?_ ?_
  · refine q_Sim.steps vc_179 3 (pc' := 99) (lv' := [(0, .inr (.inr (10, 0, 0))), (1, .inl x1), (2, .inl x2), (3, .inl x3), (4, .inl x4)]) (st' := [.inl x1, .inr (.inr (9, S.2.2.1.1, 0))]) (V' := q_V S) rfl ?_
    refine q_Sim.call vc_179 (as := [.inr (.inr (9, S.2.2.1.1, 0)), .inl x1]) (pc' := 102) (lv' := [(0, .inr (.inr (10, 0, 0))), (1, .inl x1), (2, .inl x2), (3, .inl x3), (4, .inl x4)]) (st' := []) (S := S) rfl (rc_93 S.2.2.1.1 x1) (s_93 S.2.2.1.1 x1 S) (fun r_3 S_4 => ?_)
    refine q_Sim.steps vc_179 2 (pc' := 106) (lv' := [(0, .inr (.inr (10, 0, 0))), (1, .inl x1), (2, .inl x2), (3, .inl x3), (4, .inl x4)]) (st' := [.inl 3, .inl (S_4.1 (8, r_3.1, r_3.2) 0)]) (V' := q_V S_4) rfl ?_
    refine q_Sim.br vc_179 (c := ¬ (S_4.1 (8, r_3.1, r_3.2) 0) = 3) (t := 117) (f := 109) (lv' := [(0, .inr (.inr (10, 0, 0))), (1, .inl x1), (2, .inl x2), (3, .inl x3), (4, .inl x4)]) (st' := []) (V' := q_V S_4) rfl ?_ ?_
    · exact q_Sim.sub2 (lv' := [(0, .inr (.inr (10, 0, 0))), (1, .inl x1), (2, .inl x2), (3, .inl x3)]) [0, 1, 2, 3] rfl (by decide) ⟨rfl, rfl, rfl, rfl, trivial⟩ (sb_179_117 x1 x2 x3 S_4)
    · refine q_Sim.steps vc_179 2 (pc' := 111) (lv' := [(0, .inr (.inr (10, 0, 0))), (1, .inl x1), (2, .inl x2), (3, .inl x3), (4, .inl x4)]) (st' := [.inl (-1), .inl x3]) (V' := q_V S_4) rfl ?_
      refine q_Sim.br vc_179 (c := x3 = (-1)) (t := 117) (f := 114) (lv' := [(0, .inr (.inr (10, 0, 0))), (1, .inl x1), (2, .inl x2), (3, .inl x3), (4, .inl x4)]) (st' := []) (V' := q_V S_4) rfl ?_ ?_
      · exact q_Sim.sub2 (lv' := [(0, .inr (.inr (10, 0, 0))), (1, .inl x1), (2, .inl x2), (3, .inl x3)]) [0, 1, 2, 3] rfl (by decide) ⟨rfl, rfl, rfl, rfl, trivial⟩ (sb_179_117 x1 x2 x3 S_4)
      · refine q_Sim.steps vc_179 1 (pc' := 116) (lv' := [(0, .inr (.inr (10, 0, 0))), (1, .inl x1), (2, .inl x2), (3, .inl x3), (4, .inl x4)]) (st' := [.inl 6]) (V' := q_V S_4) rfl ?_
        exact q_Sim.ret vc_179 rfl
  · refine q_Sim.steps vc_179 1 (pc' := 93) (lv' := [(0, .inr (.inr (10, 0, 0))), (1, .inl x1), (2, .inl x2), (3, .inl x3), (4, .inl x4)]) (st' := [.inl x4]) (V' := q_V S) rfl ?_
    exact q_Sim.ret vc_179 rfl
def b_179_46 (x1 : Int32) (x2 : Int32) (x3 : Int32) (x4 : Int32) (S : QS) : Option ((Int32) × QS) := if ¬ x4 = 0 then (b_179_86 x1 x2 x3 x4 S) else (if x3 = (-1) then (b_179_86 x1 x2 x3 x4 S) else (q_bd (f_174 x3 S) (fun r_13 S_14 => if ¬ r_13 = 0 then (b_179_86 x1 x2 x3 r_13 S_14) else (q_bd (f_93 S_14.2.2.1.1 x3 S_14) (fun r_15 S_16 => if (S_16.1 (8, r_15.1, r_15.2) 0) = 3 then (b_179_86 x1 x2 x3 r_13 S_16) else (b_179_86 x1 x2 x3 3 S_16))))))
theorem sb_179_46 (x1 : Int32) (x2 : Int32) (x3 : Int32) (x4 : Int32) (S : QS) : q_Sim 179 46 [(0, .inr (.inr (10, 0, 0))), (1, .inl x1), (2, .inl x2), (3, .inl x3), (4, .inl x4)] [] (q_V S) q_I (b_179_46 x1 x2 x3 x4 S) := by
  unfold b_179_46
  refine q_Sim.steps vc_179 1 (pc' := 48) (lv' := [(0, .inr (.inr (10, 0, 0))), (1, .inl x1), (2, .inl x2), (3, .inl x3), (4, .inl x4)]) (st' := [.inl x4]) (V' := q_V S) rfl ?_
  refine q_Sim.br vc_179 (c := ¬ x4 = 0) (t := 86) (f := 51) (lv' := [(0, .inr (.inr (10, 0, 0))), (1, .inl x1), (2, .inl x2), (3, .inl x3), (4, .inl x4)]) (st' := []) (V' := q_V S) rfl ?_ ?_
  · exact q_Sim.sub2 (lv' := [(0, .inr (.inr (10, 0, 0))), (1, .inl x1), (2, .inl x2), (3, .inl x3), (4, .inl x4)]) [0, 1, 2, 3, 4] rfl (by decide) ⟨rfl, rfl, rfl, rfl, rfl, trivial⟩ (sb_179_86 x1 x2 x3 x4 S)
  · refine q_Sim.steps vc_179 2 (pc' := 53) (lv' := [(0, .inr (.inr (10, 0, 0))), (1, .inl x1), (2, .inl x2), (3, .inl x3), (4, .inl x4)]) (st' := [.inl (-1), .inl x3]) (V' := q_V S) rfl ?_
    refine q_Sim.br vc_179 (c := x3 = (-1)) (t := 86) (f := 56) (lv' := [(0, .inr (.inr (10, 0, 0))), (1, .inl x1), (2, .inl x2), (3, .inl x3), (4, .inl x4)]) (st' := []) (V' := q_V S) rfl ?_ ?_
    · exact q_Sim.sub2 (lv' := [(0, .inr (.inr (10, 0, 0))), (1, .inl x1), (2, .inl x2), (3, .inl x3), (4, .inl x4)]) [0, 1, 2, 3, 4] rfl (by decide) ⟨rfl, rfl, rfl, rfl, rfl, trivial⟩ (sb_179_86 x1 x2 x3 x4 S)
    · refine q_Sim.steps vc_179 2 (pc' := 58) (lv' := [(0, .inr (.inr (10, 0, 0))), (1, .inl x1), (2, .inl x2), (3, .inl x3), (4, .inl x4)]) (st' := [.inl x3, .inr (.inr (10, 0, 0))]) (V' := q_V S) rfl ?_
      refine q_Sim.call vc_179 (as := [.inr (.inr (10, 0, 0)), .inl x3]) (pc' := 61) (lv' := [(0, .inr (.inr (10, 0, 0))), (1, .inl x1), (2, .inl x2), (3, .inl x3), (4, .inl x4)]) (st' := []) (S := S) rfl (rc_174 x3) (s_174 x3 S) (fun r_13 S_14 => ?_)
      refine q_Sim.steps vc_179 2 (pc' := 65) (lv' := [(4, .inl r_13), (0, .inr (.inr (10, 0, 0))), (1, .inl x1), (2, .inl x2), (3, .inl x3)]) (st' := [.inl r_13]) (V' := q_V S_14) rfl ?_
      refine q_Sim.br vc_179 (c := ¬ r_13 = 0) (t := 86) (f := 68) (lv' := [(4, .inl r_13), (0, .inr (.inr (10, 0, 0))), (1, .inl x1), (2, .inl x2), (3, .inl x3)]) (st' := []) (V' := q_V S_14) rfl ?_ ?_
      · exact q_Sim.sub2 (lv' := [(0, .inr (.inr (10, 0, 0))), (1, .inl x1), (2, .inl x2), (3, .inl x3), (4, .inl r_13)]) [0, 1, 2, 3, 4] rfl (by decide) ⟨rfl, rfl, rfl, rfl, rfl, trivial⟩ (sb_179_86 x1 x2 x3 r_13 S_14)
      · refine q_Sim.steps vc_179 3 (pc' := 73) (lv' := [(4, .inl r_13), (0, .inr (.inr (10, 0, 0))), (1, .inl x1), (2, .inl x2), (3, .inl x3)]) (st' := [.inl x3, .inr (.inr (9, S_14.2.2.1.1, 0))]) (V' := q_V S_14) rfl ?_
        refine q_Sim.call vc_179 (as := [.inr (.inr (9, S_14.2.2.1.1, 0)), .inl x3]) (pc' := 76) (lv' := [(4, .inl r_13), (0, .inr (.inr (10, 0, 0))), (1, .inl x1), (2, .inl x2), (3, .inl x3)]) (st' := []) (S := S_14) rfl (rc_93 S_14.2.2.1.1 x3) (s_93 S_14.2.2.1.1 x3 S_14) (fun r_15 S_16 => ?_)
        refine q_Sim.steps vc_179 2 (pc' := 80) (lv' := [(4, .inl r_13), (0, .inr (.inr (10, 0, 0))), (1, .inl x1), (2, .inl x2), (3, .inl x3)]) (st' := [.inl 3, .inl (S_16.1 (8, r_15.1, r_15.2) 0)]) (V' := q_V S_16) rfl ?_
        refine q_Sim.br vc_179 (c := (S_16.1 (8, r_15.1, r_15.2) 0) = 3) (t := 86) (f := 83) (lv' := [(4, .inl r_13), (0, .inr (.inr (10, 0, 0))), (1, .inl x1), (2, .inl x2), (3, .inl x3)]) (st' := []) (V' := q_V S_16) rfl ?_ ?_
        · exact q_Sim.sub2 (lv' := [(0, .inr (.inr (10, 0, 0))), (1, .inl x1), (2, .inl x2), (3, .inl x3), (4, .inl r_13)]) [0, 1, 2, 3, 4] rfl (by decide) ⟨rfl, rfl, rfl, rfl, rfl, trivial⟩ (sb_179_86 x1 x2 x3 r_13 S_16)
        · refine q_Sim.steps vc_179 2 (pc' := 86) (lv' := [(4, .inl 3), (0, .inr (.inr (10, 0, 0))), (1, .inl x1), (2, .inl x2), (3, .inl x3)]) (st' := []) (V' := q_V S_16) rfl ?_
          exact q_Sim.sub2 (lv' := [(0, .inr (.inr (10, 0, 0))), (1, .inl x1), (2, .inl x2), (3, .inl x3), (4, .inl 3)]) [0, 1, 2, 3, 4] rfl (by decide) ⟨rfl, rfl, rfl, rfl, rfl, trivial⟩ (sb_179_86 x1 x2 x3 3 S_16)
def f_179 (x1 : Int32) (x2 : Int32) (x3 : Int32) (S : QS) : Option ((Int32) × QS) := q_bd (f_174 x1 S) (fun r_1 S_2 => if ¬ r_1 = 0 then (b_179_46 x1 x2 x3 r_1 S_2) else (if x2 = (-1) then (b_179_46 x1 x2 x3 r_1 S_2) else (q_bd (f_174 x2 S_2) (fun r_17 S_18 => if ¬ r_17 = 0 then (b_179_46 x1 x2 x3 r_17 S_18) else (q_bd (f_93 S_18.2.2.1.1 x2 S_18) (fun r_19 S_20 => q_bd (f_86 r_19.1 r_19.2 S_20) (fun r_21 S_22 => if ¬ r_21 = 0 then (b_179_46 x1 x2 x3 r_17 S_22) else (b_179_46 x1 x2 x3 3 S_22))))))))
theorem s_179 (x1 : Int32) (x2 : Int32) (x3 : Int32) (S : QS) : q_Sim 179 0 [(0, .inr (.inr (10, 0, 0))), (1, .inl x1), (2, .inl x2), (3, .inl x3)] [] (q_V S) q_I (f_179 x1 x2 x3 S) := by
  unfold f_179
  refine q_Sim.steps vc_179 2 (pc' := 2) (lv' := [(0, .inr (.inr (10, 0, 0))), (1, .inl x1), (2, .inl x2), (3, .inl x3)]) (st' := [.inl x1, .inr (.inr (10, 0, 0))]) (V' := q_V S) rfl ?_
  refine q_Sim.call vc_179 (as := [.inr (.inr (10, 0, 0)), .inl x1]) (pc' := 5) (lv' := [(0, .inr (.inr (10, 0, 0))), (1, .inl x1), (2, .inl x2), (3, .inl x3)]) (st' := []) (S := S) rfl (rc_174 x1) (s_174 x1 S) (fun r_1 S_2 => ?_)
  refine q_Sim.steps vc_179 2 (pc' := 9) (lv' := [(4, .inl r_1), (0, .inr (.inr (10, 0, 0))), (1, .inl x1), (2, .inl x2), (3, .inl x3)]) (st' := [.inl r_1]) (V' := q_V S_2) rfl ?_
  refine q_Sim.br vc_179 (c := ¬ r_1 = 0) (t := 46) (f := 12) (lv' := [(4, .inl r_1), (0, .inr (.inr (10, 0, 0))), (1, .inl x1), (2, .inl x2), (3, .inl x3)]) (st' := []) (V' := q_V S_2) rfl ?_ ?_
  · exact q_Sim.sub2 (lv' := [(0, .inr (.inr (10, 0, 0))), (1, .inl x1), (2, .inl x2), (3, .inl x3), (4, .inl r_1)]) [0, 1, 2, 3, 4] rfl (by decide) ⟨rfl, rfl, rfl, rfl, rfl, trivial⟩ (sb_179_46 x1 x2 x3 r_1 S_2)
  · refine q_Sim.steps vc_179 2 (pc' := 14) (lv' := [(4, .inl r_1), (0, .inr (.inr (10, 0, 0))), (1, .inl x1), (2, .inl x2), (3, .inl x3)]) (st' := [.inl (-1), .inl x2]) (V' := q_V S_2) rfl ?_
    refine q_Sim.br vc_179 (c := x2 = (-1)) (t := 46) (f := 17) (lv' := [(4, .inl r_1), (0, .inr (.inr (10, 0, 0))), (1, .inl x1), (2, .inl x2), (3, .inl x3)]) (st' := []) (V' := q_V S_2) rfl ?_ ?_
    · exact q_Sim.sub2 (lv' := [(0, .inr (.inr (10, 0, 0))), (1, .inl x1), (2, .inl x2), (3, .inl x3), (4, .inl r_1)]) [0, 1, 2, 3, 4] rfl (by decide) ⟨rfl, rfl, rfl, rfl, rfl, trivial⟩ (sb_179_46 x1 x2 x3 r_1 S_2)
    · refine q_Sim.steps vc_179 2 (pc' := 19) (lv' := [(4, .inl r_1), (0, .inr (.inr (10, 0, 0))), (1, .inl x1), (2, .inl x2), (3, .inl x3)]) (st' := [.inl x2, .inr (.inr (10, 0, 0))]) (V' := q_V S_2) rfl ?_
      refine q_Sim.call vc_179 (as := [.inr (.inr (10, 0, 0)), .inl x2]) (pc' := 22) (lv' := [(4, .inl r_1), (0, .inr (.inr (10, 0, 0))), (1, .inl x1), (2, .inl x2), (3, .inl x3)]) (st' := []) (S := S_2) rfl (rc_174 x2) (s_174 x2 S_2) (fun r_17 S_18 => ?_)
      refine q_Sim.steps vc_179 2 (pc' := 26) (lv' := [(4, .inl r_17), (0, .inr (.inr (10, 0, 0))), (1, .inl x1), (2, .inl x2), (3, .inl x3)]) (st' := [.inl r_17]) (V' := q_V S_18) rfl ?_
      refine q_Sim.br vc_179 (c := ¬ r_17 = 0) (t := 46) (f := 29) (lv' := [(4, .inl r_17), (0, .inr (.inr (10, 0, 0))), (1, .inl x1), (2, .inl x2), (3, .inl x3)]) (st' := []) (V' := q_V S_18) rfl ?_ ?_
      · exact q_Sim.sub2 (lv' := [(0, .inr (.inr (10, 0, 0))), (1, .inl x1), (2, .inl x2), (3, .inl x3), (4, .inl r_17)]) [0, 1, 2, 3, 4] rfl (by decide) ⟨rfl, rfl, rfl, rfl, rfl, trivial⟩ (sb_179_46 x1 x2 x3 r_17 S_18)
      · refine q_Sim.steps vc_179 3 (pc' := 34) (lv' := [(4, .inl r_17), (0, .inr (.inr (10, 0, 0))), (1, .inl x1), (2, .inl x2), (3, .inl x3)]) (st' := [.inl x2, .inr (.inr (9, S_18.2.2.1.1, 0))]) (V' := q_V S_18) rfl ?_
        refine q_Sim.call vc_179 (as := [.inr (.inr (9, S_18.2.2.1.1, 0)), .inl x2]) (pc' := 37) (lv' := [(4, .inl r_17), (0, .inr (.inr (10, 0, 0))), (1, .inl x1), (2, .inl x2), (3, .inl x3)]) (st' := []) (S := S_18) rfl (rc_93 S_18.2.2.1.1 x2) (s_93 S_18.2.2.1.1 x2 S_18) (fun r_19 S_20 => ?_)
        refine q_Sim.call vc_179 (as := [.inr (.inr (8, r_19.1, r_19.2))]) (pc' := 40) (lv' := [(4, .inl r_17), (0, .inr (.inr (10, 0, 0))), (1, .inl x1), (2, .inl x2), (3, .inl x3)]) (st' := []) (S := S_20) rfl (rc_86 r_19.1 r_19.2) (s_86 r_19.1 r_19.2 S_20) (fun r_21 S_22 => ?_)
        refine q_Sim.br vc_179 (c := ¬ r_21 = 0) (t := 46) (f := 43) (lv' := [(4, .inl r_17), (0, .inr (.inr (10, 0, 0))), (1, .inl x1), (2, .inl x2), (3, .inl x3)]) (st' := []) (V' := q_V S_22) rfl ?_ ?_
        · exact q_Sim.sub2 (lv' := [(0, .inr (.inr (10, 0, 0))), (1, .inl x1), (2, .inl x2), (3, .inl x3), (4, .inl r_17)]) [0, 1, 2, 3, 4] rfl (by decide) ⟨rfl, rfl, rfl, rfl, rfl, trivial⟩ (sb_179_46 x1 x2 x3 r_17 S_22)
        · refine q_Sim.steps vc_179 2 (pc' := 46) (lv' := [(4, .inl 3), (0, .inr (.inr (10, 0, 0))), (1, .inl x1), (2, .inl x2), (3, .inl x3)]) (st' := []) (V' := q_V S_22) rfl ?_
          exact q_Sim.sub2 (lv' := [(0, .inr (.inr (10, 0, 0))), (1, .inl x1), (2, .inl x2), (3, .inl x3), (4, .inl 3)]) [0, 1, 2, 3, 4] rfl (by decide) ⟨rfl, rfl, rfl, rfl, rfl, trivial⟩ (sb_179_46 x1 x2 x3 3 S_22)
theorem vc_144 : v_code 144 = k_144 := rfl
theorem rc_144 (x1 : Int32) (x2 : Int32) (x3 : Int32) : v_rcv 144 [.inr (.inr (10, 0, 0)), .inl x1, .inl x2, .inl x3] = true := rfl
def f_144 (x1 : Int32) (x2 : Int32) (x3 : Int32) (S : QS) : Option ((Int32) × QS) := q_bd (f_179 x1 x2 x3 S) (fun r_1 S_2 => if r_1 = 0 then (q_bd (f_171  S_2) (fun r_3 S_4 => q_bd (f_93 S_4.2.2.1.1 x1 S_4) (fun r_5 S_6 => q_let (q_set S_6 (8, r_5.1, r_5.2) 2 x2) (fun S_7 => q_let (q_set S_7 (8, r_5.1, r_5.2) 3 x3) (fun S_8 => q_bd (f_63 S_8.2.2.1.1 S_8) (fun r_9 S_10 => q_bd (f_169 (S_10.1 (8, r_5.1, r_5.2) 4) S_10) (fun r_11 S_12 => some (r_11, S_12)))))))) else (q_bd (f_170 r_1 S_2) (fun r_13 S_14 => some (r_13, S_14))))
theorem s_144 (x1 : Int32) (x2 : Int32) (x3 : Int32) (S : QS) : q_Sim 144 0 [(0, .inr (.inr (10, 0, 0))), (1, .inl x1), (2, .inl x2), (3, .inl x3)] [] (q_V S) q_I (f_144 x1 x2 x3 S) := by
  unfold f_144
  refine q_Sim.steps vc_144 4 (pc' := 4) (lv' := [(0, .inr (.inr (10, 0, 0))), (1, .inl x1), (2, .inl x2), (3, .inl x3)]) (st' := [.inl x3, .inl x2, .inl x1, .inr (.inr (10, 0, 0))]) (V' := q_V S) rfl ?_
  refine q_Sim.call vc_144 (as := [.inr (.inr (10, 0, 0)), .inl x1, .inl x2, .inl x3]) (pc' := 7) (lv' := [(0, .inr (.inr (10, 0, 0))), (1, .inl x1), (2, .inl x2), (3, .inl x3)]) (st' := []) (S := S) rfl (rc_179 x1 x2 x3) (s_179 x1 x2 x3 S) (fun r_1 S_2 => ?_)
  refine q_Sim.steps vc_144 2 (pc' := 11) (lv' := [(4, .inl r_1), (0, .inr (.inr (10, 0, 0))), (1, .inl x1), (2, .inl x2), (3, .inl x3)]) (st' := [.inl r_1]) (V' := q_V S_2) rfl ?_
  refine q_Sim.br vc_144 (c := r_1 = 0) (t := 21) (f := 14) (lv' := [(4, .inl r_1), (0, .inr (.inr (10, 0, 0))), (1, .inl x1), (2, .inl x2), (3, .inl x3)]) (st' := []) (V' := q_V S_2) rfl ?_ ?_
  · refine q_Sim.steps vc_144 1 (pc' := 22) (lv' := [(4, .inl r_1), (0, .inr (.inr (10, 0, 0))), (1, .inl x1), (2, .inl x2), (3, .inl x3)]) (st' := [.inr (.inr (10, 0, 0))]) (V' := q_V S_2) rfl ?_
    refine q_Sim.call vc_144 (as := [.inr (.inr (10, 0, 0))]) (pc' := 25) (lv' := [(4, .inl r_1), (0, .inr (.inr (10, 0, 0))), (1, .inl x1), (2, .inl x2), (3, .inl x3)]) (st' := []) (S := S_2) rfl (rc_171 ) (s_171  S_2) (fun r_3 S_4 => ?_)
    refine q_Sim.steps vc_144 3 (pc' := 30) (lv' := [(4, .inl r_1), (0, .inr (.inr (10, 0, 0))), (1, .inl x1), (2, .inl x2), (3, .inl x3)]) (st' := [.inl x1, .inr (.inr (9, S_4.2.2.1.1, 0))]) (V' := q_V S_4) rfl ?_
    refine q_Sim.call vc_144 (as := [.inr (.inr (9, S_4.2.2.1.1, 0)), .inl x1]) (pc' := 33) (lv' := [(4, .inl r_1), (0, .inr (.inr (10, 0, 0))), (1, .inl x1), (2, .inl x2), (3, .inl x3)]) (st' := []) (S := S_4) rfl (rc_93 S_4.2.2.1.1 x1) (s_93 S_4.2.2.1.1 x1 S_4) (fun r_5 S_6 => ?_)
    refine q_Sim.steps vc_144 3 (pc' := 38) (lv' := [(5, .inr (.inr (8, r_5.1, r_5.2))), (4, .inl r_1), (0, .inr (.inr (10, 0, 0))), (1, .inl x1), (2, .inl x2), (3, .inl x3)]) (st' := [.inl x2, .inr (.inr (8, r_5.1, r_5.2))]) (V' := q_V S_6) rfl ?_
    refine q_Sim.steps vc_144 1 (pc' := 41) (lv' := [(5, .inr (.inr (8, r_5.1, r_5.2))), (4, .inl r_1), (0, .inr (.inr (10, 0, 0))), (1, .inl x1), (2, .inl x2), (3, .inl x3)]) (st' := []) (V' := q_V (q_set S_6 (8, r_5.1, r_5.2) 2 x2)) rfl ?_
    refine q_Sim.letS (fun S_7 => ?_)
    refine q_Sim.steps vc_144 2 (pc' := 44) (lv' := [(5, .inr (.inr (8, r_5.1, r_5.2))), (4, .inl r_1), (0, .inr (.inr (10, 0, 0))), (1, .inl x1), (2, .inl x2), (3, .inl x3)]) (st' := [.inl x3, .inr (.inr (8, r_5.1, r_5.2))]) (V' := q_V S_7) rfl ?_
    refine q_Sim.steps vc_144 1 (pc' := 47) (lv' := [(5, .inr (.inr (8, r_5.1, r_5.2))), (4, .inl r_1), (0, .inr (.inr (10, 0, 0))), (1, .inl x1), (2, .inl x2), (3, .inl x3)]) (st' := []) (V' := q_V (q_set S_7 (8, r_5.1, r_5.2) 3 x3)) rfl ?_
    refine q_Sim.letS (fun S_8 => ?_)
    refine q_Sim.steps vc_144 4 (pc' := 55) (lv' := [(5, .inr (.inr (8, r_5.1, r_5.2))), (4, .inl r_1), (0, .inr (.inr (10, 0, 0))), (1, .inl x1), (2, .inl x2), (3, .inl x3)]) (st' := [.inr (.inr (9, S_8.2.2.1.1, 0)), .inr (.inr (5, 0, 0))]) (V' := q_V S_8) rfl ?_
    refine q_Sim.call vc_144 (as := [.inr (.inr (5, 0, 0)), .inr (.inr (9, S_8.2.2.1.1, 0))]) (pc' := 58) (lv' := [(5, .inr (.inr (8, r_5.1, r_5.2))), (4, .inl r_1), (0, .inr (.inr (10, 0, 0))), (1, .inl x1), (2, .inl x2), (3, .inl x3)]) (st' := []) (S := S_8) rfl (rc_63 S_8.2.2.1.1) (s_63 S_8.2.2.1.1 S_8) (fun r_9 S_10 => ?_)
    refine q_Sim.steps vc_144 3 (pc' := 64) (lv' := [(5, .inr (.inr (8, r_5.1, r_5.2))), (4, .inl r_1), (0, .inr (.inr (10, 0, 0))), (1, .inl x1), (2, .inl x2), (3, .inl x3)]) (st' := [.inl (S_10.1 (8, r_5.1, r_5.2) 4), .inr (.inr (10, 0, 0))]) (V' := q_V S_10) rfl ?_
    refine q_Sim.call vc_144 (as := [.inr (.inr (10, 0, 0)), .inl (S_10.1 (8, r_5.1, r_5.2) 4)]) (pc' := 67) (lv' := [(5, .inr (.inr (8, r_5.1, r_5.2))), (4, .inl r_1), (0, .inr (.inr (10, 0, 0))), (1, .inl x1), (2, .inl x2), (3, .inl x3)]) (st' := []) (S := S_10) rfl (rc_169 (S_10.1 (8, r_5.1, r_5.2) 4)) (s_169 (S_10.1 (8, r_5.1, r_5.2) 4) S_10) (fun r_11 S_12 => ?_)
    exact q_Sim.ret vc_144 rfl
  · refine q_Sim.steps vc_144 2 (pc' := 17) (lv' := [(4, .inl r_1), (0, .inr (.inr (10, 0, 0))), (1, .inl x1), (2, .inl x2), (3, .inl x3)]) (st' := [.inl r_1, .inr (.inr (10, 0, 0))]) (V' := q_V S_2) rfl ?_
    refine q_Sim.call vc_144 (as := [.inr (.inr (10, 0, 0)), .inl r_1]) (pc' := 20) (lv' := [(4, .inl r_1), (0, .inr (.inr (10, 0, 0))), (1, .inl x1), (2, .inl x2), (3, .inl x3)]) (st' := []) (S := S_2) rfl (rc_170 r_1) (s_170 r_1 S_2) (fun r_13 S_14 => ?_)
    exact q_Sim.ret vc_144 rfl
theorem vc_145 : v_code 145 = k_145 := rfl
theorem rc_145 (x1 : Int32) (x2 : Int32) : v_rcv 145 [.inr (.inr (10, 0, 0)), .inl x1, .inl x2] = true := rfl
def b_145_16 (x1 : Int32) (x2 : Int32) (x3 : Int32) (S : QS) : Option ((Int32) × QS) := if x3 = 0 then (q_bd (f_64 S.2.2.1.1 x1 x2 S) (fun r_3 S_4 => q_bd (f_169 r_3 S_4) (fun r_5 S_6 => some (r_5, S_6)))) else (q_bd (f_170 x3 S) (fun r_7 S_8 => some (r_7, S_8)))
theorem sb_145_16 (x1 : Int32) (x2 : Int32) (x3 : Int32) (S : QS) : q_Sim 145 16 [(0, .inr (.inr (10, 0, 0))), (1, .inl x1), (2, .inl x2), (3, .inl x3)] [] (q_V S) q_I (b_145_16 x1 x2 x3 S) := by
  unfold b_145_16
  refine q_Sim.steps vc_145 1 (pc' := 17) (lv' := [(0, .inr (.inr (10, 0, 0))), (1, .inl x1), (2, .inl x2), (3, .inl x3)]) (st' := [.inl x3]) (V' := q_V S) rfl ?_
  refine q_Sim.br vc_145 (c := x3 = 0) (t := 26) (f := 20) (lv' := [(0, .inr (.inr (10, 0, 0))), (1, .inl x1), (2, .inl x2), (3, .inl x3)]) (st' := []) (V' := q_V S) rfl ?_ ?_
  · refine q_Sim.steps vc_145 7 (pc' := 37) (lv' := [(0, .inr (.inr (10, 0, 0))), (1, .inl x1), (2, .inl x2), (3, .inl x3)]) (st' := [.inl x2, .inl x1, .inr (.inr (9, S.2.2.1.1, 0)), .inr (.inr (5, 0, 0)), .inr (.inr (10, 0, 0))]) (V' := q_V S) rfl ?_
    refine q_Sim.call vc_145 (as := [.inr (.inr (5, 0, 0)), .inr (.inr (9, S.2.2.1.1, 0)), .inl x1, .inl x2]) (pc' := 40) (lv' := [(0, .inr (.inr (10, 0, 0))), (1, .inl x1), (2, .inl x2), (3, .inl x3)]) (st' := [.inr (.inr (10, 0, 0))]) (S := S) rfl (rc_64 S.2.2.1.1 x1 x2) (s_64 S.2.2.1.1 x1 x2 S) (fun r_3 S_4 => ?_)
    refine q_Sim.call vc_145 (as := [.inr (.inr (10, 0, 0)), .inl r_3]) (pc' := 43) (lv' := [(0, .inr (.inr (10, 0, 0))), (1, .inl x1), (2, .inl x2), (3, .inl x3)]) (st' := []) (S := S_4) rfl (rc_169 r_3) (s_169 r_3 S_4) (fun r_5 S_6 => ?_)
    exact q_Sim.ret vc_145 rfl
  · refine q_Sim.steps vc_145 2 (pc' := 22) (lv' := [(0, .inr (.inr (10, 0, 0))), (1, .inl x1), (2, .inl x2), (3, .inl x3)]) (st' := [.inl x3, .inr (.inr (10, 0, 0))]) (V' := q_V S) rfl ?_
    refine q_Sim.call vc_145 (as := [.inr (.inr (10, 0, 0)), .inl x3]) (pc' := 25) (lv' := [(0, .inr (.inr (10, 0, 0))), (1, .inl x1), (2, .inl x2), (3, .inl x3)]) (st' := []) (S := S) rfl (rc_170 x3) (s_170 x3 S) (fun r_7 S_8 => ?_)
    exact q_Sim.ret vc_145 rfl
def f_145 (x1 : Int32) (x2 : Int32) (S : QS) : Option ((Int32) × QS) := q_bd (f_174 x1 S) (fun r_1 S_2 => if ¬ r_1 = 0 then (b_145_16 x1 x2 r_1 S_2) else (q_bd (f_174 x2 S_2) (fun r_9 S_10 => b_145_16 x1 x2 r_9 S_10)))
theorem s_145 (x1 : Int32) (x2 : Int32) (S : QS) : q_Sim 145 0 [(0, .inr (.inr (10, 0, 0))), (1, .inl x1), (2, .inl x2)] [] (q_V S) q_I (f_145 x1 x2 S) := by
  unfold f_145
  refine q_Sim.steps vc_145 2 (pc' := 2) (lv' := [(0, .inr (.inr (10, 0, 0))), (1, .inl x1), (2, .inl x2)]) (st' := [.inl x1, .inr (.inr (10, 0, 0))]) (V' := q_V S) rfl ?_
  refine q_Sim.call vc_145 (as := [.inr (.inr (10, 0, 0)), .inl x1]) (pc' := 5) (lv' := [(0, .inr (.inr (10, 0, 0))), (1, .inl x1), (2, .inl x2)]) (st' := []) (S := S) rfl (rc_174 x1) (s_174 x1 S) (fun r_1 S_2 => ?_)
  refine q_Sim.steps vc_145 2 (pc' := 7) (lv' := [(3, .inl r_1), (0, .inr (.inr (10, 0, 0))), (1, .inl x1), (2, .inl x2)]) (st' := [.inl r_1]) (V' := q_V S_2) rfl ?_
  refine q_Sim.br vc_145 (c := ¬ r_1 = 0) (t := 16) (f := 10) (lv' := [(3, .inl r_1), (0, .inr (.inr (10, 0, 0))), (1, .inl x1), (2, .inl x2)]) (st' := []) (V' := q_V S_2) rfl ?_ ?_
  · exact q_Sim.sub2 (lv' := [(0, .inr (.inr (10, 0, 0))), (1, .inl x1), (2, .inl x2), (3, .inl r_1)]) [0, 1, 2, 3] rfl (by decide) ⟨rfl, rfl, rfl, rfl, trivial⟩ (sb_145_16 x1 x2 r_1 S_2)
  · refine q_Sim.steps vc_145 2 (pc' := 12) (lv' := [(3, .inl r_1), (0, .inr (.inr (10, 0, 0))), (1, .inl x1), (2, .inl x2)]) (st' := [.inl x2, .inr (.inr (10, 0, 0))]) (V' := q_V S_2) rfl ?_
    refine q_Sim.call vc_145 (as := [.inr (.inr (10, 0, 0)), .inl x2]) (pc' := 15) (lv' := [(3, .inl r_1), (0, .inr (.inr (10, 0, 0))), (1, .inl x1), (2, .inl x2)]) (st' := []) (S := S_2) rfl (rc_174 x2) (s_174 x2 S_2) (fun r_9 S_10 => ?_)
    refine q_Sim.steps vc_145 1 (pc' := 16) (lv' := [(3, .inl r_9), (0, .inr (.inr (10, 0, 0))), (1, .inl x1), (2, .inl x2)]) (st' := []) (V' := q_V S_10) rfl ?_
    exact q_Sim.sub2 (lv' := [(0, .inr (.inr (10, 0, 0))), (1, .inl x1), (2, .inl x2), (3, .inl r_9)]) [0, 1, 2, 3] rfl (by decide) ⟨rfl, rfl, rfl, rfl, trivial⟩ (sb_145_16 x1 x2 r_9 S_10)
theorem vc_146 : v_code 146 = k_146 := rfl
theorem rc_146 (x1 : Int32) (x2 : Int32) : v_rcv 146 [.inr (.inr (10, 0, 0)), .inl x1, .inl x2] = true := rfl
def b_146_26  (S : QS) : Option ((Int32) × QS) := q_bd (f_170 6 S) (fun r_3 S_4 => some (r_3, S_4))
theorem sb_146_26  (S : QS) : q_Sim 146 26 [(0, .inr (.inr (10, 0, 0)))] [] (q_V S) q_I (b_146_26  S) := by
  unfold b_146_26
  refine q_Sim.steps vc_146 2 (pc' := 29) (lv' := [(0, .inr (.inr (10, 0, 0)))]) (st' := [.inl 6, .inr (.inr (10, 0, 0))]) (V' := q_V S) rfl ?_
  refine q_Sim.call vc_146 (as := [.inr (.inr (10, 0, 0)), .inl 6]) (pc' := 32) (lv' := [(0, .inr (.inr (10, 0, 0)))]) (st' := []) (S := S) rfl (rc_170 6) (s_170 6 S) (fun r_3 S_4 => ?_)
  exact q_Sim.ret vc_146 rfl
def b_146_164 (xs1 : Int32) (S : QS) : Option ((Int32) × QS) := q_bd (f_169 xs1 S) (fun r_11 S_12 => some (r_11, S_12))
theorem sb_146_164 (xs1 : Int32) (S : QS) : q_Sim 146 164 [] [.inl xs1, .inr (.inr (10, 0, 0))] (q_V S) q_I (b_146_164 xs1 S) := by
  unfold b_146_164
  refine q_Sim.call vc_146 (as := [.inr (.inr (10, 0, 0)), .inl xs1]) (pc' := 167) (lv' := []) (st' := []) (S := S) rfl (rc_169 xs1) (s_169 xs1 S) (fun r_11 S_12 => ?_)
  exact q_Sim.ret vc_146 rfl
def b_146_158 (x2 : Int32) (i4 : Nat) (j4 : Nat) (S : QS) : Option ((Int32) × QS) := q_bd (f_88 i4 j4 x2 S) (fun r_9 S_10 => b_146_164 r_9 S_10)
theorem sb_146_158 (x2 : Int32) (i4 : Nat) (j4 : Nat) (S : QS) : q_Sim 146 158 [(2, .inl x2), (4, .inr (.inr (8, i4, j4)))] [.inr (.inr (10, 0, 0))] (q_V S) q_I (b_146_158 x2 i4 j4 S) := by
  unfold b_146_158
  refine q_Sim.steps vc_146 2 (pc' := 161) (lv' := [(2, .inl x2), (4, .inr (.inr (8, i4, j4)))]) (st' := [.inl x2, .inr (.inr (8, i4, j4)), .inr (.inr (10, 0, 0))]) (V' := q_V S) rfl ?_
  refine q_Sim.call vc_146 (as := [.inr (.inr (8, i4, j4)), .inl x2]) (pc' := 164) (lv' := [(2, .inl x2), (4, .inr (.inr (8, i4, j4)))]) (st' := [.inr (.inr (10, 0, 0))]) (S := S) rfl (rc_88 i4 j4 x2) (s_88 i4 j4 x2 S) (fun r_9 S_10 => ?_)
  exact q_Sim.sub2 (lv' := []) [] rfl (by decide) trivial (sb_146_164 r_9 S_10)
def b_146_95 (x1 : Int32) (x2 : Int32) (i4 : Nat) (j4 : Nat) (S : QS) : Option ((Int32) × QS) := if ¬ x2 = 13 then (if ¬ x2 = 14 then (if x2 < 2 then (b_146_158 x2 i4 j4 S) else (if 7 < x2 then (b_146_158 x2 i4 j4 S) else (q_bd (f_2 i4 j4 x2 S) (fun r_13 S_14 => b_146_164 r_13 S_14)))) else (q_bd (f_111 S.2.2.1.1 x1 S) (fun r_15 S_16 => q_bd (f_169 r_15 S_16) (fun r_17 S_18 => some (r_17, S_18))))) else (q_bd (f_110 S.2.2.1.1 x1 S) (fun r_19 S_20 => q_bd (f_169 r_19 S_20) (fun r_21 S_22 => some (r_21, S_22))))
theorem sb_146_95 (x1 : Int32) (x2 : Int32) (i4 : Nat) (j4 : Nat) (S : QS) : q_Sim 146 95 [(0, .inr (.inr (10, 0, 0))), (1, .inl x1), (2, .inl x2), (4, .inr (.inr (8, i4, j4)))] [] (q_V S) q_I (b_146_95 x1 x2 i4 j4 S) := by
  unfold b_146_95
  refine q_Sim.steps vc_146 2 (pc' := 98) (lv' := [(0, .inr (.inr (10, 0, 0))), (1, .inl x1), (2, .inl x2), (4, .inr (.inr (8, i4, j4)))]) (st' := [.inl 13, .inl x2]) (V' := q_V S) rfl ?_
  refine q_Sim.br vc_146 (c := ¬ x2 = 13) (t := 114) (f := 101) (lv' := [(0, .inr (.inr (10, 0, 0))), (1, .inl x1), (2, .inl x2), (4, .inr (.inr (8, i4, j4)))]) (st' := []) (V' := q_V S) rfl ?_ ?_
  · refine q_Sim.steps vc_146 2 (pc' := 117) (lv' := [(0, .inr (.inr (10, 0, 0))), (1, .inl x1), (2, .inl x2), (4, .inr (.inr (8, i4, j4)))]) (st' := [.inl 14, .inl x2]) (V' := q_V S) rfl ?_
    refine q_Sim.br vc_146 (c := ¬ x2 = 14) (t := 133) (f := 120) (lv' := [(0, .inr (.inr (10, 0, 0))), (1, .inl x1), (2, .inl x2), (4, .inr (.inr (8, i4, j4)))]) (st' := []) (V' := q_V S) rfl ?_ ?_
    · refine q_Sim.steps vc_146 3 (pc' := 136) (lv' := [(0, .inr (.inr (10, 0, 0))), (1, .inl x1), (2, .inl x2), (4, .inr (.inr (8, i4, j4)))]) (st' := [.inl 2, .inl x2, .inr (.inr (10, 0, 0))]) (V' := q_V S) rfl ?_
      refine q_Sim.br vc_146 (c := x2 < 2) (t := 158) (f := 139) (lv' := [(0, .inr (.inr (10, 0, 0))), (1, .inl x1), (2, .inl x2), (4, .inr (.inr (8, i4, j4)))]) (st' := [.inr (.inr (10, 0, 0))]) (V' := q_V S) rfl ?_ ?_
      · exact q_Sim.sub2 (lv' := [(2, .inl x2), (4, .inr (.inr (8, i4, j4)))]) [2, 4] rfl (by decide) ⟨rfl, rfl, trivial⟩ (sb_146_158 x2 i4 j4 S)
      · refine q_Sim.steps vc_146 2 (pc' := 142) (lv' := [(0, .inr (.inr (10, 0, 0))), (1, .inl x1), (2, .inl x2), (4, .inr (.inr (8, i4, j4)))]) (st' := [.inl 7, .inl x2, .inr (.inr (10, 0, 0))]) (V' := q_V S) rfl ?_
        refine q_Sim.br vc_146 (c := 7 < x2) (t := 158) (f := 145) (lv' := [(0, .inr (.inr (10, 0, 0))), (1, .inl x1), (2, .inl x2), (4, .inr (.inr (8, i4, j4)))]) (st' := [.inr (.inr (10, 0, 0))]) (V' := q_V S) rfl ?_ ?_
        · exact q_Sim.sub2 (lv' := [(2, .inl x2), (4, .inr (.inr (8, i4, j4)))]) [2, 4] rfl (by decide) ⟨rfl, rfl, trivial⟩ (sb_146_158 x2 i4 j4 S)
        · refine q_Sim.steps vc_146 4 (pc' := 152) (lv' := [(0, .inr (.inr (10, 0, 0))), (1, .inl x1), (2, .inl x2), (4, .inr (.inr (8, i4, j4)))]) (st' := [.inl x2, .inr (.inr (8, i4, j4)), .inr (.inr (1, 0, 0)), .inr (.inr (10, 0, 0))]) (V' := q_V S) rfl ?_
          refine q_Sim.call vc_146 (as := [.inr (.inr (1, 0, 0)), .inr (.inr (8, i4, j4)), .inl x2]) (pc' := 155) (lv' := [(0, .inr (.inr (10, 0, 0))), (1, .inl x1), (2, .inl x2), (4, .inr (.inr (8, i4, j4)))]) (st' := [.inr (.inr (10, 0, 0))]) (S := S) rfl (rc_2 i4 j4 x2) (s_2 i4 j4 x2 S) (fun r_13 S_14 => ?_)
          refine q_Sim.steps vc_146 1 (pc' := 164) (lv' := [(0, .inr (.inr (10, 0, 0))), (1, .inl x1), (2, .inl x2), (4, .inr (.inr (8, i4, j4)))]) (st' := [.inl r_13, .inr (.inr (10, 0, 0))]) (V' := q_V S_14) rfl ?_
          exact q_Sim.sub2 (lv' := []) [] rfl (by decide) trivial (sb_146_164 r_13 S_14)
    · refine q_Sim.steps vc_146 4 (pc' := 126) (lv' := [(0, .inr (.inr (10, 0, 0))), (1, .inl x1), (2, .inl x2), (4, .inr (.inr (8, i4, j4)))]) (st' := [.inl x1, .inr (.inr (9, S.2.2.1.1, 0)), .inr (.inr (10, 0, 0))]) (V' := q_V S) rfl ?_
      refine q_Sim.call vc_146 (as := [.inr (.inr (9, S.2.2.1.1, 0)), .inl x1]) (pc' := 129) (lv' := [(0, .inr (.inr (10, 0, 0))), (1, .inl x1), (2, .inl x2), (4, .inr (.inr (8, i4, j4)))]) (st' := [.inr (.inr (10, 0, 0))]) (S := S) rfl (rc_111 S.2.2.1.1 x1) (s_111 S.2.2.1.1 x1 S) (fun r_15 S_16 => ?_)
      refine q_Sim.call vc_146 (as := [.inr (.inr (10, 0, 0)), .inl r_15]) (pc' := 132) (lv' := [(0, .inr (.inr (10, 0, 0))), (1, .inl x1), (2, .inl x2), (4, .inr (.inr (8, i4, j4)))]) (st' := []) (S := S_16) rfl (rc_169 r_15) (s_169 r_15 S_16) (fun r_17 S_18 => ?_)
      exact q_Sim.ret vc_146 rfl
  · refine q_Sim.steps vc_146 4 (pc' := 107) (lv' := [(0, .inr (.inr (10, 0, 0))), (1, .inl x1), (2, .inl x2), (4, .inr (.inr (8, i4, j4)))]) (st' := [.inl x1, .inr (.inr (9, S.2.2.1.1, 0)), .inr (.inr (10, 0, 0))]) (V' := q_V S) rfl ?_
    refine q_Sim.call vc_146 (as := [.inr (.inr (9, S.2.2.1.1, 0)), .inl x1]) (pc' := 110) (lv' := [(0, .inr (.inr (10, 0, 0))), (1, .inl x1), (2, .inl x2), (4, .inr (.inr (8, i4, j4)))]) (st' := [.inr (.inr (10, 0, 0))]) (S := S) rfl (rc_110 S.2.2.1.1 x1) (s_110 S.2.2.1.1 x1 S) (fun r_19 S_20 => ?_)
    refine q_Sim.call vc_146 (as := [.inr (.inr (10, 0, 0)), .inl r_19]) (pc' := 113) (lv' := [(0, .inr (.inr (10, 0, 0))), (1, .inl x1), (2, .inl x2), (4, .inr (.inr (8, i4, j4)))]) (st' := []) (S := S_20) rfl (rc_169 r_19) (s_169 r_19 S_20) (fun r_21 S_22 => ?_)
    exact q_Sim.ret vc_146 rfl
def b_146_80 (x1 : Int32) (x2 : Int32) (i4 : Nat) (j4 : Nat) (S : QS) : Option ((Int32) × QS) := if (S.1 (8, i4, j4) 0) = 2 then (b_146_95 x1 x2 i4 j4 S) else (q_bd (f_170 3 S) (fun r_23 S_24 => some (r_23, S_24)))
theorem sb_146_80 (x1 : Int32) (x2 : Int32) (i4 : Nat) (j4 : Nat) (S : QS) : q_Sim 146 80 [(0, .inr (.inr (10, 0, 0))), (1, .inl x1), (2, .inl x2), (4, .inr (.inr (8, i4, j4)))] [] (q_V S) q_I (b_146_80 x1 x2 i4 j4 S) := by
  unfold b_146_80
  refine q_Sim.steps vc_146 3 (pc' := 86) (lv' := [(0, .inr (.inr (10, 0, 0))), (1, .inl x1), (2, .inl x2), (4, .inr (.inr (8, i4, j4)))]) (st' := [.inl 2, .inl (S.1 (8, i4, j4) 0)]) (V' := q_V S) rfl ?_
  refine q_Sim.br vc_146 (c := (S.1 (8, i4, j4) 0) = 2) (t := 95) (f := 89) (lv' := [(0, .inr (.inr (10, 0, 0))), (1, .inl x1), (2, .inl x2), (4, .inr (.inr (8, i4, j4)))]) (st' := []) (V' := q_V S) rfl ?_ ?_
  · exact q_Sim.sub2 (lv' := [(0, .inr (.inr (10, 0, 0))), (1, .inl x1), (2, .inl x2), (4, .inr (.inr (8, i4, j4)))]) [0, 1, 2, 4] rfl (by decide) ⟨rfl, rfl, rfl, rfl, trivial⟩ (sb_146_95 x1 x2 i4 j4 S)
  · refine q_Sim.steps vc_146 2 (pc' := 91) (lv' := [(0, .inr (.inr (10, 0, 0))), (1, .inl x1), (2, .inl x2), (4, .inr (.inr (8, i4, j4)))]) (st' := [.inl 3, .inr (.inr (10, 0, 0))]) (V' := q_V S) rfl ?_
    refine q_Sim.call vc_146 (as := [.inr (.inr (10, 0, 0)), .inl 3]) (pc' := 94) (lv' := [(0, .inr (.inr (10, 0, 0))), (1, .inl x1), (2, .inl x2), (4, .inr (.inr (8, i4, j4)))]) (st' := []) (S := S) rfl (rc_170 3) (s_170 3 S) (fun r_23 S_24 => ?_)
    exact q_Sim.ret vc_146 rfl
def b_146_68 (x1 : Int32) (x2 : Int32) (i4 : Nat) (j4 : Nat) (S : QS) : Option ((Int32) × QS) := if x2 = 11 then (b_146_80 x1 x2 i4 j4 S) else (if ¬ x2 = 12 then (b_146_95 x1 x2 i4 j4 S) else (b_146_80 x1 x2 i4 j4 S))
theorem sb_146_68 (x1 : Int32) (x2 : Int32) (i4 : Nat) (j4 : Nat) (S : QS) : q_Sim 146 68 [(0, .inr (.inr (10, 0, 0))), (1, .inl x1), (2, .inl x2), (4, .inr (.inr (8, i4, j4)))] [] (q_V S) q_I (b_146_68 x1 x2 i4 j4 S) := by
  unfold b_146_68
  refine q_Sim.steps vc_146 2 (pc' := 71) (lv' := [(0, .inr (.inr (10, 0, 0))), (1, .inl x1), (2, .inl x2), (4, .inr (.inr (8, i4, j4)))]) (st' := [.inl 11, .inl x2]) (V' := q_V S) rfl ?_
  refine q_Sim.br vc_146 (c := x2 = 11) (t := 80) (f := 74) (lv' := [(0, .inr (.inr (10, 0, 0))), (1, .inl x1), (2, .inl x2), (4, .inr (.inr (8, i4, j4)))]) (st' := []) (V' := q_V S) rfl ?_ ?_
  · exact q_Sim.sub2 (lv' := [(0, .inr (.inr (10, 0, 0))), (1, .inl x1), (2, .inl x2), (4, .inr (.inr (8, i4, j4)))]) [0, 1, 2, 4] rfl (by decide) ⟨rfl, rfl, rfl, rfl, trivial⟩ (sb_146_80 x1 x2 i4 j4 S)
  · refine q_Sim.steps vc_146 2 (pc' := 77) (lv' := [(0, .inr (.inr (10, 0, 0))), (1, .inl x1), (2, .inl x2), (4, .inr (.inr (8, i4, j4)))]) (st' := [.inl 12, .inl x2]) (V' := q_V S) rfl ?_
    refine q_Sim.br vc_146 (c := ¬ x2 = 12) (t := 95) (f := 80) (lv' := [(0, .inr (.inr (10, 0, 0))), (1, .inl x1), (2, .inl x2), (4, .inr (.inr (8, i4, j4)))]) (st' := []) (V' := q_V S) rfl ?_ ?_
    · exact q_Sim.sub2 (lv' := [(0, .inr (.inr (10, 0, 0))), (1, .inl x1), (2, .inl x2), (4, .inr (.inr (8, i4, j4)))]) [0, 1, 2, 4] rfl (by decide) ⟨rfl, rfl, rfl, rfl, trivial⟩ (sb_146_95 x1 x2 i4 j4 S)
    · exact q_Sim.sub2 (lv' := [(0, .inr (.inr (10, 0, 0))), (1, .inl x1), (2, .inl x2), (4, .inr (.inr (8, i4, j4)))]) [0, 1, 2, 4] rfl (by decide) ⟨rfl, rfl, rfl, rfl, trivial⟩ (sb_146_80 x1 x2 i4 j4 S)
def b_146_54 (x1 : Int32) (x2 : Int32) (i4 : Nat) (j4 : Nat) (S : QS) : Option ((Int32) × QS) := q_bd (f_86 i4 j4 S) (fun r_7 S_8 => if ¬ r_7 = 0 then (b_146_68 x1 x2 i4 j4 S_8) else (q_bd (f_170 3 S_8) (fun r_25 S_26 => some (r_25, S_26))))
theorem sb_146_54 (x1 : Int32) (x2 : Int32) (i4 : Nat) (j4 : Nat) (S : QS) : q_Sim 146 54 [(0, .inr (.inr (10, 0, 0))), (1, .inl x1), (2, .inl x2), (4, .inr (.inr (8, i4, j4)))] [] (q_V S) q_I (b_146_54 x1 x2 i4 j4 S) := by
  unfold b_146_54
  refine q_Sim.steps vc_146 1 (pc' := 56) (lv' := [(0, .inr (.inr (10, 0, 0))), (1, .inl x1), (2, .inl x2), (4, .inr (.inr (8, i4, j4)))]) (st' := [.inr (.inr (8, i4, j4))]) (V' := q_V S) rfl ?_
  refine q_Sim.call vc_146 (as := [.inr (.inr (8, i4, j4))]) (pc' := 59) (lv' := [(0, .inr (.inr (10, 0, 0))), (1, .inl x1), (2, .inl x2), (4, .inr (.inr (8, i4, j4)))]) (st' := []) (S := S) rfl (rc_86 i4 j4) (s_86 i4 j4 S) (fun r_7 S_8 => ?_)
  refine q_Sim.br vc_146 (c := ¬ r_7 = 0) (t := 68) (f := 62) (lv' := [(0, .inr (.inr (10, 0, 0))), (1, .inl x1), (2, .inl x2), (4, .inr (.inr (8, i4, j4)))]) (st' := []) (V' := q_V S_8) rfl ?_ ?_
  · exact q_Sim.sub2 (lv' := [(0, .inr (.inr (10, 0, 0))), (1, .inl x1), (2, .inl x2), (4, .inr (.inr (8, i4, j4)))]) [0, 1, 2, 4] rfl (by decide) ⟨rfl, rfl, rfl, rfl, trivial⟩ (sb_146_68 x1 x2 i4 j4 S_8)
  · refine q_Sim.steps vc_146 2 (pc' := 64) (lv' := [(0, .inr (.inr (10, 0, 0))), (1, .inl x1), (2, .inl x2), (4, .inr (.inr (8, i4, j4)))]) (st' := [.inl 3, .inr (.inr (10, 0, 0))]) (V' := q_V S_8) rfl ?_
    refine q_Sim.call vc_146 (as := [.inr (.inr (10, 0, 0)), .inl 3]) (pc' := 67) (lv' := [(0, .inr (.inr (10, 0, 0))), (1, .inl x1), (2, .inl x2), (4, .inr (.inr (8, i4, j4)))]) (st' := []) (S := S_8) rfl (rc_170 3) (s_170 3 S_8) (fun r_25 S_26 => ?_)
    exact q_Sim.ret vc_146 rfl
def f_146 (x1 : Int32) (x2 : Int32) (S : QS) : Option ((Int32) × QS) := q_bd (f_174 x1 S) (fun r_1 S_2 => if r_1 = 0 then (if x2 < 0 then (b_146_26  S_2) else (if x2 ≤ 14 then (q_bd (f_93 S_2.2.2.1.1 x1 S_2) (fun r_5 S_6 => if x2 = 4 then (b_146_54 x1 x2 r_5.1 r_5.2 S_6) else (if ¬ x2 = 7 then (b_146_68 x1 x2 r_5.1 r_5.2 S_6) else (b_146_54 x1 x2 r_5.1 r_5.2 S_6)))) else (b_146_26  S_2))) else (q_bd (f_170 r_1 S_2) (fun r_27 S_28 => some (r_27, S_28))))
theorem s_146 (x1 : Int32) (x2 : Int32) (S : QS) : q_Sim 146 0 [(0, .inr (.inr (10, 0, 0))), (1, .inl x1), (2, .inl x2)] [] (q_V S) q_I (f_146 x1 x2 S) := by
  unfold f_146
  refine q_Sim.steps vc_146 2 (pc' := 2) (lv' := [(0, .inr (.inr (10, 0, 0))), (1, .inl x1), (2, .inl x2)]) (st' := [.inl x1, .inr (.inr (10, 0, 0))]) (V' := q_V S) rfl ?_
  refine q_Sim.call vc_146 (as := [.inr (.inr (10, 0, 0)), .inl x1]) (pc' := 5) (lv' := [(0, .inr (.inr (10, 0, 0))), (1, .inl x1), (2, .inl x2)]) (st' := []) (S := S) rfl (rc_174 x1) (s_174 x1 S) (fun r_1 S_2 => ?_)
  refine q_Sim.steps vc_146 2 (pc' := 7) (lv' := [(3, .inl r_1), (0, .inr (.inr (10, 0, 0))), (1, .inl x1), (2, .inl x2)]) (st' := [.inl r_1]) (V' := q_V S_2) rfl ?_
  refine q_Sim.br vc_146 (c := r_1 = 0) (t := 16) (f := 10) (lv' := [(3, .inl r_1), (0, .inr (.inr (10, 0, 0))), (1, .inl x1), (2, .inl x2)]) (st' := []) (V' := q_V S_2) rfl ?_ ?_
  · refine q_Sim.steps vc_146 1 (pc' := 17) (lv' := [(3, .inl r_1), (0, .inr (.inr (10, 0, 0))), (1, .inl x1), (2, .inl x2)]) (st' := [.inl x2]) (V' := q_V S_2) rfl ?_
    refine q_Sim.br vc_146 (c := x2 < 0) (t := 26) (f := 20) (lv' := [(3, .inl r_1), (0, .inr (.inr (10, 0, 0))), (1, .inl x1), (2, .inl x2)]) (st' := []) (V' := q_V S_2) rfl ?_ ?_
    · exact q_Sim.sub2 (lv' := [(0, .inr (.inr (10, 0, 0)))]) [0] rfl (by decide) ⟨rfl, trivial⟩ (sb_146_26  S_2)
    · refine q_Sim.steps vc_146 2 (pc' := 23) (lv' := [(3, .inl r_1), (0, .inr (.inr (10, 0, 0))), (1, .inl x1), (2, .inl x2)]) (st' := [.inl 14, .inl x2]) (V' := q_V S_2) rfl ?_
      refine q_Sim.br vc_146 (c := x2 ≤ 14) (t := 33) (f := 26) (lv' := [(3, .inl r_1), (0, .inr (.inr (10, 0, 0))), (1, .inl x1), (2, .inl x2)]) (st' := []) (V' := q_V S_2) rfl ?_ ?_
      · refine q_Sim.steps vc_146 3 (pc' := 38) (lv' := [(3, .inl r_1), (0, .inr (.inr (10, 0, 0))), (1, .inl x1), (2, .inl x2)]) (st' := [.inl x1, .inr (.inr (9, S_2.2.2.1.1, 0))]) (V' := q_V S_2) rfl ?_
        refine q_Sim.call vc_146 (as := [.inr (.inr (9, S_2.2.2.1.1, 0)), .inl x1]) (pc' := 41) (lv' := [(3, .inl r_1), (0, .inr (.inr (10, 0, 0))), (1, .inl x1), (2, .inl x2)]) (st' := []) (S := S_2) rfl (rc_93 S_2.2.2.1.1 x1) (s_93 S_2.2.2.1.1 x1 S_2) (fun r_5 S_6 => ?_)
        refine q_Sim.steps vc_146 3 (pc' := 45) (lv' := [(4, .inr (.inr (8, r_5.1, r_5.2))), (3, .inl r_1), (0, .inr (.inr (10, 0, 0))), (1, .inl x1), (2, .inl x2)]) (st' := [.inl 4, .inl x2]) (V' := q_V S_6) rfl ?_
        refine q_Sim.br vc_146 (c := x2 = 4) (t := 54) (f := 48) (lv' := [(4, .inr (.inr (8, r_5.1, r_5.2))), (3, .inl r_1), (0, .inr (.inr (10, 0, 0))), (1, .inl x1), (2, .inl x2)]) (st' := []) (V' := q_V S_6) rfl ?_ ?_
        · exact q_Sim.sub2 (lv' := [(0, .inr (.inr (10, 0, 0))), (1, .inl x1), (2, .inl x2), (4, .inr (.inr (8, r_5.1, r_5.2)))]) [0, 1, 2, 4] rfl (by decide) ⟨rfl, rfl, rfl, rfl, trivial⟩ (sb_146_54 x1 x2 r_5.1 r_5.2 S_6)
        · refine q_Sim.steps vc_146 2 (pc' := 51) (lv' := [(4, .inr (.inr (8, r_5.1, r_5.2))), (3, .inl r_1), (0, .inr (.inr (10, 0, 0))), (1, .inl x1), (2, .inl x2)]) (st' := [.inl 7, .inl x2]) (V' := q_V S_6) rfl ?_
          refine q_Sim.br vc_146 (c := ¬ x2 = 7) (t := 68) (f := 54) (lv' := [(4, .inr (.inr (8, r_5.1, r_5.2))), (3, .inl r_1), (0, .inr (.inr (10, 0, 0))), (1, .inl x1), (2, .inl x2)]) (st' := []) (V' := q_V S_6) rfl ?_ ?_
          · exact q_Sim.sub2 (lv' := [(0, .inr (.inr (10, 0, 0))), (1, .inl x1), (2, .inl x2), (4, .inr (.inr (8, r_5.1, r_5.2)))]) [0, 1, 2, 4] rfl (by decide) ⟨rfl, rfl, rfl, rfl, trivial⟩ (sb_146_68 x1 x2 r_5.1 r_5.2 S_6)
          · exact q_Sim.sub2 (lv' := [(0, .inr (.inr (10, 0, 0))), (1, .inl x1), (2, .inl x2), (4, .inr (.inr (8, r_5.1, r_5.2)))]) [0, 1, 2, 4] rfl (by decide) ⟨rfl, rfl, rfl, rfl, trivial⟩ (sb_146_54 x1 x2 r_5.1 r_5.2 S_6)
      · exact q_Sim.sub2 (lv' := [(0, .inr (.inr (10, 0, 0)))]) [0] rfl (by decide) ⟨rfl, trivial⟩ (sb_146_26  S_2)
  · refine q_Sim.steps vc_146 2 (pc' := 12) (lv' := [(3, .inl r_1), (0, .inr (.inr (10, 0, 0))), (1, .inl x1), (2, .inl x2)]) (st' := [.inl r_1, .inr (.inr (10, 0, 0))]) (V' := q_V S_2) rfl ?_
    refine q_Sim.call vc_146 (as := [.inr (.inr (10, 0, 0)), .inl r_1]) (pc' := 15) (lv' := [(3, .inl r_1), (0, .inr (.inr (10, 0, 0))), (1, .inl x1), (2, .inl x2)]) (st' := []) (S := S_2) rfl (rc_170 r_1) (s_170 r_1 S_2) (fun r_27 S_28 => ?_)
    exact q_Sim.ret vc_146 rfl
theorem vc_147 : v_code 147 = k_147 := rfl
theorem rc_147 (x1 : Int32) (x2 : Int32) : v_rcv 147 [.inr (.inr (10, 0, 0)), .inl x1, .inl x2] = true := rfl
def b_147_44 (x1 : Int32) (x2 : Int32) (x3 : Int32) (S : QS) : Option ((Int32) × QS) := if x3 = 0 then (q_bd (f_171  S) (fun r_3 S_4 => q_bd (f_91 S_4.2.2.1.1 x1 S_4) (fun r_5 S_6 => q_let (S_6.1 (4, r_5.1, r_5.2) 5) (fun y_7 => q_let (q_set S_6 (4, r_5.1, r_5.2) 5 x2) (fun S_8 => q_bd (f_169 y_7 S_8) (fun r_9 S_10 => some (r_9, S_10))))))) else (q_bd (f_170 x3 S) (fun r_11 S_12 => some (r_11, S_12)))
theorem sb_147_44 (x1 : Int32) (x2 : Int32) (x3 : Int32) (S : QS) : q_Sim 147 44 [(0, .inr (.inr (10, 0, 0))), (1, .inl x1), (2, .inl x2), (3, .inl x3)] [] (q_V S) q_I (b_147_44 x1 x2 x3 S) := by
  unfold b_147_44
  refine q_Sim.steps vc_147 1 (pc' := 45) (lv' := [(0, .inr (.inr (10, 0, 0))), (1, .inl x1), (2, .inl x2), (3, .inl x3)]) (st' := [.inl x3]) (V' := q_V S) rfl ?_
  refine q_Sim.br vc_147 (c := x3 = 0) (t := 54) (f := 48) (lv' := [(0, .inr (.inr (10, 0, 0))), (1, .inl x1), (2, .inl x2), (3, .inl x3)]) (st' := []) (V' := q_V S) rfl ?_ ?_
  · refine q_Sim.steps vc_147 1 (pc' := 55) (lv' := [(0, .inr (.inr (10, 0, 0))), (1, .inl x1), (2, .inl x2), (3, .inl x3)]) (st' := [.inr (.inr (10, 0, 0))]) (V' := q_V S) rfl ?_
    refine q_Sim.call vc_147 (as := [.inr (.inr (10, 0, 0))]) (pc' := 58) (lv' := [(0, .inr (.inr (10, 0, 0))), (1, .inl x1), (2, .inl x2), (3, .inl x3)]) (st' := []) (S := S) rfl (rc_171 ) (s_171  S) (fun r_3 S_4 => ?_)
    refine q_Sim.steps vc_147 3 (pc' := 63) (lv' := [(0, .inr (.inr (10, 0, 0))), (1, .inl x1), (2, .inl x2), (3, .inl x3)]) (st' := [.inl x1, .inr (.inr (9, S_4.2.2.1.1, 0))]) (V' := q_V S_4) rfl ?_
    refine q_Sim.call vc_147 (as := [.inr (.inr (9, S_4.2.2.1.1, 0)), .inl x1]) (pc' := 66) (lv' := [(0, .inr (.inr (10, 0, 0))), (1, .inl x1), (2, .inl x2), (3, .inl x3)]) (st' := []) (S := S_4) rfl (rc_91 S_4.2.2.1.1 x1) (s_91 S_4.2.2.1.1 x1 S_4) (fun r_5 S_6 => ?_)
    refine q_Sim.steps vc_147 3 (pc' := 73) (lv' := [(4, .inr (.inr (4, r_5.1, r_5.2))), (0, .inr (.inr (10, 0, 0))), (1, .inl x1), (2, .inl x2), (3, .inl x3)]) (st' := [.inl (S_6.1 (4, r_5.1, r_5.2) 5)]) (V' := q_V S_6) rfl ?_
    refine q_Sim.letI (fun y_7 => ?_)
    refine q_Sim.steps vc_147 3 (pc' := 78) (lv' := [(5, .inl y_7), (4, .inr (.inr (4, r_5.1, r_5.2))), (0, .inr (.inr (10, 0, 0))), (1, .inl x1), (2, .inl x2), (3, .inl x3)]) (st' := [.inl x2, .inr (.inr (4, r_5.1, r_5.2))]) (V' := q_V S_6) rfl ?_
    refine q_Sim.steps vc_147 1 (pc' := 81) (lv' := [(5, .inl y_7), (4, .inr (.inr (4, r_5.1, r_5.2))), (0, .inr (.inr (10, 0, 0))), (1, .inl x1), (2, .inl x2), (3, .inl x3)]) (st' := []) (V' := q_V (q_set S_6 (4, r_5.1, r_5.2) 5 x2)) rfl ?_
    refine q_Sim.letS (fun S_8 => ?_)
    refine q_Sim.steps vc_147 2 (pc' := 84) (lv' := [(5, .inl y_7), (4, .inr (.inr (4, r_5.1, r_5.2))), (0, .inr (.inr (10, 0, 0))), (1, .inl x1), (2, .inl x2), (3, .inl x3)]) (st' := [.inl y_7, .inr (.inr (10, 0, 0))]) (V' := q_V S_8) rfl ?_
    refine q_Sim.call vc_147 (as := [.inr (.inr (10, 0, 0)), .inl y_7]) (pc' := 87) (lv' := [(5, .inl y_7), (4, .inr (.inr (4, r_5.1, r_5.2))), (0, .inr (.inr (10, 0, 0))), (1, .inl x1), (2, .inl x2), (3, .inl x3)]) (st' := []) (S := S_8) rfl (rc_169 y_7) (s_169 y_7 S_8) (fun r_9 S_10 => ?_)
    exact q_Sim.ret vc_147 rfl
  · refine q_Sim.steps vc_147 2 (pc' := 50) (lv' := [(0, .inr (.inr (10, 0, 0))), (1, .inl x1), (2, .inl x2), (3, .inl x3)]) (st' := [.inl x3, .inr (.inr (10, 0, 0))]) (V' := q_V S) rfl ?_
    refine q_Sim.call vc_147 (as := [.inr (.inr (10, 0, 0)), .inl x3]) (pc' := 53) (lv' := [(0, .inr (.inr (10, 0, 0))), (1, .inl x1), (2, .inl x2), (3, .inl x3)]) (st' := []) (S := S) rfl (rc_170 x3) (s_170 x3 S) (fun r_11 S_12 => ?_)
    exact q_Sim.ret vc_147 rfl
def b_147_21 (x1 : Int32) (x2 : Int32) (x3 : Int32) (S : QS) : Option ((Int32) × QS) := if ¬ x3 = 0 then (b_147_44 x1 x2 x3 S) else (if x2 = (-1) then (b_147_44 x1 x2 x3 S) else (q_bd (f_112 S.2.2.1.1 x2 S) (fun r_13 S_14 => if r_13 = 0 then (b_147_44 x1 x2 x3 S_14) else (b_147_44 x1 x2 6 S_14))))
theorem sb_147_21 (x1 : Int32) (x2 : Int32) (x3 : Int32) (S : QS) : q_Sim 147 21 [(0, .inr (.inr (10, 0, 0))), (1, .inl x1), (2, .inl x2), (3, .inl x3)] [] (q_V S) q_I (b_147_21 x1 x2 x3 S) := by
  unfold b_147_21
  refine q_Sim.steps vc_147 1 (pc' := 22) (lv' := [(0, .inr (.inr (10, 0, 0))), (1, .inl x1), (2, .inl x2), (3, .inl x3)]) (st' := [.inl x3]) (V' := q_V S) rfl ?_
  refine q_Sim.br vc_147 (c := ¬ x3 = 0) (t := 44) (f := 25) (lv' := [(0, .inr (.inr (10, 0, 0))), (1, .inl x1), (2, .inl x2), (3, .inl x3)]) (st' := []) (V' := q_V S) rfl ?_ ?_
  · exact q_Sim.sub2 (lv' := [(0, .inr (.inr (10, 0, 0))), (1, .inl x1), (2, .inl x2), (3, .inl x3)]) [0, 1, 2, 3] rfl (by decide) ⟨rfl, rfl, rfl, rfl, trivial⟩ (sb_147_44 x1 x2 x3 S)
  · refine q_Sim.steps vc_147 2 (pc' := 27) (lv' := [(0, .inr (.inr (10, 0, 0))), (1, .inl x1), (2, .inl x2), (3, .inl x3)]) (st' := [.inl (-1), .inl x2]) (V' := q_V S) rfl ?_
    refine q_Sim.br vc_147 (c := x2 = (-1)) (t := 44) (f := 30) (lv' := [(0, .inr (.inr (10, 0, 0))), (1, .inl x1), (2, .inl x2), (3, .inl x3)]) (st' := []) (V' := q_V S) rfl ?_ ?_
    · exact q_Sim.sub2 (lv' := [(0, .inr (.inr (10, 0, 0))), (1, .inl x1), (2, .inl x2), (3, .inl x3)]) [0, 1, 2, 3] rfl (by decide) ⟨rfl, rfl, rfl, rfl, trivial⟩ (sb_147_44 x1 x2 x3 S)
    · refine q_Sim.steps vc_147 3 (pc' := 35) (lv' := [(0, .inr (.inr (10, 0, 0))), (1, .inl x1), (2, .inl x2), (3, .inl x3)]) (st' := [.inl x2, .inr (.inr (9, S.2.2.1.1, 0))]) (V' := q_V S) rfl ?_
      refine q_Sim.call vc_147 (as := [.inr (.inr (9, S.2.2.1.1, 0)), .inl x2]) (pc' := 38) (lv' := [(0, .inr (.inr (10, 0, 0))), (1, .inl x1), (2, .inl x2), (3, .inl x3)]) (st' := []) (S := S) rfl (rc_112 S.2.2.1.1 x2) (s_112 S.2.2.1.1 x2 S) (fun r_13 S_14 => ?_)
      refine q_Sim.br vc_147 (c := r_13 = 0) (t := 44) (f := 41) (lv' := [(0, .inr (.inr (10, 0, 0))), (1, .inl x1), (2, .inl x2), (3, .inl x3)]) (st' := []) (V' := q_V S_14) rfl ?_ ?_
      · exact q_Sim.sub2 (lv' := [(0, .inr (.inr (10, 0, 0))), (1, .inl x1), (2, .inl x2), (3, .inl x3)]) [0, 1, 2, 3] rfl (by decide) ⟨rfl, rfl, rfl, rfl, trivial⟩ (sb_147_44 x1 x2 x3 S_14)
      · refine q_Sim.steps vc_147 2 (pc' := 44) (lv' := [(3, .inl 6), (0, .inr (.inr (10, 0, 0))), (1, .inl x1), (2, .inl x2)]) (st' := []) (V' := q_V S_14) rfl ?_
        exact q_Sim.sub2 (lv' := [(0, .inr (.inr (10, 0, 0))), (1, .inl x1), (2, .inl x2), (3, .inl 6)]) [0, 1, 2, 3] rfl (by decide) ⟨rfl, rfl, rfl, rfl, trivial⟩ (sb_147_44 x1 x2 6 S_14)
def f_147 (x1 : Int32) (x2 : Int32) (S : QS) : Option ((Int32) × QS) := q_bd (f_172 x1 S) (fun r_1 S_2 => if ¬ r_1 = 0 then (b_147_21 x1 x2 r_1 S_2) else (if x2 = (-1) then (b_147_21 x1 x2 r_1 S_2) else (q_bd (f_174 x2 S_2) (fun r_15 S_16 => b_147_21 x1 x2 r_15 S_16))))
theorem s_147 (x1 : Int32) (x2 : Int32) (S : QS) : q_Sim 147 0 [(0, .inr (.inr (10, 0, 0))), (1, .inl x1), (2, .inl x2)] [] (q_V S) q_I (f_147 x1 x2 S) := by
  unfold f_147
  refine q_Sim.steps vc_147 2 (pc' := 2) (lv' := [(0, .inr (.inr (10, 0, 0))), (1, .inl x1), (2, .inl x2)]) (st' := [.inl x1, .inr (.inr (10, 0, 0))]) (V' := q_V S) rfl ?_
  refine q_Sim.call vc_147 (as := [.inr (.inr (10, 0, 0)), .inl x1]) (pc' := 5) (lv' := [(0, .inr (.inr (10, 0, 0))), (1, .inl x1), (2, .inl x2)]) (st' := []) (S := S) rfl (rc_172 x1) (s_172 x1 S) (fun r_1 S_2 => ?_)
  refine q_Sim.steps vc_147 2 (pc' := 7) (lv' := [(3, .inl r_1), (0, .inr (.inr (10, 0, 0))), (1, .inl x1), (2, .inl x2)]) (st' := [.inl r_1]) (V' := q_V S_2) rfl ?_
  refine q_Sim.br vc_147 (c := ¬ r_1 = 0) (t := 21) (f := 10) (lv' := [(3, .inl r_1), (0, .inr (.inr (10, 0, 0))), (1, .inl x1), (2, .inl x2)]) (st' := []) (V' := q_V S_2) rfl ?_ ?_
  · exact q_Sim.sub2 (lv' := [(0, .inr (.inr (10, 0, 0))), (1, .inl x1), (2, .inl x2), (3, .inl r_1)]) [0, 1, 2, 3] rfl (by decide) ⟨rfl, rfl, rfl, rfl, trivial⟩ (sb_147_21 x1 x2 r_1 S_2)
  · refine q_Sim.steps vc_147 2 (pc' := 12) (lv' := [(3, .inl r_1), (0, .inr (.inr (10, 0, 0))), (1, .inl x1), (2, .inl x2)]) (st' := [.inl (-1), .inl x2]) (V' := q_V S_2) rfl ?_
    refine q_Sim.br vc_147 (c := x2 = (-1)) (t := 21) (f := 15) (lv' := [(3, .inl r_1), (0, .inr (.inr (10, 0, 0))), (1, .inl x1), (2, .inl x2)]) (st' := []) (V' := q_V S_2) rfl ?_ ?_
    · exact q_Sim.sub2 (lv' := [(0, .inr (.inr (10, 0, 0))), (1, .inl x1), (2, .inl x2), (3, .inl r_1)]) [0, 1, 2, 3] rfl (by decide) ⟨rfl, rfl, rfl, rfl, trivial⟩ (sb_147_21 x1 x2 r_1 S_2)
    · refine q_Sim.steps vc_147 2 (pc' := 17) (lv' := [(3, .inl r_1), (0, .inr (.inr (10, 0, 0))), (1, .inl x1), (2, .inl x2)]) (st' := [.inl x2, .inr (.inr (10, 0, 0))]) (V' := q_V S_2) rfl ?_
      refine q_Sim.call vc_147 (as := [.inr (.inr (10, 0, 0)), .inl x2]) (pc' := 20) (lv' := [(3, .inl r_1), (0, .inr (.inr (10, 0, 0))), (1, .inl x1), (2, .inl x2)]) (st' := []) (S := S_2) rfl (rc_174 x2) (s_174 x2 S_2) (fun r_15 S_16 => ?_)
      refine q_Sim.steps vc_147 1 (pc' := 21) (lv' := [(3, .inl r_15), (0, .inr (.inr (10, 0, 0))), (1, .inl x1), (2, .inl x2)]) (st' := []) (V' := q_V S_16) rfl ?_
      exact q_Sim.sub2 (lv' := [(0, .inr (.inr (10, 0, 0))), (1, .inl x1), (2, .inl x2), (3, .inl r_15)]) [0, 1, 2, 3] rfl (by decide) ⟨rfl, rfl, rfl, rfl, trivial⟩ (sb_147_21 x1 x2 r_15 S_16)
theorem vc_148 : v_code 148 = k_148 := rfl
theorem rc_148 (x1 : Int32) (x2 : Int32) : v_rcv 148 [.inr (.inr (10, 0, 0)), .inl x1, .inl x2] = true := rfl
def b_148_52  (S : QS) : Option ((Int32) × QS) := q_bd (f_170 6 S) (fun r_5 S_6 => some (r_5, S_6))
theorem sb_148_52  (S : QS) : q_Sim 148 52 [(0, .inr (.inr (10, 0, 0)))] [] (q_V S) q_I (b_148_52  S) := by
  unfold b_148_52
  refine q_Sim.steps vc_148 2 (pc' := 55) (lv' := [(0, .inr (.inr (10, 0, 0)))]) (st' := [.inl 6, .inr (.inr (10, 0, 0))]) (V' := q_V S) rfl ?_
  refine q_Sim.call vc_148 (as := [.inr (.inr (10, 0, 0)), .inl 6]) (pc' := 58) (lv' := [(0, .inr (.inr (10, 0, 0)))]) (st' := []) (S := S) rfl (rc_170 6) (s_170 6 S) (fun r_5 S_6 => ?_)
  exact q_Sim.ret vc_148 rfl
def f_148 (x1 : Int32) (x2 : Int32) (S : QS) : Option ((Int32) × QS) := q_bd (f_174 x1 S) (fun r_1 S_2 => if r_1 = 0 then (q_bd (f_93 S_2.2.2.1.1 x1 S_2) (fun r_3 S_4 => if (S_4.1 (8, r_3.1, r_3.2) 0) = 2 then (if x2 < 0 then (b_148_52  S_4) else (if x2 ≤ 200 then (q_bd (f_171  S_4) (fun r_7 S_8 => q_let (S_8.1 (8, r_3.1, r_3.2) 5) (fun y_9 => q_let (q_set S_8 (8, r_3.1, r_3.2) 5 x2) (fun S_10 => q_bd (f_169 y_9 S_10) (fun r_11 S_12 => some (r_11, S_12)))))) else (b_148_52  S_4))) else (q_bd (f_170 3 S_4) (fun r_13 S_14 => some (r_13, S_14))))) else (q_bd (f_170 r_1 S_2) (fun r_15 S_16 => some (r_15, S_16))))
theorem s_148 (x1 : Int32) (x2 : Int32) (S : QS) : q_Sim 148 0 [(0, .inr (.inr (10, 0, 0))), (1, .inl x1), (2, .inl x2)] [] (q_V S) q_I (f_148 x1 x2 S) := by
  unfold f_148
  refine q_Sim.steps vc_148 2 (pc' := 2) (lv' := [(0, .inr (.inr (10, 0, 0))), (1, .inl x1), (2, .inl x2)]) (st' := [.inl x1, .inr (.inr (10, 0, 0))]) (V' := q_V S) rfl ?_
  refine q_Sim.call vc_148 (as := [.inr (.inr (10, 0, 0)), .inl x1]) (pc' := 5) (lv' := [(0, .inr (.inr (10, 0, 0))), (1, .inl x1), (2, .inl x2)]) (st' := []) (S := S) rfl (rc_174 x1) (s_174 x1 S) (fun r_1 S_2 => ?_)
  refine q_Sim.steps vc_148 2 (pc' := 7) (lv' := [(3, .inl r_1), (0, .inr (.inr (10, 0, 0))), (1, .inl x1), (2, .inl x2)]) (st' := [.inl r_1]) (V' := q_V S_2) rfl ?_
  refine q_Sim.br vc_148 (c := r_1 = 0) (t := 16) (f := 10) (lv' := [(3, .inl r_1), (0, .inr (.inr (10, 0, 0))), (1, .inl x1), (2, .inl x2)]) (st' := []) (V' := q_V S_2) rfl ?_ ?_
  · refine q_Sim.steps vc_148 3 (pc' := 21) (lv' := [(3, .inl r_1), (0, .inr (.inr (10, 0, 0))), (1, .inl x1), (2, .inl x2)]) (st' := [.inl x1, .inr (.inr (9, S_2.2.2.1.1, 0))]) (V' := q_V S_2) rfl ?_
    refine q_Sim.call vc_148 (as := [.inr (.inr (9, S_2.2.2.1.1, 0)), .inl x1]) (pc' := 24) (lv' := [(3, .inl r_1), (0, .inr (.inr (10, 0, 0))), (1, .inl x1), (2, .inl x2)]) (st' := []) (S := S_2) rfl (rc_93 S_2.2.2.1.1 x1) (s_93 S_2.2.2.1.1 x1 S_2) (fun r_3 S_4 => ?_)
    refine q_Sim.steps vc_148 4 (pc' := 32) (lv' := [(4, .inr (.inr (8, r_3.1, r_3.2))), (3, .inl r_1), (0, .inr (.inr (10, 0, 0))), (1, .inl x1), (2, .inl x2)]) (st' := [.inl 2, .inl (S_4.1 (8, r_3.1, r_3.2) 0)]) (V' := q_V S_4) rfl ?_
    refine q_Sim.br vc_148 (c := (S_4.1 (8, r_3.1, r_3.2) 0) = 2) (t := 41) (f := 35) (lv' := [(4, .inr (.inr (8, r_3.1, r_3.2))), (3, .inl r_1), (0, .inr (.inr (10, 0, 0))), (1, .inl x1), (2, .inl x2)]) (st' := []) (V' := q_V S_4) rfl ?_ ?_
    · refine q_Sim.steps vc_148 1 (pc' := 42) (lv' := [(4, .inr (.inr (8, r_3.1, r_3.2))), (3, .inl r_1), (0, .inr (.inr (10, 0, 0))), (1, .inl x1), (2, .inl x2)]) (st' := [.inl x2]) (V' := q_V S_4) rfl ?_
      refine q_Sim.br vc_148 (c := x2 < 0) (t := 52) (f := 45) (lv' := [(4, .inr (.inr (8, r_3.1, r_3.2))), (3, .inl r_1), (0, .inr (.inr (10, 0, 0))), (1, .inl x1), (2, .inl x2)]) (st' := []) (V' := q_V S_4) rfl ?_ ?_
      · exact q_Sim.sub2 (lv' := [(0, .inr (.inr (10, 0, 0)))]) [0] rfl (by decide) ⟨rfl, trivial⟩ (sb_148_52  S_4)
      · refine q_Sim.steps vc_148 2 (pc' := 49) (lv' := [(4, .inr (.inr (8, r_3.1, r_3.2))), (3, .inl r_1), (0, .inr (.inr (10, 0, 0))), (1, .inl x1), (2, .inl x2)]) (st' := [.inl 200, .inl x2]) (V' := q_V S_4) rfl ?_
        refine q_Sim.br vc_148 (c := x2 ≤ 200) (t := 59) (f := 52) (lv' := [(4, .inr (.inr (8, r_3.1, r_3.2))), (3, .inl r_1), (0, .inr (.inr (10, 0, 0))), (1, .inl x1), (2, .inl x2)]) (st' := []) (V' := q_V S_4) rfl ?_ ?_
        · refine q_Sim.steps vc_148 1 (pc' := 60) (lv' := [(4, .inr (.inr (8, r_3.1, r_3.2))), (3, .inl r_1), (0, .inr (.inr (10, 0, 0))), (1, .inl x1), (2, .inl x2)]) (st' := [.inr (.inr (10, 0, 0))]) (V' := q_V S_4) rfl ?_
          refine q_Sim.call vc_148 (as := [.inr (.inr (10, 0, 0))]) (pc' := 63) (lv' := [(4, .inr (.inr (8, r_3.1, r_3.2))), (3, .inl r_1), (0, .inr (.inr (10, 0, 0))), (1, .inl x1), (2, .inl x2)]) (st' := []) (S := S_4) rfl (rc_171 ) (s_171  S_4) (fun r_7 S_8 => ?_)
          refine q_Sim.steps vc_148 2 (pc' := 68) (lv' := [(4, .inr (.inr (8, r_3.1, r_3.2))), (3, .inl r_1), (0, .inr (.inr (10, 0, 0))), (1, .inl x1), (2, .inl x2)]) (st' := [.inl (S_8.1 (8, r_3.1, r_3.2) 5)]) (V' := q_V S_8) rfl ?_
          refine q_Sim.letI (fun y_9 => ?_)
          refine q_Sim.steps vc_148 3 (pc' := 73) (lv' := [(5, .inl y_9), (4, .inr (.inr (8, r_3.1, r_3.2))), (3, .inl r_1), (0, .inr (.inr (10, 0, 0))), (1, .inl x1), (2, .inl x2)]) (st' := [.inl x2, .inr (.inr (8, r_3.1, r_3.2))]) (V' := q_V S_8) rfl ?_
          refine q_Sim.steps vc_148 1 (pc' := 76) (lv' := [(5, .inl y_9), (4, .inr (.inr (8, r_3.1, r_3.2))), (3, .inl r_1), (0, .inr (.inr (10, 0, 0))), (1, .inl x1), (2, .inl x2)]) (st' := []) (V' := q_V (q_set S_8 (8, r_3.1, r_3.2) 5 x2)) rfl ?_
          refine q_Sim.letS (fun S_10 => ?_)
          refine q_Sim.steps vc_148 2 (pc' := 79) (lv' := [(5, .inl y_9), (4, .inr (.inr (8, r_3.1, r_3.2))), (3, .inl r_1), (0, .inr (.inr (10, 0, 0))), (1, .inl x1), (2, .inl x2)]) (st' := [.inl y_9, .inr (.inr (10, 0, 0))]) (V' := q_V S_10) rfl ?_
          refine q_Sim.call vc_148 (as := [.inr (.inr (10, 0, 0)), .inl y_9]) (pc' := 82) (lv' := [(5, .inl y_9), (4, .inr (.inr (8, r_3.1, r_3.2))), (3, .inl r_1), (0, .inr (.inr (10, 0, 0))), (1, .inl x1), (2, .inl x2)]) (st' := []) (S := S_10) rfl (rc_169 y_9) (s_169 y_9 S_10) (fun r_11 S_12 => ?_)
          exact q_Sim.ret vc_148 rfl
        · exact q_Sim.sub2 (lv' := [(0, .inr (.inr (10, 0, 0)))]) [0] rfl (by decide) ⟨rfl, trivial⟩ (sb_148_52  S_4)
    · refine q_Sim.steps vc_148 2 (pc' := 37) (lv' := [(4, .inr (.inr (8, r_3.1, r_3.2))), (3, .inl r_1), (0, .inr (.inr (10, 0, 0))), (1, .inl x1), (2, .inl x2)]) (st' := [.inl 3, .inr (.inr (10, 0, 0))]) (V' := q_V S_4) rfl ?_
      refine q_Sim.call vc_148 (as := [.inr (.inr (10, 0, 0)), .inl 3]) (pc' := 40) (lv' := [(4, .inr (.inr (8, r_3.1, r_3.2))), (3, .inl r_1), (0, .inr (.inr (10, 0, 0))), (1, .inl x1), (2, .inl x2)]) (st' := []) (S := S_4) rfl (rc_170 3) (s_170 3 S_4) (fun r_13 S_14 => ?_)
      exact q_Sim.ret vc_148 rfl
  · refine q_Sim.steps vc_148 2 (pc' := 12) (lv' := [(3, .inl r_1), (0, .inr (.inr (10, 0, 0))), (1, .inl x1), (2, .inl x2)]) (st' := [.inl r_1, .inr (.inr (10, 0, 0))]) (V' := q_V S_2) rfl ?_
    refine q_Sim.call vc_148 (as := [.inr (.inr (10, 0, 0)), .inl r_1]) (pc' := 15) (lv' := [(3, .inl r_1), (0, .inr (.inr (10, 0, 0))), (1, .inl x1), (2, .inl x2)]) (st' := []) (S := S_2) rfl (rc_170 r_1) (s_170 r_1 S_2) (fun r_15 S_16 => ?_)
    exact q_Sim.ret vc_148 rfl
theorem vc_149 : v_code 149 = k_149 := rfl
theorem rc_149 (x1 : Int32) (x2 : Int32) : v_rcv 149 [.inr (.inr (10, 0, 0)), .inl x1, .inl x2] = true := rfl
def b_149_58 (x1 : Int32) (x2 : Int32) (x3 : Int32) (S : QS) : Option ((Int32) × QS) := if x3 = 0 then (q_bd (f_171  S) (fun r_3 S_4 => q_bd (f_93 S_4.2.2.1.1 x1 S_4) (fun r_5 S_6 => q_bd (f_85 r_5.1 r_5.2 x2 S_6) (fun r_7 S_8 => q_bd (f_169 1 S_8) (fun r_9 S_10 => some (r_9, S_10)))))) else (q_bd (f_170 x3 S) (fun r_11 S_12 => some (r_11, S_12)))
theorem sb_149_58 (x1 : Int32) (x2 : Int32) (x3 : Int32) (S : QS) : q_Sim 149 58 [(0, .inr (.inr (10, 0, 0))), (1, .inl x1), (2, .inl x2), (3, .inl x3)] [] (q_V S) q_I (b_149_58 x1 x2 x3 S) := by
  unfold b_149_58
  refine q_Sim.steps vc_149 1 (pc' := 59) (lv' := [(0, .inr (.inr (10, 0, 0))), (1, .inl x1), (2, .inl x2), (3, .inl x3)]) (st' := [.inl x3]) (V' := q_V S) rfl ?_
  refine q_Sim.br vc_149 (c := x3 = 0) (t := 68) (f := 62) (lv' := [(0, .inr (.inr (10, 0, 0))), (1, .inl x1), (2, .inl x2), (3, .inl x3)]) (st' := []) (V' := q_V S) rfl ?_ ?_
  · refine q_Sim.steps vc_149 1 (pc' := 69) (lv' := [(0, .inr (.inr (10, 0, 0))), (1, .inl x1), (2, .inl x2), (3, .inl x3)]) (st' := [.inr (.inr (10, 0, 0))]) (V' := q_V S) rfl ?_
    refine q_Sim.call vc_149 (as := [.inr (.inr (10, 0, 0))]) (pc' := 72) (lv' := [(0, .inr (.inr (10, 0, 0))), (1, .inl x1), (2, .inl x2), (3, .inl x3)]) (st' := []) (S := S) rfl (rc_171 ) (s_171  S) (fun r_3 S_4 => ?_)
    refine q_Sim.steps vc_149 3 (pc' := 77) (lv' := [(0, .inr (.inr (10, 0, 0))), (1, .inl x1), (2, .inl x2), (3, .inl x3)]) (st' := [.inl x1, .inr (.inr (9, S_4.2.2.1.1, 0))]) (V' := q_V S_4) rfl ?_
    refine q_Sim.call vc_149 (as := [.inr (.inr (9, S_4.2.2.1.1, 0)), .inl x1]) (pc' := 80) (lv' := [(0, .inr (.inr (10, 0, 0))), (1, .inl x1), (2, .inl x2), (3, .inl x3)]) (st' := []) (S := S_4) rfl (rc_93 S_4.2.2.1.1 x1) (s_93 S_4.2.2.1.1 x1 S_4) (fun r_5 S_6 => ?_)
    refine q_Sim.steps vc_149 1 (pc' := 81) (lv' := [(0, .inr (.inr (10, 0, 0))), (1, .inl x1), (2, .inl x2), (3, .inl x3)]) (st' := [.inl x2, .inr (.inr (8, r_5.1, r_5.2))]) (V' := q_V S_6) rfl ?_
    refine q_Sim.call vc_149 (as := [.inr (.inr (8, r_5.1, r_5.2)), .inl x2]) (pc' := 84) (lv' := [(0, .inr (.inr (10, 0, 0))), (1, .inl x1), (2, .inl x2), (3, .inl x3)]) (st' := []) (S := S_6) rfl (rc_85 r_5.1 r_5.2 x2) (s_85 r_5.1 r_5.2 x2 S_6) (fun r_7 S_8 => ?_)
    refine q_Sim.steps vc_149 2 (pc' := 86) (lv' := [(0, .inr (.inr (10, 0, 0))), (1, .inl x1), (2, .inl x2), (3, .inl x3)]) (st' := [.inl 1, .inr (.inr (10, 0, 0))]) (V' := q_V S_8) rfl ?_
    refine q_Sim.call vc_149 (as := [.inr (.inr (10, 0, 0)), .inl 1]) (pc' := 89) (lv' := [(0, .inr (.inr (10, 0, 0))), (1, .inl x1), (2, .inl x2), (3, .inl x3)]) (st' := []) (S := S_8) rfl (rc_169 1) (s_169 1 S_8) (fun r_9 S_10 => ?_)
    exact q_Sim.ret vc_149 rfl
  · refine q_Sim.steps vc_149 2 (pc' := 64) (lv' := [(0, .inr (.inr (10, 0, 0))), (1, .inl x1), (2, .inl x2), (3, .inl x3)]) (st' := [.inl x3, .inr (.inr (10, 0, 0))]) (V' := q_V S) rfl ?_
    refine q_Sim.call vc_149 (as := [.inr (.inr (10, 0, 0)), .inl x3]) (pc' := 67) (lv' := [(0, .inr (.inr (10, 0, 0))), (1, .inl x1), (2, .inl x2), (3, .inl x3)]) (st' := []) (S := S) rfl (rc_170 x3) (s_170 x3 S) (fun r_11 S_12 => ?_)
    exact q_Sim.ret vc_149 rfl
def b_149_37 (x1 : Int32) (x2 : Int32) (x3 : Int32) (S : QS) : Option ((Int32) × QS) := if ¬ x3 = 0 then (b_149_58 x1 x2 x3 S) else (q_bd (f_93 S.2.2.1.1 x2 S) (fun r_13 S_14 => if (S_14.1 (8, r_13.1, r_13.2) 0) = 3 then (b_149_58 x1 x2 x3 S_14) else (b_149_58 x1 x2 3 S_14)))
theorem sb_149_37 (x1 : Int32) (x2 : Int32) (x3 : Int32) (S : QS) : q_Sim 149 37 [(0, .inr (.inr (10, 0, 0))), (1, .inl x1), (2, .inl x2), (3, .inl x3)] [] (q_V S) q_I (b_149_37 x1 x2 x3 S) := by
  unfold b_149_37
  refine q_Sim.steps vc_149 1 (pc' := 38) (lv' := [(0, .inr (.inr (10, 0, 0))), (1, .inl x1), (2, .inl x2), (3, .inl x3)]) (st' := [.inl x3]) (V' := q_V S) rfl ?_
  refine q_Sim.br vc_149 (c := ¬ x3 = 0) (t := 58) (f := 41) (lv' := [(0, .inr (.inr (10, 0, 0))), (1, .inl x1), (2, .inl x2), (3, .inl x3)]) (st' := []) (V' := q_V S) rfl ?_ ?_
  · exact q_Sim.sub2 (lv' := [(0, .inr (.inr (10, 0, 0))), (1, .inl x1), (2, .inl x2), (3, .inl x3)]) [0, 1, 2, 3] rfl (by decide) ⟨rfl, rfl, rfl, rfl, trivial⟩ (sb_149_58 x1 x2 x3 S)
  · refine q_Sim.steps vc_149 3 (pc' := 46) (lv' := [(0, .inr (.inr (10, 0, 0))), (1, .inl x1), (2, .inl x2), (3, .inl x3)]) (st' := [.inl x2, .inr (.inr (9, S.2.2.1.1, 0))]) (V' := q_V S) rfl ?_
    refine q_Sim.call vc_149 (as := [.inr (.inr (9, S.2.2.1.1, 0)), .inl x2]) (pc' := 49) (lv' := [(0, .inr (.inr (10, 0, 0))), (1, .inl x1), (2, .inl x2), (3, .inl x3)]) (st' := []) (S := S) rfl (rc_93 S.2.2.1.1 x2) (s_93 S.2.2.1.1 x2 S) (fun r_13 S_14 => ?_)
    refine q_Sim.steps vc_149 2 (pc' := 53) (lv' := [(0, .inr (.inr (10, 0, 0))), (1, .inl x1), (2, .inl x2), (3, .inl x3)]) (st' := [.inl 3, .inl (S_14.1 (8, r_13.1, r_13.2) 0)]) (V' := q_V S_14) rfl ?_
    refine q_Sim.br vc_149 (c := (S_14.1 (8, r_13.1, r_13.2) 0) = 3) (t := 58) (f := 56) (lv' := [(0, .inr (.inr (10, 0, 0))), (1, .inl x1), (2, .inl x2), (3, .inl x3)]) (st' := []) (V' := q_V S_14) rfl ?_ ?_
    · exact q_Sim.sub2 (lv' := [(0, .inr (.inr (10, 0, 0))), (1, .inl x1), (2, .inl x2), (3, .inl x3)]) [0, 1, 2, 3] rfl (by decide) ⟨rfl, rfl, rfl, rfl, trivial⟩ (sb_149_58 x1 x2 x3 S_14)
    · refine q_Sim.steps vc_149 2 (pc' := 58) (lv' := [(3, .inl 3), (0, .inr (.inr (10, 0, 0))), (1, .inl x1), (2, .inl x2)]) (st' := []) (V' := q_V S_14) rfl ?_
      exact q_Sim.sub2 (lv' := [(0, .inr (.inr (10, 0, 0))), (1, .inl x1), (2, .inl x2), (3, .inl 3)]) [0, 1, 2, 3] rfl (by decide) ⟨rfl, rfl, rfl, rfl, trivial⟩ (sb_149_58 x1 x2 3 S_14)
def b_149_27 (x1 : Int32) (x2 : Int32) (x3 : Int32) (S : QS) : Option ((Int32) × QS) := if ¬ x3 = 0 then (b_149_37 x1 x2 x3 S) else (q_bd (f_174 x2 S) (fun r_15 S_16 => b_149_37 x1 x2 r_15 S_16))
theorem sb_149_27 (x1 : Int32) (x2 : Int32) (x3 : Int32) (S : QS) : q_Sim 149 27 [(0, .inr (.inr (10, 0, 0))), (1, .inl x1), (2, .inl x2), (3, .inl x3)] [] (q_V S) q_I (b_149_27 x1 x2 x3 S) := by
  unfold b_149_27
  refine q_Sim.steps vc_149 1 (pc' := 28) (lv' := [(0, .inr (.inr (10, 0, 0))), (1, .inl x1), (2, .inl x2), (3, .inl x3)]) (st' := [.inl x3]) (V' := q_V S) rfl ?_
  refine q_Sim.br vc_149 (c := ¬ x3 = 0) (t := 37) (f := 31) (lv' := [(0, .inr (.inr (10, 0, 0))), (1, .inl x1), (2, .inl x2), (3, .inl x3)]) (st' := []) (V' := q_V S) rfl ?_ ?_
  · exact q_Sim.sub2 (lv' := [(0, .inr (.inr (10, 0, 0))), (1, .inl x1), (2, .inl x2), (3, .inl x3)]) [0, 1, 2, 3] rfl (by decide) ⟨rfl, rfl, rfl, rfl, trivial⟩ (sb_149_37 x1 x2 x3 S)
  · refine q_Sim.steps vc_149 2 (pc' := 33) (lv' := [(0, .inr (.inr (10, 0, 0))), (1, .inl x1), (2, .inl x2), (3, .inl x3)]) (st' := [.inl x2, .inr (.inr (10, 0, 0))]) (V' := q_V S) rfl ?_
    refine q_Sim.call vc_149 (as := [.inr (.inr (10, 0, 0)), .inl x2]) (pc' := 36) (lv' := [(0, .inr (.inr (10, 0, 0))), (1, .inl x1), (2, .inl x2), (3, .inl x3)]) (st' := []) (S := S) rfl (rc_174 x2) (s_174 x2 S) (fun r_15 S_16 => ?_)
    refine q_Sim.steps vc_149 1 (pc' := 37) (lv' := [(3, .inl r_15), (0, .inr (.inr (10, 0, 0))), (1, .inl x1), (2, .inl x2)]) (st' := []) (V' := q_V S_16) rfl ?_
    exact q_Sim.sub2 (lv' := [(0, .inr (.inr (10, 0, 0))), (1, .inl x1), (2, .inl x2), (3, .inl r_15)]) [0, 1, 2, 3] rfl (by decide) ⟨rfl, rfl, rfl, rfl, trivial⟩ (sb_149_37 x1 x2 r_15 S_16)
def f_149 (x1 : Int32) (x2 : Int32) (S : QS) : Option ((Int32) × QS) := q_bd (f_174 x1 S) (fun r_1 S_2 => if ¬ r_1 = 0 then (b_149_27 x1 x2 r_1 S_2) else (q_bd (f_93 S_2.2.2.1.1 x1 S_2) (fun r_17 S_18 => if (S_18.1 (8, r_17.1, r_17.2) 0) = 1 then (b_149_27 x1 x2 r_1 S_18) else (b_149_27 x1 x2 3 S_18))))
theorem s_149 (x1 : Int32) (x2 : Int32) (S : QS) : q_Sim 149 0 [(0, .inr (.inr (10, 0, 0))), (1, .inl x1), (2, .inl x2)] [] (q_V S) q_I (f_149 x1 x2 S) := by
  unfold f_149
  refine q_Sim.steps vc_149 2 (pc' := 2) (lv' := [(0, .inr (.inr (10, 0, 0))), (1, .inl x1), (2, .inl x2)]) (st' := [.inl x1, .inr (.inr (10, 0, 0))]) (V' := q_V S) rfl ?_
  refine q_Sim.call vc_149 (as := [.inr (.inr (10, 0, 0)), .inl x1]) (pc' := 5) (lv' := [(0, .inr (.inr (10, 0, 0))), (1, .inl x1), (2, .inl x2)]) (st' := []) (S := S) rfl (rc_174 x1) (s_174 x1 S) (fun r_1 S_2 => ?_)
  refine q_Sim.steps vc_149 2 (pc' := 7) (lv' := [(3, .inl r_1), (0, .inr (.inr (10, 0, 0))), (1, .inl x1), (2, .inl x2)]) (st' := [.inl r_1]) (V' := q_V S_2) rfl ?_
  refine q_Sim.br vc_149 (c := ¬ r_1 = 0) (t := 27) (f := 10) (lv' := [(3, .inl r_1), (0, .inr (.inr (10, 0, 0))), (1, .inl x1), (2, .inl x2)]) (st' := []) (V' := q_V S_2) rfl ?_ ?_
  · exact q_Sim.sub2 (lv' := [(0, .inr (.inr (10, 0, 0))), (1, .inl x1), (2, .inl x2), (3, .inl r_1)]) [0, 1, 2, 3] rfl (by decide) ⟨rfl, rfl, rfl, rfl, trivial⟩ (sb_149_27 x1 x2 r_1 S_2)
  · refine q_Sim.steps vc_149 3 (pc' := 15) (lv' := [(3, .inl r_1), (0, .inr (.inr (10, 0, 0))), (1, .inl x1), (2, .inl x2)]) (st' := [.inl x1, .inr (.inr (9, S_2.2.2.1.1, 0))]) (V' := q_V S_2) rfl ?_
    refine q_Sim.call vc_149 (as := [.inr (.inr (9, S_2.2.2.1.1, 0)), .inl x1]) (pc' := 18) (lv' := [(3, .inl r_1), (0, .inr (.inr (10, 0, 0))), (1, .inl x1), (2, .inl x2)]) (st' := []) (S := S_2) rfl (rc_93 S_2.2.2.1.1 x1) (s_93 S_2.2.2.1.1 x1 S_2) (fun r_17 S_18 => ?_)
    refine q_Sim.steps vc_149 2 (pc' := 22) (lv' := [(3, .inl r_1), (0, .inr (.inr (10, 0, 0))), (1, .inl x1), (2, .inl x2)]) (st' := [.inl 1, .inl (S_18.1 (8, r_17.1, r_17.2) 0)]) (V' := q_V S_18) rfl ?_
    refine q_Sim.br vc_149 (c := (S_18.1 (8, r_17.1, r_17.2) 0) = 1) (t := 27) (f := 25) (lv' := [(3, .inl r_1), (0, .inr (.inr (10, 0, 0))), (1, .inl x1), (2, .inl x2)]) (st' := []) (V' := q_V S_18) rfl ?_ ?_
    · exact q_Sim.sub2 (lv' := [(0, .inr (.inr (10, 0, 0))), (1, .inl x1), (2, .inl x2), (3, .inl r_1)]) [0, 1, 2, 3] rfl (by decide) ⟨rfl, rfl, rfl, rfl, trivial⟩ (sb_149_27 x1 x2 r_1 S_18)
    · refine q_Sim.steps vc_149 2 (pc' := 27) (lv' := [(3, .inl 3), (0, .inr (.inr (10, 0, 0))), (1, .inl x1), (2, .inl x2)]) (st' := []) (V' := q_V S_18) rfl ?_
      exact q_Sim.sub2 (lv' := [(0, .inr (.inr (10, 0, 0))), (1, .inl x1), (2, .inl x2), (3, .inl 3)]) [0, 1, 2, 3] rfl (by decide) ⟨rfl, rfl, rfl, rfl, trivial⟩ (sb_149_27 x1 x2 3 S_18)
theorem vc_150 : v_code 150 = k_150 := rfl
theorem rc_150 (x1 : Int32) : v_rcv 150 [.inr (.inr (10, 0, 0)), .inl x1] = true := rfl
def b_150_11  (S : QS) : Option ((Int32) × QS) := q_bd (f_170 6 S) (fun r_1 S_2 => some (r_1, S_2))
theorem sb_150_11  (S : QS) : q_Sim 150 11 [(0, .inr (.inr (10, 0, 0)))] [] (q_V S) q_I (b_150_11  S) := by
  unfold b_150_11
  refine q_Sim.steps vc_150 2 (pc' := 14) (lv' := [(0, .inr (.inr (10, 0, 0)))]) (st' := [.inl 6, .inr (.inr (10, 0, 0))]) (V' := q_V S) rfl ?_
  refine q_Sim.call vc_150 (as := [.inr (.inr (10, 0, 0)), .inl 6]) (pc' := 17) (lv' := [(0, .inr (.inr (10, 0, 0)))]) (st' := []) (S := S) rfl (rc_170 6) (s_170 6 S) (fun r_1 S_2 => ?_)
  exact q_Sim.ret vc_150 rfl
def b_150_24 : Nat → Int32 → Int32 → QS → Option ((Int32) × QS)
  | 0, _, _, _ => none
  | n + 1, x1, x2, S => if x1 ≤ x2 then (q_bd (f_169 (S.1 (9, S.2.2.1.1, 0) 8) S) (fun r_5 S_6 => some (r_5, S_6))) else (q_bd (f_115 S.2.2.1.1 S) (fun r_7 S_8 => b_150_24 n x1 (x2 + 1) S_8))
theorem sb_150_24 : ∀ (n : Nat) (x1 : Int32) (x2 : Int32) (S : QS), q_Sim 150 24 [(0, .inr (.inr (10, 0, 0))), (1, .inl x1), (2, .inl x2)] [] (q_V S) q_I (b_150_24 n x1 x2 S)
  | 0, _, _, _ => q_Sim.none
  | n + 1, x1, x2, S => by
    rw [b_150_24]
    refine q_Sim.steps vc_150 2 (pc' := 26) (lv' := [(0, .inr (.inr (10, 0, 0))), (1, .inl x1), (2, .inl x2)]) (st' := [.inl x1, .inl x2]) (V' := q_V S) rfl ?_
    refine q_Sim.br vc_150 (c := x1 ≤ x2) (t := 46) (f := 29) (lv' := [(0, .inr (.inr (10, 0, 0))), (1, .inl x1), (2, .inl x2)]) (st' := []) (V' := q_V S) rfl ?_ ?_
    · refine q_Sim.steps vc_150 4 (pc' := 54) (lv' := [(0, .inr (.inr (10, 0, 0))), (1, .inl x1), (2, .inl x2)]) (st' := [.inl (S.1 (9, S.2.2.1.1, 0) 8), .inr (.inr (10, 0, 0))]) (V' := q_V S) rfl ?_
      refine q_Sim.call vc_150 (as := [.inr (.inr (10, 0, 0)), .inl (S.1 (9, S.2.2.1.1, 0) 8)]) (pc' := 57) (lv' := [(0, .inr (.inr (10, 0, 0))), (1, .inl x1), (2, .inl x2)]) (st' := []) (S := S) rfl (rc_169 (S.1 (9, S.2.2.1.1, 0) 8)) (s_169 (S.1 (9, S.2.2.1.1, 0) 8) S) (fun r_5 S_6 => ?_)
      exact q_Sim.ret vc_150 rfl
    · refine q_Sim.steps vc_150 4 (pc' := 37) (lv' := [(0, .inr (.inr (10, 0, 0))), (1, .inl x1), (2, .inl x2)]) (st' := [.inr (.inr (1, 0, 0)), .inr (.inr (9, S.2.2.1.1, 0))]) (V' := q_V S) rfl ?_
      refine q_Sim.call vc_150 (as := [.inr (.inr (9, S.2.2.1.1, 0)), .inr (.inr (1, 0, 0))]) (pc' := 40) (lv' := [(0, .inr (.inr (10, 0, 0))), (1, .inl x1), (2, .inl x2)]) (st' := []) (S := S) rfl (rc_115 S.2.2.1.1) (s_115 S.2.2.1.1 S) (fun r_7 S_8 => ?_)
      refine q_Sim.steps vc_150 2 (pc' := 24) (lv' := [(2, .inl (x2 + 1)), (0, .inr (.inr (10, 0, 0))), (1, .inl x1)]) (st' := []) (V' := q_V S_8) rfl ?_
      exact q_Sim.sub2 (lv' := [(0, .inr (.inr (10, 0, 0))), (1, .inl x1), (2, .inl (x2 + 1))]) [0, 1, 2] rfl (by decide) ⟨rfl, rfl, rfl, trivial⟩ (sb_150_24 n x1 (x2 + 1) S_8)
def f_150 (x1 : Int32) (S : QS) : Option ((Int32) × QS) := if x1 < 1 then (b_150_11  S) else (if x1 ≤ 30 then (q_bd (f_171  S) (fun r_3 S_4 => b_150_24 q_N x1 0 S_4)) else (b_150_11  S))
theorem s_150 (x1 : Int32) (S : QS) : q_Sim 150 0 [(0, .inr (.inr (10, 0, 0))), (1, .inl x1)] [] (q_V S) q_I (f_150 x1 S) := by
  unfold f_150
  refine q_Sim.steps vc_150 2 (pc' := 2) (lv' := [(0, .inr (.inr (10, 0, 0))), (1, .inl x1)]) (st' := [.inl 1, .inl x1]) (V' := q_V S) rfl ?_
  refine q_Sim.br vc_150 (c := x1 < 1) (t := 11) (f := 5) (lv' := [(0, .inr (.inr (10, 0, 0))), (1, .inl x1)]) (st' := []) (V' := q_V S) rfl ?_ ?_
  · exact q_Sim.sub2 (lv' := [(0, .inr (.inr (10, 0, 0)))]) [0] rfl (by decide) ⟨rfl, trivial⟩ (sb_150_11  S)
  · refine q_Sim.steps vc_150 2 (pc' := 8) (lv' := [(0, .inr (.inr (10, 0, 0))), (1, .inl x1)]) (st' := [.inl 30, .inl x1]) (V' := q_V S) rfl ?_
    refine q_Sim.br vc_150 (c := x1 ≤ 30) (t := 18) (f := 11) (lv' := [(0, .inr (.inr (10, 0, 0))), (1, .inl x1)]) (st' := []) (V' := q_V S) rfl ?_ ?_
    · refine q_Sim.steps vc_150 1 (pc' := 19) (lv' := [(0, .inr (.inr (10, 0, 0))), (1, .inl x1)]) (st' := [.inr (.inr (10, 0, 0))]) (V' := q_V S) rfl ?_
      refine q_Sim.call vc_150 (as := [.inr (.inr (10, 0, 0))]) (pc' := 22) (lv' := [(0, .inr (.inr (10, 0, 0))), (1, .inl x1)]) (st' := []) (S := S) rfl (rc_171 ) (s_171  S) (fun r_3 S_4 => ?_)
      refine q_Sim.steps vc_150 2 (pc' := 24) (lv' := [(2, .inl 0), (0, .inr (.inr (10, 0, 0))), (1, .inl x1)]) (st' := []) (V' := q_V S_4) rfl ?_
      exact q_Sim.sub2 (lv' := [(0, .inr (.inr (10, 0, 0))), (1, .inl x1), (2, .inl 0)]) [0, 1, 2] rfl (by decide) ⟨rfl, rfl, rfl, trivial⟩ (sb_150_24 q_N x1 0 S_4)
    · exact q_Sim.sub2 (lv' := [(0, .inr (.inr (10, 0, 0)))]) [0] rfl (by decide) ⟨rfl, trivial⟩ (sb_150_11  S)
theorem vc_151 : v_code 151 = k_151 := rfl
theorem rc_151 (x1 : Int32) (x2 : Int32) : v_rcv 151 [.inr (.inr (10, 0, 0)), .inl x1, .inl x2] = true := rfl
def b_151_39  (S : QS) : Option ((Int32) × QS) := q_bd (f_170 6 S) (fun r_15 S_16 => some (r_15, S_16))
theorem sb_151_39  (S : QS) : q_Sim 151 39 [(0, .inr (.inr (10, 0, 0)))] [] (q_V S) q_I (b_151_39  S) := by
  unfold b_151_39
  refine q_Sim.steps vc_151 2 (pc' := 42) (lv' := [(0, .inr (.inr (10, 0, 0)))]) (st' := [.inl 6, .inr (.inr (10, 0, 0))]) (V' := q_V S) rfl ?_
  refine q_Sim.call vc_151 (as := [.inr (.inr (10, 0, 0)), .inl 6]) (pc' := 45) (lv' := [(0, .inr (.inr (10, 0, 0)))]) (st' := []) (S := S) rfl (rc_170 6) (s_170 6 S) (fun r_15 S_16 => ?_)
  exact q_Sim.ret vc_151 rfl
def b_151_26 (x1 : Int32) (x2 : Int32) (S : QS) : Option ((Int32) × QS) := if (S.1 (9, S.2.2.1.1, 0) 7) < 200 then (q_bd (f_171  S) (fun r_3 S_4 => q_bd (f_96 S_4.2.2.1.1 x2 S_4) (fun r_5 S_6 => q_bd (f_91 S_6.2.2.1.1 x1 S_6) (fun r_7 S_8 => q_bd (f_93 S_8.2.2.1.1 r_5 S_8) (fun r_9 S_10 => q_bd (f_50 r_7.1 r_7.2 r_9.1 r_9.2 S_10) (fun r_11 S_12 => q_bd (f_169 r_5 S_12) (fun r_13 S_14 => some (r_13, S_14)))))))) else (b_151_39  S)
theorem sb_151_26 (x1 : Int32) (x2 : Int32) (S : QS) : q_Sim 151 26 [(0, .inr (.inr (10, 0, 0))), (1, .inl x1), (2, .inl x2)] [] (q_V S) q_I (b_151_26 x1 x2 S) := by
  unfold b_151_26
  refine q_Sim.steps vc_151 4 (pc' := 36) (lv' := [(0, .inr (.inr (10, 0, 0))), (1, .inl x1), (2, .inl x2)]) (st' := [.inl 200, .inl (S.1 (9, S.2.2.1.1, 0) 7)]) (V' := q_V S) rfl ?_
  refine q_Sim.br vc_151 (c := (S.1 (9, S.2.2.1.1, 0) 7) < 200) (t := 46) (f := 39) (lv' := [(0, .inr (.inr (10, 0, 0))), (1, .inl x1), (2, .inl x2)]) (st' := []) (V' := q_V S) rfl ?_ ?_
  · refine q_Sim.steps vc_151 1 (pc' := 47) (lv' := [(0, .inr (.inr (10, 0, 0))), (1, .inl x1), (2, .inl x2)]) (st' := [.inr (.inr (10, 0, 0))]) (V' := q_V S) rfl ?_
    refine q_Sim.call vc_151 (as := [.inr (.inr (10, 0, 0))]) (pc' := 50) (lv' := [(0, .inr (.inr (10, 0, 0))), (1, .inl x1), (2, .inl x2)]) (st' := []) (S := S) rfl (rc_171 ) (s_171  S) (fun r_3 S_4 => ?_)
    refine q_Sim.steps vc_151 3 (pc' := 55) (lv' := [(0, .inr (.inr (10, 0, 0))), (1, .inl x1), (2, .inl x2)]) (st' := [.inl x2, .inr (.inr (9, S_4.2.2.1.1, 0))]) (V' := q_V S_4) rfl ?_
    refine q_Sim.call vc_151 (as := [.inr (.inr (9, S_4.2.2.1.1, 0)), .inl x2]) (pc' := 58) (lv' := [(0, .inr (.inr (10, 0, 0))), (1, .inl x1), (2, .inl x2)]) (st' := []) (S := S_4) rfl (rc_96 S_4.2.2.1.1 x2) (s_96 S_4.2.2.1.1 x2 S_4) (fun r_5 S_6 => ?_)
    refine q_Sim.steps vc_151 4 (pc' := 65) (lv' := [(4, .inl r_5), (0, .inr (.inr (10, 0, 0))), (1, .inl x1), (2, .inl x2)]) (st' := [.inl x1, .inr (.inr (9, S_6.2.2.1.1, 0))]) (V' := q_V S_6) rfl ?_
    refine q_Sim.call vc_151 (as := [.inr (.inr (9, S_6.2.2.1.1, 0)), .inl x1]) (pc' := 68) (lv' := [(4, .inl r_5), (0, .inr (.inr (10, 0, 0))), (1, .inl x1), (2, .inl x2)]) (st' := []) (S := S_6) rfl (rc_91 S_6.2.2.1.1 x1) (s_91 S_6.2.2.1.1 x1 S_6) (fun r_7 S_8 => ?_)
    refine q_Sim.steps vc_151 3 (pc' := 74) (lv' := [(4, .inl r_5), (0, .inr (.inr (10, 0, 0))), (1, .inl x1), (2, .inl x2)]) (st' := [.inl r_5, .inr (.inr (9, S_8.2.2.1.1, 0)), .inr (.inr (4, r_7.1, r_7.2))]) (V' := q_V S_8) rfl ?_
    refine q_Sim.call vc_151 (as := [.inr (.inr (9, S_8.2.2.1.1, 0)), .inl r_5]) (pc' := 77) (lv' := [(4, .inl r_5), (0, .inr (.inr (10, 0, 0))), (1, .inl x1), (2, .inl x2)]) (st' := [.inr (.inr (4, r_7.1, r_7.2))]) (S := S_8) rfl (rc_93 S_8.2.2.1.1 r_5) (s_93 S_8.2.2.1.1 r_5 S_8) (fun r_9 S_10 => ?_)
    refine q_Sim.call vc_151 (as := [.inr (.inr (4, r_7.1, r_7.2)), .inr (.inr (8, r_9.1, r_9.2))]) (pc' := 80) (lv' := [(4, .inl r_5), (0, .inr (.inr (10, 0, 0))), (1, .inl x1), (2, .inl x2)]) (st' := []) (S := S_10) rfl (rc_50 r_7.1 r_7.2 r_9.1 r_9.2) (s_50 r_7.1 r_7.2 r_9.1 r_9.2 S_10) (fun r_11 S_12 => ?_)
    refine q_Sim.steps vc_151 2 (pc' := 83) (lv' := [(4, .inl r_5), (0, .inr (.inr (10, 0, 0))), (1, .inl x1), (2, .inl x2)]) (st' := [.inl r_5, .inr (.inr (10, 0, 0))]) (V' := q_V S_12) rfl ?_
    refine q_Sim.call vc_151 (as := [.inr (.inr (10, 0, 0)), .inl r_5]) (pc' := 86) (lv' := [(4, .inl r_5), (0, .inr (.inr (10, 0, 0))), (1, .inl x1), (2, .inl x2)]) (st' := []) (S := S_12) rfl (rc_169 r_5) (s_169 r_5 S_12) (fun r_13 S_14 => ?_)
    exact q_Sim.ret vc_151 rfl
  · exact q_Sim.sub2 (lv' := [(0, .inr (.inr (10, 0, 0)))]) [0] rfl (by decide) ⟨rfl, trivial⟩ (sb_151_39  S)
def f_151 (x1 : Int32) (x2 : Int32) (S : QS) : Option ((Int32) × QS) := q_bd (f_172 x1 S) (fun r_1 S_2 => if r_1 = 0 then (if x2 = 4 then (b_151_26 x1 x2 S_2) else (if ¬ x2 = 5 then (b_151_39  S_2) else (b_151_26 x1 x2 S_2))) else (q_bd (f_170 r_1 S_2) (fun r_17 S_18 => some (r_17, S_18))))
theorem s_151 (x1 : Int32) (x2 : Int32) (S : QS) : q_Sim 151 0 [(0, .inr (.inr (10, 0, 0))), (1, .inl x1), (2, .inl x2)] [] (q_V S) q_I (f_151 x1 x2 S) := by
  unfold f_151
  refine q_Sim.steps vc_151 2 (pc' := 2) (lv' := [(0, .inr (.inr (10, 0, 0))), (1, .inl x1), (2, .inl x2)]) (st' := [.inl x1, .inr (.inr (10, 0, 0))]) (V' := q_V S) rfl ?_
  refine q_Sim.call vc_151 (as := [.inr (.inr (10, 0, 0)), .inl x1]) (pc' := 5) (lv' := [(0, .inr (.inr (10, 0, 0))), (1, .inl x1), (2, .inl x2)]) (st' := []) (S := S) rfl (rc_172 x1) (s_172 x1 S) (fun r_1 S_2 => ?_)
  refine q_Sim.steps vc_151 2 (pc' := 7) (lv' := [(3, .inl r_1), (0, .inr (.inr (10, 0, 0))), (1, .inl x1), (2, .inl x2)]) (st' := [.inl r_1]) (V' := q_V S_2) rfl ?_
  refine q_Sim.br vc_151 (c := r_1 = 0) (t := 16) (f := 10) (lv' := [(3, .inl r_1), (0, .inr (.inr (10, 0, 0))), (1, .inl x1), (2, .inl x2)]) (st' := []) (V' := q_V S_2) rfl ?_ ?_
  · refine q_Sim.steps vc_151 2 (pc' := 18) (lv' := [(3, .inl r_1), (0, .inr (.inr (10, 0, 0))), (1, .inl x1), (2, .inl x2)]) (st' := [.inl 4, .inl x2]) (V' := q_V S_2) rfl ?_
    refine q_Sim.br vc_151 (c := x2 = 4) (t := 26) (f := 21) (lv' := [(3, .inl r_1), (0, .inr (.inr (10, 0, 0))), (1, .inl x1), (2, .inl x2)]) (st' := []) (V' := q_V S_2) rfl ?_ ?_
    · exact q_Sim.sub2 (lv' := [(0, .inr (.inr (10, 0, 0))), (1, .inl x1), (2, .inl x2)]) [0, 1, 2] rfl (by decide) ⟨rfl, rfl, rfl, trivial⟩ (sb_151_26 x1 x2 S_2)
    · refine q_Sim.steps vc_151 2 (pc' := 23) (lv' := [(3, .inl r_1), (0, .inr (.inr (10, 0, 0))), (1, .inl x1), (2, .inl x2)]) (st' := [.inl 5, .inl x2]) (V' := q_V S_2) rfl ?_
      refine q_Sim.br vc_151 (c := ¬ x2 = 5) (t := 39) (f := 26) (lv' := [(3, .inl r_1), (0, .inr (.inr (10, 0, 0))), (1, .inl x1), (2, .inl x2)]) (st' := []) (V' := q_V S_2) rfl ?_ ?_
      · exact q_Sim.sub2 (lv' := [(0, .inr (.inr (10, 0, 0)))]) [0] rfl (by decide) ⟨rfl, trivial⟩ (sb_151_39  S_2)
      · exact q_Sim.sub2 (lv' := [(0, .inr (.inr (10, 0, 0))), (1, .inl x1), (2, .inl x2)]) [0, 1, 2] rfl (by decide) ⟨rfl, rfl, rfl, trivial⟩ (sb_151_26 x1 x2 S_2)
  · refine q_Sim.steps vc_151 2 (pc' := 12) (lv' := [(3, .inl r_1), (0, .inr (.inr (10, 0, 0))), (1, .inl x1), (2, .inl x2)]) (st' := [.inl r_1, .inr (.inr (10, 0, 0))]) (V' := q_V S_2) rfl ?_
    refine q_Sim.call vc_151 (as := [.inr (.inr (10, 0, 0)), .inl r_1]) (pc' := 15) (lv' := [(3, .inl r_1), (0, .inr (.inr (10, 0, 0))), (1, .inl x1), (2, .inl x2)]) (st' := []) (S := S_2) rfl (rc_170 r_1) (s_170 r_1 S_2) (fun r_17 S_18 => ?_)
    exact q_Sim.ret vc_151 rfl
theorem vc_152 : v_code 152 = k_152 := rfl
theorem rc_152 (x1 : Int32) (x2 : Int32) : v_rcv 152 [.inr (.inr (10, 0, 0)), .inl x1, .inl x2] = true := rfl
def b_152_36 (x1 : Int32) (x2 : Int32) (x3 : Int32) (S : QS) : Option ((Int32) × QS) := if x3 = 0 then (q_bd (f_171  S) (fun r_3 S_4 => q_bd (f_93 S_4.2.2.1.1 x1 S_4) (fun r_5 S_6 => q_bd (f_4 r_5.1 r_5.2 S_6) (fun r_7 S_8 => q_bd (f_91 S_8.2.2.1.1 x2 S_8) (fun r_9 S_10 => q_bd (f_51 r_9.1 r_9.2 r_5.1 r_5.2 r_7 S_10) (fun r_11 S_12 => q_bd (f_169 r_7 S_12) (fun r_13 S_14 => some (r_13, S_14)))))))) else (q_bd (f_170 x3 S) (fun r_15 S_16 => some (r_15, S_16)))
theorem sb_152_36 (x1 : Int32) (x2 : Int32) (x3 : Int32) (S : QS) : q_Sim 152 36 [(0, .inr (.inr (10, 0, 0))), (1, .inl x1), (2, .inl x2), (3, .inl x3)] [] (q_V S) q_I (b_152_36 x1 x2 x3 S) := by
  unfold b_152_36
  refine q_Sim.steps vc_152 1 (pc' := 37) (lv' := [(0, .inr (.inr (10, 0, 0))), (1, .inl x1), (2, .inl x2), (3, .inl x3)]) (st' := [.inl x3]) (V' := q_V S) rfl ?_
  refine q_Sim.br vc_152 (c := x3 = 0) (t := 46) (f := 40) (lv' := [(0, .inr (.inr (10, 0, 0))), (1, .inl x1), (2, .inl x2), (3, .inl x3)]) (st' := []) (V' := q_V S) rfl ?_ ?_
  · refine q_Sim.steps vc_152 1 (pc' := 47) (lv' := [(0, .inr (.inr (10, 0, 0))), (1, .inl x1), (2, .inl x2), (3, .inl x3)]) (st' := [.inr (.inr (10, 0, 0))]) (V' := q_V S) rfl ?_
    refine q_Sim.call vc_152 (as := [.inr (.inr (10, 0, 0))]) (pc' := 50) (lv' := [(0, .inr (.inr (10, 0, 0))), (1, .inl x1), (2, .inl x2), (3, .inl x3)]) (st' := []) (S := S) rfl (rc_171 ) (s_171  S) (fun r_3 S_4 => ?_)
    refine q_Sim.steps vc_152 3 (pc' := 55) (lv' := [(0, .inr (.inr (10, 0, 0))), (1, .inl x1), (2, .inl x2), (3, .inl x3)]) (st' := [.inl x1, .inr (.inr (9, S_4.2.2.1.1, 0))]) (V' := q_V S_4) rfl ?_
    refine q_Sim.call vc_152 (as := [.inr (.inr (9, S_4.2.2.1.1, 0)), .inl x1]) (pc' := 58) (lv' := [(0, .inr (.inr (10, 0, 0))), (1, .inl x1), (2, .inl x2), (3, .inl x3)]) (st' := []) (S := S_4) rfl (rc_93 S_4.2.2.1.1 x1) (s_93 S_4.2.2.1.1 x1 S_4) (fun r_5 S_6 => ?_)
    refine q_Sim.steps vc_152 4 (pc' := 66) (lv' := [(4, .inr (.inr (8, r_5.1, r_5.2))), (0, .inr (.inr (10, 0, 0))), (1, .inl x1), (2, .inl x2), (3, .inl x3)]) (st' := [.inr (.inr (8, r_5.1, r_5.2)), .inr (.inr (1, 0, 0))]) (V' := q_V S_6) rfl ?_
    refine q_Sim.call vc_152 (as := [.inr (.inr (1, 0, 0)), .inr (.inr (8, r_5.1, r_5.2))]) (pc' := 69) (lv' := [(4, .inr (.inr (8, r_5.1, r_5.2))), (0, .inr (.inr (10, 0, 0))), (1, .inl x1), (2, .inl x2), (3, .inl x3)]) (st' := []) (S := S_6) rfl (rc_4 r_5.1 r_5.2) (s_4 r_5.1 r_5.2 S_6) (fun r_7 S_8 => ?_)
    refine q_Sim.steps vc_152 4 (pc' := 76) (lv' := [(5, .inl r_7), (4, .inr (.inr (8, r_5.1, r_5.2))), (0, .inr (.inr (10, 0, 0))), (1, .inl x1), (2, .inl x2), (3, .inl x3)]) (st' := [.inl x2, .inr (.inr (9, S_8.2.2.1.1, 0))]) (V' := q_V S_8) rfl ?_
    refine q_Sim.call vc_152 (as := [.inr (.inr (9, S_8.2.2.1.1, 0)), .inl x2]) (pc' := 79) (lv' := [(5, .inl r_7), (4, .inr (.inr (8, r_5.1, r_5.2))), (0, .inr (.inr (10, 0, 0))), (1, .inl x1), (2, .inl x2), (3, .inl x3)]) (st' := []) (S := S_8) rfl (rc_91 S_8.2.2.1.1 x2) (s_91 S_8.2.2.1.1 x2 S_8) (fun r_9 S_10 => ?_)
    refine q_Sim.steps vc_152 2 (pc' := 83) (lv' := [(5, .inl r_7), (4, .inr (.inr (8, r_5.1, r_5.2))), (0, .inr (.inr (10, 0, 0))), (1, .inl x1), (2, .inl x2), (3, .inl x3)]) (st' := [.inl r_7, .inr (.inr (8, r_5.1, r_5.2)), .inr (.inr (4, r_9.1, r_9.2))]) (V' := q_V S_10) rfl ?_
    refine q_Sim.call vc_152 (as := [.inr (.inr (4, r_9.1, r_9.2)), .inr (.inr (8, r_5.1, r_5.2)), .inl r_7]) (pc' := 86) (lv' := [(5, .inl r_7), (4, .inr (.inr (8, r_5.1, r_5.2))), (0, .inr (.inr (10, 0, 0))), (1, .inl x1), (2, .inl x2), (3, .inl x3)]) (st' := []) (S := S_10) rfl (rc_51 r_9.1 r_9.2 r_5.1 r_5.2 r_7) (s_51 r_9.1 r_9.2 r_5.1 r_5.2 r_7 S_10) (fun r_11 S_12 => ?_)
    refine q_Sim.steps vc_152 2 (pc' := 89) (lv' := [(5, .inl r_7), (4, .inr (.inr (8, r_5.1, r_5.2))), (0, .inr (.inr (10, 0, 0))), (1, .inl x1), (2, .inl x2), (3, .inl x3)]) (st' := [.inl r_7, .inr (.inr (10, 0, 0))]) (V' := q_V S_12) rfl ?_
    refine q_Sim.call vc_152 (as := [.inr (.inr (10, 0, 0)), .inl r_7]) (pc' := 92) (lv' := [(5, .inl r_7), (4, .inr (.inr (8, r_5.1, r_5.2))), (0, .inr (.inr (10, 0, 0))), (1, .inl x1), (2, .inl x2), (3, .inl x3)]) (st' := []) (S := S_12) rfl (rc_169 r_7) (s_169 r_7 S_12) (fun r_13 S_14 => ?_)
    exact q_Sim.ret vc_152 rfl
  · refine q_Sim.steps vc_152 2 (pc' := 42) (lv' := [(0, .inr (.inr (10, 0, 0))), (1, .inl x1), (2, .inl x2), (3, .inl x3)]) (st' := [.inl x3, .inr (.inr (10, 0, 0))]) (V' := q_V S) rfl ?_
    refine q_Sim.call vc_152 (as := [.inr (.inr (10, 0, 0)), .inl x3]) (pc' := 45) (lv' := [(0, .inr (.inr (10, 0, 0))), (1, .inl x1), (2, .inl x2), (3, .inl x3)]) (st' := []) (S := S) rfl (rc_170 x3) (s_170 x3 S) (fun r_15 S_16 => ?_)
    exact q_Sim.ret vc_152 rfl
def b_152_26 (x1 : Int32) (x2 : Int32) (x3 : Int32) (S : QS) : Option ((Int32) × QS) := if ¬ x3 = 0 then (b_152_36 x1 x2 x3 S) else (q_bd (f_172 x2 S) (fun r_17 S_18 => b_152_36 x1 x2 r_17 S_18))
theorem sb_152_26 (x1 : Int32) (x2 : Int32) (x3 : Int32) (S : QS) : q_Sim 152 26 [(0, .inr (.inr (10, 0, 0))), (1, .inl x1), (2, .inl x2), (3, .inl x3)] [] (q_V S) q_I (b_152_26 x1 x2 x3 S) := by
  unfold b_152_26
  refine q_Sim.steps vc_152 1 (pc' := 27) (lv' := [(0, .inr (.inr (10, 0, 0))), (1, .inl x1), (2, .inl x2), (3, .inl x3)]) (st' := [.inl x3]) (V' := q_V S) rfl ?_
  refine q_Sim.br vc_152 (c := ¬ x3 = 0) (t := 36) (f := 30) (lv' := [(0, .inr (.inr (10, 0, 0))), (1, .inl x1), (2, .inl x2), (3, .inl x3)]) (st' := []) (V' := q_V S) rfl ?_ ?_
  · exact q_Sim.sub2 (lv' := [(0, .inr (.inr (10, 0, 0))), (1, .inl x1), (2, .inl x2), (3, .inl x3)]) [0, 1, 2, 3] rfl (by decide) ⟨rfl, rfl, rfl, rfl, trivial⟩ (sb_152_36 x1 x2 x3 S)
  · refine q_Sim.steps vc_152 2 (pc' := 32) (lv' := [(0, .inr (.inr (10, 0, 0))), (1, .inl x1), (2, .inl x2), (3, .inl x3)]) (st' := [.inl x2, .inr (.inr (10, 0, 0))]) (V' := q_V S) rfl ?_
    refine q_Sim.call vc_152 (as := [.inr (.inr (10, 0, 0)), .inl x2]) (pc' := 35) (lv' := [(0, .inr (.inr (10, 0, 0))), (1, .inl x1), (2, .inl x2), (3, .inl x3)]) (st' := []) (S := S) rfl (rc_172 x2) (s_172 x2 S) (fun r_17 S_18 => ?_)
    refine q_Sim.steps vc_152 1 (pc' := 36) (lv' := [(3, .inl r_17), (0, .inr (.inr (10, 0, 0))), (1, .inl x1), (2, .inl x2)]) (st' := []) (V' := q_V S_18) rfl ?_
    exact q_Sim.sub2 (lv' := [(0, .inr (.inr (10, 0, 0))), (1, .inl x1), (2, .inl x2), (3, .inl r_17)]) [0, 1, 2, 3] rfl (by decide) ⟨rfl, rfl, rfl, rfl, trivial⟩ (sb_152_36 x1 x2 r_17 S_18)
def f_152 (x1 : Int32) (x2 : Int32) (S : QS) : Option ((Int32) × QS) := q_bd (f_174 x1 S) (fun r_1 S_2 => if ¬ r_1 = 0 then (b_152_26 x1 x2 r_1 S_2) else (q_bd (f_93 S_2.2.2.1.1 x1 S_2) (fun r_19 S_20 => q_bd (f_87 r_19.1 r_19.2 S_20) (fun r_21 S_22 => if ¬ r_21 = 0 then (b_152_26 x1 x2 r_1 S_22) else (b_152_26 x1 x2 3 S_22)))))
theorem s_152 (x1 : Int32) (x2 : Int32) (S : QS) : q_Sim 152 0 [(0, .inr (.inr (10, 0, 0))), (1, .inl x1), (2, .inl x2)] [] (q_V S) q_I (f_152 x1 x2 S) := by
  unfold f_152
  refine q_Sim.steps vc_152 2 (pc' := 2) (lv' := [(0, .inr (.inr (10, 0, 0))), (1, .inl x1), (2, .inl x2)]) (st' := [.inl x1, .inr (.inr (10, 0, 0))]) (V' := q_V S) rfl ?_
  refine q_Sim.call vc_152 (as := [.inr (.inr (10, 0, 0)), .inl x1]) (pc' := 5) (lv' := [(0, .inr (.inr (10, 0, 0))), (1, .inl x1), (2, .inl x2)]) (st' := []) (S := S) rfl (rc_174 x1) (s_174 x1 S) (fun r_1 S_2 => ?_)
  refine q_Sim.steps vc_152 2 (pc' := 7) (lv' := [(3, .inl r_1), (0, .inr (.inr (10, 0, 0))), (1, .inl x1), (2, .inl x2)]) (st' := [.inl r_1]) (V' := q_V S_2) rfl ?_
  refine q_Sim.br vc_152 (c := ¬ r_1 = 0) (t := 26) (f := 10) (lv' := [(3, .inl r_1), (0, .inr (.inr (10, 0, 0))), (1, .inl x1), (2, .inl x2)]) (st' := []) (V' := q_V S_2) rfl ?_ ?_
  · exact q_Sim.sub2 (lv' := [(0, .inr (.inr (10, 0, 0))), (1, .inl x1), (2, .inl x2), (3, .inl r_1)]) [0, 1, 2, 3] rfl (by decide) ⟨rfl, rfl, rfl, rfl, trivial⟩ (sb_152_26 x1 x2 r_1 S_2)
  · refine q_Sim.steps vc_152 3 (pc' := 15) (lv' := [(3, .inl r_1), (0, .inr (.inr (10, 0, 0))), (1, .inl x1), (2, .inl x2)]) (st' := [.inl x1, .inr (.inr (9, S_2.2.2.1.1, 0))]) (V' := q_V S_2) rfl ?_
    refine q_Sim.call vc_152 (as := [.inr (.inr (9, S_2.2.2.1.1, 0)), .inl x1]) (pc' := 18) (lv' := [(3, .inl r_1), (0, .inr (.inr (10, 0, 0))), (1, .inl x1), (2, .inl x2)]) (st' := []) (S := S_2) rfl (rc_93 S_2.2.2.1.1 x1) (s_93 S_2.2.2.1.1 x1 S_2) (fun r_19 S_20 => ?_)
    refine q_Sim.call vc_152 (as := [.inr (.inr (8, r_19.1, r_19.2))]) (pc' := 21) (lv' := [(3, .inl r_1), (0, .inr (.inr (10, 0, 0))), (1, .inl x1), (2, .inl x2)]) (st' := []) (S := S_20) rfl (rc_87 r_19.1 r_19.2) (s_87 r_19.1 r_19.2 S_20) (fun r_21 S_22 => ?_)
    refine q_Sim.br vc_152 (c := ¬ r_21 = 0) (t := 26) (f := 24) (lv' := [(3, .inl r_1), (0, .inr (.inr (10, 0, 0))), (1, .inl x1), (2, .inl x2)]) (st' := []) (V' := q_V S_22) rfl ?_ ?_
    · exact q_Sim.sub2 (lv' := [(0, .inr (.inr (10, 0, 0))), (1, .inl x1), (2, .inl x2), (3, .inl r_1)]) [0, 1, 2, 3] rfl (by decide) ⟨rfl, rfl, rfl, rfl, trivial⟩ (sb_152_26 x1 x2 r_1 S_22)
    · refine q_Sim.steps vc_152 2 (pc' := 26) (lv' := [(3, .inl 3), (0, .inr (.inr (10, 0, 0))), (1, .inl x1), (2, .inl x2)]) (st' := []) (V' := q_V S_22) rfl ?_
      exact q_Sim.sub2 (lv' := [(0, .inr (.inr (10, 0, 0))), (1, .inl x1), (2, .inl x2), (3, .inl 3)]) [0, 1, 2, 3] rfl (by decide) ⟨rfl, rfl, rfl, rfl, trivial⟩ (sb_152_26 x1 x2 3 S_22)
theorem vc_153 : v_code 153 = k_153 := rfl
theorem rc_153 (x1 : Int32) (x2 : Int32) : v_rcv 153 [.inr (.inr (10, 0, 0)), .inl x1, .inl x2] = true := rfl
def b_153_110 (back_73 : Int32 → Int32 → Int32 → QS → Option ((Int32) × QS)) (x2 : Int32) (x4 : Int32) (x5 : Int32) (is0 : Nat) (xs1 : Int32) (xs2 : Int32) (S : QS) : Option ((Int32) × QS) := q_ck (v_in xs1 (v_nth [8, 100, 64] is0)) (q_let (q_set S (35, is0, 0) xs1.toNatClampNeg xs2) (fun S_10 => back_73 x2 x4 (x5 + 1) S_10))
theorem sb_153_110 (back_73 : Int32 → Int32 → Int32 → QS → Option ((Int32) × QS)) (hb_73 : ∀ (x2 : Int32) (x4 : Int32) (x5 : Int32) (S : QS), q_Sim 153 73 [(0, .inr (.inr (10, 0, 0))), (2, .inl x2), (4, .inl x4), (5, .inl x5)] [] (q_V S) q_I (back_73 x2 x4 x5 S)) (x2 : Int32) (x4 : Int32) (x5 : Int32) (is0 : Nat) (xs1 : Int32) (xs2 : Int32) (S : QS) : q_Sim 153 110 [(0, .inr (.inr (10, 0, 0))), (2, .inl x2), (4, .inl x4), (5, .inl x5)] [.inl xs2, .inl xs1, .inr (.inr (35, is0, 0))] (q_V S) q_I (b_153_110 back_73 x2 x4 x5 is0 xs1 xs2 S) := by
  unfold b_153_110
  refine q_Sim.ck vc_153 (c := v_in xs1 (v_nth [8, 100, 64] is0)) (pc' := 111) (lv' := [(0, .inr (.inr (10, 0, 0))), (2, .inl x2), (4, .inl x4), (5, .inl x5)]) (st' := []) (V' := q_V (q_set S (35, is0, 0) xs1.toNatClampNeg xs2)) rfl ?_
  refine q_Sim.letS (fun S_10 => ?_)
  refine q_Sim.steps vc_153 2 (pc' := 73) (lv' := [(5, .inl (x5 + 1)), (0, .inr (.inr (10, 0, 0))), (2, .inl x2), (4, .inl x4)]) (st' := []) (V' := q_V S_10) rfl ?_
  exact q_Sim.sub2 (lv' := [(0, .inr (.inr (10, 0, 0))), (2, .inl x2), (4, .inl x4), (5, .inl (x5 + 1))]) [0, 2, 4, 5] rfl (by decide) ⟨rfl, rfl, rfl, rfl, trivial⟩ (hb_73 x2 x4 (x5 + 1) S_10)
def b_153_73 : Nat → Int32 → Int32 → Int32 → QS → Option ((Int32) × QS)
  | 0, _, _, _, _ => none
  | n + 1, x2, x4, x5, S => if x2 ≤ x5 then (q_ck (decide (¬ x2 = 0)) (q_bd (f_169 (x4 / x2) S) (fun r_8 S_9 => some (r_8, S_9)))) else (q_ck (decide (¬ x2 = 0)) (if (x4 - x4 / x2 * x2) ≤ x5 then (q_ck (decide (¬ x2 = 0)) (b_153_110 (b_153_73 n) x2 x4 x5 1 x5 (x4 / x2) S)) else (q_ck (decide (¬ x2 = 0)) (b_153_110 (b_153_73 n) x2 x4 x5 1 x5 ((x4 / x2) + 1) S))))
theorem sb_153_73 : ∀ (n : Nat) (x2 : Int32) (x4 : Int32) (x5 : Int32) (S : QS), q_Sim 153 73 [(0, .inr (.inr (10, 0, 0))), (2, .inl x2), (4, .inl x4), (5, .inl x5)] [] (q_V S) q_I (b_153_73 n x2 x4 x5 S)
  | 0, _, _, _, _ => q_Sim.none
  | n + 1, x2, x4, x5, S => by
    rw [b_153_73]
    refine q_Sim.steps vc_153 2 (pc' := 76) (lv' := [(0, .inr (.inr (10, 0, 0))), (2, .inl x2), (4, .inl x4), (5, .inl x5)]) (st' := [.inl x2, .inl x5]) (V' := q_V S) rfl ?_
    refine q_Sim.br vc_153 (c := x2 ≤ x5) (t := 117) (f := 79) (lv' := [(0, .inr (.inr (10, 0, 0))), (2, .inl x2), (4, .inl x4), (5, .inl x5)]) (st' := []) (V' := q_V S) rfl ?_ ?_
    · refine q_Sim.steps vc_153 3 (pc' := 121) (lv' := [(0, .inr (.inr (10, 0, 0))), (2, .inl x2), (4, .inl x4), (5, .inl x5)]) (st' := [.inl x2, .inl x4, .inr (.inr (10, 0, 0))]) (V' := q_V S) rfl ?_
      refine q_Sim.ck vc_153 (c := decide (¬ x2 = 0)) (pc' := 122) (lv' := [(0, .inr (.inr (10, 0, 0))), (2, .inl x2), (4, .inl x4), (5, .inl x5)]) (st' := [.inl (x4 / x2), .inr (.inr (10, 0, 0))]) (V' := q_V S) rfl ?_
      refine q_Sim.call vc_153 (as := [.inr (.inr (10, 0, 0)), .inl (x4 / x2)]) (pc' := 125) (lv' := [(0, .inr (.inr (10, 0, 0))), (2, .inl x2), (4, .inl x4), (5, .inl x5)]) (st' := []) (S := S) rfl (rc_169 (x4 / x2)) (s_169 (x4 / x2) S) (fun r_8 S_9 => ?_)
      exact q_Sim.ret vc_153 rfl
    · refine q_Sim.steps vc_153 7 (pc' := 93) (lv' := [(0, .inr (.inr (10, 0, 0))), (2, .inl x2), (4, .inl x4), (5, .inl x5)]) (st' := [.inl x2, .inl x4, .inl x5, .inl x5, .inr (.inr (35, 1, 0))]) (V' := q_V S) rfl ?_
      refine q_Sim.ck vc_153 (c := decide (¬ x2 = 0)) (pc' := 94) (lv' := [(0, .inr (.inr (10, 0, 0))), (2, .inl x2), (4, .inl x4), (5, .inl x5)]) (st' := [.inl (x4 - x4 / x2 * x2), .inl x5, .inl x5, .inr (.inr (35, 1, 0))]) (V' := q_V S) rfl ?_
      refine q_Sim.br vc_153 (c := (x4 - x4 / x2 * x2) ≤ x5) (t := 106) (f := 97) (lv' := [(0, .inr (.inr (10, 0, 0))), (2, .inl x2), (4, .inl x4), (5, .inl x5)]) (st' := [.inl x5, .inr (.inr (35, 1, 0))]) (V' := q_V S) rfl ?_ ?_
      · refine q_Sim.steps vc_153 2 (pc' := 109) (lv' := [(0, .inr (.inr (10, 0, 0))), (2, .inl x2), (4, .inl x4), (5, .inl x5)]) (st' := [.inl x2, .inl x4, .inl x5, .inr (.inr (35, 1, 0))]) (V' := q_V S) rfl ?_
        refine q_Sim.ck vc_153 (c := decide (¬ x2 = 0)) (pc' := 110) (lv' := [(0, .inr (.inr (10, 0, 0))), (2, .inl x2), (4, .inl x4), (5, .inl x5)]) (st' := [.inl (x4 / x2), .inl x5, .inr (.inr (35, 1, 0))]) (V' := q_V S) rfl ?_
        exact q_Sim.sub2 (lv' := [(0, .inr (.inr (10, 0, 0))), (2, .inl x2), (4, .inl x4), (5, .inl x5)]) [0, 2, 4, 5] rfl (by decide) ⟨rfl, rfl, rfl, rfl, trivial⟩ (sb_153_110 (b_153_73 n) (sb_153_73 n) x2 x4 x5 1 x5 (x4 / x2) S)
      · refine q_Sim.steps vc_153 2 (pc' := 100) (lv' := [(0, .inr (.inr (10, 0, 0))), (2, .inl x2), (4, .inl x4), (5, .inl x5)]) (st' := [.inl x2, .inl x4, .inl x5, .inr (.inr (35, 1, 0))]) (V' := q_V S) rfl ?_
        refine q_Sim.ck vc_153 (c := decide (¬ x2 = 0)) (pc' := 101) (lv' := [(0, .inr (.inr (10, 0, 0))), (2, .inl x2), (4, .inl x4), (5, .inl x5)]) (st' := [.inl (x4 / x2), .inl x5, .inr (.inr (35, 1, 0))]) (V' := q_V S) rfl ?_
        refine q_Sim.steps vc_153 3 (pc' := 110) (lv' := [(0, .inr (.inr (10, 0, 0))), (2, .inl x2), (4, .inl x4), (5, .inl x5)]) (st' := [.inl ((x4 / x2) + 1), .inl x5, .inr (.inr (35, 1, 0))]) (V' := q_V S) rfl ?_
        exact q_Sim.sub2 (lv' := [(0, .inr (.inr (10, 0, 0))), (2, .inl x2), (4, .inl x4), (5, .inl x5)]) [0, 2, 4, 5] rfl (by decide) ⟨rfl, rfl, rfl, rfl, trivial⟩ (sb_153_110 (b_153_73 n) (sb_153_73 n) x2 x4 x5 1 x5 ((x4 / x2) + 1) S)
def f_153 (x1 : Int32) (x2 : Int32) (S : QS) : Option ((Int32) × QS) := q_bd (f_172 x1 S) (fun r_1 S_2 => if r_1 = 0 then (if x2 ≤ 100 then (if 0 ≤ x2 then (if ¬ x2 = 0 then (q_bd (f_91 S_2.2.2.1.1 x1 S_2) (fun r_3 S_4 => q_let (S_4.1 (4, r_3.1, r_3.2) 2) (fun y_5 => q_bd (f_80 1 x2 S_4) (fun r_6 S_7 => b_153_73 q_N x2 y_5 0 S_7)))) else (q_bd (f_170 4 S_2) (fun r_11 S_12 => some (r_11, S_12)))) else (q_bd (f_170 5 S_2) (fun r_13 S_14 => some (r_13, S_14)))) else (q_bd (f_170 6 S_2) (fun r_15 S_16 => some (r_15, S_16)))) else (q_bd (f_170 r_1 S_2) (fun r_17 S_18 => some (r_17, S_18))))
theorem s_153 (x1 : Int32) (x2 : Int32) (S : QS) : q_Sim 153 0 [(0, .inr (.inr (10, 0, 0))), (1, .inl x1), (2, .inl x2)] [] (q_V S) q_I (f_153 x1 x2 S) := by
  unfold f_153
  refine q_Sim.steps vc_153 2 (pc' := 2) (lv' := [(0, .inr (.inr (10, 0, 0))), (1, .inl x1), (2, .inl x2)]) (st' := [.inl x1, .inr (.inr (10, 0, 0))]) (V' := q_V S) rfl ?_
  refine q_Sim.call vc_153 (as := [.inr (.inr (10, 0, 0)), .inl x1]) (pc' := 5) (lv' := [(0, .inr (.inr (10, 0, 0))), (1, .inl x1), (2, .inl x2)]) (st' := []) (S := S) rfl (rc_172 x1) (s_172 x1 S) (fun r_1 S_2 => ?_)
  refine q_Sim.steps vc_153 2 (pc' := 7) (lv' := [(3, .inl r_1), (0, .inr (.inr (10, 0, 0))), (1, .inl x1), (2, .inl x2)]) (st' := [.inl r_1]) (V' := q_V S_2) rfl ?_
  refine q_Sim.br vc_153 (c := r_1 = 0) (t := 16) (f := 10) (lv' := [(3, .inl r_1), (0, .inr (.inr (10, 0, 0))), (1, .inl x1), (2, .inl x2)]) (st' := []) (V' := q_V S_2) rfl ?_ ?_
  · refine q_Sim.steps vc_153 2 (pc' := 19) (lv' := [(3, .inl r_1), (0, .inr (.inr (10, 0, 0))), (1, .inl x1), (2, .inl x2)]) (st' := [.inl 100, .inl x2]) (V' := q_V S_2) rfl ?_
    refine q_Sim.br vc_153 (c := x2 ≤ 100) (t := 29) (f := 22) (lv' := [(3, .inl r_1), (0, .inr (.inr (10, 0, 0))), (1, .inl x1), (2, .inl x2)]) (st' := []) (V' := q_V S_2) rfl ?_ ?_
    · refine q_Sim.steps vc_153 1 (pc' := 30) (lv' := [(3, .inl r_1), (0, .inr (.inr (10, 0, 0))), (1, .inl x1), (2, .inl x2)]) (st' := [.inl x2]) (V' := q_V S_2) rfl ?_
      refine q_Sim.br vc_153 (c := 0 ≤ x2) (t := 39) (f := 33) (lv' := [(3, .inl r_1), (0, .inr (.inr (10, 0, 0))), (1, .inl x1), (2, .inl x2)]) (st' := []) (V' := q_V S_2) rfl ?_ ?_
      · refine q_Sim.steps vc_153 1 (pc' := 40) (lv' := [(3, .inl r_1), (0, .inr (.inr (10, 0, 0))), (1, .inl x1), (2, .inl x2)]) (st' := [.inl x2]) (V' := q_V S_2) rfl ?_
        refine q_Sim.br vc_153 (c := ¬ x2 = 0) (t := 49) (f := 43) (lv' := [(3, .inl r_1), (0, .inr (.inr (10, 0, 0))), (1, .inl x1), (2, .inl x2)]) (st' := []) (V' := q_V S_2) rfl ?_ ?_
        · refine q_Sim.steps vc_153 3 (pc' := 54) (lv' := [(3, .inl r_1), (0, .inr (.inr (10, 0, 0))), (1, .inl x1), (2, .inl x2)]) (st' := [.inl x1, .inr (.inr (9, S_2.2.2.1.1, 0))]) (V' := q_V S_2) rfl ?_
          refine q_Sim.call vc_153 (as := [.inr (.inr (9, S_2.2.2.1.1, 0)), .inl x1]) (pc' := 57) (lv' := [(3, .inl r_1), (0, .inr (.inr (10, 0, 0))), (1, .inl x1), (2, .inl x2)]) (st' := []) (S := S_2) rfl (rc_91 S_2.2.2.1.1 x1) (s_91 S_2.2.2.1.1 x1 S_2) (fun r_3 S_4 => ?_)
          refine q_Sim.steps vc_153 1 (pc' := 60) (lv' := [(3, .inl r_1), (0, .inr (.inr (10, 0, 0))), (1, .inl x1), (2, .inl x2)]) (st' := [.inl (S_4.1 (4, r_3.1, r_3.2) 2)]) (V' := q_V S_4) rfl ?_
          refine q_Sim.letI (fun y_5 => ?_)
          refine q_Sim.steps vc_153 4 (pc' := 67) (lv' := [(4, .inl y_5), (3, .inl r_1), (0, .inr (.inr (10, 0, 0))), (1, .inl x1), (2, .inl x2)]) (st' := [.inl x2, .inr (.inr (7, 1, 0))]) (V' := q_V S_4) rfl ?_
          refine q_Sim.call vc_153 (as := [.inr (.inr (7, 1, 0)), .inl x2]) (pc' := 70) (lv' := [(4, .inl y_5), (3, .inl r_1), (0, .inr (.inr (10, 0, 0))), (1, .inl x1), (2, .inl x2)]) (st' := []) (S := S_4) rfl (rc_80 1 x2) (s_80 1 x2 S_4) (fun r_6 S_7 => ?_)
          refine q_Sim.steps vc_153 2 (pc' := 73) (lv' := [(5, .inl 0), (4, .inl y_5), (3, .inl r_1), (0, .inr (.inr (10, 0, 0))), (1, .inl x1), (2, .inl x2)]) (st' := []) (V' := q_V S_7) rfl ?_
          exact q_Sim.sub2 (lv' := [(0, .inr (.inr (10, 0, 0))), (2, .inl x2), (4, .inl y_5), (5, .inl 0)]) [0, 2, 4, 5] rfl (by decide) ⟨rfl, rfl, rfl, rfl, trivial⟩ (sb_153_73 q_N x2 y_5 0 S_7)
        · refine q_Sim.steps vc_153 2 (pc' := 45) (lv' := [(3, .inl r_1), (0, .inr (.inr (10, 0, 0))), (1, .inl x1), (2, .inl x2)]) (st' := [.inl 4, .inr (.inr (10, 0, 0))]) (V' := q_V S_2) rfl ?_
          refine q_Sim.call vc_153 (as := [.inr (.inr (10, 0, 0)), .inl 4]) (pc' := 48) (lv' := [(3, .inl r_1), (0, .inr (.inr (10, 0, 0))), (1, .inl x1), (2, .inl x2)]) (st' := []) (S := S_2) rfl (rc_170 4) (s_170 4 S_2) (fun r_11 S_12 => ?_)
          exact q_Sim.ret vc_153 rfl
      · refine q_Sim.steps vc_153 2 (pc' := 35) (lv' := [(3, .inl r_1), (0, .inr (.inr (10, 0, 0))), (1, .inl x1), (2, .inl x2)]) (st' := [.inl 5, .inr (.inr (10, 0, 0))]) (V' := q_V S_2) rfl ?_
        refine q_Sim.call vc_153 (as := [.inr (.inr (10, 0, 0)), .inl 5]) (pc' := 38) (lv' := [(3, .inl r_1), (0, .inr (.inr (10, 0, 0))), (1, .inl x1), (2, .inl x2)]) (st' := []) (S := S_2) rfl (rc_170 5) (s_170 5 S_2) (fun r_13 S_14 => ?_)
        exact q_Sim.ret vc_153 rfl
    · refine q_Sim.steps vc_153 2 (pc' := 25) (lv' := [(3, .inl r_1), (0, .inr (.inr (10, 0, 0))), (1, .inl x1), (2, .inl x2)]) (st' := [.inl 6, .inr (.inr (10, 0, 0))]) (V' := q_V S_2) rfl ?_
      refine q_Sim.call vc_153 (as := [.inr (.inr (10, 0, 0)), .inl 6]) (pc' := 28) (lv' := [(3, .inl r_1), (0, .inr (.inr (10, 0, 0))), (1, .inl x1), (2, .inl x2)]) (st' := []) (S := S_2) rfl (rc_170 6) (s_170 6 S_2) (fun r_15 S_16 => ?_)
      exact q_Sim.ret vc_153 rfl
  · refine q_Sim.steps vc_153 2 (pc' := 12) (lv' := [(3, .inl r_1), (0, .inr (.inr (10, 0, 0))), (1, .inl x1), (2, .inl x2)]) (st' := [.inl r_1, .inr (.inr (10, 0, 0))]) (V' := q_V S_2) rfl ?_
    refine q_Sim.call vc_153 (as := [.inr (.inr (10, 0, 0)), .inl r_1]) (pc' := 15) (lv' := [(3, .inl r_1), (0, .inr (.inr (10, 0, 0))), (1, .inl x1), (2, .inl x2)]) (st' := []) (S := S_2) rfl (rc_170 r_1) (s_170 r_1 S_2) (fun r_17 S_18 => ?_)
    exact q_Sim.ret vc_153 rfl
theorem vc_154 : v_code 154 = k_154 := rfl
theorem rc_154 (x1 : Int32) : v_rcv 154 [.inr (.inr (10, 0, 0)), .inl x1] = true := rfl
def f_154 (x1 : Int32) (S : QS) : Option ((Int32) × QS) := q_bd (f_81 1 x1 S) (fun r_1 S_2 => if r_1 = 0 then (q_ck (v_in x1 100) (q_let (S_2.1 (35, 1, 0) x1.toNatClampNeg) (fun y_3 => q_bd (f_169 y_3 S_2) (fun r_4 S_5 => some (r_4, S_5))))) else (q_bd (f_170 r_1 S_2) (fun r_6 S_7 => some (r_6, S_7))))
theorem s_154 (x1 : Int32) (S : QS) : q_Sim 154 0 [(0, .inr (.inr (10, 0, 0))), (1, .inl x1)] [] (q_V S) q_I (f_154 x1 S) := by
  unfold f_154
  refine q_Sim.steps vc_154 3 (pc' := 5) (lv' := [(0, .inr (.inr (10, 0, 0))), (1, .inl x1)]) (st' := [.inl x1, .inr (.inr (7, 1, 0))]) (V' := q_V S) rfl ?_
  refine q_Sim.call vc_154 (as := [.inr (.inr (7, 1, 0)), .inl x1]) (pc' := 8) (lv' := [(0, .inr (.inr (10, 0, 0))), (1, .inl x1)]) (st' := []) (S := S) rfl (rc_81 1 x1) (s_81 1 x1 S) (fun r_1 S_2 => ?_)
  refine q_Sim.steps vc_154 2 (pc' := 10) (lv' := [(2, .inl r_1), (0, .inr (.inr (10, 0, 0))), (1, .inl x1)]) (st' := [.inl r_1]) (V' := q_V S_2) rfl ?_
  refine q_Sim.br vc_154 (c := r_1 = 0) (t := 19) (f := 13) (lv' := [(2, .inl r_1), (0, .inr (.inr (10, 0, 0))), (1, .inl x1)]) (st' := []) (V' := q_V S_2) rfl ?_ ?_
  · refine q_Sim.steps vc_154 5 (pc' := 28) (lv' := [(2, .inl r_1), (0, .inr (.inr (10, 0, 0))), (1, .inl x1)]) (st' := [.inl x1, .inr (.inr (35, 1, 0)), .inr (.inr (10, 0, 0))]) (V' := q_V S_2) rfl ?_
    refine q_Sim.ck vc_154 (c := v_in x1 100) (pc' := 29) (lv' := [(2, .inl r_1), (0, .inr (.inr (10, 0, 0))), (1, .inl x1)]) (st' := [.inl (S_2.1 (35, 1, 0) x1.toNatClampNeg), .inr (.inr (10, 0, 0))]) (V' := q_V S_2) rfl ?_
    refine q_Sim.letI (fun y_3 => ?_)
    refine q_Sim.call vc_154 (as := [.inr (.inr (10, 0, 0)), .inl y_3]) (pc' := 32) (lv' := [(2, .inl r_1), (0, .inr (.inr (10, 0, 0))), (1, .inl x1)]) (st' := []) (S := S_2) rfl (rc_169 y_3) (s_169 y_3 S_2) (fun r_4 S_5 => ?_)
    exact q_Sim.ret vc_154 rfl
  · refine q_Sim.steps vc_154 2 (pc' := 15) (lv' := [(2, .inl r_1), (0, .inr (.inr (10, 0, 0))), (1, .inl x1)]) (st' := [.inl r_1, .inr (.inr (10, 0, 0))]) (V' := q_V S_2) rfl ?_
    refine q_Sim.call vc_154 (as := [.inr (.inr (10, 0, 0)), .inl r_1]) (pc' := 18) (lv' := [(2, .inl r_1), (0, .inr (.inr (10, 0, 0))), (1, .inl x1)]) (st' := []) (S := S_2) rfl (rc_170 r_1) (s_170 r_1 S_2) (fun r_6 S_7 => ?_)
    exact q_Sim.ret vc_154 rfl
theorem vc_155 : v_code 155 = k_155 := rfl
theorem rc_155 (x1 : Int32) (x2 : Int32) (x3 : Int32) : v_rcv 155 [.inr (.inr (10, 0, 0)), .inl x1, .inl x2, .inl x3] = true := rfl
def b_155_41  (S : QS) : Option ((Int32) × QS) := q_bd (f_170 6 S) (fun r_3 S_4 => some (r_3, S_4))
theorem sb_155_41  (S : QS) : q_Sim 155 41 [(0, .inr (.inr (10, 0, 0)))] [] (q_V S) q_I (b_155_41  S) := by
  unfold b_155_41
  refine q_Sim.steps vc_155 2 (pc' := 44) (lv' := [(0, .inr (.inr (10, 0, 0)))]) (st' := [.inl 6, .inr (.inr (10, 0, 0))]) (V' := q_V S) rfl ?_
  refine q_Sim.call vc_155 (as := [.inr (.inr (10, 0, 0)), .inl 6]) (pc' := 47) (lv' := [(0, .inr (.inr (10, 0, 0)))]) (st' := []) (S := S) rfl (rc_170 6) (s_170 6 S) (fun r_3 S_4 => ?_)
  exact q_Sim.ret vc_155 rfl
def f_155 (x1 : Int32) (x2 : Int32) (x3 : Int32) (S : QS) : Option ((Int32) × QS) := q_bd (f_172 x1 S) (fun r_1 S_2 => if r_1 = 0 then (if x2 < 0 then (b_155_41  S_2) else (if 10000 < x2 then (b_155_41  S_2) else (if x3 < 0 then (b_155_41  S_2) else (if x3 ≤ 10000 then (if ¬ x3 = 0 then (q_bd (f_171  S_2) (fun r_5 S_6 => q_bd (f_91 S_6.2.2.1.1 x1 S_6) (fun r_7 S_8 => q_let (q_set S_8 (4, r_7.1, r_7.2) 6 ((S_8.1 (4, r_7.1, r_7.2) 6) + 1)) (fun S_9 => q_let (q_set S_9 (4, r_7.1, r_7.2) 7 ((S_9.1 (4, r_7.1, r_7.2) 7) + x2)) (fun S_10 => q_let (q_set S_10 (4, r_7.1, r_7.2) 8 ((S_10.1 (4, r_7.1, r_7.2) 8) + x3)) (fun S_11 => q_bd (f_169 (S_11.1 (4, r_7.1, r_7.2) 6) S_11) (fun r_12 S_13 => some (r_12, S_13)))))))) else (q_bd (f_170 4 S_2) (fun r_14 S_15 => some (r_14, S_15)))) else (b_155_41  S_2))))) else (q_bd (f_170 r_1 S_2) (fun r_16 S_17 => some (r_16, S_17))))
theorem s_155 (x1 : Int32) (x2 : Int32) (x3 : Int32) (S : QS) : q_Sim 155 0 [(0, .inr (.inr (10, 0, 0))), (1, .inl x1), (2, .inl x2), (3, .inl x3)] [] (q_V S) q_I (f_155 x1 x2 x3 S) := by
  unfold f_155
  refine q_Sim.steps vc_155 2 (pc' := 2) (lv' := [(0, .inr (.inr (10, 0, 0))), (1, .inl x1), (2, .inl x2), (3, .inl x3)]) (st' := [.inl x1, .inr (.inr (10, 0, 0))]) (V' := q_V S) rfl ?_
  refine q_Sim.call vc_155 (as := [.inr (.inr (10, 0, 0)), .inl x1]) (pc' := 5) (lv' := [(0, .inr (.inr (10, 0, 0))), (1, .inl x1), (2, .inl x2), (3, .inl x3)]) (st' := []) (S := S) rfl (rc_172 x1) (s_172 x1 S) (fun r_1 S_2 => ?_)
  refine q_Sim.steps vc_155 2 (pc' := 9) (lv' := [(4, .inl r_1), (0, .inr (.inr (10, 0, 0))), (1, .inl x1), (2, .inl x2), (3, .inl x3)]) (st' := [.inl r_1]) (V' := q_V S_2) rfl ?_
  refine q_Sim.br vc_155 (c := r_1 = 0) (t := 19) (f := 12) (lv' := [(4, .inl r_1), (0, .inr (.inr (10, 0, 0))), (1, .inl x1), (2, .inl x2), (3, .inl x3)]) (st' := []) (V' := q_V S_2) rfl ?_ ?_
  · refine q_Sim.steps vc_155 1 (pc' := 20) (lv' := [(4, .inl r_1), (0, .inr (.inr (10, 0, 0))), (1, .inl x1), (2, .inl x2), (3, .inl x3)]) (st' := [.inl x2]) (V' := q_V S_2) rfl ?_
    refine q_Sim.br vc_155 (c := x2 < 0) (t := 41) (f := 23) (lv' := [(4, .inl r_1), (0, .inr (.inr (10, 0, 0))), (1, .inl x1), (2, .inl x2), (3, .inl x3)]) (st' := []) (V' := q_V S_2) rfl ?_ ?_
    · exact q_Sim.sub2 (lv' := [(0, .inr (.inr (10, 0, 0)))]) [0] rfl (by decide) ⟨rfl, trivial⟩ (sb_155_41  S_2)
    · refine q_Sim.steps vc_155 2 (pc' := 27) (lv' := [(4, .inl r_1), (0, .inr (.inr (10, 0, 0))), (1, .inl x1), (2, .inl x2), (3, .inl x3)]) (st' := [.inl 10000, .inl x2]) (V' := q_V S_2) rfl ?_
      refine q_Sim.br vc_155 (c := 10000 < x2) (t := 41) (f := 30) (lv' := [(4, .inl r_1), (0, .inr (.inr (10, 0, 0))), (1, .inl x1), (2, .inl x2), (3, .inl x3)]) (st' := []) (V' := q_V S_2) rfl ?_ ?_
      · exact q_Sim.sub2 (lv' := [(0, .inr (.inr (10, 0, 0)))]) [0] rfl (by decide) ⟨rfl, trivial⟩ (sb_155_41  S_2)
      · refine q_Sim.steps vc_155 1 (pc' := 31) (lv' := [(4, .inl r_1), (0, .inr (.inr (10, 0, 0))), (1, .inl x1), (2, .inl x2), (3, .inl x3)]) (st' := [.inl x3]) (V' := q_V S_2) rfl ?_
        refine q_Sim.br vc_155 (c := x3 < 0) (t := 41) (f := 34) (lv' := [(4, .inl r_1), (0, .inr (.inr (10, 0, 0))), (1, .inl x1), (2, .inl x2), (3, .inl x3)]) (st' := []) (V' := q_V S_2) rfl ?_ ?_
        · exact q_Sim.sub2 (lv' := [(0, .inr (.inr (10, 0, 0)))]) [0] rfl (by decide) ⟨rfl, trivial⟩ (sb_155_41  S_2)
        · refine q_Sim.steps vc_155 2 (pc' := 38) (lv' := [(4, .inl r_1), (0, .inr (.inr (10, 0, 0))), (1, .inl x1), (2, .inl x2), (3, .inl x3)]) (st' := [.inl 10000, .inl x3]) (V' := q_V S_2) rfl ?_
          refine q_Sim.br vc_155 (c := x3 ≤ 10000) (t := 48) (f := 41) (lv' := [(4, .inl r_1), (0, .inr (.inr (10, 0, 0))), (1, .inl x1), (2, .inl x2), (3, .inl x3)]) (st' := []) (V' := q_V S_2) rfl ?_ ?_
          · refine q_Sim.steps vc_155 1 (pc' := 49) (lv' := [(4, .inl r_1), (0, .inr (.inr (10, 0, 0))), (1, .inl x1), (2, .inl x2), (3, .inl x3)]) (st' := [.inl x3]) (V' := q_V S_2) rfl ?_
            refine q_Sim.br vc_155 (c := ¬ x3 = 0) (t := 58) (f := 52) (lv' := [(4, .inl r_1), (0, .inr (.inr (10, 0, 0))), (1, .inl x1), (2, .inl x2), (3, .inl x3)]) (st' := []) (V' := q_V S_2) rfl ?_ ?_
            · refine q_Sim.steps vc_155 1 (pc' := 59) (lv' := [(4, .inl r_1), (0, .inr (.inr (10, 0, 0))), (1, .inl x1), (2, .inl x2), (3, .inl x3)]) (st' := [.inr (.inr (10, 0, 0))]) (V' := q_V S_2) rfl ?_
              refine q_Sim.call vc_155 (as := [.inr (.inr (10, 0, 0))]) (pc' := 62) (lv' := [(4, .inl r_1), (0, .inr (.inr (10, 0, 0))), (1, .inl x1), (2, .inl x2), (3, .inl x3)]) (st' := []) (S := S_2) rfl (rc_171 ) (s_171  S_2) (fun r_5 S_6 => ?_)
              refine q_Sim.steps vc_155 3 (pc' := 67) (lv' := [(4, .inl r_1), (0, .inr (.inr (10, 0, 0))), (1, .inl x1), (2, .inl x2), (3, .inl x3)]) (st' := [.inl x1, .inr (.inr (9, S_6.2.2.1.1, 0))]) (V' := q_V S_6) rfl ?_
              refine q_Sim.call vc_155 (as := [.inr (.inr (9, S_6.2.2.1.1, 0)), .inl x1]) (pc' := 70) (lv' := [(4, .inl r_1), (0, .inr (.inr (10, 0, 0))), (1, .inl x1), (2, .inl x2), (3, .inl x3)]) (st' := []) (S := S_6) rfl (rc_91 S_6.2.2.1.1 x1) (s_91 S_6.2.2.1.1 x1 S_6) (fun r_7 S_8 => ?_)
              refine q_Sim.steps vc_155 6 (pc' := 80) (lv' := [(5, .inr (.inr (4, r_7.1, r_7.2))), (4, .inl r_1), (0, .inr (.inr (10, 0, 0))), (1, .inl x1), (2, .inl x2), (3, .inl x3)]) (st' := [.inl ((S_8.1 (4, r_7.1, r_7.2) 6) + 1), .inr (.inr (4, r_7.1, r_7.2))]) (V' := q_V S_8) rfl ?_
              refine q_Sim.steps vc_155 1 (pc' := 83) (lv' := [(5, .inr (.inr (4, r_7.1, r_7.2))), (4, .inl r_1), (0, .inr (.inr (10, 0, 0))), (1, .inl x1), (2, .inl x2), (3, .inl x3)]) (st' := []) (V' := q_V (q_set S_8 (4, r_7.1, r_7.2) 6 ((S_8.1 (4, r_7.1, r_7.2) 6) + 1))) rfl ?_
              refine q_Sim.letS (fun S_9 => ?_)
              refine q_Sim.steps vc_155 5 (pc' := 91) (lv' := [(5, .inr (.inr (4, r_7.1, r_7.2))), (4, .inl r_1), (0, .inr (.inr (10, 0, 0))), (1, .inl x1), (2, .inl x2), (3, .inl x3)]) (st' := [.inl ((S_9.1 (4, r_7.1, r_7.2) 7) + x2), .inr (.inr (4, r_7.1, r_7.2))]) (V' := q_V S_9) rfl ?_
              refine q_Sim.steps vc_155 1 (pc' := 94) (lv' := [(5, .inr (.inr (4, r_7.1, r_7.2))), (4, .inl r_1), (0, .inr (.inr (10, 0, 0))), (1, .inl x1), (2, .inl x2), (3, .inl x3)]) (st' := []) (V' := q_V (q_set S_9 (4, r_7.1, r_7.2) 7 ((S_9.1 (4, r_7.1, r_7.2) 7) + x2))) rfl ?_
              refine q_Sim.letS (fun S_10 => ?_)
              refine q_Sim.steps vc_155 5 (pc' := 102) (lv' := [(5, .inr (.inr (4, r_7.1, r_7.2))), (4, .inl r_1), (0, .inr (.inr (10, 0, 0))), (1, .inl x1), (2, .inl x2), (3, .inl x3)]) (st' := [.inl ((S_10.1 (4, r_7.1, r_7.2) 8) + x3), .inr (.inr (4, r_7.1, r_7.2))]) (V' := q_V S_10) rfl ?_
              refine q_Sim.steps vc_155 1 (pc' := 105) (lv' := [(5, .inr (.inr (4, r_7.1, r_7.2))), (4, .inl r_1), (0, .inr (.inr (10, 0, 0))), (1, .inl x1), (2, .inl x2), (3, .inl x3)]) (st' := []) (V' := q_V (q_set S_10 (4, r_7.1, r_7.2) 8 ((S_10.1 (4, r_7.1, r_7.2) 8) + x3))) rfl ?_
              refine q_Sim.letS (fun S_11 => ?_)
              refine q_Sim.steps vc_155 3 (pc' := 111) (lv' := [(5, .inr (.inr (4, r_7.1, r_7.2))), (4, .inl r_1), (0, .inr (.inr (10, 0, 0))), (1, .inl x1), (2, .inl x2), (3, .inl x3)]) (st' := [.inl (S_11.1 (4, r_7.1, r_7.2) 6), .inr (.inr (10, 0, 0))]) (V' := q_V S_11) rfl ?_
              refine q_Sim.call vc_155 (as := [.inr (.inr (10, 0, 0)), .inl (S_11.1 (4, r_7.1, r_7.2) 6)]) (pc' := 114) (lv' := [(5, .inr (.inr (4, r_7.1, r_7.2))), (4, .inl r_1), (0, .inr (.inr (10, 0, 0))), (1, .inl x1), (2, .inl x2), (3, .inl x3)]) (st' := []) (S := S_11) rfl (rc_169 (S_11.1 (4, r_7.1, r_7.2) 6)) (s_169 (S_11.1 (4, r_7.1, r_7.2) 6) S_11) (fun r_12 S_13 => ?_)
              exact q_Sim.ret vc_155 rfl
            · refine q_Sim.steps vc_155 2 (pc' := 54) (lv' := [(4, .inl r_1), (0, .inr (.inr (10, 0, 0))), (1, .inl x1), (2, .inl x2), (3, .inl x3)]) (st' := [.inl 4, .inr (.inr (10, 0, 0))]) (V' := q_V S_2) rfl ?_
              refine q_Sim.call vc_155 (as := [.inr (.inr (10, 0, 0)), .inl 4]) (pc' := 57) (lv' := [(4, .inl r_1), (0, .inr (.inr (10, 0, 0))), (1, .inl x1), (2, .inl x2), (3, .inl x3)]) (st' := []) (S := S_2) rfl (rc_170 4) (s_170 4 S_2) (fun r_14 S_15 => ?_)
              exact q_Sim.ret vc_155 rfl
          · exact q_Sim.sub2 (lv' := [(0, .inr (.inr (10, 0, 0)))]) [0] rfl (by decide) ⟨rfl, trivial⟩ (sb_155_41  S_2)
  · refine q_Sim.steps vc_155 2 (pc' := 15) (lv' := [(4, .inl r_1), (0, .inr (.inr (10, 0, 0))), (1, .inl x1), (2, .inl x2), (3, .inl x3)]) (st' := [.inl r_1, .inr (.inr (10, 0, 0))]) (V' := q_V S_2) rfl ?_
    refine q_Sim.call vc_155 (as := [.inr (.inr (10, 0, 0)), .inl r_1]) (pc' := 18) (lv' := [(4, .inl r_1), (0, .inr (.inr (10, 0, 0))), (1, .inl x1), (2, .inl x2), (3, .inl x3)]) (st' := []) (S := S_2) rfl (rc_170 r_1) (s_170 r_1 S_2) (fun r_16 S_17 => ?_)
    exact q_Sim.ret vc_155 rfl
theorem vc_184 : v_code 184 = k_184 := rfl
theorem rc_184 (x0 : Int32) (x1 : Int32) : v_rcv 184 [.inl x0, .inl x1] = true := rfl
def b_184_7 : Nat → Int32 → Int32 → Int32 → QS → Option ((Int32) × QS)
  | 0, _, _, _, _ => none
  | n + 1, x2, x3, x4, S => if 64 ≤ x4 then (some (x2, S)) else (if x3 = 0 then (some (x2, S)) else (q_ck (decide (¬ x3 = 0)) (q_let (x2 - x2 / x3 * x3) (fun y_1 => b_184_7 n x3 y_1 (x4 + 1) S))))
theorem sb_184_7 : ∀ (n : Nat) (x2 : Int32) (x3 : Int32) (x4 : Int32) (S : QS), q_Sim 184 7 [(2, .inl x2), (3, .inl x3), (4, .inl x4)] [] (q_V S) q_I (b_184_7 n x2 x3 x4 S)
  | 0, _, _, _, _ => q_Sim.none
  | n + 1, x2, x3, x4, S => by
    rw [b_184_7]
    refine q_Sim.steps vc_184 2 (pc' := 11) (lv' := [(2, .inl x2), (3, .inl x3), (4, .inl x4)]) (st' := [.inl 64, .inl x4]) (V' := q_V S) rfl ?_
    refine q_Sim.br vc_184 (c := 64 ≤ x4) (t := 34) (f := 14) (lv' := [(2, .inl x2), (3, .inl x3), (4, .inl x4)]) (st' := []) (V' := q_V S) rfl ?_ ?_
    · refine q_Sim.steps vc_184 1 (pc' := 35) (lv' := [(2, .inl x2), (3, .inl x3), (4, .inl x4)]) (st' := [.inl x2]) (V' := q_V S) rfl ?_
      exact q_Sim.ret vc_184 rfl
    · refine q_Sim.steps vc_184 1 (pc' := 15) (lv' := [(2, .inl x2), (3, .inl x3), (4, .inl x4)]) (st' := [.inl x3]) (V' := q_V S) rfl ?_
      refine q_Sim.br vc_184 (c := x3 = 0) (t := 34) (f := 18) (lv' := [(2, .inl x2), (3, .inl x3), (4, .inl x4)]) (st' := []) (V' := q_V S) rfl ?_ ?_
      · refine q_Sim.steps vc_184 1 (pc' := 35) (lv' := [(2, .inl x2), (3, .inl x3), (4, .inl x4)]) (st' := [.inl x2]) (V' := q_V S) rfl ?_
        exact q_Sim.ret vc_184 rfl
      · refine q_Sim.steps vc_184 2 (pc' := 20) (lv' := [(2, .inl x2), (3, .inl x3), (4, .inl x4)]) (st' := [.inl x3, .inl x2]) (V' := q_V S) rfl ?_
        refine q_Sim.ck vc_184 (c := decide (¬ x3 = 0)) (pc' := 21) (lv' := [(2, .inl x2), (3, .inl x3), (4, .inl x4)]) (st' := [.inl (x2 - x2 / x3 * x3)]) (V' := q_V S) rfl ?_
        refine q_Sim.letI (fun y_1 => ?_)
        refine q_Sim.steps vc_184 7 (pc' := 7) (lv' := [(4, .inl (x4 + 1)), (3, .inl y_1), (2, .inl x3), (5, .inl y_1)]) (st' := []) (V' := q_V S) rfl ?_
        exact q_Sim.sub2 (lv' := [(2, .inl x3), (3, .inl y_1), (4, .inl (x4 + 1))]) [2, 3, 4] rfl (by decide) ⟨rfl, rfl, rfl, trivial⟩ (sb_184_7 n x3 y_1 (x4 + 1) S)
def f_184 (x0 : Int32) (x1 : Int32) (S : QS) : Option ((Int32) × QS) := b_184_7 q_N x0 x1 0 S
theorem s_184 (x0 : Int32) (x1 : Int32) (S : QS) : q_Sim 184 0 [(0, .inl x0), (1, .inl x1)] [] (q_V S) q_I (f_184 x0 x1 S) := by
  unfold f_184
  refine q_Sim.steps vc_184 6 (pc' := 7) (lv' := [(4, .inl 0), (3, .inl x1), (2, .inl x0), (0, .inl x0), (1, .inl x1)]) (st' := []) (V' := q_V S) rfl ?_
  exact q_Sim.sub2 (lv' := [(2, .inl x0), (3, .inl x1), (4, .inl 0)]) [2, 3, 4] rfl (by decide) ⟨rfl, rfl, rfl, trivial⟩ (sb_184_7 q_N x0 x1 0 S)
