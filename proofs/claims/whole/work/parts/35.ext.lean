/-! ===== the code as functions, by program ===== -/
theorem vc_156 : v_code 156 = k_156 := rfl
theorem rc_156 (x1 : Int32) (x2 : Int32) : v_rcv 156 [.inr (.inr (10, 0, 0)), .inl x1, .inl x2] = true := rfl
def b_156_25  (S : QS) : Option ((Int32) × QS) := q_bd (f_170 6 S) (fun r_3 S_4 => some (r_3, S_4))
theorem sb_156_25  (S : QS) : q_Sim 156 25 [(0, .inr (.inr (10, 0, 0)))] [] (q_V S) q_I (b_156_25  S) := by
  unfold b_156_25
  refine q_Sim.steps vc_156 2 (pc' := 28) (lv' := [(0, .inr (.inr (10, 0, 0)))]) (st' := [.inl 6, .inr (.inr (10, 0, 0))]) (V' := q_V S) rfl ?_
  refine q_Sim.call vc_156 (as := [.inr (.inr (10, 0, 0)), .inl 6]) (pc' := 31) (lv' := [(0, .inr (.inr (10, 0, 0)))]) (st' := []) (S := S) rfl (rc_170 6) (s_170 6 S) (fun r_3 S_4 => ?_)
  exact q_Sim.ret vc_156 rfl
def b_156_120 (xs1 : Int32) (S : QS) : Option ((Int32) × QS) := q_bd (f_169 xs1 S) (fun r_9 S_10 => some (r_9, S_10))
theorem sb_156_120 (xs1 : Int32) (S : QS) : q_Sim 156 120 [] [.inl xs1, .inr (.inr (10, 0, 0))] (q_V S) q_I (b_156_120 xs1 S) := by
  unfold b_156_120
  refine q_Sim.call vc_156 (as := [.inr (.inr (10, 0, 0)), .inl xs1]) (pc' := 123) (lv' := []) (st' := []) (S := S) rfl (rc_169 xs1) (s_169 xs1 S) (fun r_9 S_10 => ?_)
  exact q_Sim.ret vc_156 rfl
def b_156_61 (x2 : Int32) (i4 : Nat) (j4 : Nat) (xs0 : Int32) (S : QS) : Option ((Int32) × QS) := if 2 ≤ x2 then (if ¬ (S.1 (4, i4, j4) 8) = 0 then (q_bd (f_184 (S.1 (4, i4, j4) 7) (S.1 (4, i4, j4) 8) S) (fun r_7 S_8 => if ¬ r_7 = 0 then (q_ck (decide (¬ r_7 = 0)) (b_156_120 (xs0 / r_7) S_8)) else (b_156_120 xs0 S_8))) else (q_bd (f_170 4 S) (fun r_11 S_12 => some (r_11, S_12)))) else (q_bd (f_169 xs0 S) (fun r_13 S_14 => some (r_13, S_14)))
theorem sb_156_61 (x2 : Int32) (i4 : Nat) (j4 : Nat) (xs0 : Int32) (S : QS) : q_Sim 156 61 [(0, .inr (.inr (10, 0, 0))), (2, .inl x2), (4, .inr (.inr (4, i4, j4)))] [.inl xs0] (q_V S) q_I (b_156_61 x2 i4 j4 xs0 S) := by
  unfold b_156_61
  refine q_Sim.steps vc_156 3 (pc' := 65) (lv' := [(5, .inl xs0), (0, .inr (.inr (10, 0, 0))), (2, .inl x2), (4, .inr (.inr (4, i4, j4)))]) (st' := [.inl 2, .inl x2]) (V' := q_V S) rfl ?_
  refine q_Sim.br vc_156 (c := 2 ≤ x2) (t := 75) (f := 68) (lv' := [(5, .inl xs0), (0, .inr (.inr (10, 0, 0))), (2, .inl x2), (4, .inr (.inr (4, i4, j4)))]) (st' := []) (V' := q_V S) rfl ?_ ?_
  · refine q_Sim.steps vc_156 2 (pc' := 80) (lv' := [(5, .inl xs0), (0, .inr (.inr (10, 0, 0))), (2, .inl x2), (4, .inr (.inr (4, i4, j4)))]) (st' := [.inl (S.1 (4, i4, j4) 8)]) (V' := q_V S) rfl ?_
    refine q_Sim.br vc_156 (c := ¬ (S.1 (4, i4, j4) 8) = 0) (t := 89) (f := 83) (lv' := [(5, .inl xs0), (0, .inr (.inr (10, 0, 0))), (2, .inl x2), (4, .inr (.inr (4, i4, j4)))]) (st' := []) (V' := q_V S) rfl ?_ ?_
    · refine q_Sim.steps vc_156 4 (pc' := 99) (lv' := [(5, .inl xs0), (0, .inr (.inr (10, 0, 0))), (2, .inl x2), (4, .inr (.inr (4, i4, j4)))]) (st' := [.inl (S.1 (4, i4, j4) 8), .inl (S.1 (4, i4, j4) 7)]) (V' := q_V S) rfl ?_
      refine q_Sim.call vc_156 (as := [.inl (S.1 (4, i4, j4) 7), .inl (S.1 (4, i4, j4) 8)]) (pc' := 102) (lv' := [(5, .inl xs0), (0, .inr (.inr (10, 0, 0))), (2, .inl x2), (4, .inr (.inr (4, i4, j4)))]) (st' := []) (S := S) rfl (rc_184 (S.1 (4, i4, j4) 7) (S.1 (4, i4, j4) 8)) (s_184 (S.1 (4, i4, j4) 7) (S.1 (4, i4, j4) 8) S) (fun r_7 S_8 => ?_)
      refine q_Sim.steps vc_156 3 (pc' := 107) (lv' := [(6, .inl r_7), (5, .inl xs0), (0, .inr (.inr (10, 0, 0))), (2, .inl x2), (4, .inr (.inr (4, i4, j4)))]) (st' := [.inl r_7, .inr (.inr (10, 0, 0))]) (V' := q_V S_8) rfl ?_
      refine q_Sim.br vc_156 (c := ¬ r_7 = 0) (t := 115) (f := 110) (lv' := [(6, .inl r_7), (5, .inl xs0), (0, .inr (.inr (10, 0, 0))), (2, .inl x2), (4, .inr (.inr (4, i4, j4)))]) (st' := [.inr (.inr (10, 0, 0))]) (V' := q_V S_8) rfl ?_ ?_
      · refine q_Sim.steps vc_156 2 (pc' := 119) (lv' := [(6, .inl r_7), (5, .inl xs0), (0, .inr (.inr (10, 0, 0))), (2, .inl x2), (4, .inr (.inr (4, i4, j4)))]) (st' := [.inl r_7, .inl xs0, .inr (.inr (10, 0, 0))]) (V' := q_V S_8) rfl ?_
        refine q_Sim.ck vc_156 (c := decide (¬ r_7 = 0)) (pc' := 120) (lv' := [(6, .inl r_7), (5, .inl xs0), (0, .inr (.inr (10, 0, 0))), (2, .inl x2), (4, .inr (.inr (4, i4, j4)))]) (st' := [.inl (xs0 / r_7), .inr (.inr (10, 0, 0))]) (V' := q_V S_8) rfl ?_
        exact q_Sim.sub2 (lv' := []) [] rfl (by decide) trivial (sb_156_120 (xs0 / r_7) S_8)
      · refine q_Sim.steps vc_156 2 (pc' := 120) (lv' := [(6, .inl r_7), (5, .inl xs0), (0, .inr (.inr (10, 0, 0))), (2, .inl x2), (4, .inr (.inr (4, i4, j4)))]) (st' := [.inl xs0, .inr (.inr (10, 0, 0))]) (V' := q_V S_8) rfl ?_
        exact q_Sim.sub2 (lv' := []) [] rfl (by decide) trivial (sb_156_120 xs0 S_8)
    · refine q_Sim.steps vc_156 2 (pc' := 85) (lv' := [(5, .inl xs0), (0, .inr (.inr (10, 0, 0))), (2, .inl x2), (4, .inr (.inr (4, i4, j4)))]) (st' := [.inl 4, .inr (.inr (10, 0, 0))]) (V' := q_V S) rfl ?_
      refine q_Sim.call vc_156 (as := [.inr (.inr (10, 0, 0)), .inl 4]) (pc' := 88) (lv' := [(5, .inl xs0), (0, .inr (.inr (10, 0, 0))), (2, .inl x2), (4, .inr (.inr (4, i4, j4)))]) (st' := []) (S := S) rfl (rc_170 4) (s_170 4 S) (fun r_11 S_12 => ?_)
      exact q_Sim.ret vc_156 rfl
  · refine q_Sim.steps vc_156 2 (pc' := 71) (lv' := [(5, .inl xs0), (0, .inr (.inr (10, 0, 0))), (2, .inl x2), (4, .inr (.inr (4, i4, j4)))]) (st' := [.inl xs0, .inr (.inr (10, 0, 0))]) (V' := q_V S) rfl ?_
    refine q_Sim.call vc_156 (as := [.inr (.inr (10, 0, 0)), .inl xs0]) (pc' := 74) (lv' := [(5, .inl xs0), (0, .inr (.inr (10, 0, 0))), (2, .inl x2), (4, .inr (.inr (4, i4, j4)))]) (st' := []) (S := S) rfl (rc_169 xs0) (s_169 xs0 S) (fun r_13 S_14 => ?_)
    exact q_Sim.ret vc_156 rfl
def f_156 (x1 : Int32) (x2 : Int32) (S : QS) : Option ((Int32) × QS) := q_bd (f_172 x1 S) (fun r_1 S_2 => if r_1 = 0 then (if x2 < 0 then (b_156_25  S_2) else (if x2 ≤ 3 then (q_bd (f_91 S_2.2.2.1.1 x1 S_2) (fun r_5 S_6 => if ¬ (x2 - x2 / 2 * 2) = 0 then (b_156_61 x2 r_5.1 r_5.2 (S_6.1 (4, r_5.1, r_5.2) 8) S_6) else (b_156_61 x2 r_5.1 r_5.2 (S_6.1 (4, r_5.1, r_5.2) 7) S_6))) else (b_156_25  S_2))) else (q_bd (f_170 r_1 S_2) (fun r_15 S_16 => some (r_15, S_16))))
theorem s_156 (x1 : Int32) (x2 : Int32) (S : QS) : q_Sim 156 0 [(0, .inr (.inr (10, 0, 0))), (1, .inl x1), (2, .inl x2)] [] (q_V S) q_I (f_156 x1 x2 S) := by
  unfold f_156
  refine q_Sim.steps vc_156 2 (pc' := 2) (lv' := [(0, .inr (.inr (10, 0, 0))), (1, .inl x1), (2, .inl x2)]) (st' := [.inl x1, .inr (.inr (10, 0, 0))]) (V' := q_V S) rfl ?_
  refine q_Sim.call vc_156 (as := [.inr (.inr (10, 0, 0)), .inl x1]) (pc' := 5) (lv' := [(0, .inr (.inr (10, 0, 0))), (1, .inl x1), (2, .inl x2)]) (st' := []) (S := S) rfl (rc_172 x1) (s_172 x1 S) (fun r_1 S_2 => ?_)
  refine q_Sim.steps vc_156 2 (pc' := 7) (lv' := [(3, .inl r_1), (0, .inr (.inr (10, 0, 0))), (1, .inl x1), (2, .inl x2)]) (st' := [.inl r_1]) (V' := q_V S_2) rfl ?_
  refine q_Sim.br vc_156 (c := r_1 = 0) (t := 16) (f := 10) (lv' := [(3, .inl r_1), (0, .inr (.inr (10, 0, 0))), (1, .inl x1), (2, .inl x2)]) (st' := []) (V' := q_V S_2) rfl ?_ ?_
  · refine q_Sim.steps vc_156 1 (pc' := 17) (lv' := [(3, .inl r_1), (0, .inr (.inr (10, 0, 0))), (1, .inl x1), (2, .inl x2)]) (st' := [.inl x2]) (V' := q_V S_2) rfl ?_
    refine q_Sim.br vc_156 (c := x2 < 0) (t := 25) (f := 20) (lv' := [(3, .inl r_1), (0, .inr (.inr (10, 0, 0))), (1, .inl x1), (2, .inl x2)]) (st' := []) (V' := q_V S_2) rfl ?_ ?_
    · exact q_Sim.sub2 (lv' := [(0, .inr (.inr (10, 0, 0)))]) [0] rfl (by decide) ⟨rfl, trivial⟩ (sb_156_25  S_2)
    · refine q_Sim.steps vc_156 2 (pc' := 22) (lv' := [(3, .inl r_1), (0, .inr (.inr (10, 0, 0))), (1, .inl x1), (2, .inl x2)]) (st' := [.inl 3, .inl x2]) (V' := q_V S_2) rfl ?_
      refine q_Sim.br vc_156 (c := x2 ≤ 3) (t := 32) (f := 25) (lv' := [(3, .inl r_1), (0, .inr (.inr (10, 0, 0))), (1, .inl x1), (2, .inl x2)]) (st' := []) (V' := q_V S_2) rfl ?_ ?_
      · refine q_Sim.steps vc_156 3 (pc' := 37) (lv' := [(3, .inl r_1), (0, .inr (.inr (10, 0, 0))), (1, .inl x1), (2, .inl x2)]) (st' := [.inl x1, .inr (.inr (9, S_2.2.2.1.1, 0))]) (V' := q_V S_2) rfl ?_
        refine q_Sim.call vc_156 (as := [.inr (.inr (9, S_2.2.2.1.1, 0)), .inl x1]) (pc' := 40) (lv' := [(3, .inl r_1), (0, .inr (.inr (10, 0, 0))), (1, .inl x1), (2, .inl x2)]) (st' := []) (S := S_2) rfl (rc_91 S_2.2.2.1.1 x1) (s_91 S_2.2.2.1.1 x1 S_2) (fun r_5 S_6 => ?_)
        refine q_Sim.steps vc_156 3 (pc' := 44) (lv' := [(4, .inr (.inr (4, r_5.1, r_5.2))), (3, .inl r_1), (0, .inr (.inr (10, 0, 0))), (1, .inl x1), (2, .inl x2)]) (st' := [.inl 2, .inl x2]) (V' := q_V S_6) rfl ?_
        refine q_Sim.okd vc_156 (c := decide (¬ (2 : Int32) = 0)) (pc' := 45) (lv' := [(4, .inr (.inr (4, r_5.1, r_5.2))), (3, .inl r_1), (0, .inr (.inr (10, 0, 0))), (1, .inl x1), (2, .inl x2)]) (st' := [.inl (x2 - x2 / 2 * 2)]) (V' := q_V S_6) rfl (by decide) ?_
        refine q_Sim.br vc_156 (c := ¬ (x2 - x2 / 2 * 2) = 0) (t := 56) (f := 48) (lv' := [(4, .inr (.inr (4, r_5.1, r_5.2))), (3, .inl r_1), (0, .inr (.inr (10, 0, 0))), (1, .inl x1), (2, .inl x2)]) (st' := []) (V' := q_V S_6) rfl ?_ ?_
        · refine q_Sim.steps vc_156 2 (pc' := 61) (lv' := [(4, .inr (.inr (4, r_5.1, r_5.2))), (3, .inl r_1), (0, .inr (.inr (10, 0, 0))), (1, .inl x1), (2, .inl x2)]) (st' := [.inl (S_6.1 (4, r_5.1, r_5.2) 8)]) (V' := q_V S_6) rfl ?_
          exact q_Sim.sub2 (lv' := [(0, .inr (.inr (10, 0, 0))), (2, .inl x2), (4, .inr (.inr (4, r_5.1, r_5.2)))]) [0, 2, 4] rfl (by decide) ⟨rfl, rfl, rfl, trivial⟩ (sb_156_61 x2 r_5.1 r_5.2 (S_6.1 (4, r_5.1, r_5.2) 8) S_6)
        · refine q_Sim.steps vc_156 3 (pc' := 61) (lv' := [(4, .inr (.inr (4, r_5.1, r_5.2))), (3, .inl r_1), (0, .inr (.inr (10, 0, 0))), (1, .inl x1), (2, .inl x2)]) (st' := [.inl (S_6.1 (4, r_5.1, r_5.2) 7)]) (V' := q_V S_6) rfl ?_
          exact q_Sim.sub2 (lv' := [(0, .inr (.inr (10, 0, 0))), (2, .inl x2), (4, .inr (.inr (4, r_5.1, r_5.2)))]) [0, 2, 4] rfl (by decide) ⟨rfl, rfl, rfl, trivial⟩ (sb_156_61 x2 r_5.1 r_5.2 (S_6.1 (4, r_5.1, r_5.2) 7) S_6)
      · exact q_Sim.sub2 (lv' := [(0, .inr (.inr (10, 0, 0)))]) [0] rfl (by decide) ⟨rfl, trivial⟩ (sb_156_25  S_2)
  · refine q_Sim.steps vc_156 2 (pc' := 12) (lv' := [(3, .inl r_1), (0, .inr (.inr (10, 0, 0))), (1, .inl x1), (2, .inl x2)]) (st' := [.inl r_1, .inr (.inr (10, 0, 0))]) (V' := q_V S_2) rfl ?_
    refine q_Sim.call vc_156 (as := [.inr (.inr (10, 0, 0)), .inl r_1]) (pc' := 15) (lv' := [(3, .inl r_1), (0, .inr (.inr (10, 0, 0))), (1, .inl x1), (2, .inl x2)]) (st' := []) (S := S_2) rfl (rc_170 r_1) (s_170 r_1 S_2) (fun r_15 S_16 => ?_)
    exact q_Sim.ret vc_156 rfl
theorem vc_157 : v_code 157 = k_157 := rfl
theorem rc_157 (x1 : Int32) (x2 : Int32) : v_rcv 157 [.inr (.inr (10, 0, 0)), .inl x1, .inl x2] = true := rfl
def b_157_53  (S : QS) : Option ((Int32) × QS) := q_bd (f_170 4 S) (fun r_7 S_8 => some (r_7, S_8))
theorem sb_157_53  (S : QS) : q_Sim 157 53 [(0, .inr (.inr (10, 0, 0)))] [] (q_V S) q_I (b_157_53  S) := by
  unfold b_157_53
  refine q_Sim.steps vc_157 2 (pc' := 55) (lv' := [(0, .inr (.inr (10, 0, 0)))]) (st' := [.inl 4, .inr (.inr (10, 0, 0))]) (V' := q_V S) rfl ?_
  refine q_Sim.call vc_157 (as := [.inr (.inr (10, 0, 0)), .inl 4]) (pc' := 58) (lv' := [(0, .inr (.inr (10, 0, 0)))]) (st' := []) (S := S) rfl (rc_170 4) (s_170 4 S) (fun r_7 S_8 => ?_)
  exact q_Sim.ret vc_157 rfl
def b_157_115 (xs1 : Int32) (S : QS) : Option ((Int32) × QS) := q_bd (f_169 xs1 S) (fun r_11 S_12 => some (r_11, S_12))
theorem sb_157_115 (xs1 : Int32) (S : QS) : q_Sim 157 115 [] [.inl xs1, .inr (.inr (10, 0, 0))] (q_V S) q_I (b_157_115 xs1 S) := by
  unfold b_157_115
  refine q_Sim.call vc_157 (as := [.inr (.inr (10, 0, 0)), .inl xs1]) (pc' := 118) (lv' := []) (st' := []) (S := S) rfl (rc_169 xs1) (s_169 xs1 S) (fun r_11 S_12 => ?_)
  exact q_Sim.ret vc_157 rfl
def f_157 (x1 : Int32) (x2 : Int32) (S : QS) : Option ((Int32) × QS) := q_bd (f_173 x1 x2 S) (fun r_1 S_2 => if r_1 = 0 then (q_bd (f_91 S_2.2.2.1.1 x1 S_2) (fun r_3 S_4 => q_bd (f_91 S_4.2.2.1.1 x2 S_4) (fun r_5 S_6 => if (S_6.1 (4, r_3.1, r_3.2) 8) = 0 then (b_157_53  S_6) else (if ¬ (S_6.1 (4, r_5.1, r_5.2) 8) = 0 then (q_let (((S_6.1 (4, r_3.1, r_3.2) 7).toInt64) * ((S_6.1 (4, r_5.1, r_5.2) 8).toInt64)) (fun y_9 => q_let (((S_6.1 (4, r_5.1, r_5.2) 7).toInt64) * ((S_6.1 (4, r_3.1, r_3.2) 8).toInt64)) (fun y_10 => if 0 ≤ (lg_cmp y_9 y_10) then (if ¬ (lg_cmp y_9 y_10) = 0 then (b_157_115 2 S_6) else (b_157_115 1 S_6)) else (b_157_115 0 S_6)))) else (b_157_53  S_6))))) else (q_bd (f_170 r_1 S_2) (fun r_13 S_14 => some (r_13, S_14))))
theorem s_157 (x1 : Int32) (x2 : Int32) (S : QS) : q_Sim 157 0 [(0, .inr (.inr (10, 0, 0))), (1, .inl x1), (2, .inl x2)] [] (q_V S) q_I (f_157 x1 x2 S) := by
  unfold f_157
  refine q_Sim.steps vc_157 3 (pc' := 3) (lv' := [(0, .inr (.inr (10, 0, 0))), (1, .inl x1), (2, .inl x2)]) (st' := [.inl x2, .inl x1, .inr (.inr (10, 0, 0))]) (V' := q_V S) rfl ?_
  refine q_Sim.call vc_157 (as := [.inr (.inr (10, 0, 0)), .inl x1, .inl x2]) (pc' := 6) (lv' := [(0, .inr (.inr (10, 0, 0))), (1, .inl x1), (2, .inl x2)]) (st' := []) (S := S) rfl (rc_173 x1 x2) (s_173 x1 x2 S) (fun r_1 S_2 => ?_)
  refine q_Sim.steps vc_157 2 (pc' := 8) (lv' := [(3, .inl r_1), (0, .inr (.inr (10, 0, 0))), (1, .inl x1), (2, .inl x2)]) (st' := [.inl r_1]) (V' := q_V S_2) rfl ?_
  refine q_Sim.br vc_157 (c := r_1 = 0) (t := 17) (f := 11) (lv' := [(3, .inl r_1), (0, .inr (.inr (10, 0, 0))), (1, .inl x1), (2, .inl x2)]) (st' := []) (V' := q_V S_2) rfl ?_ ?_
  · refine q_Sim.steps vc_157 3 (pc' := 22) (lv' := [(3, .inl r_1), (0, .inr (.inr (10, 0, 0))), (1, .inl x1), (2, .inl x2)]) (st' := [.inl x1, .inr (.inr (9, S_2.2.2.1.1, 0))]) (V' := q_V S_2) rfl ?_
    refine q_Sim.call vc_157 (as := [.inr (.inr (9, S_2.2.2.1.1, 0)), .inl x1]) (pc' := 25) (lv' := [(3, .inl r_1), (0, .inr (.inr (10, 0, 0))), (1, .inl x1), (2, .inl x2)]) (st' := []) (S := S_2) rfl (rc_91 S_2.2.2.1.1 x1) (s_91 S_2.2.2.1.1 x1 S_2) (fun r_3 S_4 => ?_)
    refine q_Sim.steps vc_157 4 (pc' := 32) (lv' := [(4, .inr (.inr (4, r_3.1, r_3.2))), (3, .inl r_1), (0, .inr (.inr (10, 0, 0))), (1, .inl x1), (2, .inl x2)]) (st' := [.inl x2, .inr (.inr (9, S_4.2.2.1.1, 0))]) (V' := q_V S_4) rfl ?_
    refine q_Sim.call vc_157 (as := [.inr (.inr (9, S_4.2.2.1.1, 0)), .inl x2]) (pc' := 35) (lv' := [(4, .inr (.inr (4, r_3.1, r_3.2))), (3, .inl r_1), (0, .inr (.inr (10, 0, 0))), (1, .inl x1), (2, .inl x2)]) (st' := []) (S := S_4) rfl (rc_91 S_4.2.2.1.1 x2) (s_91 S_4.2.2.1.1 x2 S_4) (fun r_5 S_6 => ?_)
    refine q_Sim.steps vc_157 3 (pc' := 42) (lv' := [(5, .inr (.inr (4, r_5.1, r_5.2))), (4, .inr (.inr (4, r_3.1, r_3.2))), (3, .inl r_1), (0, .inr (.inr (10, 0, 0))), (1, .inl x1), (2, .inl x2)]) (st' := [.inl (S_6.1 (4, r_3.1, r_3.2) 8)]) (V' := q_V S_6) rfl ?_
    refine q_Sim.br vc_157 (c := (S_6.1 (4, r_3.1, r_3.2) 8) = 0) (t := 53) (f := 45) (lv' := [(5, .inr (.inr (4, r_5.1, r_5.2))), (4, .inr (.inr (4, r_3.1, r_3.2))), (3, .inl r_1), (0, .inr (.inr (10, 0, 0))), (1, .inl x1), (2, .inl x2)]) (st' := []) (V' := q_V S_6) rfl ?_ ?_
    · exact q_Sim.sub2 (lv' := [(0, .inr (.inr (10, 0, 0)))]) [0] rfl (by decide) ⟨rfl, trivial⟩ (sb_157_53  S_6)
    · refine q_Sim.steps vc_157 2 (pc' := 50) (lv' := [(5, .inr (.inr (4, r_5.1, r_5.2))), (4, .inr (.inr (4, r_3.1, r_3.2))), (3, .inl r_1), (0, .inr (.inr (10, 0, 0))), (1, .inl x1), (2, .inl x2)]) (st' := [.inl (S_6.1 (4, r_5.1, r_5.2) 8)]) (V' := q_V S_6) rfl ?_
      refine q_Sim.br vc_157 (c := ¬ (S_6.1 (4, r_5.1, r_5.2) 8) = 0) (t := 59) (f := 53) (lv' := [(5, .inr (.inr (4, r_5.1, r_5.2))), (4, .inr (.inr (4, r_3.1, r_3.2))), (3, .inl r_1), (0, .inr (.inr (10, 0, 0))), (1, .inl x1), (2, .inl x2)]) (st' := []) (V' := q_V S_6) rfl ?_ ?_
      · refine q_Sim.steps vc_157 7 (pc' := 72) (lv' := [(5, .inr (.inr (4, r_5.1, r_5.2))), (4, .inr (.inr (4, r_3.1, r_3.2))), (3, .inl r_1), (0, .inr (.inr (10, 0, 0))), (1, .inl x1), (2, .inl x2)]) (st' := [.inr (.inl (((S_6.1 (4, r_3.1, r_3.2) 7).toInt64) * ((S_6.1 (4, r_5.1, r_5.2) 8).toInt64)))]) (V' := q_V S_6) rfl ?_
        refine q_Sim.letJ (fun y_9 => ?_)
        refine q_Sim.steps vc_157 8 (pc' := 87) (lv' := [(6, .inr (.inl y_9)), (5, .inr (.inr (4, r_5.1, r_5.2))), (4, .inr (.inr (4, r_3.1, r_3.2))), (3, .inl r_1), (0, .inr (.inr (10, 0, 0))), (1, .inl x1), (2, .inl x2)]) (st' := [.inr (.inl (((S_6.1 (4, r_5.1, r_5.2) 7).toInt64) * ((S_6.1 (4, r_3.1, r_3.2) 8).toInt64)))]) (V' := q_V S_6) rfl ?_
        refine q_Sim.letJ (fun y_10 => ?_)
        refine q_Sim.steps vc_157 5 (pc' := 95) (lv' := [(8, .inr (.inl y_10)), (6, .inr (.inl y_9)), (5, .inr (.inr (4, r_5.1, r_5.2))), (4, .inr (.inr (4, r_3.1, r_3.2))), (3, .inl r_1), (0, .inr (.inr (10, 0, 0))), (1, .inl x1), (2, .inl x2)]) (st' := [.inl (lg_cmp y_9 y_10), .inr (.inr (10, 0, 0))]) (V' := q_V S_6) rfl ?_
        refine q_Sim.br vc_157 (c := 0 ≤ (lg_cmp y_9 y_10)) (t := 102) (f := 98) (lv' := [(8, .inr (.inl y_10)), (6, .inr (.inl y_9)), (5, .inr (.inr (4, r_5.1, r_5.2))), (4, .inr (.inr (4, r_3.1, r_3.2))), (3, .inl r_1), (0, .inr (.inr (10, 0, 0))), (1, .inl x1), (2, .inl x2)]) (st' := [.inr (.inr (10, 0, 0))]) (V' := q_V S_6) rfl ?_ ?_
        · refine q_Sim.steps vc_157 3 (pc' := 107) (lv' := [(8, .inr (.inl y_10)), (6, .inr (.inl y_9)), (5, .inr (.inr (4, r_5.1, r_5.2))), (4, .inr (.inr (4, r_3.1, r_3.2))), (3, .inl r_1), (0, .inr (.inr (10, 0, 0))), (1, .inl x1), (2, .inl x2)]) (st' := [.inl (lg_cmp y_9 y_10), .inr (.inr (10, 0, 0))]) (V' := q_V S_6) rfl ?_
          refine q_Sim.br vc_157 (c := ¬ (lg_cmp y_9 y_10) = 0) (t := 114) (f := 110) (lv' := [(8, .inr (.inl y_10)), (6, .inr (.inl y_9)), (5, .inr (.inr (4, r_5.1, r_5.2))), (4, .inr (.inr (4, r_3.1, r_3.2))), (3, .inl r_1), (0, .inr (.inr (10, 0, 0))), (1, .inl x1), (2, .inl x2)]) (st' := [.inr (.inr (10, 0, 0))]) (V' := q_V S_6) rfl ?_ ?_
          · refine q_Sim.steps vc_157 1 (pc' := 115) (lv' := [(8, .inr (.inl y_10)), (6, .inr (.inl y_9)), (5, .inr (.inr (4, r_5.1, r_5.2))), (4, .inr (.inr (4, r_3.1, r_3.2))), (3, .inl r_1), (0, .inr (.inr (10, 0, 0))), (1, .inl x1), (2, .inl x2)]) (st' := [.inl 2, .inr (.inr (10, 0, 0))]) (V' := q_V S_6) rfl ?_
            exact q_Sim.sub2 (lv' := []) [] rfl (by decide) trivial (sb_157_115 2 S_6)
          · refine q_Sim.steps vc_157 2 (pc' := 115) (lv' := [(8, .inr (.inl y_10)), (6, .inr (.inl y_9)), (5, .inr (.inr (4, r_5.1, r_5.2))), (4, .inr (.inr (4, r_3.1, r_3.2))), (3, .inl r_1), (0, .inr (.inr (10, 0, 0))), (1, .inl x1), (2, .inl x2)]) (st' := [.inl 1, .inr (.inr (10, 0, 0))]) (V' := q_V S_6) rfl ?_
            exact q_Sim.sub2 (lv' := []) [] rfl (by decide) trivial (sb_157_115 1 S_6)
        · refine q_Sim.steps vc_157 2 (pc' := 115) (lv' := [(8, .inr (.inl y_10)), (6, .inr (.inl y_9)), (5, .inr (.inr (4, r_5.1, r_5.2))), (4, .inr (.inr (4, r_3.1, r_3.2))), (3, .inl r_1), (0, .inr (.inr (10, 0, 0))), (1, .inl x1), (2, .inl x2)]) (st' := [.inl 0, .inr (.inr (10, 0, 0))]) (V' := q_V S_6) rfl ?_
          exact q_Sim.sub2 (lv' := []) [] rfl (by decide) trivial (sb_157_115 0 S_6)
      · exact q_Sim.sub2 (lv' := [(0, .inr (.inr (10, 0, 0)))]) [0] rfl (by decide) ⟨rfl, trivial⟩ (sb_157_53  S_6)
  · refine q_Sim.steps vc_157 2 (pc' := 13) (lv' := [(3, .inl r_1), (0, .inr (.inr (10, 0, 0))), (1, .inl x1), (2, .inl x2)]) (st' := [.inl r_1, .inr (.inr (10, 0, 0))]) (V' := q_V S_2) rfl ?_
    refine q_Sim.call vc_157 (as := [.inr (.inr (10, 0, 0)), .inl r_1]) (pc' := 16) (lv' := [(3, .inl r_1), (0, .inr (.inr (10, 0, 0))), (1, .inl x1), (2, .inl x2)]) (st' := []) (S := S_2) rfl (rc_170 r_1) (s_170 r_1 S_2) (fun r_13 S_14 => ?_)
    exact q_Sim.ret vc_157 rfl
theorem vc_158 : v_code 158 = k_158 := rfl
theorem rc_158 (x1 : Int32) : v_rcv 158 [.inr (.inr (10, 0, 0)), .inl x1] = true := rfl
def f_158 (x1 : Int32) (S : QS) : Option ((Int32) × QS) := q_bd (f_172 x1 S) (fun r_1 S_2 => if r_1 = 0 then (q_bd (f_171  S_2) (fun r_3 S_4 => q_bd (f_91 S_4.2.2.1.1 x1 S_4) (fun r_5 S_6 => q_bd (f_52 r_5.1 r_5.2 S_6) (fun r_7 S_8 => q_bd (f_169 1 S_8) (fun r_9 S_10 => some (r_9, S_10)))))) else (q_bd (f_170 r_1 S_2) (fun r_11 S_12 => some (r_11, S_12))))
theorem s_158 (x1 : Int32) (S : QS) : q_Sim 158 0 [(0, .inr (.inr (10, 0, 0))), (1, .inl x1)] [] (q_V S) q_I (f_158 x1 S) := by
  unfold f_158
  refine q_Sim.steps vc_158 2 (pc' := 2) (lv' := [(0, .inr (.inr (10, 0, 0))), (1, .inl x1)]) (st' := [.inl x1, .inr (.inr (10, 0, 0))]) (V' := q_V S) rfl ?_
  refine q_Sim.call vc_158 (as := [.inr (.inr (10, 0, 0)), .inl x1]) (pc' := 5) (lv' := [(0, .inr (.inr (10, 0, 0))), (1, .inl x1)]) (st' := []) (S := S) rfl (rc_172 x1) (s_172 x1 S) (fun r_1 S_2 => ?_)
  refine q_Sim.steps vc_158 2 (pc' := 7) (lv' := [(2, .inl r_1), (0, .inr (.inr (10, 0, 0))), (1, .inl x1)]) (st' := [.inl r_1]) (V' := q_V S_2) rfl ?_
  refine q_Sim.br vc_158 (c := r_1 = 0) (t := 16) (f := 10) (lv' := [(2, .inl r_1), (0, .inr (.inr (10, 0, 0))), (1, .inl x1)]) (st' := []) (V' := q_V S_2) rfl ?_ ?_
  · refine q_Sim.steps vc_158 1 (pc' := 17) (lv' := [(2, .inl r_1), (0, .inr (.inr (10, 0, 0))), (1, .inl x1)]) (st' := [.inr (.inr (10, 0, 0))]) (V' := q_V S_2) rfl ?_
    refine q_Sim.call vc_158 (as := [.inr (.inr (10, 0, 0))]) (pc' := 20) (lv' := [(2, .inl r_1), (0, .inr (.inr (10, 0, 0))), (1, .inl x1)]) (st' := []) (S := S_2) rfl (rc_171 ) (s_171  S_2) (fun r_3 S_4 => ?_)
    refine q_Sim.steps vc_158 3 (pc' := 25) (lv' := [(2, .inl r_1), (0, .inr (.inr (10, 0, 0))), (1, .inl x1)]) (st' := [.inl x1, .inr (.inr (9, S_4.2.2.1.1, 0))]) (V' := q_V S_4) rfl ?_
    refine q_Sim.call vc_158 (as := [.inr (.inr (9, S_4.2.2.1.1, 0)), .inl x1]) (pc' := 28) (lv' := [(2, .inl r_1), (0, .inr (.inr (10, 0, 0))), (1, .inl x1)]) (st' := []) (S := S_4) rfl (rc_91 S_4.2.2.1.1 x1) (s_91 S_4.2.2.1.1 x1 S_4) (fun r_5 S_6 => ?_)
    refine q_Sim.call vc_158 (as := [.inr (.inr (4, r_5.1, r_5.2))]) (pc' := 31) (lv' := [(2, .inl r_1), (0, .inr (.inr (10, 0, 0))), (1, .inl x1)]) (st' := []) (S := S_6) rfl (rc_52 r_5.1 r_5.2) (s_52 r_5.1 r_5.2 S_6) (fun r_7 S_8 => ?_)
    refine q_Sim.steps vc_158 2 (pc' := 33) (lv' := [(2, .inl r_1), (0, .inr (.inr (10, 0, 0))), (1, .inl x1)]) (st' := [.inl 1, .inr (.inr (10, 0, 0))]) (V' := q_V S_8) rfl ?_
    refine q_Sim.call vc_158 (as := [.inr (.inr (10, 0, 0)), .inl 1]) (pc' := 36) (lv' := [(2, .inl r_1), (0, .inr (.inr (10, 0, 0))), (1, .inl x1)]) (st' := []) (S := S_8) rfl (rc_169 1) (s_169 1 S_8) (fun r_9 S_10 => ?_)
    exact q_Sim.ret vc_158 rfl
  · refine q_Sim.steps vc_158 2 (pc' := 12) (lv' := [(2, .inl r_1), (0, .inr (.inr (10, 0, 0))), (1, .inl x1)]) (st' := [.inl r_1, .inr (.inr (10, 0, 0))]) (V' := q_V S_2) rfl ?_
    refine q_Sim.call vc_158 (as := [.inr (.inr (10, 0, 0)), .inl r_1]) (pc' := 15) (lv' := [(2, .inl r_1), (0, .inr (.inr (10, 0, 0))), (1, .inl x1)]) (st' := []) (S := S_2) rfl (rc_170 r_1) (s_170 r_1 S_2) (fun r_11 S_12 => ?_)
    exact q_Sim.ret vc_158 rfl
theorem vc_159 : v_code 159 = k_159 := rfl
theorem rc_159 (x1 : Int32) (x2 : Int32) (x3 : Int32) : v_rcv 159 [.inr (.inr (10, 0, 0)), .inl x1, .inl x2, .inl x3] = true := rfl
def b_159_69 (x1 : Int32) (x2 : Int32) (x3 : Int32) (S : QS) : Option ((Int32) × QS) := q_bd (f_171  S) (fun r_3 S_4 => q_bd (f_91 S_4.2.2.1.1 x1 S_4) (fun r_5 S_6 => q_let (q_set S_6 (4, r_5.1, r_5.2) 9 x2) (fun S_7 => q_let (q_set S_7 (4, r_5.1, r_5.2) 10 x3) (fun S_8 => q_bd (f_169 1 S_8) (fun r_9 S_10 => some (r_9, S_10))))))
theorem sb_159_69 (x1 : Int32) (x2 : Int32) (x3 : Int32) (S : QS) : q_Sim 159 69 [(0, .inr (.inr (10, 0, 0))), (1, .inl x1), (2, .inl x2), (3, .inl x3)] [] (q_V S) q_I (b_159_69 x1 x2 x3 S) := by
  unfold b_159_69
  refine q_Sim.steps vc_159 1 (pc' := 70) (lv' := [(0, .inr (.inr (10, 0, 0))), (1, .inl x1), (2, .inl x2), (3, .inl x3)]) (st' := [.inr (.inr (10, 0, 0))]) (V' := q_V S) rfl ?_
  refine q_Sim.call vc_159 (as := [.inr (.inr (10, 0, 0))]) (pc' := 73) (lv' := [(0, .inr (.inr (10, 0, 0))), (1, .inl x1), (2, .inl x2), (3, .inl x3)]) (st' := []) (S := S) rfl (rc_171 ) (s_171  S) (fun r_3 S_4 => ?_)
  refine q_Sim.steps vc_159 3 (pc' := 78) (lv' := [(0, .inr (.inr (10, 0, 0))), (1, .inl x1), (2, .inl x2), (3, .inl x3)]) (st' := [.inl x1, .inr (.inr (9, S_4.2.2.1.1, 0))]) (V' := q_V S_4) rfl ?_
  refine q_Sim.call vc_159 (as := [.inr (.inr (9, S_4.2.2.1.1, 0)), .inl x1]) (pc' := 81) (lv' := [(0, .inr (.inr (10, 0, 0))), (1, .inl x1), (2, .inl x2), (3, .inl x3)]) (st' := []) (S := S_4) rfl (rc_91 S_4.2.2.1.1 x1) (s_91 S_4.2.2.1.1 x1 S_4) (fun r_5 S_6 => ?_)
  refine q_Sim.steps vc_159 3 (pc' := 86) (lv' := [(6, .inr (.inr (4, r_5.1, r_5.2))), (0, .inr (.inr (10, 0, 0))), (1, .inl x1), (2, .inl x2), (3, .inl x3)]) (st' := [.inl x2, .inr (.inr (4, r_5.1, r_5.2))]) (V' := q_V S_6) rfl ?_
  refine q_Sim.steps vc_159 1 (pc' := 89) (lv' := [(6, .inr (.inr (4, r_5.1, r_5.2))), (0, .inr (.inr (10, 0, 0))), (1, .inl x1), (2, .inl x2), (3, .inl x3)]) (st' := []) (V' := q_V (q_set S_6 (4, r_5.1, r_5.2) 9 x2)) rfl ?_
  refine q_Sim.letS (fun S_7 => ?_)
  refine q_Sim.steps vc_159 2 (pc' := 92) (lv' := [(6, .inr (.inr (4, r_5.1, r_5.2))), (0, .inr (.inr (10, 0, 0))), (1, .inl x1), (2, .inl x2), (3, .inl x3)]) (st' := [.inl x3, .inr (.inr (4, r_5.1, r_5.2))]) (V' := q_V S_7) rfl ?_
  refine q_Sim.steps vc_159 1 (pc' := 95) (lv' := [(6, .inr (.inr (4, r_5.1, r_5.2))), (0, .inr (.inr (10, 0, 0))), (1, .inl x1), (2, .inl x2), (3, .inl x3)]) (st' := []) (V' := q_V (q_set S_7 (4, r_5.1, r_5.2) 10 x3)) rfl ?_
  refine q_Sim.letS (fun S_8 => ?_)
  refine q_Sim.steps vc_159 2 (pc' := 97) (lv' := [(6, .inr (.inr (4, r_5.1, r_5.2))), (0, .inr (.inr (10, 0, 0))), (1, .inl x1), (2, .inl x2), (3, .inl x3)]) (st' := [.inl 1, .inr (.inr (10, 0, 0))]) (V' := q_V S_8) rfl ?_
  refine q_Sim.call vc_159 (as := [.inr (.inr (10, 0, 0)), .inl 1]) (pc' := 100) (lv' := [(6, .inr (.inr (4, r_5.1, r_5.2))), (0, .inr (.inr (10, 0, 0))), (1, .inl x1), (2, .inl x2), (3, .inl x3)]) (st' := []) (S := S_8) rfl (rc_169 1) (s_169 1 S_8) (fun r_9 S_10 => ?_)
  exact q_Sim.ret vc_159 rfl
def b_159_62  (S : QS) : Option ((Int32) × QS) := q_bd (f_170 6 S) (fun r_11 S_12 => some (r_11, S_12))
theorem sb_159_62  (S : QS) : q_Sim 159 62 [(0, .inr (.inr (10, 0, 0)))] [] (q_V S) q_I (b_159_62  S) := by
  unfold b_159_62
  refine q_Sim.steps vc_159 2 (pc' := 65) (lv' := [(0, .inr (.inr (10, 0, 0)))]) (st' := [.inl 6, .inr (.inr (10, 0, 0))]) (V' := q_V S) rfl ?_
  refine q_Sim.call vc_159 (as := [.inr (.inr (10, 0, 0)), .inl 6]) (pc' := 68) (lv' := [(0, .inr (.inr (10, 0, 0)))]) (st' := []) (S := S) rfl (rc_170 6) (s_170 6 S) (fun r_11 S_12 => ?_)
  exact q_Sim.ret vc_159 rfl
def b_159_32 (x1 : Int32) (x2 : Int32) (x3 : Int32) (xs0 : Int32) (S : QS) : Option ((Int32) × QS) := if ¬ xs0 = 0 then (b_159_69 x1 x2 x3 S) else (if x2 < 1 then (b_159_62  S) else (if 30 < x2 then (b_159_62  S) else (if x3 < 1 then (b_159_62  S) else (if x3 ≤ 1000 then (b_159_69 x1 x2 x3 S) else (b_159_62  S)))))
theorem sb_159_32 (x1 : Int32) (x2 : Int32) (x3 : Int32) (xs0 : Int32) (S : QS) : q_Sim 159 32 [(0, .inr (.inr (10, 0, 0))), (1, .inl x1), (2, .inl x2), (3, .inl x3)] [.inl xs0] (q_V S) q_I (b_159_32 x1 x2 x3 xs0 S) := by
  unfold b_159_32
  refine q_Sim.steps vc_159 2 (pc' := 36) (lv' := [(5, .inl xs0), (0, .inr (.inr (10, 0, 0))), (1, .inl x1), (2, .inl x2), (3, .inl x3)]) (st' := [.inl xs0]) (V' := q_V S) rfl ?_
  refine q_Sim.br vc_159 (c := ¬ xs0 = 0) (t := 69) (f := 39) (lv' := [(5, .inl xs0), (0, .inr (.inr (10, 0, 0))), (1, .inl x1), (2, .inl x2), (3, .inl x3)]) (st' := []) (V' := q_V S) rfl ?_ ?_
  · exact q_Sim.sub2 (lv' := [(0, .inr (.inr (10, 0, 0))), (1, .inl x1), (2, .inl x2), (3, .inl x3)]) [0, 1, 2, 3] rfl (by decide) ⟨rfl, rfl, rfl, rfl, trivial⟩ (sb_159_69 x1 x2 x3 S)
  · refine q_Sim.steps vc_159 2 (pc' := 41) (lv' := [(5, .inl xs0), (0, .inr (.inr (10, 0, 0))), (1, .inl x1), (2, .inl x2), (3, .inl x3)]) (st' := [.inl 1, .inl x2]) (V' := q_V S) rfl ?_
    refine q_Sim.br vc_159 (c := x2 < 1) (t := 62) (f := 44) (lv' := [(5, .inl xs0), (0, .inr (.inr (10, 0, 0))), (1, .inl x1), (2, .inl x2), (3, .inl x3)]) (st' := []) (V' := q_V S) rfl ?_ ?_
    · exact q_Sim.sub2 (lv' := [(0, .inr (.inr (10, 0, 0)))]) [0] rfl (by decide) ⟨rfl, trivial⟩ (sb_159_62  S)
    · refine q_Sim.steps vc_159 2 (pc' := 47) (lv' := [(5, .inl xs0), (0, .inr (.inr (10, 0, 0))), (1, .inl x1), (2, .inl x2), (3, .inl x3)]) (st' := [.inl 30, .inl x2]) (V' := q_V S) rfl ?_
      refine q_Sim.br vc_159 (c := 30 < x2) (t := 62) (f := 50) (lv' := [(5, .inl xs0), (0, .inr (.inr (10, 0, 0))), (1, .inl x1), (2, .inl x2), (3, .inl x3)]) (st' := []) (V' := q_V S) rfl ?_ ?_
      · exact q_Sim.sub2 (lv' := [(0, .inr (.inr (10, 0, 0)))]) [0] rfl (by decide) ⟨rfl, trivial⟩ (sb_159_62  S)
      · refine q_Sim.steps vc_159 2 (pc' := 52) (lv' := [(5, .inl xs0), (0, .inr (.inr (10, 0, 0))), (1, .inl x1), (2, .inl x2), (3, .inl x3)]) (st' := [.inl 1, .inl x3]) (V' := q_V S) rfl ?_
        refine q_Sim.br vc_159 (c := x3 < 1) (t := 62) (f := 55) (lv' := [(5, .inl xs0), (0, .inr (.inr (10, 0, 0))), (1, .inl x1), (2, .inl x2), (3, .inl x3)]) (st' := []) (V' := q_V S) rfl ?_ ?_
        · exact q_Sim.sub2 (lv' := [(0, .inr (.inr (10, 0, 0)))]) [0] rfl (by decide) ⟨rfl, trivial⟩ (sb_159_62  S)
        · refine q_Sim.steps vc_159 2 (pc' := 59) (lv' := [(5, .inl xs0), (0, .inr (.inr (10, 0, 0))), (1, .inl x1), (2, .inl x2), (3, .inl x3)]) (st' := [.inl 1000, .inl x3]) (V' := q_V S) rfl ?_
          refine q_Sim.br vc_159 (c := x3 ≤ 1000) (t := 69) (f := 62) (lv' := [(5, .inl xs0), (0, .inr (.inr (10, 0, 0))), (1, .inl x1), (2, .inl x2), (3, .inl x3)]) (st' := []) (V' := q_V S) rfl ?_ ?_
          · exact q_Sim.sub2 (lv' := [(0, .inr (.inr (10, 0, 0))), (1, .inl x1), (2, .inl x2), (3, .inl x3)]) [0, 1, 2, 3] rfl (by decide) ⟨rfl, rfl, rfl, rfl, trivial⟩ (sb_159_69 x1 x2 x3 S)
          · exact q_Sim.sub2 (lv' := [(0, .inr (.inr (10, 0, 0)))]) [0] rfl (by decide) ⟨rfl, trivial⟩ (sb_159_62  S)
def b_159_31 (x1 : Int32) (x2 : Int32) (x3 : Int32) (S : QS) : Option ((Int32) × QS) := b_159_32 x1 x2 x3 0 S
theorem sb_159_31 (x1 : Int32) (x2 : Int32) (x3 : Int32) (S : QS) : q_Sim 159 31 [(0, .inr (.inr (10, 0, 0))), (1, .inl x1), (2, .inl x2), (3, .inl x3)] [] (q_V S) q_I (b_159_31 x1 x2 x3 S) := by
  unfold b_159_31
  refine q_Sim.steps vc_159 1 (pc' := 32) (lv' := [(0, .inr (.inr (10, 0, 0))), (1, .inl x1), (2, .inl x2), (3, .inl x3)]) (st' := [.inl 0]) (V' := q_V S) rfl ?_
  exact q_Sim.sub2 (lv' := [(0, .inr (.inr (10, 0, 0))), (1, .inl x1), (2, .inl x2), (3, .inl x3)]) [0, 1, 2, 3] rfl (by decide) ⟨rfl, rfl, rfl, rfl, trivial⟩ (sb_159_32 x1 x2 x3 0 S)
def f_159 (x1 : Int32) (x2 : Int32) (x3 : Int32) (S : QS) : Option ((Int32) × QS) := q_bd (f_172 x1 S) (fun r_1 S_2 => if r_1 = 0 then (if ¬ x2 = 0 then (b_159_31 x1 x2 x3 S_2) else (if ¬ x3 = 0 then (b_159_31 x1 x2 x3 S_2) else (b_159_32 x1 x2 x3 1 S_2))) else (q_bd (f_170 r_1 S_2) (fun r_13 S_14 => some (r_13, S_14))))
theorem s_159 (x1 : Int32) (x2 : Int32) (x3 : Int32) (S : QS) : q_Sim 159 0 [(0, .inr (.inr (10, 0, 0))), (1, .inl x1), (2, .inl x2), (3, .inl x3)] [] (q_V S) q_I (f_159 x1 x2 x3 S) := by
  unfold f_159
  refine q_Sim.steps vc_159 2 (pc' := 2) (lv' := [(0, .inr (.inr (10, 0, 0))), (1, .inl x1), (2, .inl x2), (3, .inl x3)]) (st' := [.inl x1, .inr (.inr (10, 0, 0))]) (V' := q_V S) rfl ?_
  refine q_Sim.call vc_159 (as := [.inr (.inr (10, 0, 0)), .inl x1]) (pc' := 5) (lv' := [(0, .inr (.inr (10, 0, 0))), (1, .inl x1), (2, .inl x2), (3, .inl x3)]) (st' := []) (S := S) rfl (rc_172 x1) (s_172 x1 S) (fun r_1 S_2 => ?_)
  refine q_Sim.steps vc_159 2 (pc' := 9) (lv' := [(4, .inl r_1), (0, .inr (.inr (10, 0, 0))), (1, .inl x1), (2, .inl x2), (3, .inl x3)]) (st' := [.inl r_1]) (V' := q_V S_2) rfl ?_
  refine q_Sim.br vc_159 (c := r_1 = 0) (t := 19) (f := 12) (lv' := [(4, .inl r_1), (0, .inr (.inr (10, 0, 0))), (1, .inl x1), (2, .inl x2), (3, .inl x3)]) (st' := []) (V' := q_V S_2) rfl ?_ ?_
  · refine q_Sim.steps vc_159 1 (pc' := 20) (lv' := [(4, .inl r_1), (0, .inr (.inr (10, 0, 0))), (1, .inl x1), (2, .inl x2), (3, .inl x3)]) (st' := [.inl x2]) (V' := q_V S_2) rfl ?_
    refine q_Sim.br vc_159 (c := ¬ x2 = 0) (t := 31) (f := 23) (lv' := [(4, .inl r_1), (0, .inr (.inr (10, 0, 0))), (1, .inl x1), (2, .inl x2), (3, .inl x3)]) (st' := []) (V' := q_V S_2) rfl ?_ ?_
    · exact q_Sim.sub2 (lv' := [(0, .inr (.inr (10, 0, 0))), (1, .inl x1), (2, .inl x2), (3, .inl x3)]) [0, 1, 2, 3] rfl (by decide) ⟨rfl, rfl, rfl, rfl, trivial⟩ (sb_159_31 x1 x2 x3 S_2)
    · refine q_Sim.steps vc_159 1 (pc' := 24) (lv' := [(4, .inl r_1), (0, .inr (.inr (10, 0, 0))), (1, .inl x1), (2, .inl x2), (3, .inl x3)]) (st' := [.inl x3]) (V' := q_V S_2) rfl ?_
      refine q_Sim.br vc_159 (c := ¬ x3 = 0) (t := 31) (f := 27) (lv' := [(4, .inl r_1), (0, .inr (.inr (10, 0, 0))), (1, .inl x1), (2, .inl x2), (3, .inl x3)]) (st' := []) (V' := q_V S_2) rfl ?_ ?_
      · exact q_Sim.sub2 (lv' := [(0, .inr (.inr (10, 0, 0))), (1, .inl x1), (2, .inl x2), (3, .inl x3)]) [0, 1, 2, 3] rfl (by decide) ⟨rfl, rfl, rfl, rfl, trivial⟩ (sb_159_31 x1 x2 x3 S_2)
      · refine q_Sim.steps vc_159 2 (pc' := 32) (lv' := [(4, .inl r_1), (0, .inr (.inr (10, 0, 0))), (1, .inl x1), (2, .inl x2), (3, .inl x3)]) (st' := [.inl 1]) (V' := q_V S_2) rfl ?_
        exact q_Sim.sub2 (lv' := [(0, .inr (.inr (10, 0, 0))), (1, .inl x1), (2, .inl x2), (3, .inl x3)]) [0, 1, 2, 3] rfl (by decide) ⟨rfl, rfl, rfl, rfl, trivial⟩ (sb_159_32 x1 x2 x3 1 S_2)
  · refine q_Sim.steps vc_159 2 (pc' := 15) (lv' := [(4, .inl r_1), (0, .inr (.inr (10, 0, 0))), (1, .inl x1), (2, .inl x2), (3, .inl x3)]) (st' := [.inl r_1, .inr (.inr (10, 0, 0))]) (V' := q_V S_2) rfl ?_
    refine q_Sim.call vc_159 (as := [.inr (.inr (10, 0, 0)), .inl r_1]) (pc' := 18) (lv' := [(4, .inl r_1), (0, .inr (.inr (10, 0, 0))), (1, .inl x1), (2, .inl x2), (3, .inl x3)]) (st' := []) (S := S_2) rfl (rc_170 r_1) (s_170 r_1 S_2) (fun r_13 S_14 => ?_)
    exact q_Sim.ret vc_159 rfl
theorem vc_160 : v_code 160 = k_160 := rfl
theorem rc_160 (x1 : Int32) (x2 : Int32) : v_rcv 160 [.inr (.inr (10, 0, 0)), .inl x1, .inl x2] = true := rfl
def b_160_22  (S : QS) : Option ((Int32) × QS) := q_bd (f_170 6 S) (fun r_1 S_2 => some (r_1, S_2))
theorem sb_160_22  (S : QS) : q_Sim 160 22 [(0, .inr (.inr (10, 0, 0)))] [] (q_V S) q_I (b_160_22  S) := by
  unfold b_160_22
  refine q_Sim.steps vc_160 2 (pc' := 25) (lv' := [(0, .inr (.inr (10, 0, 0)))]) (st' := [.inl 6, .inr (.inr (10, 0, 0))]) (V' := q_V S) rfl ?_
  refine q_Sim.call vc_160 (as := [.inr (.inr (10, 0, 0)), .inl 6]) (pc' := 28) (lv' := [(0, .inr (.inr (10, 0, 0)))]) (st' := []) (S := S) rfl (rc_170 6) (s_170 6 S) (fun r_1 S_2 => ?_)
  exact q_Sim.ret vc_160 rfl
def b_160_68  (S : QS) : Option ((Int32) × QS) := q_bd (f_170 4 S) (fun r_7 S_8 => some (r_7, S_8))
theorem sb_160_68  (S : QS) : q_Sim 160 68 [(0, .inr (.inr (10, 0, 0)))] [] (q_V S) q_I (b_160_68  S) := by
  unfold b_160_68
  refine q_Sim.steps vc_160 2 (pc' := 70) (lv' := [(0, .inr (.inr (10, 0, 0)))]) (st' := [.inl 4, .inr (.inr (10, 0, 0))]) (V' := q_V S) rfl ?_
  refine q_Sim.call vc_160 (as := [.inr (.inr (10, 0, 0)), .inl 4]) (pc' := 73) (lv' := [(0, .inr (.inr (10, 0, 0)))]) (st' := []) (S := S) rfl (rc_170 4) (s_170 4 S) (fun r_7 S_8 => ?_)
  exact q_Sim.ret vc_160 rfl
def b_160_74 (x1 : Int32) (x2 : Int32) (S : QS) : Option ((Int32) × QS) := q_bd (f_74 S.2.2.1.1 x1 x2 S) (fun r_9 S_10 => q_bd (f_169 r_9 S_10) (fun r_11 S_12 => some (r_11, S_12)))
theorem sb_160_74 (x1 : Int32) (x2 : Int32) (S : QS) : q_Sim 160 74 [(0, .inr (.inr (10, 0, 0))), (1, .inl x1), (2, .inl x2)] [] (q_V S) q_I (b_160_74 x1 x2 S) := by
  unfold b_160_74
  refine q_Sim.steps vc_160 7 (pc' := 85) (lv' := [(0, .inr (.inr (10, 0, 0))), (1, .inl x1), (2, .inl x2)]) (st' := [.inl x2, .inl x1, .inr (.inr (9, S.2.2.1.1, 0)), .inr (.inr (6, 0, 0)), .inr (.inr (10, 0, 0))]) (V' := q_V S) rfl ?_
  refine q_Sim.call vc_160 (as := [.inr (.inr (6, 0, 0)), .inr (.inr (9, S.2.2.1.1, 0)), .inl x1, .inl x2]) (pc' := 88) (lv' := [(0, .inr (.inr (10, 0, 0))), (1, .inl x1), (2, .inl x2)]) (st' := [.inr (.inr (10, 0, 0))]) (S := S) rfl (rc_74 S.2.2.1.1 x1 x2) (s_74 S.2.2.1.1 x1 x2 S) (fun r_9 S_10 => ?_)
  refine q_Sim.call vc_160 (as := [.inr (.inr (10, 0, 0)), .inl r_9]) (pc' := 91) (lv' := [(0, .inr (.inr (10, 0, 0))), (1, .inl x1), (2, .inl x2)]) (st' := []) (S := S_10) rfl (rc_169 r_9) (s_169 r_9 S_10) (fun r_11 S_12 => ?_)
  exact q_Sim.ret vc_160 rfl
def f_160 (x1 : Int32) (x2 : Int32) (S : QS) : Option ((Int32) × QS) := if x1 < 0 then (b_160_22  S) else (if 10000 < x1 then (b_160_22  S) else (if x2 < 0 then (b_160_22  S) else (if x2 ≤ 10000 then (q_bd (f_113 S.2.2.1.1 S) (fun r_3 S_4 => if r_3 ≤ 8 then (q_bd (f_114 S_4.2.2.1.1 S_4) (fun r_5 S_6 => if ¬ r_5 = 0 then (b_160_68  S_6) else (if ¬ x2 = 0 then (b_160_74 x1 x2 S_6) else (if r_3 ≤ 0 then (b_160_74 x1 x2 S_6) else (b_160_68  S_6))))) else (q_bd (f_170 8 S_4) (fun r_13 S_14 => some (r_13, S_14))))) else (b_160_22  S))))
theorem s_160 (x1 : Int32) (x2 : Int32) (S : QS) : q_Sim 160 0 [(0, .inr (.inr (10, 0, 0))), (1, .inl x1), (2, .inl x2)] [] (q_V S) q_I (f_160 x1 x2 S) := by
  unfold f_160
  refine q_Sim.steps vc_160 1 (pc' := 1) (lv' := [(0, .inr (.inr (10, 0, 0))), (1, .inl x1), (2, .inl x2)]) (st' := [.inl x1]) (V' := q_V S) rfl ?_
  refine q_Sim.br vc_160 (c := x1 < 0) (t := 22) (f := 4) (lv' := [(0, .inr (.inr (10, 0, 0))), (1, .inl x1), (2, .inl x2)]) (st' := []) (V' := q_V S) rfl ?_ ?_
  · exact q_Sim.sub2 (lv' := [(0, .inr (.inr (10, 0, 0)))]) [0] rfl (by decide) ⟨rfl, trivial⟩ (sb_160_22  S)
  · refine q_Sim.steps vc_160 2 (pc' := 8) (lv' := [(0, .inr (.inr (10, 0, 0))), (1, .inl x1), (2, .inl x2)]) (st' := [.inl 10000, .inl x1]) (V' := q_V S) rfl ?_
    refine q_Sim.br vc_160 (c := 10000 < x1) (t := 22) (f := 11) (lv' := [(0, .inr (.inr (10, 0, 0))), (1, .inl x1), (2, .inl x2)]) (st' := []) (V' := q_V S) rfl ?_ ?_
    · exact q_Sim.sub2 (lv' := [(0, .inr (.inr (10, 0, 0)))]) [0] rfl (by decide) ⟨rfl, trivial⟩ (sb_160_22  S)
    · refine q_Sim.steps vc_160 1 (pc' := 12) (lv' := [(0, .inr (.inr (10, 0, 0))), (1, .inl x1), (2, .inl x2)]) (st' := [.inl x2]) (V' := q_V S) rfl ?_
      refine q_Sim.br vc_160 (c := x2 < 0) (t := 22) (f := 15) (lv' := [(0, .inr (.inr (10, 0, 0))), (1, .inl x1), (2, .inl x2)]) (st' := []) (V' := q_V S) rfl ?_ ?_
      · exact q_Sim.sub2 (lv' := [(0, .inr (.inr (10, 0, 0)))]) [0] rfl (by decide) ⟨rfl, trivial⟩ (sb_160_22  S)
      · refine q_Sim.steps vc_160 2 (pc' := 19) (lv' := [(0, .inr (.inr (10, 0, 0))), (1, .inl x1), (2, .inl x2)]) (st' := [.inl 10000, .inl x2]) (V' := q_V S) rfl ?_
        refine q_Sim.br vc_160 (c := x2 ≤ 10000) (t := 29) (f := 22) (lv' := [(0, .inr (.inr (10, 0, 0))), (1, .inl x1), (2, .inl x2)]) (st' := []) (V' := q_V S) rfl ?_ ?_
        · refine q_Sim.steps vc_160 2 (pc' := 33) (lv' := [(0, .inr (.inr (10, 0, 0))), (1, .inl x1), (2, .inl x2)]) (st' := [.inr (.inr (9, S.2.2.1.1, 0))]) (V' := q_V S) rfl ?_
          refine q_Sim.call vc_160 (as := [.inr (.inr (9, S.2.2.1.1, 0))]) (pc' := 36) (lv' := [(0, .inr (.inr (10, 0, 0))), (1, .inl x1), (2, .inl x2)]) (st' := []) (S := S) rfl (rc_113 S.2.2.1.1) (s_113 S.2.2.1.1 S) (fun r_3 S_4 => ?_)
          refine q_Sim.steps vc_160 3 (pc' := 40) (lv' := [(3, .inl r_3), (0, .inr (.inr (10, 0, 0))), (1, .inl x1), (2, .inl x2)]) (st' := [.inl 8, .inl r_3]) (V' := q_V S_4) rfl ?_
          refine q_Sim.br vc_160 (c := r_3 ≤ 8) (t := 50) (f := 43) (lv' := [(3, .inl r_3), (0, .inr (.inr (10, 0, 0))), (1, .inl x1), (2, .inl x2)]) (st' := []) (V' := q_V S_4) rfl ?_ ?_
          · refine q_Sim.steps vc_160 2 (pc' := 54) (lv' := [(3, .inl r_3), (0, .inr (.inr (10, 0, 0))), (1, .inl x1), (2, .inl x2)]) (st' := [.inr (.inr (9, S_4.2.2.1.1, 0))]) (V' := q_V S_4) rfl ?_
            refine q_Sim.call vc_160 (as := [.inr (.inr (9, S_4.2.2.1.1, 0))]) (pc' := 57) (lv' := [(3, .inl r_3), (0, .inr (.inr (10, 0, 0))), (1, .inl x1), (2, .inl x2)]) (st' := []) (S := S_4) rfl (rc_114 S_4.2.2.1.1) (s_114 S_4.2.2.1.1 S_4) (fun r_5 S_6 => ?_)
            refine q_Sim.br vc_160 (c := ¬ r_5 = 0) (t := 68) (f := 60) (lv' := [(3, .inl r_3), (0, .inr (.inr (10, 0, 0))), (1, .inl x1), (2, .inl x2)]) (st' := []) (V' := q_V S_6) rfl ?_ ?_
            · exact q_Sim.sub2 (lv' := [(0, .inr (.inr (10, 0, 0)))]) [0] rfl (by decide) ⟨rfl, trivial⟩ (sb_160_68  S_6)
            · refine q_Sim.steps vc_160 1 (pc' := 61) (lv' := [(3, .inl r_3), (0, .inr (.inr (10, 0, 0))), (1, .inl x1), (2, .inl x2)]) (st' := [.inl x2]) (V' := q_V S_6) rfl ?_
              refine q_Sim.br vc_160 (c := ¬ x2 = 0) (t := 74) (f := 64) (lv' := [(3, .inl r_3), (0, .inr (.inr (10, 0, 0))), (1, .inl x1), (2, .inl x2)]) (st' := []) (V' := q_V S_6) rfl ?_ ?_
              · exact q_Sim.sub2 (lv' := [(0, .inr (.inr (10, 0, 0))), (1, .inl x1), (2, .inl x2)]) [0, 1, 2] rfl (by decide) ⟨rfl, rfl, rfl, trivial⟩ (sb_160_74 x1 x2 S_6)
              · refine q_Sim.steps vc_160 1 (pc' := 65) (lv' := [(3, .inl r_3), (0, .inr (.inr (10, 0, 0))), (1, .inl x1), (2, .inl x2)]) (st' := [.inl r_3]) (V' := q_V S_6) rfl ?_
                refine q_Sim.br vc_160 (c := r_3 ≤ 0) (t := 74) (f := 68) (lv' := [(3, .inl r_3), (0, .inr (.inr (10, 0, 0))), (1, .inl x1), (2, .inl x2)]) (st' := []) (V' := q_V S_6) rfl ?_ ?_
                · exact q_Sim.sub2 (lv' := [(0, .inr (.inr (10, 0, 0))), (1, .inl x1), (2, .inl x2)]) [0, 1, 2] rfl (by decide) ⟨rfl, rfl, rfl, trivial⟩ (sb_160_74 x1 x2 S_6)
                · exact q_Sim.sub2 (lv' := [(0, .inr (.inr (10, 0, 0)))]) [0] rfl (by decide) ⟨rfl, trivial⟩ (sb_160_68  S_6)
          · refine q_Sim.steps vc_160 2 (pc' := 46) (lv' := [(3, .inl r_3), (0, .inr (.inr (10, 0, 0))), (1, .inl x1), (2, .inl x2)]) (st' := [.inl 8, .inr (.inr (10, 0, 0))]) (V' := q_V S_4) rfl ?_
            refine q_Sim.call vc_160 (as := [.inr (.inr (10, 0, 0)), .inl 8]) (pc' := 49) (lv' := [(3, .inl r_3), (0, .inr (.inr (10, 0, 0))), (1, .inl x1), (2, .inl x2)]) (st' := []) (S := S_4) rfl (rc_170 8) (s_170 8 S_4) (fun r_13 S_14 => ?_)
            exact q_Sim.ret vc_160 rfl
        · exact q_Sim.sub2 (lv' := [(0, .inr (.inr (10, 0, 0)))]) [0] rfl (by decide) ⟨rfl, trivial⟩ (sb_160_22  S)
theorem vc_161 : v_code 161 = k_161 := rfl
theorem rc_161 (x1 : Int32) : v_rcv 161 [.inr (.inr (10, 0, 0)), .inl x1] = true := rfl
def f_161 (x1 : Int32) (S : QS) : Option ((Int32) × QS) := q_bd (f_81 0 x1 S) (fun r_1 S_2 => if r_1 = 0 then (q_ck (v_in x1 8) (q_let (S_2.1 (35, 0, 0) x1.toNatClampNeg) (fun y_3 => q_bd (f_169 y_3 S_2) (fun r_4 S_5 => some (r_4, S_5))))) else (q_bd (f_170 r_1 S_2) (fun r_6 S_7 => some (r_6, S_7))))
theorem s_161 (x1 : Int32) (S : QS) : q_Sim 161 0 [(0, .inr (.inr (10, 0, 0))), (1, .inl x1)] [] (q_V S) q_I (f_161 x1 S) := by
  unfold f_161
  refine q_Sim.steps vc_161 4 (pc' := 8) (lv' := [(0, .inr (.inr (10, 0, 0))), (1, .inl x1)]) (st' := [.inl x1, .inr (.inr (7, 0, 0))]) (V' := q_V S) rfl ?_
  refine q_Sim.call vc_161 (as := [.inr (.inr (7, 0, 0)), .inl x1]) (pc' := 11) (lv' := [(0, .inr (.inr (10, 0, 0))), (1, .inl x1)]) (st' := []) (S := S) rfl (rc_81 0 x1) (s_81 0 x1 S) (fun r_1 S_2 => ?_)
  refine q_Sim.steps vc_161 2 (pc' := 13) (lv' := [(2, .inl r_1), (0, .inr (.inr (10, 0, 0))), (1, .inl x1)]) (st' := [.inl r_1]) (V' := q_V S_2) rfl ?_
  refine q_Sim.br vc_161 (c := r_1 = 0) (t := 22) (f := 16) (lv' := [(2, .inl r_1), (0, .inr (.inr (10, 0, 0))), (1, .inl x1)]) (st' := []) (V' := q_V S_2) rfl ?_ ?_
  · refine q_Sim.steps vc_161 6 (pc' := 34) (lv' := [(2, .inl r_1), (0, .inr (.inr (10, 0, 0))), (1, .inl x1)]) (st' := [.inl x1, .inr (.inr (35, 0, 0)), .inr (.inr (10, 0, 0))]) (V' := q_V S_2) rfl ?_
    refine q_Sim.ck vc_161 (c := v_in x1 8) (pc' := 35) (lv' := [(2, .inl r_1), (0, .inr (.inr (10, 0, 0))), (1, .inl x1)]) (st' := [.inl (S_2.1 (35, 0, 0) x1.toNatClampNeg), .inr (.inr (10, 0, 0))]) (V' := q_V S_2) rfl ?_
    refine q_Sim.letI (fun y_3 => ?_)
    refine q_Sim.call vc_161 (as := [.inr (.inr (10, 0, 0)), .inl y_3]) (pc' := 38) (lv' := [(2, .inl r_1), (0, .inr (.inr (10, 0, 0))), (1, .inl x1)]) (st' := []) (S := S_2) rfl (rc_169 y_3) (s_169 y_3 S_2) (fun r_4 S_5 => ?_)
    exact q_Sim.ret vc_161 rfl
  · refine q_Sim.steps vc_161 2 (pc' := 18) (lv' := [(2, .inl r_1), (0, .inr (.inr (10, 0, 0))), (1, .inl x1)]) (st' := [.inl r_1, .inr (.inr (10, 0, 0))]) (V' := q_V S_2) rfl ?_
    refine q_Sim.call vc_161 (as := [.inr (.inr (10, 0, 0)), .inl r_1]) (pc' := 21) (lv' := [(2, .inl r_1), (0, .inr (.inr (10, 0, 0))), (1, .inl x1)]) (st' := []) (S := S_2) rfl (rc_170 r_1) (s_170 r_1 S_2) (fun r_6 S_7 => ?_)
    exact q_Sim.ret vc_161 rfl
theorem vc_162 : v_code 162 = k_162 := rfl
theorem rc_162 (x1 : Int32) : v_rcv 162 [.inr (.inr (10, 0, 0)), .inl x1] = true := rfl
def b_162_39 : Nat → Nat → Nat → Int32 → QS → Option ((Int32) × QS)
  | 0, _, _, _, _ => none
  | n + 1, i3, j3, x4, S => if (S.1 (3, i3, j3) 1) ≤ x4 then (q_bd (f_169 (S.1 (3, i3, j3) 1) S) (fun r_7 S_8 => some (r_7, S_8))) else (q_ck (v_in x4 64) (q_let (S.1 (24, i3, j3) x4.toNatClampNeg) (fun y_9 => q_bd (f_182 y_9 S) (fun r_10 S_11 => q_ck (v_in x4 64) (q_let (q_set S_11 (35, 2, 0) x4.toNatClampNeg r_10) (fun S_12 => b_162_39 n i3 j3 (x4 + 1) S_12))))))
theorem sb_162_39 : ∀ (n : Nat) (i3 : Nat) (j3 : Nat) (x4 : Int32) (S : QS), q_Sim 162 39 [(0, .inr (.inr (10, 0, 0))), (3, .inr (.inr (3, i3, j3))), (4, .inl x4)] [] (q_V S) q_I (b_162_39 n i3 j3 x4 S)
  | 0, _, _, _, _ => q_Sim.none
  | n + 1, i3, j3, x4, S => by
    rw [b_162_39]
    refine q_Sim.steps vc_162 3 (pc' := 45) (lv' := [(0, .inr (.inr (10, 0, 0))), (3, .inr (.inr (3, i3, j3))), (4, .inl x4)]) (st' := [.inl (S.1 (3, i3, j3) 1), .inl x4]) (V' := q_V S) rfl ?_
    refine q_Sim.br vc_162 (c := (S.1 (3, i3, j3) 1) ≤ x4) (t := 74) (f := 48) (lv' := [(0, .inr (.inr (10, 0, 0))), (3, .inr (.inr (3, i3, j3))), (4, .inl x4)]) (st' := []) (V' := q_V S) rfl ?_ ?_
    · refine q_Sim.steps vc_162 3 (pc' := 79) (lv' := [(0, .inr (.inr (10, 0, 0))), (3, .inr (.inr (3, i3, j3))), (4, .inl x4)]) (st' := [.inl (S.1 (3, i3, j3) 1), .inr (.inr (10, 0, 0))]) (V' := q_V S) rfl ?_
      refine q_Sim.call vc_162 (as := [.inr (.inr (10, 0, 0)), .inl (S.1 (3, i3, j3) 1)]) (pc' := 82) (lv' := [(0, .inr (.inr (10, 0, 0))), (3, .inr (.inr (3, i3, j3))), (4, .inl x4)]) (st' := []) (S := S) rfl (rc_169 (S.1 (3, i3, j3) 1)) (s_169 (S.1 (3, i3, j3) 1) S) (fun r_7 S_8 => ?_)
      exact q_Sim.ret vc_162 rfl
    · refine q_Sim.steps vc_162 7 (pc' := 63) (lv' := [(0, .inr (.inr (10, 0, 0))), (3, .inr (.inr (3, i3, j3))), (4, .inl x4)]) (st' := [.inl x4, .inr (.inr (24, i3, j3)), .inl x4, .inr (.inr (35, 2, 0))]) (V' := q_V S) rfl ?_
      refine q_Sim.ck vc_162 (c := v_in x4 64) (pc' := 64) (lv' := [(0, .inr (.inr (10, 0, 0))), (3, .inr (.inr (3, i3, j3))), (4, .inl x4)]) (st' := [.inl (S.1 (24, i3, j3) x4.toNatClampNeg), .inl x4, .inr (.inr (35, 2, 0))]) (V' := q_V S) rfl ?_
      refine q_Sim.letI (fun y_9 => ?_)
      refine q_Sim.call vc_162 (as := [.inl y_9]) (pc' := 67) (lv' := [(0, .inr (.inr (10, 0, 0))), (3, .inr (.inr (3, i3, j3))), (4, .inl x4)]) (st' := [.inl x4, .inr (.inr (35, 2, 0))]) (S := S) rfl (rc_182 y_9) (s_182 y_9 S) (fun r_10 S_11 => ?_)
      refine q_Sim.ck vc_162 (c := v_in x4 64) (pc' := 68) (lv' := [(0, .inr (.inr (10, 0, 0))), (3, .inr (.inr (3, i3, j3))), (4, .inl x4)]) (st' := []) (V' := q_V (q_set S_11 (35, 2, 0) x4.toNatClampNeg r_10)) rfl ?_
      refine q_Sim.letS (fun S_12 => ?_)
      refine q_Sim.steps vc_162 2 (pc' := 39) (lv' := [(4, .inl (x4 + 1)), (0, .inr (.inr (10, 0, 0))), (3, .inr (.inr (3, i3, j3)))]) (st' := []) (V' := q_V S_12) rfl ?_
      exact q_Sim.sub2 (lv' := [(0, .inr (.inr (10, 0, 0))), (3, .inr (.inr (3, i3, j3))), (4, .inl (x4 + 1))]) [0, 3, 4] rfl (by decide) ⟨rfl, rfl, rfl, trivial⟩ (sb_162_39 n i3 j3 (x4 + 1) S_12)
def f_162 (x1 : Int32) (S : QS) : Option ((Int32) × QS) := q_bd (f_176 x1 S) (fun r_1 S_2 => if r_1 = 0 then (q_bd (f_100 S_2.2.2.1.1 x1 S_2) (fun r_3 S_4 => q_bd (f_80 2 (S_4.1 (3, r_3.1, r_3.2) 1) S_4) (fun r_5 S_6 => b_162_39 q_N r_3.1 r_3.2 0 S_6))) else (q_bd (f_170 r_1 S_2) (fun r_13 S_14 => some (r_13, S_14))))
theorem s_162 (x1 : Int32) (S : QS) : q_Sim 162 0 [(0, .inr (.inr (10, 0, 0))), (1, .inl x1)] [] (q_V S) q_I (f_162 x1 S) := by
  unfold f_162
  refine q_Sim.steps vc_162 2 (pc' := 2) (lv' := [(0, .inr (.inr (10, 0, 0))), (1, .inl x1)]) (st' := [.inl x1, .inr (.inr (10, 0, 0))]) (V' := q_V S) rfl ?_
  refine q_Sim.call vc_162 (as := [.inr (.inr (10, 0, 0)), .inl x1]) (pc' := 5) (lv' := [(0, .inr (.inr (10, 0, 0))), (1, .inl x1)]) (st' := []) (S := S) rfl (rc_176 x1) (s_176 x1 S) (fun r_1 S_2 => ?_)
  refine q_Sim.steps vc_162 2 (pc' := 7) (lv' := [(2, .inl r_1), (0, .inr (.inr (10, 0, 0))), (1, .inl x1)]) (st' := [.inl r_1]) (V' := q_V S_2) rfl ?_
  refine q_Sim.br vc_162 (c := r_1 = 0) (t := 16) (f := 10) (lv' := [(2, .inl r_1), (0, .inr (.inr (10, 0, 0))), (1, .inl x1)]) (st' := []) (V' := q_V S_2) rfl ?_ ?_
  · refine q_Sim.steps vc_162 3 (pc' := 21) (lv' := [(2, .inl r_1), (0, .inr (.inr (10, 0, 0))), (1, .inl x1)]) (st' := [.inl x1, .inr (.inr (9, S_2.2.2.1.1, 0))]) (V' := q_V S_2) rfl ?_
    refine q_Sim.call vc_162 (as := [.inr (.inr (9, S_2.2.2.1.1, 0)), .inl x1]) (pc' := 24) (lv' := [(2, .inl r_1), (0, .inr (.inr (10, 0, 0))), (1, .inl x1)]) (st' := []) (S := S_2) rfl (rc_100 S_2.2.2.1.1 x1) (s_100 S_2.2.2.1.1 x1 S_2) (fun r_3 S_4 => ?_)
    refine q_Sim.steps vc_162 5 (pc' := 33) (lv' := [(3, .inr (.inr (3, r_3.1, r_3.2))), (2, .inl r_1), (0, .inr (.inr (10, 0, 0))), (1, .inl x1)]) (st' := [.inl (S_4.1 (3, r_3.1, r_3.2) 1), .inr (.inr (7, 2, 0))]) (V' := q_V S_4) rfl ?_
    refine q_Sim.call vc_162 (as := [.inr (.inr (7, 2, 0)), .inl (S_4.1 (3, r_3.1, r_3.2) 1)]) (pc' := 36) (lv' := [(3, .inr (.inr (3, r_3.1, r_3.2))), (2, .inl r_1), (0, .inr (.inr (10, 0, 0))), (1, .inl x1)]) (st' := []) (S := S_4) rfl (rc_80 2 (S_4.1 (3, r_3.1, r_3.2) 1)) (s_80 2 (S_4.1 (3, r_3.1, r_3.2) 1) S_4) (fun r_5 S_6 => ?_)
    refine q_Sim.steps vc_162 2 (pc' := 39) (lv' := [(4, .inl 0), (3, .inr (.inr (3, r_3.1, r_3.2))), (2, .inl r_1), (0, .inr (.inr (10, 0, 0))), (1, .inl x1)]) (st' := []) (V' := q_V S_6) rfl ?_
    exact q_Sim.sub2 (lv' := [(0, .inr (.inr (10, 0, 0))), (3, .inr (.inr (3, r_3.1, r_3.2))), (4, .inl 0)]) [0, 3, 4] rfl (by decide) ⟨rfl, rfl, rfl, trivial⟩ (sb_162_39 q_N r_3.1 r_3.2 0 S_6)
  · refine q_Sim.steps vc_162 2 (pc' := 12) (lv' := [(2, .inl r_1), (0, .inr (.inr (10, 0, 0))), (1, .inl x1)]) (st' := [.inl r_1, .inr (.inr (10, 0, 0))]) (V' := q_V S_2) rfl ?_
    refine q_Sim.call vc_162 (as := [.inr (.inr (10, 0, 0)), .inl r_1]) (pc' := 15) (lv' := [(2, .inl r_1), (0, .inr (.inr (10, 0, 0))), (1, .inl x1)]) (st' := []) (S := S_2) rfl (rc_170 r_1) (s_170 r_1 S_2) (fun r_13 S_14 => ?_)
    exact q_Sim.ret vc_162 rfl
theorem vc_163 : v_code 163 = k_163 := rfl
theorem rc_163 (x1 : Int32) : v_rcv 163 [.inr (.inr (10, 0, 0)), .inl x1] = true := rfl
def f_163 (x1 : Int32) (S : QS) : Option ((Int32) × QS) := q_bd (f_81 2 x1 S) (fun r_1 S_2 => if r_1 = 0 then (q_ck (v_in x1 64) (q_let (S_2.1 (35, 2, 0) x1.toNatClampNeg) (fun y_3 => q_bd (f_169 y_3 S_2) (fun r_4 S_5 => some (r_4, S_5))))) else (q_bd (f_170 r_1 S_2) (fun r_6 S_7 => some (r_6, S_7))))
theorem s_163 (x1 : Int32) (S : QS) : q_Sim 163 0 [(0, .inr (.inr (10, 0, 0))), (1, .inl x1)] [] (q_V S) q_I (f_163 x1 S) := by
  unfold f_163
  refine q_Sim.steps vc_163 3 (pc' := 5) (lv' := [(0, .inr (.inr (10, 0, 0))), (1, .inl x1)]) (st' := [.inl x1, .inr (.inr (7, 2, 0))]) (V' := q_V S) rfl ?_
  refine q_Sim.call vc_163 (as := [.inr (.inr (7, 2, 0)), .inl x1]) (pc' := 8) (lv' := [(0, .inr (.inr (10, 0, 0))), (1, .inl x1)]) (st' := []) (S := S) rfl (rc_81 2 x1) (s_81 2 x1 S) (fun r_1 S_2 => ?_)
  refine q_Sim.steps vc_163 2 (pc' := 10) (lv' := [(2, .inl r_1), (0, .inr (.inr (10, 0, 0))), (1, .inl x1)]) (st' := [.inl r_1]) (V' := q_V S_2) rfl ?_
  refine q_Sim.br vc_163 (c := r_1 = 0) (t := 19) (f := 13) (lv' := [(2, .inl r_1), (0, .inr (.inr (10, 0, 0))), (1, .inl x1)]) (st' := []) (V' := q_V S_2) rfl ?_ ?_
  · refine q_Sim.steps vc_163 5 (pc' := 28) (lv' := [(2, .inl r_1), (0, .inr (.inr (10, 0, 0))), (1, .inl x1)]) (st' := [.inl x1, .inr (.inr (35, 2, 0)), .inr (.inr (10, 0, 0))]) (V' := q_V S_2) rfl ?_
    refine q_Sim.ck vc_163 (c := v_in x1 64) (pc' := 29) (lv' := [(2, .inl r_1), (0, .inr (.inr (10, 0, 0))), (1, .inl x1)]) (st' := [.inl (S_2.1 (35, 2, 0) x1.toNatClampNeg), .inr (.inr (10, 0, 0))]) (V' := q_V S_2) rfl ?_
    refine q_Sim.letI (fun y_3 => ?_)
    refine q_Sim.call vc_163 (as := [.inr (.inr (10, 0, 0)), .inl y_3]) (pc' := 32) (lv' := [(2, .inl r_1), (0, .inr (.inr (10, 0, 0))), (1, .inl x1)]) (st' := []) (S := S_2) rfl (rc_169 y_3) (s_169 y_3 S_2) (fun r_4 S_5 => ?_)
    exact q_Sim.ret vc_163 rfl
  · refine q_Sim.steps vc_163 2 (pc' := 15) (lv' := [(2, .inl r_1), (0, .inr (.inr (10, 0, 0))), (1, .inl x1)]) (st' := [.inl r_1, .inr (.inr (10, 0, 0))]) (V' := q_V S_2) rfl ?_
    refine q_Sim.call vc_163 (as := [.inr (.inr (10, 0, 0)), .inl r_1]) (pc' := 18) (lv' := [(2, .inl r_1), (0, .inr (.inr (10, 0, 0))), (1, .inl x1)]) (st' := []) (S := S_2) rfl (rc_170 r_1) (s_170 r_1 S_2) (fun r_6 S_7 => ?_)
    exact q_Sim.ret vc_163 rfl
theorem vc_164 : v_code 164 = k_164 := rfl
theorem rc_164 (x1 : Int32) (x2 : Int32) (x3 : Int32) : v_rcv 164 [.inr (.inr (10, 0, 0)), .inl x1, .inl x2, .inl x3] = true := rfl
def b_164_65  (S : QS) : Option ((Int32) × QS) := q_bd (f_170 2 S) (fun r_2 S_3 => some (r_2, S_3))
theorem sb_164_65  (S : QS) : q_Sim 164 65 [(0, .inr (.inr (10, 0, 0)))] [] (q_V S) q_I (b_164_65  S) := by
  unfold b_164_65
  refine q_Sim.steps vc_164 2 (pc' := 67) (lv' := [(0, .inr (.inr (10, 0, 0)))]) (st' := [.inl 2, .inr (.inr (10, 0, 0))]) (V' := q_V S) rfl ?_
  refine q_Sim.call vc_164 (as := [.inr (.inr (10, 0, 0)), .inl 2]) (pc' := 70) (lv' := [(0, .inr (.inr (10, 0, 0)))]) (st' := []) (S := S) rfl (rc_170 2) (s_170 2 S) (fun r_2 S_3 => ?_)
  exact q_Sim.ret vc_164 rfl
def f_164 (x1 : Int32) (x2 : Int32) (x3 : Int32) (S : QS) : Option ((Int32) × QS) := if ¬ (S.1 (7, 2, 0) 2) = 0 then (q_let (S.1 (7, 2, 0) 1) (fun y_1 => if x3 < 0 then (b_164_65  S) else (if x1 < 0 then (b_164_65  S) else (if y_1 < x1 then (b_164_65  S) else (if x2 < 0 then (b_164_65  S) else (if y_1 < x2 then (b_164_65  S) else (if (y_1 - x1) < x3 then (b_164_65  S) else (if x3 ≤ (y_1 - x2) then (q_ck (decide (¬ x1 < 0) && decide (¬ x2 < 0) && decide (¬ x3 < 0) && decide (x1.toNatClampNeg + x3.toNatClampNeg ≤ 64) && decide (x2.toNatClampNeg + x3.toNatClampNeg ≤ 64)) (q_let (q_row S (35, 2, 0) (va_cpy (S.1 (35, 2, 0)) (S.1 (35, 2, 0)) x1.toNatClampNeg x2.toNatClampNeg x3.toNatClampNeg)) (fun S_4 => q_bd (f_169 x3 S_4) (fun r_5 S_6 => some (r_5, S_6))))) else (b_164_65  S))))))))) else (q_bd (f_170 1 S) (fun r_7 S_8 => some (r_7, S_8)))
theorem s_164 (x1 : Int32) (x2 : Int32) (x3 : Int32) (S : QS) : q_Sim 164 0 [(0, .inr (.inr (10, 0, 0))), (1, .inl x1), (2, .inl x2), (3, .inl x3)] [] (q_V S) q_I (f_164 x1 x2 x3 S) := by
  unfold f_164
  refine q_Sim.steps vc_164 3 (pc' := 7) (lv' := [(0, .inr (.inr (10, 0, 0))), (1, .inl x1), (2, .inl x2), (3, .inl x3)]) (st' := [.inl (S.1 (7, 2, 0) 2)]) (V' := q_V S) rfl ?_
  refine q_Sim.br vc_164 (c := ¬ (S.1 (7, 2, 0) 2) = 0) (t := 16) (f := 10) (lv' := [(0, .inr (.inr (10, 0, 0))), (1, .inl x1), (2, .inl x2), (3, .inl x3)]) (st' := []) (V' := q_V S) rfl ?_ ?_
  · refine q_Sim.steps vc_164 3 (pc' := 23) (lv' := [(0, .inr (.inr (10, 0, 0))), (1, .inl x1), (2, .inl x2), (3, .inl x3)]) (st' := [.inl (S.1 (7, 2, 0) 1)]) (V' := q_V S) rfl ?_
    refine q_Sim.letI (fun y_1 => ?_)
    refine q_Sim.steps vc_164 2 (pc' := 26) (lv' := [(4, .inl y_1), (0, .inr (.inr (10, 0, 0))), (1, .inl x1), (2, .inl x2), (3, .inl x3)]) (st' := [.inl x3]) (V' := q_V S) rfl ?_
    refine q_Sim.br vc_164 (c := x3 < 0) (t := 65) (f := 29) (lv' := [(4, .inl y_1), (0, .inr (.inr (10, 0, 0))), (1, .inl x1), (2, .inl x2), (3, .inl x3)]) (st' := []) (V' := q_V S) rfl ?_ ?_
    · exact q_Sim.sub2 (lv' := [(0, .inr (.inr (10, 0, 0)))]) [0] rfl (by decide) ⟨rfl, trivial⟩ (sb_164_65  S)
    · refine q_Sim.steps vc_164 1 (pc' := 30) (lv' := [(4, .inl y_1), (0, .inr (.inr (10, 0, 0))), (1, .inl x1), (2, .inl x2), (3, .inl x3)]) (st' := [.inl x1]) (V' := q_V S) rfl ?_
      refine q_Sim.br vc_164 (c := x1 < 0) (t := 65) (f := 33) (lv' := [(4, .inl y_1), (0, .inr (.inr (10, 0, 0))), (1, .inl x1), (2, .inl x2), (3, .inl x3)]) (st' := []) (V' := q_V S) rfl ?_ ?_
      · exact q_Sim.sub2 (lv' := [(0, .inr (.inr (10, 0, 0)))]) [0] rfl (by decide) ⟨rfl, trivial⟩ (sb_164_65  S)
      · refine q_Sim.steps vc_164 2 (pc' := 36) (lv' := [(4, .inl y_1), (0, .inr (.inr (10, 0, 0))), (1, .inl x1), (2, .inl x2), (3, .inl x3)]) (st' := [.inl y_1, .inl x1]) (V' := q_V S) rfl ?_
        refine q_Sim.br vc_164 (c := y_1 < x1) (t := 65) (f := 39) (lv' := [(4, .inl y_1), (0, .inr (.inr (10, 0, 0))), (1, .inl x1), (2, .inl x2), (3, .inl x3)]) (st' := []) (V' := q_V S) rfl ?_ ?_
        · exact q_Sim.sub2 (lv' := [(0, .inr (.inr (10, 0, 0)))]) [0] rfl (by decide) ⟨rfl, trivial⟩ (sb_164_65  S)
        · refine q_Sim.steps vc_164 1 (pc' := 40) (lv' := [(4, .inl y_1), (0, .inr (.inr (10, 0, 0))), (1, .inl x1), (2, .inl x2), (3, .inl x3)]) (st' := [.inl x2]) (V' := q_V S) rfl ?_
          refine q_Sim.br vc_164 (c := x2 < 0) (t := 65) (f := 43) (lv' := [(4, .inl y_1), (0, .inr (.inr (10, 0, 0))), (1, .inl x1), (2, .inl x2), (3, .inl x3)]) (st' := []) (V' := q_V S) rfl ?_ ?_
          · exact q_Sim.sub2 (lv' := [(0, .inr (.inr (10, 0, 0)))]) [0] rfl (by decide) ⟨rfl, trivial⟩ (sb_164_65  S)
          · refine q_Sim.steps vc_164 2 (pc' := 46) (lv' := [(4, .inl y_1), (0, .inr (.inr (10, 0, 0))), (1, .inl x1), (2, .inl x2), (3, .inl x3)]) (st' := [.inl y_1, .inl x2]) (V' := q_V S) rfl ?_
            refine q_Sim.br vc_164 (c := y_1 < x2) (t := 65) (f := 49) (lv' := [(4, .inl y_1), (0, .inr (.inr (10, 0, 0))), (1, .inl x1), (2, .inl x2), (3, .inl x3)]) (st' := []) (V' := q_V S) rfl ?_ ?_
            · exact q_Sim.sub2 (lv' := [(0, .inr (.inr (10, 0, 0)))]) [0] rfl (by decide) ⟨rfl, trivial⟩ (sb_164_65  S)
            · refine q_Sim.steps vc_164 4 (pc' := 54) (lv' := [(4, .inl y_1), (0, .inr (.inr (10, 0, 0))), (1, .inl x1), (2, .inl x2), (3, .inl x3)]) (st' := [.inl (y_1 - x1), .inl x3]) (V' := q_V S) rfl ?_
              refine q_Sim.br vc_164 (c := (y_1 - x1) < x3) (t := 65) (f := 57) (lv' := [(4, .inl y_1), (0, .inr (.inr (10, 0, 0))), (1, .inl x1), (2, .inl x2), (3, .inl x3)]) (st' := []) (V' := q_V S) rfl ?_ ?_
              · exact q_Sim.sub2 (lv' := [(0, .inr (.inr (10, 0, 0)))]) [0] rfl (by decide) ⟨rfl, trivial⟩ (sb_164_65  S)
              · refine q_Sim.steps vc_164 4 (pc' := 62) (lv' := [(4, .inl y_1), (0, .inr (.inr (10, 0, 0))), (1, .inl x1), (2, .inl x2), (3, .inl x3)]) (st' := [.inl (y_1 - x2), .inl x3]) (V' := q_V S) rfl ?_
                refine q_Sim.br vc_164 (c := x3 ≤ (y_1 - x2)) (t := 71) (f := 65) (lv' := [(4, .inl y_1), (0, .inr (.inr (10, 0, 0))), (1, .inl x1), (2, .inl x2), (3, .inl x3)]) (st' := []) (V' := q_V S) rfl ?_ ?_
                · refine q_Sim.steps vc_164 9 (pc' := 88) (lv' := [(4, .inl y_1), (0, .inr (.inr (10, 0, 0))), (1, .inl x1), (2, .inl x2), (3, .inl x3)]) (st' := [.inl x3, .inl x2, .inr (.inr (35, 2, 0)), .inl x1, .inr (.inr (35, 2, 0))]) (V' := q_V S) rfl ?_
                  refine q_Sim.ck vc_164 (c := decide (¬ x1 < 0) && decide (¬ x2 < 0) && decide (¬ x3 < 0) && decide (x1.toNatClampNeg + x3.toNatClampNeg ≤ 64) && decide (x2.toNatClampNeg + x3.toNatClampNeg ≤ 64)) (pc' := 91) (lv' := [(4, .inl y_1), (0, .inr (.inr (10, 0, 0))), (1, .inl x1), (2, .inl x2), (3, .inl x3)]) (st' := []) (V' := q_V (q_row S (35, 2, 0) (va_cpy (S.1 (35, 2, 0)) (S.1 (35, 2, 0)) x1.toNatClampNeg x2.toNatClampNeg x3.toNatClampNeg))) rfl ?_
                  refine q_Sim.letS (fun S_4 => ?_)
                  refine q_Sim.steps vc_164 2 (pc' := 93) (lv' := [(4, .inl y_1), (0, .inr (.inr (10, 0, 0))), (1, .inl x1), (2, .inl x2), (3, .inl x3)]) (st' := [.inl x3, .inr (.inr (10, 0, 0))]) (V' := q_V S_4) rfl ?_
                  refine q_Sim.call vc_164 (as := [.inr (.inr (10, 0, 0)), .inl x3]) (pc' := 96) (lv' := [(4, .inl y_1), (0, .inr (.inr (10, 0, 0))), (1, .inl x1), (2, .inl x2), (3, .inl x3)]) (st' := []) (S := S_4) rfl (rc_169 x3) (s_169 x3 S_4) (fun r_5 S_6 => ?_)
                  exact q_Sim.ret vc_164 rfl
                · exact q_Sim.sub2 (lv' := [(0, .inr (.inr (10, 0, 0)))]) [0] rfl (by decide) ⟨rfl, trivial⟩ (sb_164_65  S)
  · refine q_Sim.steps vc_164 2 (pc' := 12) (lv' := [(0, .inr (.inr (10, 0, 0))), (1, .inl x1), (2, .inl x2), (3, .inl x3)]) (st' := [.inl 1, .inr (.inr (10, 0, 0))]) (V' := q_V S) rfl ?_
    refine q_Sim.call vc_164 (as := [.inr (.inr (10, 0, 0)), .inl 1]) (pc' := 15) (lv' := [(0, .inr (.inr (10, 0, 0))), (1, .inl x1), (2, .inl x2), (3, .inl x3)]) (st' := []) (S := S) rfl (rc_170 1) (s_170 1 S) (fun r_7 S_8 => ?_)
    exact q_Sim.ret vc_164 rfl
theorem vc_165 : v_code 165 = k_165 := rfl
theorem rc_165 (x1 : Int32) : v_rcv 165 [.inr (.inr (10, 0, 0)), .inl x1] = true := rfl
def b_165_10  (S : QS) : Option ((Int32) × QS) := some (0, S)
theorem sb_165_10  (S : QS) : q_Sim 165 10 [] [] (q_V S) q_I (b_165_10  S) := by
  unfold b_165_10
  refine q_Sim.steps vc_165 2 (pc' := 23) (lv' := []) (st' := [.inl 0]) (V' := q_V S) rfl ?_
  exact q_Sim.ret vc_165 rfl
def f_165 (x1 : Int32) (S : QS) : Option ((Int32) × QS) := if x1 < 0 then (b_165_10  S) else (if x1 < 17 then (q_ck (v_in x1 17) (q_let (S.1 (20, 0, 0) x1.toNatClampNeg) (fun y_1 => some (y_1, S)))) else (b_165_10  S))
theorem s_165 (x1 : Int32) (S : QS) : q_Sim 165 0 [(0, .inr (.inr (10, 0, 0))), (1, .inl x1)] [] (q_V S) q_I (f_165 x1 S) := by
  unfold f_165
  refine q_Sim.steps vc_165 1 (pc' := 1) (lv' := [(0, .inr (.inr (10, 0, 0))), (1, .inl x1)]) (st' := [.inl x1]) (V' := q_V S) rfl ?_
  refine q_Sim.br vc_165 (c := x1 < 0) (t := 10) (f := 4) (lv' := [(0, .inr (.inr (10, 0, 0))), (1, .inl x1)]) (st' := []) (V' := q_V S) rfl ?_ ?_
  · exact q_Sim.sub2 (lv' := []) [] rfl (by decide) trivial (sb_165_10  S)
  · refine q_Sim.steps vc_165 2 (pc' := 7) (lv' := [(0, .inr (.inr (10, 0, 0))), (1, .inl x1)]) (st' := [.inl 17, .inl x1]) (V' := q_V S) rfl ?_
    refine q_Sim.br vc_165 (c := x1 < 17) (t := 14) (f := 10) (lv' := [(0, .inr (.inr (10, 0, 0))), (1, .inl x1)]) (st' := []) (V' := q_V S) rfl ?_ ?_
    · refine q_Sim.steps vc_165 4 (pc' := 22) (lv' := [(0, .inr (.inr (10, 0, 0))), (1, .inl x1)]) (st' := [.inl x1, .inr (.inr (20, 0, 0))]) (V' := q_V S) rfl ?_
      refine q_Sim.ck vc_165 (c := v_in x1 17) (pc' := 23) (lv' := [(0, .inr (.inr (10, 0, 0))), (1, .inl x1)]) (st' := [.inl (S.1 (20, 0, 0) x1.toNatClampNeg)]) (V' := q_V S) rfl ?_
      refine q_Sim.letI (fun y_1 => ?_)
      exact q_Sim.ret vc_165 rfl
    · exact q_Sim.sub2 (lv' := []) [] rfl (by decide) trivial (sb_165_10  S)
theorem vc_166 : v_code 166 = k_166 := rfl
theorem rc_166  : v_rcv 166 [.inr (.inr (10, 0, 0))] = true := rfl
def f_166  (S : QS) : Option ((Int32) × QS) := if ¬ (S.1 (10, 0, 0) 2) = 0 then (q_let (q_nw S S.2.2.1.2.1) (fun S_1 => q_let (q_bf S_1 S.2.2.1.1) (fun S_2 => q_let (q_set S_2 (10, 0, 0) 2 0) (fun S_3 => q_bd (f_169 1 S_3) (fun r_4 S_5 => some (r_4, S_5)))))) else (q_bd (f_169 0 S) (fun r_6 S_7 => some (r_6, S_7)))
theorem s_166  (S : QS) : q_Sim 166 0 [(0, .inr (.inr (10, 0, 0)))] [] (q_V S) q_I (f_166  S) := by
  unfold f_166
  refine q_Sim.steps vc_166 2 (pc' := 4) (lv' := [(0, .inr (.inr (10, 0, 0)))]) (st' := [.inl (S.1 (10, 0, 0) 2)]) (V' := q_V S) rfl ?_
  refine q_Sim.br vc_166 (c := ¬ (S.1 (10, 0, 0) 2) = 0) (t := 13) (f := 7) (lv' := [(0, .inr (.inr (10, 0, 0)))]) (st' := []) (V' := q_V S) rfl ?_ ?_
  · refine q_Sim.steps vc_166 6 (pc' := 23) (lv' := [(1, .inr (.inr (9, S.2.2.1.1, 0))), (0, .inr (.inr (10, 0, 0)))]) (st' := [.inr (.inr (9, S.2.2.1.2.1, 0)), .inr (.inr (10, 0, 0))]) (V' := q_V S) rfl ?_
    refine q_Sim.steps vc_166 1 (pc' := 26) (lv' := [(1, .inr (.inr (9, S.2.2.1.1, 0))), (0, .inr (.inr (10, 0, 0)))]) (st' := []) (V' := v_setR (q_V S) (10, 0, 0) 0 (9, S.2.2.1.2.1, 0)) rfl ?_
    rw [q_V_nw]
    refine q_Sim.letS (fun S_1 => ?_)
    refine q_Sim.steps vc_166 2 (pc' := 28) (lv' := [(1, .inr (.inr (9, S.2.2.1.1, 0))), (0, .inr (.inr (10, 0, 0)))]) (st' := [.inr (.inr (9, S.2.2.1.1, 0)), .inr (.inr (10, 0, 0))]) (V' := q_V S_1) rfl ?_
    refine q_Sim.steps vc_166 1 (pc' := 31) (lv' := [(1, .inr (.inr (9, S.2.2.1.1, 0))), (0, .inr (.inr (10, 0, 0)))]) (st' := []) (V' := v_setR (q_V S_1) (10, 0, 0) 1 (9, S.2.2.1.1, 0)) rfl ?_
    rw [q_V_bf]
    refine q_Sim.letS (fun S_2 => ?_)
    refine q_Sim.steps vc_166 2 (pc' := 33) (lv' := [(1, .inr (.inr (9, S.2.2.1.1, 0))), (0, .inr (.inr (10, 0, 0)))]) (st' := [.inl 0, .inr (.inr (10, 0, 0))]) (V' := q_V S_2) rfl ?_
    refine q_Sim.steps vc_166 1 (pc' := 36) (lv' := [(1, .inr (.inr (9, S.2.2.1.1, 0))), (0, .inr (.inr (10, 0, 0)))]) (st' := []) (V' := q_V (q_set S_2 (10, 0, 0) 2 0)) rfl ?_
    refine q_Sim.letS (fun S_3 => ?_)
    refine q_Sim.steps vc_166 2 (pc' := 38) (lv' := [(1, .inr (.inr (9, S.2.2.1.1, 0))), (0, .inr (.inr (10, 0, 0)))]) (st' := [.inl 1, .inr (.inr (10, 0, 0))]) (V' := q_V S_3) rfl ?_
    refine q_Sim.call vc_166 (as := [.inr (.inr (10, 0, 0)), .inl 1]) (pc' := 41) (lv' := [(1, .inr (.inr (9, S.2.2.1.1, 0))), (0, .inr (.inr (10, 0, 0)))]) (st' := []) (S := S_3) rfl (rc_169 1) (s_169 1 S_3) (fun r_4 S_5 => ?_)
    exact q_Sim.ret vc_166 rfl
  · refine q_Sim.steps vc_166 2 (pc' := 9) (lv' := [(0, .inr (.inr (10, 0, 0)))]) (st' := [.inl 0, .inr (.inr (10, 0, 0))]) (V' := q_V S) rfl ?_
    refine q_Sim.call vc_166 (as := [.inr (.inr (10, 0, 0)), .inl 0]) (pc' := 12) (lv' := [(0, .inr (.inr (10, 0, 0)))]) (st' := []) (S := S) rfl (rc_169 0) (s_169 0 S) (fun r_6 S_7 => ?_)
    exact q_Sim.ret vc_166 rfl
theorem vc_167 : v_code 167 = k_167 := rfl
theorem rc_167  : v_rcv 167 [.inr (.inr (10, 0, 0))] = true := rfl
def b_167_12 : Nat → Int32 → Int32 → QS → Option ((Int32) × QS)
  | 0, _, _, _ => none
  | n + 1, x1, x2, S => if 17 ≤ x2 then (some (x1, S)) else (q_ck (v_in x2 17) (q_let (S.1 (20, 0, 0) x2.toNatClampNeg) (fun y_3 => q_let ((x1 * 31) + y_3) (fun y_4 => b_167_12 n y_4 (x2 + 1) S))))
theorem sb_167_12 : ∀ (n : Nat) (x1 : Int32) (x2 : Int32) (S : QS), q_Sim 167 12 [(0, .inr (.inr (10, 0, 0))), (1, .inl x1), (2, .inl x2)] [] (q_V S) q_I (b_167_12 n x1 x2 S)
  | 0, _, _, _ => q_Sim.none
  | n + 1, x1, x2, S => by
    rw [b_167_12]
    refine q_Sim.steps vc_167 2 (pc' := 15) (lv' := [(0, .inr (.inr (10, 0, 0))), (1, .inl x1), (2, .inl x2)]) (st' := [.inl 17, .inl x2]) (V' := q_V S) rfl ?_
    refine q_Sim.br vc_167 (c := 17 ≤ x2) (t := 39) (f := 18) (lv' := [(0, .inr (.inr (10, 0, 0))), (1, .inl x1), (2, .inl x2)]) (st' := []) (V' := q_V S) rfl ?_ ?_
    · refine q_Sim.steps vc_167 1 (pc' := 40) (lv' := [(0, .inr (.inr (10, 0, 0))), (1, .inl x1), (2, .inl x2)]) (st' := [.inl x1]) (V' := q_V S) rfl ?_
      exact q_Sim.ret vc_167 rfl
    · refine q_Sim.steps vc_167 7 (pc' := 30) (lv' := [(0, .inr (.inr (10, 0, 0))), (1, .inl x1), (2, .inl x2)]) (st' := [.inl x2, .inr (.inr (20, 0, 0)), .inl (x1 * 31)]) (V' := q_V S) rfl ?_
      refine q_Sim.ck vc_167 (c := v_in x2 17) (pc' := 31) (lv' := [(0, .inr (.inr (10, 0, 0))), (1, .inl x1), (2, .inl x2)]) (st' := [.inl (S.1 (20, 0, 0) x2.toNatClampNeg), .inl (x1 * 31)]) (V' := q_V S) rfl ?_
      refine q_Sim.letI (fun y_3 => ?_)
      refine q_Sim.steps vc_167 1 (pc' := 32) (lv' := [(0, .inr (.inr (10, 0, 0))), (1, .inl x1), (2, .inl x2)]) (st' := [.inl ((x1 * 31) + y_3)]) (V' := q_V S) rfl ?_
      refine q_Sim.letI (fun y_4 => ?_)
      refine q_Sim.steps vc_167 3 (pc' := 12) (lv' := [(2, .inl (x2 + 1)), (1, .inl y_4), (0, .inr (.inr (10, 0, 0)))]) (st' := []) (V' := q_V S) rfl ?_
      exact q_Sim.sub2 (lv' := [(0, .inr (.inr (10, 0, 0))), (1, .inl y_4), (2, .inl (x2 + 1))]) [0, 1, 2] rfl (by decide) ⟨rfl, rfl, rfl, trivial⟩ (sb_167_12 n y_4 (x2 + 1) S)
def f_167  (S : QS) : Option ((Int32) × QS) := q_bd (f_120 S.2.2.1.1 17 S) (fun r_1 S_2 => b_167_12 q_N r_1 0 S_2)
theorem s_167  (S : QS) : q_Sim 167 0 [(0, .inr (.inr (10, 0, 0)))] [] (q_V S) q_I (f_167  S) := by
  unfold f_167
  refine q_Sim.steps vc_167 3 (pc' := 6) (lv' := [(0, .inr (.inr (10, 0, 0)))]) (st' := [.inl 17, .inr (.inr (9, S.2.2.1.1, 0))]) (V' := q_V S) rfl ?_
  refine q_Sim.call vc_167 (as := [.inr (.inr (9, S.2.2.1.1, 0)), .inl 17]) (pc' := 9) (lv' := [(0, .inr (.inr (10, 0, 0)))]) (st' := []) (S := S) rfl (rc_120 S.2.2.1.1 17) (s_120 S.2.2.1.1 17 S) (fun r_1 S_2 => ?_)
  refine q_Sim.steps vc_167 3 (pc' := 12) (lv' := [(2, .inl 0), (1, .inl r_1), (0, .inr (.inr (10, 0, 0)))]) (st' := []) (V' := q_V S_2) rfl ?_
  exact q_Sim.sub2 (lv' := [(0, .inr (.inr (10, 0, 0))), (1, .inl r_1), (2, .inl 0)]) [0, 1, 2] rfl (by decide) ⟨rfl, rfl, rfl, trivial⟩ (sb_167_12 q_N r_1 0 S_2)
theorem vc_168 : v_code 168 = k_168 := rfl
theorem rc_168  : v_rcv 168 [.inr (.inr (10, 0, 0))] = true := rfl
def f_168  (S : QS) : Option ((Int32) × QS) := some (S.1 (10, 0, 0) 3, S)
theorem s_168  (S : QS) : q_Sim 168 0 [(0, .inr (.inr (10, 0, 0)))] [] (q_V S) q_I (f_168  S) := by
  unfold f_168
  refine q_Sim.steps vc_168 2 (pc' := 4) (lv' := [(0, .inr (.inr (10, 0, 0)))]) (st' := [.inl (S.1 (10, 0, 0) 3)]) (V' := q_V S) rfl ?_
  exact q_Sim.ret vc_168 rfl
theorem vc_186 : v_code 186 = k_186 := rfl
theorem rc_186 (x1 : Int32) : v_rcv 186 [.inr (.inr (11, 0, 0)), .inl x1] = true := rfl
def f_186 (x1 : Int32) (S : QS) : Option ((Int32) × QS) := q_let (q_set S (11, 0, 0) 5 x1) (fun S_1 => some ((-1), S_1))
theorem s_186 (x1 : Int32) (S : QS) : q_Sim 186 0 [(0, .inr (.inr (11, 0, 0))), (1, .inl x1)] [] (q_V S) q_I (f_186 x1 S) := by
  unfold f_186
  refine q_Sim.steps vc_186 2 (pc' := 2) (lv' := [(0, .inr (.inr (11, 0, 0))), (1, .inl x1)]) (st' := [.inl x1, .inr (.inr (11, 0, 0))]) (V' := q_V S) rfl ?_
  refine q_Sim.steps vc_186 1 (pc' := 5) (lv' := [(0, .inr (.inr (11, 0, 0))), (1, .inl x1)]) (st' := []) (V' := q_V (q_set S (11, 0, 0) 5 x1)) rfl ?_
  refine q_Sim.letS (fun S_1 => ?_)
  refine q_Sim.steps vc_186 1 (pc' := 6) (lv' := [(0, .inr (.inr (11, 0, 0))), (1, .inl x1)]) (st' := [.inl (-1)]) (V' := q_V S_1) rfl ?_
  exact q_Sim.ret vc_186 rfl
theorem vc_187 : v_code 187 = k_187 := rfl
theorem rc_187 (x1 : Int32) : v_rcv 187 [.inr (.inr (11, 0, 0)), .inl x1] = true := rfl
def f_187 (x1 : Int32) (S : QS) : Option ((Int32) × QS) := q_let (q_set S (11, 0, 0) 5 0) (fun S_1 => some (x1, S_1))
theorem s_187 (x1 : Int32) (S : QS) : q_Sim 187 0 [(0, .inr (.inr (11, 0, 0))), (1, .inl x1)] [] (q_V S) q_I (f_187 x1 S) := by
  unfold f_187
  refine q_Sim.steps vc_187 2 (pc' := 2) (lv' := [(0, .inr (.inr (11, 0, 0))), (1, .inl x1)]) (st' := [.inl 0, .inr (.inr (11, 0, 0))]) (V' := q_V S) rfl ?_
  refine q_Sim.steps vc_187 1 (pc' := 5) (lv' := [(0, .inr (.inr (11, 0, 0))), (1, .inl x1)]) (st' := []) (V' := q_V (q_set S (11, 0, 0) 5 0)) rfl ?_
  refine q_Sim.letS (fun S_1 => ?_)
  refine q_Sim.steps vc_187 1 (pc' := 6) (lv' := [(0, .inr (.inr (11, 0, 0))), (1, .inl x1)]) (st' := [.inl x1]) (V' := q_V S_1) rfl ?_
  exact q_Sim.ret vc_187 rfl
theorem vc_188 : v_code 188 = k_188 := rfl
theorem rc_188  : v_rcv 188 [.inr (.inr (11, 0, 0))] = true := rfl
def b_188_2 : Nat → Int32 → QS → Option ((Unit) × QS)
  | 0, _, _ => none
  | n + 1, x1, S => if 19520 ≤ x1 then (q_let (q_set S (11, 0, 0) 2 1) (fun S_1 => some ((), S_1))) else (q_ck (v_in x1 19520) (q_let (S.1 (40, 0, 0) x1.toNatClampNeg) (fun y_2 => q_ck (v_in x1 19520) (q_let (q_set S (41, 0, 0) x1.toNatClampNeg y_2) (fun S_3 => b_188_2 n (x1 + 1) S_3)))))
theorem sb_188_2 : ∀ (n : Nat) (x1 : Int32) (S : QS), q_Sim 188 2 [(0, .inr (.inr (11, 0, 0))), (1, .inl x1)] [] (q_V S) q_U (b_188_2 n x1 S)
  | 0, _, _ => q_Sim.none
  | n + 1, x1, S => by
    rw [b_188_2]
    refine q_Sim.steps vc_188 2 (pc' := 6) (lv' := [(0, .inr (.inr (11, 0, 0))), (1, .inl x1)]) (st' := [.inl 19520, .inl x1]) (V' := q_V S) rfl ?_
    refine q_Sim.br vc_188 (c := 19520 ≤ x1) (t := 27) (f := 9) (lv' := [(0, .inr (.inr (11, 0, 0))), (1, .inl x1)]) (st' := []) (V' := q_V S) rfl ?_ ?_
    · refine q_Sim.steps vc_188 2 (pc' := 29) (lv' := [(0, .inr (.inr (11, 0, 0))), (1, .inl x1)]) (st' := [.inl 1, .inr (.inr (11, 0, 0))]) (V' := q_V S) rfl ?_
      refine q_Sim.steps vc_188 1 (pc' := 32) (lv' := [(0, .inr (.inr (11, 0, 0))), (1, .inl x1)]) (st' := []) (V' := q_V (q_set S (11, 0, 0) 2 1)) rfl ?_
      refine q_Sim.letS (fun S_1 => ?_)
      exact q_Sim.ret vc_188 rfl
    · refine q_Sim.steps vc_188 6 (pc' := 19) (lv' := [(0, .inr (.inr (11, 0, 0))), (1, .inl x1)]) (st' := [.inl x1, .inr (.inr (40, 0, 0)), .inl x1, .inr (.inr (41, 0, 0))]) (V' := q_V S) rfl ?_
      refine q_Sim.ck vc_188 (c := v_in x1 19520) (pc' := 20) (lv' := [(0, .inr (.inr (11, 0, 0))), (1, .inl x1)]) (st' := [.inl (S.1 (40, 0, 0) x1.toNatClampNeg), .inl x1, .inr (.inr (41, 0, 0))]) (V' := q_V S) rfl ?_
      refine q_Sim.letI (fun y_2 => ?_)
      refine q_Sim.ck vc_188 (c := v_in x1 19520) (pc' := 21) (lv' := [(0, .inr (.inr (11, 0, 0))), (1, .inl x1)]) (st' := []) (V' := q_V (q_set S (41, 0, 0) x1.toNatClampNeg y_2)) rfl ?_
      refine q_Sim.letS (fun S_3 => ?_)
      refine q_Sim.steps vc_188 2 (pc' := 2) (lv' := [(1, .inl (x1 + 1)), (0, .inr (.inr (11, 0, 0)))]) (st' := []) (V' := q_V S_3) rfl ?_
      exact q_Sim.sub2 (lv' := [(0, .inr (.inr (11, 0, 0))), (1, .inl (x1 + 1))]) [0, 1] rfl (by decide) ⟨rfl, rfl, trivial⟩ (sb_188_2 n (x1 + 1) S_3)
def f_188  (S : QS) : Option ((Unit) × QS) := b_188_2 q_N 0 S
theorem s_188  (S : QS) : q_Sim 188 0 [(0, .inr (.inr (11, 0, 0)))] [] (q_V S) q_U (f_188  S) := by
  unfold f_188
  refine q_Sim.steps vc_188 2 (pc' := 2) (lv' := [(1, .inl 0), (0, .inr (.inr (11, 0, 0)))]) (st' := []) (V' := q_V S) rfl ?_
  exact q_Sim.sub2 (lv' := [(0, .inr (.inr (11, 0, 0))), (1, .inl 0)]) [0, 1] rfl (by decide) ⟨rfl, rfl, trivial⟩ (sb_188_2 q_N 0 S)
theorem vc_189 : v_code 189 = k_189 := rfl
theorem rc_189 (x0 : Int32) (x1 : Int32) (x2 : Int32) : v_rcv 189 [.inl x0, .inl x1, .inl x2] = true := rfl
def f_189 (x0 : Int32) (x1 : Int32) (x2 : Int32) (S : QS) : Option ((Int32) × QS) := if x0 < x1 then (some (0, S)) else (if x2 < x0 then (some (0, S)) else (some (1, S)))
theorem s_189 (x0 : Int32) (x1 : Int32) (x2 : Int32) (S : QS) : q_Sim 189 0 [(0, .inl x0), (1, .inl x1), (2, .inl x2)] [] (q_V S) q_I (f_189 x0 x1 x2 S) := by
  unfold f_189
  refine q_Sim.steps vc_189 2 (pc' := 2) (lv' := [(0, .inl x0), (1, .inl x1), (2, .inl x2)]) (st' := [.inl x1, .inl x0]) (V' := q_V S) rfl ?_
  refine q_Sim.br vc_189 (c := x0 < x1) (t := 14) (f := 5) (lv' := [(0, .inl x0), (1, .inl x1), (2, .inl x2)]) (st' := []) (V' := q_V S) rfl ?_ ?_
  · refine q_Sim.steps vc_189 1 (pc' := 15) (lv' := [(0, .inl x0), (1, .inl x1), (2, .inl x2)]) (st' := [.inl 0]) (V' := q_V S) rfl ?_
    exact q_Sim.ret vc_189 rfl
  · refine q_Sim.steps vc_189 2 (pc' := 7) (lv' := [(0, .inl x0), (1, .inl x1), (2, .inl x2)]) (st' := [.inl x2, .inl x0]) (V' := q_V S) rfl ?_
    refine q_Sim.br vc_189 (c := x2 < x0) (t := 14) (f := 10) (lv' := [(0, .inl x0), (1, .inl x1), (2, .inl x2)]) (st' := []) (V' := q_V S) rfl ?_ ?_
    · refine q_Sim.steps vc_189 1 (pc' := 15) (lv' := [(0, .inl x0), (1, .inl x1), (2, .inl x2)]) (st' := [.inl 0]) (V' := q_V S) rfl ?_
      exact q_Sim.ret vc_189 rfl
    · refine q_Sim.steps vc_189 2 (pc' := 15) (lv' := [(0, .inl x0), (1, .inl x1), (2, .inl x2)]) (st' := [.inl 1]) (V' := q_V S) rfl ?_
      exact q_Sim.ret vc_189 rfl
theorem vc_190 : v_code 190 = k_190 := rfl
theorem rc_190 (x1 : Int32) (x2 : Int32) : v_rcv 190 [.inr (.inr (11, 0, 0)), .inl x1, .inl x2] = true := rfl
def f_190 (x1 : Int32) (x2 : Int32) (S : QS) : Option ((Int32) × QS) := q_ck (v_in ((16880 + (11 * x1)) + x2) 19520) (q_let (S.1 (40, 0, 0) ((16880 + (11 * x1)) + x2).toNatClampNeg) (fun y_1 => some (y_1, S)))
theorem s_190 (x1 : Int32) (x2 : Int32) (S : QS) : q_Sim 190 0 [(0, .inr (.inr (11, 0, 0))), (1, .inl x1), (2, .inl x2)] [] (q_V S) q_I (f_190 x1 x2 S) := by
  unfold f_190
  refine q_Sim.steps vc_190 9 (pc' := 14) (lv' := [(0, .inr (.inr (11, 0, 0))), (1, .inl x1), (2, .inl x2)]) (st' := [.inl ((16880 + (11 * x1)) + x2), .inr (.inr (40, 0, 0))]) (V' := q_V S) rfl ?_
  refine q_Sim.ck vc_190 (c := v_in ((16880 + (11 * x1)) + x2) 19520) (pc' := 15) (lv' := [(0, .inr (.inr (11, 0, 0))), (1, .inl x1), (2, .inl x2)]) (st' := [.inl (S.1 (40, 0, 0) ((16880 + (11 * x1)) + x2).toNatClampNeg)]) (V' := q_V S) rfl ?_
  refine q_Sim.letI (fun y_1 => ?_)
  exact q_Sim.ret vc_190 rfl
theorem vc_191 : v_code 191 = k_191 := rfl
theorem rc_191 (x1 : Int32) (x2 : Int32) (x3 : Int32) : v_rcv 191 [.inr (.inr (11, 0, 0)), .inl x1, .inl x2, .inl x3] = true := rfl
def f_191 (x1 : Int32) (x2 : Int32) (x3 : Int32) (S : QS) : Option ((Unit) × QS) := q_ck (v_in ((16880 + (11 * x1)) + x2) 19520) (q_let (q_set S (40, 0, 0) ((16880 + (11 * x1)) + x2).toNatClampNeg x3) (fun S_1 => some ((), S_1)))
theorem s_191 (x1 : Int32) (x2 : Int32) (x3 : Int32) (S : QS) : q_Sim 191 0 [(0, .inr (.inr (11, 0, 0))), (1, .inl x1), (2, .inl x2), (3, .inl x3)] [] (q_V S) q_U (f_191 x1 x2 x3 S) := by
  unfold f_191
  refine q_Sim.steps vc_191 10 (pc' := 15) (lv' := [(0, .inr (.inr (11, 0, 0))), (1, .inl x1), (2, .inl x2), (3, .inl x3)]) (st' := [.inl x3, .inl ((16880 + (11 * x1)) + x2), .inr (.inr (40, 0, 0))]) (V' := q_V S) rfl ?_
  refine q_Sim.ck vc_191 (c := v_in ((16880 + (11 * x1)) + x2) 19520) (pc' := 16) (lv' := [(0, .inr (.inr (11, 0, 0))), (1, .inl x1), (2, .inl x2), (3, .inl x3)]) (st' := []) (V' := q_V (q_set S (40, 0, 0) ((16880 + (11 * x1)) + x2).toNatClampNeg x3)) rfl ?_
  refine q_Sim.letS (fun S_1 => ?_)
  exact q_Sim.ret vc_191 rfl
theorem vc_192 : v_code 192 = k_192 := rfl
theorem rc_192 (x1 : Int32) (x2 : Int32) : v_rcv 192 [.inr (.inr (11, 0, 0)), .inl x1, .inl x2] = true := rfl
def f_192 (x1 : Int32) (x2 : Int32) (S : QS) : Option ((Int32) × QS) := q_ck (v_in ((17320 + (8 * x1)) + x2) 19520) (q_let (S.1 (40, 0, 0) ((17320 + (8 * x1)) + x2).toNatClampNeg) (fun y_1 => some (y_1, S)))
theorem s_192 (x1 : Int32) (x2 : Int32) (S : QS) : q_Sim 192 0 [(0, .inr (.inr (11, 0, 0))), (1, .inl x1), (2, .inl x2)] [] (q_V S) q_I (f_192 x1 x2 S) := by
  unfold f_192
  refine q_Sim.steps vc_192 9 (pc' := 14) (lv' := [(0, .inr (.inr (11, 0, 0))), (1, .inl x1), (2, .inl x2)]) (st' := [.inl ((17320 + (8 * x1)) + x2), .inr (.inr (40, 0, 0))]) (V' := q_V S) rfl ?_
  refine q_Sim.ck vc_192 (c := v_in ((17320 + (8 * x1)) + x2) 19520) (pc' := 15) (lv' := [(0, .inr (.inr (11, 0, 0))), (1, .inl x1), (2, .inl x2)]) (st' := [.inl (S.1 (40, 0, 0) ((17320 + (8 * x1)) + x2).toNatClampNeg)]) (V' := q_V S) rfl ?_
  refine q_Sim.letI (fun y_1 => ?_)
  exact q_Sim.ret vc_192 rfl
theorem vc_193 : v_code 193 = k_193 := rfl
theorem rc_193 (x1 : Int32) (x2 : Int32) (x3 : Int32) : v_rcv 193 [.inr (.inr (11, 0, 0)), .inl x1, .inl x2, .inl x3] = true := rfl
def f_193 (x1 : Int32) (x2 : Int32) (x3 : Int32) (S : QS) : Option ((Unit) × QS) := q_ck (v_in ((17320 + (8 * x1)) + x2) 19520) (q_let (q_set S (40, 0, 0) ((17320 + (8 * x1)) + x2).toNatClampNeg x3) (fun S_1 => some ((), S_1)))
theorem s_193 (x1 : Int32) (x2 : Int32) (x3 : Int32) (S : QS) : q_Sim 193 0 [(0, .inr (.inr (11, 0, 0))), (1, .inl x1), (2, .inl x2), (3, .inl x3)] [] (q_V S) q_U (f_193 x1 x2 x3 S) := by
  unfold f_193
  refine q_Sim.steps vc_193 10 (pc' := 15) (lv' := [(0, .inr (.inr (11, 0, 0))), (1, .inl x1), (2, .inl x2), (3, .inl x3)]) (st' := [.inl x3, .inl ((17320 + (8 * x1)) + x2), .inr (.inr (40, 0, 0))]) (V' := q_V S) rfl ?_
  refine q_Sim.ck vc_193 (c := v_in ((17320 + (8 * x1)) + x2) 19520) (pc' := 16) (lv' := [(0, .inr (.inr (11, 0, 0))), (1, .inl x1), (2, .inl x2), (3, .inl x3)]) (st' := []) (V' := q_V (q_set S (40, 0, 0) ((17320 + (8 * x1)) + x2).toNatClampNeg x3)) rfl ?_
  refine q_Sim.letS (fun S_1 => ?_)
  exact q_Sim.ret vc_193 rfl
theorem vc_194 : v_code 194 = k_194 := rfl
theorem rc_194 (x1 : Int32) : v_rcv 194 [.inr (.inr (11, 0, 0)), .inl x1] = true := rfl
def f_194 (x1 : Int32) (S : QS) : Option ((Int32) × QS) := q_ck (v_in (10 + x1) 19520) (q_let (S.1 (40, 0, 0) (10 + x1).toNatClampNeg) (fun y_1 => some (y_1, S)))
theorem s_194 (x1 : Int32) (S : QS) : q_Sim 194 0 [(0, .inr (.inr (11, 0, 0))), (1, .inl x1)] [] (q_V S) q_I (f_194 x1 S) := by
  unfold f_194
  refine q_Sim.steps vc_194 5 (pc' := 8) (lv' := [(0, .inr (.inr (11, 0, 0))), (1, .inl x1)]) (st' := [.inl (10 + x1), .inr (.inr (40, 0, 0))]) (V' := q_V S) rfl ?_
  refine q_Sim.ck vc_194 (c := v_in (10 + x1) 19520) (pc' := 9) (lv' := [(0, .inr (.inr (11, 0, 0))), (1, .inl x1)]) (st' := [.inl (S.1 (40, 0, 0) (10 + x1).toNatClampNeg)]) (V' := q_V S) rfl ?_
  refine q_Sim.letI (fun y_1 => ?_)
  exact q_Sim.ret vc_194 rfl
theorem vc_195 : v_code 195 = k_195 := rfl
theorem rc_195 (x1 : Int32) : v_rcv 195 [.inr (.inr (11, 0, 0)), .inl x1] = true := rfl
def f_195 (x1 : Int32) (S : QS) : Option ((Int32) × QS) := q_ck (v_in (3850 + x1) 19520) (q_let (S.1 (40, 0, 0) (3850 + x1).toNatClampNeg) (fun y_1 => some (y_1, S)))
theorem s_195 (x1 : Int32) (S : QS) : q_Sim 195 0 [(0, .inr (.inr (11, 0, 0))), (1, .inl x1)] [] (q_V S) q_I (f_195 x1 S) := by
  unfold f_195
  refine q_Sim.steps vc_195 5 (pc' := 9) (lv' := [(0, .inr (.inr (11, 0, 0))), (1, .inl x1)]) (st' := [.inl (3850 + x1), .inr (.inr (40, 0, 0))]) (V' := q_V S) rfl ?_
  refine q_Sim.ck vc_195 (c := v_in (3850 + x1) 19520) (pc' := 10) (lv' := [(0, .inr (.inr (11, 0, 0))), (1, .inl x1)]) (st' := [.inl (S.1 (40, 0, 0) (3850 + x1).toNatClampNeg)]) (V' := q_V S) rfl ?_
  refine q_Sim.letI (fun y_1 => ?_)
  exact q_Sim.ret vc_195 rfl
theorem vc_196 : v_code 196 = k_196 := rfl
theorem rc_196 (x1 : Int32) (x2 : Int32) : v_rcv 196 [.inr (.inr (11, 0, 0)), .inl x1, .inl x2] = true := rfl
def f_196 (x1 : Int32) (x2 : Int32) (S : QS) : Option ((Int32) × QS) := q_ck (v_in ((4050 + (64 * x1)) + x2) 19520) (q_let (S.1 (40, 0, 0) ((4050 + (64 * x1)) + x2).toNatClampNeg) (fun y_1 => some (y_1, S)))
theorem s_196 (x1 : Int32) (x2 : Int32) (S : QS) : q_Sim 196 0 [(0, .inr (.inr (11, 0, 0))), (1, .inl x1), (2, .inl x2)] [] (q_V S) q_I (f_196 x1 x2 S) := by
  unfold f_196
  refine q_Sim.steps vc_196 9 (pc' := 14) (lv' := [(0, .inr (.inr (11, 0, 0))), (1, .inl x1), (2, .inl x2)]) (st' := [.inl ((4050 + (64 * x1)) + x2), .inr (.inr (40, 0, 0))]) (V' := q_V S) rfl ?_
  refine q_Sim.ck vc_196 (c := v_in ((4050 + (64 * x1)) + x2) 19520) (pc' := 15) (lv' := [(0, .inr (.inr (11, 0, 0))), (1, .inl x1), (2, .inl x2)]) (st' := [.inl (S.1 (40, 0, 0) ((4050 + (64 * x1)) + x2).toNatClampNeg)]) (V' := q_V S) rfl ?_
  refine q_Sim.letI (fun y_1 => ?_)
  exact q_Sim.ret vc_196 rfl
theorem vc_197 : v_code 197 = k_197 := rfl
theorem rc_197 (x1 : Int32) (x2 : Int32) (x3 : Int32) : v_rcv 197 [.inr (.inr (11, 0, 0)), .inl x1, .inl x2, .inl x3] = true := rfl
def f_197 (x1 : Int32) (x2 : Int32) (x3 : Int32) (S : QS) : Option ((Unit) × QS) := q_ck (v_in ((4050 + (64 * x1)) + x2) 19520) (q_let (q_set S (40, 0, 0) ((4050 + (64 * x1)) + x2).toNatClampNeg x3) (fun S_1 => some ((), S_1)))
theorem s_197 (x1 : Int32) (x2 : Int32) (x3 : Int32) (S : QS) : q_Sim 197 0 [(0, .inr (.inr (11, 0, 0))), (1, .inl x1), (2, .inl x2), (3, .inl x3)] [] (q_V S) q_U (f_197 x1 x2 x3 S) := by
  unfold f_197
  refine q_Sim.steps vc_197 10 (pc' := 15) (lv' := [(0, .inr (.inr (11, 0, 0))), (1, .inl x1), (2, .inl x2), (3, .inl x3)]) (st' := [.inl x3, .inl ((4050 + (64 * x1)) + x2), .inr (.inr (40, 0, 0))]) (V' := q_V S) rfl ?_
  refine q_Sim.ck vc_197 (c := v_in ((4050 + (64 * x1)) + x2) 19520) (pc' := 16) (lv' := [(0, .inr (.inr (11, 0, 0))), (1, .inl x1), (2, .inl x2), (3, .inl x3)]) (st' := []) (V' := q_V (q_set S (40, 0, 0) ((4050 + (64 * x1)) + x2).toNatClampNeg x3)) rfl ?_
  refine q_Sim.letS (fun S_1 => ?_)
  exact q_Sim.ret vc_197 rfl
theorem vc_198 : v_code 198 = k_198 := rfl
theorem rc_198 (x1 : Int32) : v_rcv 198 [.inr (.inr (11, 0, 0)), .inl x1] = true := rfl
def f_198 (x1 : Int32) (S : QS) : Option ((Int32) × QS) := q_bd (f_189 x1 0 39 S) (fun r_1 S_2 => if ¬ r_1 = 0 then (q_ck (v_in 0 19520) (q_let (S_2.1 (40, 0, 0) (0 : Int32).toNatClampNeg) (fun y_3 => if x1 < y_3 then (some (0, S_2)) else (some (1, S_2))))) else (some (2, S_2)))
theorem s_198 (x1 : Int32) (S : QS) : q_Sim 198 0 [(0, .inr (.inr (11, 0, 0))), (1, .inl x1)] [] (q_V S) q_I (f_198 x1 S) := by
  unfold f_198
  refine q_Sim.steps vc_198 3 (pc' := 4) (lv' := [(0, .inr (.inr (11, 0, 0))), (1, .inl x1)]) (st' := [.inl 39, .inl 0, .inl x1]) (V' := q_V S) rfl ?_
  refine q_Sim.call vc_198 (as := [.inl x1, .inl 0, .inl 39]) (pc' := 7) (lv' := [(0, .inr (.inr (11, 0, 0))), (1, .inl x1)]) (st' := []) (S := S) rfl (rc_189 x1 0 39) (s_189 x1 0 39 S) (fun r_1 S_2 => ?_)
  refine q_Sim.br vc_198 (c := ¬ r_1 = 0) (t := 14) (f := 10) (lv' := [(0, .inr (.inr (11, 0, 0))), (1, .inl x1)]) (st' := []) (V' := q_V S_2) rfl ?_ ?_
  · refine q_Sim.steps vc_198 4 (pc' := 20) (lv' := [(0, .inr (.inr (11, 0, 0))), (1, .inl x1)]) (st' := [.inl 0, .inr (.inr (40, 0, 0)), .inl x1]) (V' := q_V S_2) rfl ?_
    refine q_Sim.ck vc_198 (c := v_in 0 19520) (pc' := 21) (lv' := [(0, .inr (.inr (11, 0, 0))), (1, .inl x1)]) (st' := [.inl (S_2.1 (40, 0, 0) (0 : Int32).toNatClampNeg), .inl x1]) (V' := q_V S_2) rfl ?_
    refine q_Sim.letI (fun y_3 => ?_)
    refine q_Sim.br vc_198 (c := x1 < y_3) (t := 28) (f := 24) (lv' := [(0, .inr (.inr (11, 0, 0))), (1, .inl x1)]) (st' := []) (V' := q_V S_2) rfl ?_ ?_
    · refine q_Sim.steps vc_198 1 (pc' := 29) (lv' := [(0, .inr (.inr (11, 0, 0))), (1, .inl x1)]) (st' := [.inl 0]) (V' := q_V S_2) rfl ?_
      exact q_Sim.ret vc_198 rfl
    · refine q_Sim.steps vc_198 2 (pc' := 29) (lv' := [(0, .inr (.inr (11, 0, 0))), (1, .inl x1)]) (st' := [.inl 1]) (V' := q_V S_2) rfl ?_
      exact q_Sim.ret vc_198 rfl
  · refine q_Sim.steps vc_198 2 (pc' := 29) (lv' := [(0, .inr (.inr (11, 0, 0))), (1, .inl x1)]) (st' := [.inl 2]) (V' := q_V S_2) rfl ?_
    exact q_Sim.ret vc_198 rfl
theorem vc_199 : v_code 199 = k_199 := rfl
theorem rc_199 (x1 : Int32) : v_rcv 199 [.inr (.inr (11, 0, 0)), .inl x1] = true := rfl
def f_199 (x1 : Int32) (S : QS) : Option ((Int32) × QS) := q_bd (f_189 x1 0 199 S) (fun r_1 S_2 => if ¬ r_1 = 0 then (q_ck (v_in 2 19520) (q_let (S_2.1 (40, 0, 0) (2 : Int32).toNatClampNeg) (fun y_3 => if x1 < y_3 then (some (0, S_2)) else (some (1, S_2))))) else (some (2, S_2)))
theorem s_199 (x1 : Int32) (S : QS) : q_Sim 199 0 [(0, .inr (.inr (11, 0, 0))), (1, .inl x1)] [] (q_V S) q_I (f_199 x1 S) := by
  unfold f_199
  refine q_Sim.steps vc_199 3 (pc' := 5) (lv' := [(0, .inr (.inr (11, 0, 0))), (1, .inl x1)]) (st' := [.inl 199, .inl 0, .inl x1]) (V' := q_V S) rfl ?_
  refine q_Sim.call vc_199 (as := [.inl x1, .inl 0, .inl 199]) (pc' := 8) (lv' := [(0, .inr (.inr (11, 0, 0))), (1, .inl x1)]) (st' := []) (S := S) rfl (rc_189 x1 0 199) (s_189 x1 0 199 S) (fun r_1 S_2 => ?_)
  refine q_Sim.br vc_199 (c := ¬ r_1 = 0) (t := 15) (f := 11) (lv' := [(0, .inr (.inr (11, 0, 0))), (1, .inl x1)]) (st' := []) (V' := q_V S_2) rfl ?_ ?_
  · refine q_Sim.steps vc_199 4 (pc' := 21) (lv' := [(0, .inr (.inr (11, 0, 0))), (1, .inl x1)]) (st' := [.inl 2, .inr (.inr (40, 0, 0)), .inl x1]) (V' := q_V S_2) rfl ?_
    refine q_Sim.ck vc_199 (c := v_in 2 19520) (pc' := 22) (lv' := [(0, .inr (.inr (11, 0, 0))), (1, .inl x1)]) (st' := [.inl (S_2.1 (40, 0, 0) (2 : Int32).toNatClampNeg), .inl x1]) (V' := q_V S_2) rfl ?_
    refine q_Sim.letI (fun y_3 => ?_)
    refine q_Sim.br vc_199 (c := x1 < y_3) (t := 29) (f := 25) (lv' := [(0, .inr (.inr (11, 0, 0))), (1, .inl x1)]) (st' := []) (V' := q_V S_2) rfl ?_ ?_
    · refine q_Sim.steps vc_199 1 (pc' := 30) (lv' := [(0, .inr (.inr (11, 0, 0))), (1, .inl x1)]) (st' := [.inl 0]) (V' := q_V S_2) rfl ?_
      exact q_Sim.ret vc_199 rfl
    · refine q_Sim.steps vc_199 2 (pc' := 30) (lv' := [(0, .inr (.inr (11, 0, 0))), (1, .inl x1)]) (st' := [.inl 1]) (V' := q_V S_2) rfl ?_
      exact q_Sim.ret vc_199 rfl
  · refine q_Sim.steps vc_199 2 (pc' := 30) (lv' := [(0, .inr (.inr (11, 0, 0))), (1, .inl x1)]) (st' := [.inl 2]) (V' := q_V S_2) rfl ?_
    exact q_Sim.ret vc_199 rfl
theorem vc_200 : v_code 200 = k_200 := rfl
theorem rc_200 (x1 : Int32) : v_rcv 200 [.inr (.inr (11, 0, 0)), .inl x1] = true := rfl
def b_200_45  (S : QS) : Option ((Int32) × QS) := some (1, S)
theorem sb_200_45  (S : QS) : q_Sim 200 45 [] [] (q_V S) q_I (b_200_45  S) := by
  unfold b_200_45
  refine q_Sim.steps vc_200 2 (pc' := 50) (lv' := []) (st' := [.inl 1]) (V' := q_V S) rfl ?_
  exact q_Sim.ret vc_200 rfl
def f_200 (x1 : Int32) (S : QS) : Option ((Int32) × QS) := q_bd (f_189 x1 0 3839 S) (fun r_1 S_2 => if ¬ r_1 = 0 then (q_let (x1 / 96) (fun y_3 => q_ck (v_in 0 19520) (q_let (S_2.1 (40, 0, 0) (0 : Int32).toNatClampNeg) (fun y_4 => if y_4 ≤ y_3 then (b_200_45  S_2) else (q_bd (f_190 y_3 10 S_2) (fun r_5 S_6 => if ((x1 - x1 / 96 * 96) / 12) < r_5 then (some (0, S_6)) else (b_200_45  S_6))))))) else (some (2, S_2)))
theorem s_200 (x1 : Int32) (S : QS) : q_Sim 200 0 [(0, .inr (.inr (11, 0, 0))), (1, .inl x1)] [] (q_V S) q_I (f_200 x1 S) := by
  unfold f_200
  refine q_Sim.steps vc_200 3 (pc' := 5) (lv' := [(0, .inr (.inr (11, 0, 0))), (1, .inl x1)]) (st' := [.inl 3839, .inl 0, .inl x1]) (V' := q_V S) rfl ?_
  refine q_Sim.call vc_200 (as := [.inl x1, .inl 0, .inl 3839]) (pc' := 8) (lv' := [(0, .inr (.inr (11, 0, 0))), (1, .inl x1)]) (st' := []) (S := S) rfl (rc_189 x1 0 3839) (s_189 x1 0 3839 S) (fun r_1 S_2 => ?_)
  refine q_Sim.br vc_200 (c := ¬ r_1 = 0) (t := 13) (f := 11) (lv' := [(0, .inr (.inr (11, 0, 0))), (1, .inl x1)]) (st' := []) (V' := q_V S_2) rfl ?_ ?_
  · refine q_Sim.steps vc_200 2 (pc' := 16) (lv' := [(0, .inr (.inr (11, 0, 0))), (1, .inl x1)]) (st' := [.inl 96, .inl x1]) (V' := q_V S_2) rfl ?_
    refine q_Sim.okd vc_200 (c := decide (¬ (96 : Int32) = 0)) (pc' := 17) (lv' := [(0, .inr (.inr (11, 0, 0))), (1, .inl x1)]) (st' := [.inl (x1 / 96)]) (V' := q_V S_2) rfl (by decide) ?_
    refine q_Sim.letI (fun y_3 => ?_)
    refine q_Sim.steps vc_200 5 (pc' := 24) (lv' := [(2, .inl y_3), (0, .inr (.inr (11, 0, 0))), (1, .inl x1)]) (st' := [.inl 0, .inr (.inr (40, 0, 0)), .inl y_3]) (V' := q_V S_2) rfl ?_
    refine q_Sim.ck vc_200 (c := v_in 0 19520) (pc' := 25) (lv' := [(2, .inl y_3), (0, .inr (.inr (11, 0, 0))), (1, .inl x1)]) (st' := [.inl (S_2.1 (40, 0, 0) (0 : Int32).toNatClampNeg), .inl y_3]) (V' := q_V S_2) rfl ?_
    refine q_Sim.letI (fun y_4 => ?_)
    refine q_Sim.br vc_200 (c := y_4 ≤ y_3) (t := 45) (f := 28) (lv' := [(2, .inl y_3), (0, .inr (.inr (11, 0, 0))), (1, .inl x1)]) (st' := []) (V' := q_V S_2) rfl ?_ ?_
    · exact q_Sim.sub2 (lv' := []) [] rfl (by decide) trivial (sb_200_45  S_2)
    · refine q_Sim.steps vc_200 2 (pc' := 31) (lv' := [(2, .inl y_3), (0, .inr (.inr (11, 0, 0))), (1, .inl x1)]) (st' := [.inl 96, .inl x1]) (V' := q_V S_2) rfl ?_
      refine q_Sim.okd vc_200 (c := decide (¬ (96 : Int32) = 0)) (pc' := 32) (lv' := [(2, .inl y_3), (0, .inr (.inr (11, 0, 0))), (1, .inl x1)]) (st' := [.inl (x1 - x1 / 96 * 96)]) (V' := q_V S_2) rfl (by decide) ?_
      refine q_Sim.steps vc_200 1 (pc' := 34) (lv' := [(2, .inl y_3), (0, .inr (.inr (11, 0, 0))), (1, .inl x1)]) (st' := [.inl 12, .inl (x1 - x1 / 96 * 96)]) (V' := q_V S_2) rfl ?_
      refine q_Sim.okd vc_200 (c := decide (¬ (12 : Int32) = 0)) (pc' := 35) (lv' := [(2, .inl y_3), (0, .inr (.inr (11, 0, 0))), (1, .inl x1)]) (st' := [.inl ((x1 - x1 / 96 * 96) / 12)]) (V' := q_V S_2) rfl (by decide) ?_
      refine q_Sim.steps vc_200 3 (pc' := 39) (lv' := [(2, .inl y_3), (0, .inr (.inr (11, 0, 0))), (1, .inl x1)]) (st' := [.inl 10, .inl y_3, .inr (.inr (11, 0, 0)), .inl ((x1 - x1 / 96 * 96) / 12)]) (V' := q_V S_2) rfl ?_
      refine q_Sim.call vc_200 (as := [.inr (.inr (11, 0, 0)), .inl y_3, .inl 10]) (pc' := 42) (lv' := [(2, .inl y_3), (0, .inr (.inr (11, 0, 0))), (1, .inl x1)]) (st' := [.inl ((x1 - x1 / 96 * 96) / 12)]) (S := S_2) rfl (rc_190 y_3 10) (s_190 y_3 10 S_2) (fun r_5 S_6 => ?_)
      refine q_Sim.br vc_200 (c := ((x1 - x1 / 96 * 96) / 12) < r_5) (t := 49) (f := 45) (lv' := [(2, .inl y_3), (0, .inr (.inr (11, 0, 0))), (1, .inl x1)]) (st' := []) (V' := q_V S_6) rfl ?_ ?_
      · refine q_Sim.steps vc_200 1 (pc' := 50) (lv' := [(2, .inl y_3), (0, .inr (.inr (11, 0, 0))), (1, .inl x1)]) (st' := [.inl 0]) (V' := q_V S_6) rfl ?_
        exact q_Sim.ret vc_200 rfl
      · exact q_Sim.sub2 (lv' := []) [] rfl (by decide) trivial (sb_200_45  S_6)
  · refine q_Sim.steps vc_200 1 (pc' := 12) (lv' := [(0, .inr (.inr (11, 0, 0))), (1, .inl x1)]) (st' := [.inl 2]) (V' := q_V S_2) rfl ?_
    exact q_Sim.ret vc_200 rfl
theorem vc_201 : v_code 201 = k_201 := rfl
theorem rc_201 (x1 : Int32) : v_rcv 201 [.inr (.inr (11, 0, 0)), .inl x1] = true := rfl
def f_201 (x1 : Int32) (S : QS) : Option ((Int32) × QS) := q_bd (f_200 x1 S) (fun r_1 S_2 => if r_1 ≤ 0 then (q_bd (f_194 x1 S_2) (fun r_3 S_4 => if 0 ≤ r_3 then (some (0, S_4)) else (some (1, S_4)))) else (some (r_1, S_2)))
theorem s_201 (x1 : Int32) (S : QS) : q_Sim 201 0 [(0, .inr (.inr (11, 0, 0))), (1, .inl x1)] [] (q_V S) q_I (f_201 x1 S) := by
  unfold f_201
  refine q_Sim.steps vc_201 2 (pc' := 2) (lv' := [(0, .inr (.inr (11, 0, 0))), (1, .inl x1)]) (st' := [.inl x1, .inr (.inr (11, 0, 0))]) (V' := q_V S) rfl ?_
  refine q_Sim.call vc_201 (as := [.inr (.inr (11, 0, 0)), .inl x1]) (pc' := 5) (lv' := [(0, .inr (.inr (11, 0, 0))), (1, .inl x1)]) (st' := []) (S := S) rfl (rc_200 x1) (s_200 x1 S) (fun r_1 S_2 => ?_)
  refine q_Sim.steps vc_201 2 (pc' := 7) (lv' := [(2, .inl r_1), (0, .inr (.inr (11, 0, 0))), (1, .inl x1)]) (st' := [.inl r_1]) (V' := q_V S_2) rfl ?_
  refine q_Sim.br vc_201 (c := r_1 ≤ 0) (t := 14) (f := 10) (lv' := [(2, .inl r_1), (0, .inr (.inr (11, 0, 0))), (1, .inl x1)]) (st' := []) (V' := q_V S_2) rfl ?_ ?_
  · refine q_Sim.steps vc_201 2 (pc' := 16) (lv' := [(2, .inl r_1), (0, .inr (.inr (11, 0, 0))), (1, .inl x1)]) (st' := [.inl x1, .inr (.inr (11, 0, 0))]) (V' := q_V S_2) rfl ?_
    refine q_Sim.call vc_201 (as := [.inr (.inr (11, 0, 0)), .inl x1]) (pc' := 19) (lv' := [(2, .inl r_1), (0, .inr (.inr (11, 0, 0))), (1, .inl x1)]) (st' := []) (S := S_2) rfl (rc_194 x1) (s_194 x1 S_2) (fun r_3 S_4 => ?_)
    refine q_Sim.br vc_201 (c := 0 ≤ r_3) (t := 26) (f := 22) (lv' := [(2, .inl r_1), (0, .inr (.inr (11, 0, 0))), (1, .inl x1)]) (st' := []) (V' := q_V S_4) rfl ?_ ?_
    · refine q_Sim.steps vc_201 1 (pc' := 27) (lv' := [(2, .inl r_1), (0, .inr (.inr (11, 0, 0))), (1, .inl x1)]) (st' := [.inl 0]) (V' := q_V S_4) rfl ?_
      exact q_Sim.ret vc_201 rfl
    · refine q_Sim.steps vc_201 2 (pc' := 27) (lv' := [(2, .inl r_1), (0, .inr (.inr (11, 0, 0))), (1, .inl x1)]) (st' := [.inl 1]) (V' := q_V S_4) rfl ?_
      exact q_Sim.ret vc_201 rfl
  · refine q_Sim.steps vc_201 2 (pc' := 27) (lv' := [(2, .inl r_1), (0, .inr (.inr (11, 0, 0))), (1, .inl x1)]) (st' := [.inl r_1]) (V' := q_V S_2) rfl ?_
    exact q_Sim.ret vc_201 rfl
theorem vc_202 : v_code 202 = k_202 := rfl
theorem rc_202 (x0 : Int32) (x1 : Int32) : v_rcv 202 [.inl x0, .inl x1] = true := rfl
def f_202 (x0 : Int32) (x1 : Int32) (S : QS) : Option ((Int32) × QS) := if x0 ≤ 0 then (some (x1, S)) else (some (x0, S))
theorem s_202 (x0 : Int32) (x1 : Int32) (S : QS) : q_Sim 202 0 [(0, .inl x0), (1, .inl x1)] [] (q_V S) q_I (f_202 x0 x1 S) := by
  unfold f_202
  refine q_Sim.steps vc_202 1 (pc' := 1) (lv' := [(0, .inl x0), (1, .inl x1)]) (st' := [.inl x0]) (V' := q_V S) rfl ?_
  refine q_Sim.br vc_202 (c := x0 ≤ 0) (t := 8) (f := 4) (lv' := [(0, .inl x0), (1, .inl x1)]) (st' := []) (V' := q_V S) rfl ?_ ?_
  · refine q_Sim.steps vc_202 1 (pc' := 9) (lv' := [(0, .inl x0), (1, .inl x1)]) (st' := [.inl x1]) (V' := q_V S) rfl ?_
    exact q_Sim.ret vc_202 rfl
  · refine q_Sim.steps vc_202 2 (pc' := 9) (lv' := [(0, .inl x0), (1, .inl x1)]) (st' := [.inl x0]) (V' := q_V S) rfl ?_
    exact q_Sim.ret vc_202 rfl
theorem vc_203 : v_code 203 = k_203 := rfl
theorem rc_203 (x0 : Int32) : v_rcv 203 [.inl x0] = true := rfl
def f_203 (x0 : Int32) (S : QS) : Option ((Int32) × QS) := if x0 ≤ 0 then (some (0, S)) else (if 100 < x0 then (some (0, S)) else (some (1, S)))
theorem s_203 (x0 : Int32) (S : QS) : q_Sim 203 0 [(0, .inl x0)] [] (q_V S) q_I (f_203 x0 S) := by
  unfold f_203
  refine q_Sim.steps vc_203 1 (pc' := 1) (lv' := [(0, .inl x0)]) (st' := [.inl x0]) (V' := q_V S) rfl ?_
  refine q_Sim.br vc_203 (c := x0 ≤ 0) (t := 14) (f := 4) (lv' := [(0, .inl x0)]) (st' := []) (V' := q_V S) rfl ?_ ?_
  · refine q_Sim.steps vc_203 1 (pc' := 15) (lv' := [(0, .inl x0)]) (st' := [.inl 0]) (V' := q_V S) rfl ?_
    exact q_Sim.ret vc_203 rfl
  · refine q_Sim.steps vc_203 2 (pc' := 7) (lv' := [(0, .inl x0)]) (st' := [.inl 100, .inl x0]) (V' := q_V S) rfl ?_
    refine q_Sim.br vc_203 (c := 100 < x0) (t := 14) (f := 10) (lv' := [(0, .inl x0)]) (st' := []) (V' := q_V S) rfl ?_ ?_
    · refine q_Sim.steps vc_203 1 (pc' := 15) (lv' := [(0, .inl x0)]) (st' := [.inl 0]) (V' := q_V S) rfl ?_
      exact q_Sim.ret vc_203 rfl
    · refine q_Sim.steps vc_203 2 (pc' := 15) (lv' := [(0, .inl x0)]) (st' := [.inl 1]) (V' := q_V S) rfl ?_
      exact q_Sim.ret vc_203 rfl
theorem vc_204 : v_code 204 = k_204 := rfl
theorem rc_204 (x1 : Int32) : v_rcv 204 [.inr (.inr (11, 0, 0)), .inl x1] = true := rfl
def f_204 (x1 : Int32) (S : QS) : Option ((Int32) × QS) := q_bd (f_192 x1 0 S) (fun r_1 S_2 => if 2 < r_1 then (some (0, S_2)) else (some (1, S_2)))
theorem s_204 (x1 : Int32) (S : QS) : q_Sim 204 0 [(0, .inr (.inr (11, 0, 0))), (1, .inl x1)] [] (q_V S) q_I (f_204 x1 S) := by
  unfold f_204
  refine q_Sim.steps vc_204 3 (pc' := 3) (lv' := [(0, .inr (.inr (11, 0, 0))), (1, .inl x1)]) (st' := [.inl 0, .inl x1, .inr (.inr (11, 0, 0))]) (V' := q_V S) rfl ?_
  refine q_Sim.call vc_204 (as := [.inr (.inr (11, 0, 0)), .inl x1, .inl 0]) (pc' := 6) (lv' := [(0, .inr (.inr (11, 0, 0))), (1, .inl x1)]) (st' := []) (S := S) rfl (rc_192 x1 0) (s_192 x1 0 S) (fun r_1 S_2 => ?_)
  refine q_Sim.steps vc_204 1 (pc' := 7) (lv' := [(0, .inr (.inr (11, 0, 0))), (1, .inl x1)]) (st' := [.inl 2, .inl r_1]) (V' := q_V S_2) rfl ?_
  refine q_Sim.br vc_204 (c := 2 < r_1) (t := 14) (f := 10) (lv' := [(0, .inr (.inr (11, 0, 0))), (1, .inl x1)]) (st' := []) (V' := q_V S_2) rfl ?_ ?_
  · refine q_Sim.steps vc_204 1 (pc' := 15) (lv' := [(0, .inr (.inr (11, 0, 0))), (1, .inl x1)]) (st' := [.inl 0]) (V' := q_V S_2) rfl ?_
    exact q_Sim.ret vc_204 rfl
  · refine q_Sim.steps vc_204 2 (pc' := 15) (lv' := [(0, .inr (.inr (11, 0, 0))), (1, .inl x1)]) (st' := [.inl 1]) (V' := q_V S_2) rfl ?_
    exact q_Sim.ret vc_204 rfl
theorem vc_205 : v_code 205 = k_205 := rfl
theorem rc_205 (x1 : Int32) : v_rcv 205 [.inr (.inr (11, 0, 0)), .inl x1] = true := rfl
def f_205 (x1 : Int32) (S : QS) : Option ((Unit) × QS) := q_ck (v_in x1 17) (q_let (S.1 (42, 0, 0) x1.toNatClampNeg) (fun y_1 => q_ck (v_in x1 17) (q_let (q_set S (42, 0, 0) x1.toNatClampNeg (y_1 + 1)) (fun S_2 => some ((), S_2)))))
theorem s_205 (x1 : Int32) (S : QS) : q_Sim 205 0 [(0, .inr (.inr (11, 0, 0))), (1, .inl x1)] [] (q_V S) q_U (f_205 x1 S) := by
  unfold f_205
  refine q_Sim.steps vc_205 4 (pc' := 6) (lv' := [(0, .inr (.inr (11, 0, 0))), (1, .inl x1)]) (st' := [.inl x1, .inr (.inr (42, 0, 0)), .inl x1, .inr (.inr (42, 0, 0))]) (V' := q_V S) rfl ?_
  refine q_Sim.ck vc_205 (c := v_in x1 17) (pc' := 7) (lv' := [(0, .inr (.inr (11, 0, 0))), (1, .inl x1)]) (st' := [.inl (S.1 (42, 0, 0) x1.toNatClampNeg), .inl x1, .inr (.inr (42, 0, 0))]) (V' := q_V S) rfl ?_
  refine q_Sim.letI (fun y_1 => ?_)
  refine q_Sim.steps vc_205 2 (pc' := 9) (lv' := [(0, .inr (.inr (11, 0, 0))), (1, .inl x1)]) (st' := [.inl (y_1 + 1), .inl x1, .inr (.inr (42, 0, 0))]) (V' := q_V S) rfl ?_
  refine q_Sim.ck vc_205 (c := v_in x1 17) (pc' := 10) (lv' := [(0, .inr (.inr (11, 0, 0))), (1, .inl x1)]) (st' := []) (V' := q_V (q_set S (42, 0, 0) x1.toNatClampNeg (y_1 + 1))) rfl ?_
  refine q_Sim.letS (fun S_2 => ?_)
  exact q_Sim.ret vc_205 rfl
theorem vc_206 : v_code 206 = k_206 := rfl
theorem rc_206 (x1 : Int32) : v_rcv 206 [.inr (.inr (11, 0, 0)), .inl x1] = true := rfl
def b_206_46 (x2 : Int32) (x3 : Int32) (S : QS) : Option ((Int32) × QS) := q_bd (f_205 1 S) (fun r_5 S_6 => if 2 < x2 then (if ¬ x2 = 3 then (if ¬ x2 = 5 then (some (x3, S_6)) else (some (x3 + 5000, S_6))) else (some ((-1) - x3, S_6))) else (some (x3 + 1000, S_6)))
theorem sb_206_46 (x2 : Int32) (x3 : Int32) (S : QS) : q_Sim 206 46 [(0, .inr (.inr (11, 0, 0))), (2, .inl x2), (3, .inl x3)] [] (q_V S) q_I (b_206_46 x2 x3 S) := by
  unfold b_206_46
  refine q_Sim.steps vc_206 2 (pc' := 48) (lv' := [(0, .inr (.inr (11, 0, 0))), (2, .inl x2), (3, .inl x3)]) (st' := [.inl 1, .inr (.inr (11, 0, 0))]) (V' := q_V S) rfl ?_
  refine q_Sim.call vc_206 (as := [.inr (.inr (11, 0, 0)), .inl 1]) (pc' := 51) (lv' := [(0, .inr (.inr (11, 0, 0))), (2, .inl x2), (3, .inl x3)]) (st' := []) (S := S) rfl (rc_205 1) (s_205 1 S) (fun r_5 S_6 => ?_)
  refine q_Sim.steps vc_206 2 (pc' := 53) (lv' := [(0, .inr (.inr (11, 0, 0))), (2, .inl x2), (3, .inl x3)]) (st' := [.inl 2, .inl x2]) (V' := q_V S_6) rfl ?_
  refine q_Sim.br vc_206 (c := 2 < x2) (t := 64) (f := 56) (lv' := [(0, .inr (.inr (11, 0, 0))), (2, .inl x2), (3, .inl x3)]) (st' := []) (V' := q_V S_6) rfl ?_ ?_
  · refine q_Sim.steps vc_206 2 (pc' := 66) (lv' := [(0, .inr (.inr (11, 0, 0))), (2, .inl x2), (3, .inl x3)]) (st' := [.inl 3, .inl x2]) (V' := q_V S_6) rfl ?_
    refine q_Sim.br vc_206 (c := ¬ x2 = 3) (t := 75) (f := 69) (lv' := [(0, .inr (.inr (11, 0, 0))), (2, .inl x2), (3, .inl x3)]) (st' := []) (V' := q_V S_6) rfl ?_ ?_
    · refine q_Sim.steps vc_206 2 (pc' := 77) (lv' := [(0, .inr (.inr (11, 0, 0))), (2, .inl x2), (3, .inl x3)]) (st' := [.inl 5, .inl x2]) (V' := q_V S_6) rfl ?_
      refine q_Sim.br vc_206 (c := ¬ x2 = 5) (t := 88) (f := 80) (lv' := [(0, .inr (.inr (11, 0, 0))), (2, .inl x2), (3, .inl x3)]) (st' := []) (V' := q_V S_6) rfl ?_ ?_
      · refine q_Sim.steps vc_206 1 (pc' := 89) (lv' := [(0, .inr (.inr (11, 0, 0))), (2, .inl x2), (3, .inl x3)]) (st' := [.inl x3]) (V' := q_V S_6) rfl ?_
        exact q_Sim.ret vc_206 rfl
      · refine q_Sim.steps vc_206 4 (pc' := 89) (lv' := [(0, .inr (.inr (11, 0, 0))), (2, .inl x2), (3, .inl x3)]) (st' := [.inl (x3 + 5000)]) (V' := q_V S_6) rfl ?_
        exact q_Sim.ret vc_206 rfl
    · refine q_Sim.steps vc_206 4 (pc' := 89) (lv' := [(0, .inr (.inr (11, 0, 0))), (2, .inl x2), (3, .inl x3)]) (st' := [.inl ((-1) - x3)]) (V' := q_V S_6) rfl ?_
      exact q_Sim.ret vc_206 rfl
  · refine q_Sim.steps vc_206 4 (pc' := 89) (lv' := [(0, .inr (.inr (11, 0, 0))), (2, .inl x2), (3, .inl x3)]) (st' := [.inl (x3 + 1000)]) (V' := q_V S_6) rfl ?_
    exact q_Sim.ret vc_206 rfl
def b_206_35 (x2 : Int32) (x3 : Int32) (S : QS) : Option ((Int32) × QS) := if ¬ x2 = 5 then (b_206_46 x2 x3 S) else (q_bd (f_205 11 S) (fun r_7 S_8 => b_206_46 x2 x3 S_8))
theorem sb_206_35 (x2 : Int32) (x3 : Int32) (S : QS) : q_Sim 206 35 [(0, .inr (.inr (11, 0, 0))), (2, .inl x2), (3, .inl x3)] [] (q_V S) q_I (b_206_35 x2 x3 S) := by
  unfold b_206_35
  refine q_Sim.steps vc_206 2 (pc' := 37) (lv' := [(0, .inr (.inr (11, 0, 0))), (2, .inl x2), (3, .inl x3)]) (st' := [.inl 5, .inl x2]) (V' := q_V S) rfl ?_
  refine q_Sim.br vc_206 (c := ¬ x2 = 5) (t := 46) (f := 40) (lv' := [(0, .inr (.inr (11, 0, 0))), (2, .inl x2), (3, .inl x3)]) (st' := []) (V' := q_V S) rfl ?_ ?_
  · exact q_Sim.sub2 (lv' := [(0, .inr (.inr (11, 0, 0))), (2, .inl x2), (3, .inl x3)]) [0, 2, 3] rfl (by decide) ⟨rfl, rfl, rfl, trivial⟩ (sb_206_46 x2 x3 S)
  · refine q_Sim.steps vc_206 2 (pc' := 43) (lv' := [(0, .inr (.inr (11, 0, 0))), (2, .inl x2), (3, .inl x3)]) (st' := [.inl 11, .inr (.inr (11, 0, 0))]) (V' := q_V S) rfl ?_
    refine q_Sim.call vc_206 (as := [.inr (.inr (11, 0, 0)), .inl 11]) (pc' := 46) (lv' := [(0, .inr (.inr (11, 0, 0))), (2, .inl x2), (3, .inl x3)]) (st' := []) (S := S) rfl (rc_205 11) (s_205 11 S) (fun r_7 S_8 => ?_)
    exact q_Sim.sub2 (lv' := [(0, .inr (.inr (11, 0, 0))), (2, .inl x2), (3, .inl x3)]) [0, 2, 3] rfl (by decide) ⟨rfl, rfl, rfl, trivial⟩ (sb_206_46 x2 x3 S_8)
def b_206_24 (x2 : Int32) (x3 : Int32) (S : QS) : Option ((Int32) × QS) := if ¬ x2 = 3 then (b_206_35 x2 x3 S) else (q_bd (f_205 8 S) (fun r_9 S_10 => b_206_35 x2 x3 S_10))
theorem sb_206_24 (x2 : Int32) (x3 : Int32) (S : QS) : q_Sim 206 24 [(0, .inr (.inr (11, 0, 0))), (2, .inl x2), (3, .inl x3)] [] (q_V S) q_I (b_206_24 x2 x3 S) := by
  unfold b_206_24
  refine q_Sim.steps vc_206 2 (pc' := 26) (lv' := [(0, .inr (.inr (11, 0, 0))), (2, .inl x2), (3, .inl x3)]) (st' := [.inl 3, .inl x2]) (V' := q_V S) rfl ?_
  refine q_Sim.br vc_206 (c := ¬ x2 = 3) (t := 35) (f := 29) (lv' := [(0, .inr (.inr (11, 0, 0))), (2, .inl x2), (3, .inl x3)]) (st' := []) (V' := q_V S) rfl ?_ ?_
  · exact q_Sim.sub2 (lv' := [(0, .inr (.inr (11, 0, 0))), (2, .inl x2), (3, .inl x3)]) [0, 2, 3] rfl (by decide) ⟨rfl, rfl, rfl, trivial⟩ (sb_206_35 x2 x3 S)
  · refine q_Sim.steps vc_206 2 (pc' := 32) (lv' := [(0, .inr (.inr (11, 0, 0))), (2, .inl x2), (3, .inl x3)]) (st' := [.inl 8, .inr (.inr (11, 0, 0))]) (V' := q_V S) rfl ?_
    refine q_Sim.call vc_206 (as := [.inr (.inr (11, 0, 0)), .inl 8]) (pc' := 35) (lv' := [(0, .inr (.inr (11, 0, 0))), (2, .inl x2), (3, .inl x3)]) (st' := []) (S := S) rfl (rc_205 8) (s_205 8 S) (fun r_9 S_10 => ?_)
    exact q_Sim.sub2 (lv' := [(0, .inr (.inr (11, 0, 0))), (2, .inl x2), (3, .inl x3)]) [0, 2, 3] rfl (by decide) ⟨rfl, rfl, rfl, trivial⟩ (sb_206_35 x2 x3 S_10)
def f_206 (x1 : Int32) (S : QS) : Option ((Int32) × QS) := q_bd (f_192 x1 0 S) (fun r_1 S_2 => q_bd (f_192 x1 1 S_2) (fun r_3 S_4 => if 2 < r_1 then (b_206_24 r_1 r_3 S_4) else (q_bd (f_205 3 S_4) (fun r_11 S_12 => b_206_24 r_1 r_3 S_12))))
theorem s_206 (x1 : Int32) (S : QS) : q_Sim 206 0 [(0, .inr (.inr (11, 0, 0))), (1, .inl x1)] [] (q_V S) q_I (f_206 x1 S) := by
  unfold f_206
  refine q_Sim.steps vc_206 3 (pc' := 3) (lv' := [(0, .inr (.inr (11, 0, 0))), (1, .inl x1)]) (st' := [.inl 0, .inl x1, .inr (.inr (11, 0, 0))]) (V' := q_V S) rfl ?_
  refine q_Sim.call vc_206 (as := [.inr (.inr (11, 0, 0)), .inl x1, .inl 0]) (pc' := 6) (lv' := [(0, .inr (.inr (11, 0, 0))), (1, .inl x1)]) (st' := []) (S := S) rfl (rc_192 x1 0) (s_192 x1 0 S) (fun r_1 S_2 => ?_)
  refine q_Sim.steps vc_206 4 (pc' := 10) (lv' := [(2, .inl r_1), (0, .inr (.inr (11, 0, 0))), (1, .inl x1)]) (st' := [.inl 1, .inl x1, .inr (.inr (11, 0, 0))]) (V' := q_V S_2) rfl ?_
  refine q_Sim.call vc_206 (as := [.inr (.inr (11, 0, 0)), .inl x1, .inl 1]) (pc' := 13) (lv' := [(2, .inl r_1), (0, .inr (.inr (11, 0, 0))), (1, .inl x1)]) (st' := []) (S := S_2) rfl (rc_192 x1 1) (s_192 x1 1 S_2) (fun r_3 S_4 => ?_)
  refine q_Sim.steps vc_206 3 (pc' := 16) (lv' := [(3, .inl r_3), (2, .inl r_1), (0, .inr (.inr (11, 0, 0))), (1, .inl x1)]) (st' := [.inl 2, .inl r_1]) (V' := q_V S_4) rfl ?_
  refine q_Sim.br vc_206 (c := 2 < r_1) (t := 24) (f := 19) (lv' := [(3, .inl r_3), (2, .inl r_1), (0, .inr (.inr (11, 0, 0))), (1, .inl x1)]) (st' := []) (V' := q_V S_4) rfl ?_ ?_
  · exact q_Sim.sub2 (lv' := [(0, .inr (.inr (11, 0, 0))), (2, .inl r_1), (3, .inl r_3)]) [0, 2, 3] rfl (by decide) ⟨rfl, rfl, rfl, trivial⟩ (sb_206_24 r_1 r_3 S_4)
  · refine q_Sim.steps vc_206 2 (pc' := 21) (lv' := [(3, .inl r_3), (2, .inl r_1), (0, .inr (.inr (11, 0, 0))), (1, .inl x1)]) (st' := [.inl 3, .inr (.inr (11, 0, 0))]) (V' := q_V S_4) rfl ?_
    refine q_Sim.call vc_206 (as := [.inr (.inr (11, 0, 0)), .inl 3]) (pc' := 24) (lv' := [(3, .inl r_3), (2, .inl r_1), (0, .inr (.inr (11, 0, 0))), (1, .inl x1)]) (st' := []) (S := S_4) rfl (rc_205 3) (s_205 3 S_4) (fun r_11 S_12 => ?_)
    exact q_Sim.sub2 (lv' := [(0, .inr (.inr (11, 0, 0))), (2, .inl r_1), (3, .inl r_3)]) [0, 2, 3] rfl (by decide) ⟨rfl, rfl, rfl, trivial⟩ (sb_206_24 r_1 r_3 S_12)
theorem vc_207 : v_code 207 = k_207 := rfl
theorem rc_207 (x1 : Int32) : v_rcv 207 [.inr (.inr (11, 0, 0)), .inl x1] = true := rfl
def b_207_42 : Nat → Int32 → Int32 → Int32 → Int32 → QS → Option ((Unit) × QS)
  | 0, _, _, _, _, _ => none
  | n + 1, x1, x2, x3, x4, S => if x3 ≤ x4 then (q_bd (f_192 x1 1 S) (fun r_3 S_4 => q_bd (f_193 x1 1 (r_3 + x3) S_4) (fun r_5 S_6 => if x2 < 4 then (some ((), S_6)) else (q_bd (f_192 x1 6 S_6) (fun r_7 S_8 => q_bd (f_192 x1 6 S_8) (fun r_9 S_10 => q_bd (f_193 x1 6 (r_7 - (r_9 / 10)) S_10) (fun r_11 S_12 => some ((), S_12)))))))) else (q_bd (f_205 0 S) (fun r_13 S_14 => b_207_42 n x1 x2 x3 (x4 + 1) S_14))
theorem sb_207_42 : ∀ (n : Nat) (x1 : Int32) (x2 : Int32) (x3 : Int32) (x4 : Int32) (S : QS), q_Sim 207 42 [(0, .inr (.inr (11, 0, 0))), (1, .inl x1), (2, .inl x2), (3, .inl x3), (4, .inl x4)] [] (q_V S) q_U (b_207_42 n x1 x2 x3 x4 S)
  | 0, _, _, _, _, _ => q_Sim.none
  | n + 1, x1, x2, x3, x4, S => by
    rw [b_207_42]
    refine q_Sim.steps vc_207 2 (pc' := 45) (lv' := [(0, .inr (.inr (11, 0, 0))), (1, .inl x1), (2, .inl x2), (3, .inl x3), (4, .inl x4)]) (st' := [.inl x3, .inl x4]) (V' := q_V S) rfl ?_
    refine q_Sim.br vc_207 (c := x3 ≤ x4) (t := 59) (f := 48) (lv' := [(0, .inr (.inr (11, 0, 0))), (1, .inl x1), (2, .inl x2), (3, .inl x3), (4, .inl x4)]) (st' := []) (V' := q_V S) rfl ?_ ?_
    · refine q_Sim.steps vc_207 6 (pc' := 65) (lv' := [(0, .inr (.inr (11, 0, 0))), (1, .inl x1), (2, .inl x2), (3, .inl x3), (4, .inl x4)]) (st' := [.inl 1, .inl x1, .inr (.inr (11, 0, 0)), .inl 1, .inl x1, .inr (.inr (11, 0, 0))]) (V' := q_V S) rfl ?_
      refine q_Sim.call vc_207 (as := [.inr (.inr (11, 0, 0)), .inl x1, .inl 1]) (pc' := 68) (lv' := [(0, .inr (.inr (11, 0, 0))), (1, .inl x1), (2, .inl x2), (3, .inl x3), (4, .inl x4)]) (st' := [.inl 1, .inl x1, .inr (.inr (11, 0, 0))]) (S := S) rfl (rc_192 x1 1) (s_192 x1 1 S) (fun r_3 S_4 => ?_)
      refine q_Sim.steps vc_207 2 (pc' := 70) (lv' := [(0, .inr (.inr (11, 0, 0))), (1, .inl x1), (2, .inl x2), (3, .inl x3), (4, .inl x4)]) (st' := [.inl (r_3 + x3), .inl 1, .inl x1, .inr (.inr (11, 0, 0))]) (V' := q_V S_4) rfl ?_
      refine q_Sim.call vc_207 (as := [.inr (.inr (11, 0, 0)), .inl x1, .inl 1, .inl (r_3 + x3)]) (pc' := 73) (lv' := [(0, .inr (.inr (11, 0, 0))), (1, .inl x1), (2, .inl x2), (3, .inl x3), (4, .inl x4)]) (st' := []) (S := S_4) rfl (rc_193 x1 1 (r_3 + x3)) (s_193 x1 1 (r_3 + x3) S_4) (fun r_5 S_6 => ?_)
      refine q_Sim.steps vc_207 2 (pc' := 75) (lv' := [(0, .inr (.inr (11, 0, 0))), (1, .inl x1), (2, .inl x2), (3, .inl x3), (4, .inl x4)]) (st' := [.inl 4, .inl x2]) (V' := q_V S_6) rfl ?_
      refine q_Sim.br vc_207 (c := x2 < 4) (t := 103) (f := 78) (lv' := [(0, .inr (.inr (11, 0, 0))), (1, .inl x1), (2, .inl x2), (3, .inl x3), (4, .inl x4)]) (st' := []) (V' := q_V S_6) rfl ?_ ?_
      · exact q_Sim.ret vc_207 rfl
      · refine q_Sim.steps vc_207 6 (pc' := 86) (lv' := [(0, .inr (.inr (11, 0, 0))), (1, .inl x1), (2, .inl x2), (3, .inl x3), (4, .inl x4)]) (st' := [.inl 6, .inl x1, .inr (.inr (11, 0, 0)), .inl 6, .inl x1, .inr (.inr (11, 0, 0))]) (V' := q_V S_6) rfl ?_
        refine q_Sim.call vc_207 (as := [.inr (.inr (11, 0, 0)), .inl x1, .inl 6]) (pc' := 89) (lv' := [(0, .inr (.inr (11, 0, 0))), (1, .inl x1), (2, .inl x2), (3, .inl x3), (4, .inl x4)]) (st' := [.inl 6, .inl x1, .inr (.inr (11, 0, 0))]) (S := S_6) rfl (rc_192 x1 6) (s_192 x1 6 S_6) (fun r_7 S_8 => ?_)
        refine q_Sim.steps vc_207 3 (pc' := 93) (lv' := [(0, .inr (.inr (11, 0, 0))), (1, .inl x1), (2, .inl x2), (3, .inl x3), (4, .inl x4)]) (st' := [.inl 6, .inl x1, .inr (.inr (11, 0, 0)), .inl r_7, .inl 6, .inl x1, .inr (.inr (11, 0, 0))]) (V' := q_V S_8) rfl ?_
        refine q_Sim.call vc_207 (as := [.inr (.inr (11, 0, 0)), .inl x1, .inl 6]) (pc' := 96) (lv' := [(0, .inr (.inr (11, 0, 0))), (1, .inl x1), (2, .inl x2), (3, .inl x3), (4, .inl x4)]) (st' := [.inl r_7, .inl 6, .inl x1, .inr (.inr (11, 0, 0))]) (S := S_8) rfl (rc_192 x1 6) (s_192 x1 6 S_8) (fun r_9 S_10 => ?_)
        refine q_Sim.steps vc_207 1 (pc' := 98) (lv' := [(0, .inr (.inr (11, 0, 0))), (1, .inl x1), (2, .inl x2), (3, .inl x3), (4, .inl x4)]) (st' := [.inl 10, .inl r_9, .inl r_7, .inl 6, .inl x1, .inr (.inr (11, 0, 0))]) (V' := q_V S_10) rfl ?_
        refine q_Sim.okd vc_207 (c := decide (¬ (10 : Int32) = 0)) (pc' := 99) (lv' := [(0, .inr (.inr (11, 0, 0))), (1, .inl x1), (2, .inl x2), (3, .inl x3), (4, .inl x4)]) (st' := [.inl (r_9 / 10), .inl r_7, .inl 6, .inl x1, .inr (.inr (11, 0, 0))]) (V' := q_V S_10) rfl (by decide) ?_
        refine q_Sim.steps vc_207 1 (pc' := 100) (lv' := [(0, .inr (.inr (11, 0, 0))), (1, .inl x1), (2, .inl x2), (3, .inl x3), (4, .inl x4)]) (st' := [.inl (r_7 - (r_9 / 10)), .inl 6, .inl x1, .inr (.inr (11, 0, 0))]) (V' := q_V S_10) rfl ?_
        refine q_Sim.call vc_207 (as := [.inr (.inr (11, 0, 0)), .inl x1, .inl 6, .inl (r_7 - (r_9 / 10))]) (pc' := 103) (lv' := [(0, .inr (.inr (11, 0, 0))), (1, .inl x1), (2, .inl x2), (3, .inl x3), (4, .inl x4)]) (st' := []) (S := S_10) rfl (rc_193 x1 6 (r_7 - (r_9 / 10))) (s_193 x1 6 (r_7 - (r_9 / 10)) S_10) (fun r_11 S_12 => ?_)
        exact q_Sim.ret vc_207 rfl
    · refine q_Sim.steps vc_207 2 (pc' := 50) (lv' := [(0, .inr (.inr (11, 0, 0))), (1, .inl x1), (2, .inl x2), (3, .inl x3), (4, .inl x4)]) (st' := [.inl 0, .inr (.inr (11, 0, 0))]) (V' := q_V S) rfl ?_
      refine q_Sim.call vc_207 (as := [.inr (.inr (11, 0, 0)), .inl 0]) (pc' := 53) (lv' := [(0, .inr (.inr (11, 0, 0))), (1, .inl x1), (2, .inl x2), (3, .inl x3), (4, .inl x4)]) (st' := []) (S := S) rfl (rc_205 0) (s_205 0 S) (fun r_13 S_14 => ?_)
      refine q_Sim.steps vc_207 2 (pc' := 42) (lv' := [(4, .inl (x4 + 1)), (0, .inr (.inr (11, 0, 0))), (1, .inl x1), (2, .inl x2), (3, .inl x3)]) (st' := []) (V' := q_V S_14) rfl ?_
      exact q_Sim.sub2 (lv' := [(0, .inr (.inr (11, 0, 0))), (1, .inl x1), (2, .inl x2), (3, .inl x3), (4, .inl (x4 + 1))]) [0, 1, 2, 3, 4] rfl (by decide) ⟨rfl, rfl, rfl, rfl, rfl, trivial⟩ (sb_207_42 n x1 x2 x3 (x4 + 1) S_14)
def b_207_38 (x1 : Int32) (x2 : Int32) (xs0 : Int32) (S : QS) : Option ((Unit) × QS) := b_207_42 q_N x1 x2 xs0 0 S
theorem sb_207_38 (x1 : Int32) (x2 : Int32) (xs0 : Int32) (S : QS) : q_Sim 207 38 [(0, .inr (.inr (11, 0, 0))), (1, .inl x1), (2, .inl x2)] [.inl xs0] (q_V S) q_U (b_207_38 x1 x2 xs0 S) := by
  unfold b_207_38
  refine q_Sim.steps vc_207 3 (pc' := 42) (lv' := [(4, .inl 0), (3, .inl xs0), (0, .inr (.inr (11, 0, 0))), (1, .inl x1), (2, .inl x2)]) (st' := []) (V' := q_V S) rfl ?_
  exact q_Sim.sub2 (lv' := [(0, .inr (.inr (11, 0, 0))), (1, .inl x1), (2, .inl x2), (3, .inl xs0), (4, .inl 0)]) [0, 1, 2, 3, 4] rfl (by decide) ⟨rfl, rfl, rfl, rfl, rfl, trivial⟩ (sb_207_42 q_N x1 x2 xs0 0 S)
def b_207_28 (x1 : Int32) (x2 : Int32) (S : QS) : Option ((Unit) × QS) := if ¬ x2 = 1 then (b_207_38 x1 x2 1 S) else (b_207_38 x1 x2 2 S)
theorem sb_207_28 (x1 : Int32) (x2 : Int32) (S : QS) : q_Sim 207 28 [(0, .inr (.inr (11, 0, 0))), (1, .inl x1), (2, .inl x2)] [] (q_V S) q_U (b_207_28 x1 x2 S) := by
  unfold b_207_28
  refine q_Sim.steps vc_207 2 (pc' := 30) (lv' := [(0, .inr (.inr (11, 0, 0))), (1, .inl x1), (2, .inl x2)]) (st' := [.inl 1, .inl x2]) (V' := q_V S) rfl ?_
  refine q_Sim.br vc_207 (c := ¬ x2 = 1) (t := 37) (f := 33) (lv' := [(0, .inr (.inr (11, 0, 0))), (1, .inl x1), (2, .inl x2)]) (st' := []) (V' := q_V S) rfl ?_ ?_
  · refine q_Sim.steps vc_207 1 (pc' := 38) (lv' := [(0, .inr (.inr (11, 0, 0))), (1, .inl x1), (2, .inl x2)]) (st' := [.inl 1]) (V' := q_V S) rfl ?_
    exact q_Sim.sub2 (lv' := [(0, .inr (.inr (11, 0, 0))), (1, .inl x1), (2, .inl x2)]) [0, 1, 2] rfl (by decide) ⟨rfl, rfl, rfl, trivial⟩ (sb_207_38 x1 x2 1 S)
  · refine q_Sim.steps vc_207 2 (pc' := 38) (lv' := [(0, .inr (.inr (11, 0, 0))), (1, .inl x1), (2, .inl x2)]) (st' := [.inl 2]) (V' := q_V S) rfl ?_
    exact q_Sim.sub2 (lv' := [(0, .inr (.inr (11, 0, 0))), (1, .inl x1), (2, .inl x2)]) [0, 1, 2] rfl (by decide) ⟨rfl, rfl, rfl, trivial⟩ (sb_207_38 x1 x2 2 S)
def b_207_17 (x1 : Int32) (x2 : Int32) (S : QS) : Option ((Unit) × QS) := if x2 < 4 then (b_207_28 x1 x2 S) else (q_bd (f_205 9 S) (fun r_15 S_16 => b_207_28 x1 x2 S_16))
theorem sb_207_17 (x1 : Int32) (x2 : Int32) (S : QS) : q_Sim 207 17 [(0, .inr (.inr (11, 0, 0))), (1, .inl x1), (2, .inl x2)] [] (q_V S) q_U (b_207_17 x1 x2 S) := by
  unfold b_207_17
  refine q_Sim.steps vc_207 2 (pc' := 19) (lv' := [(0, .inr (.inr (11, 0, 0))), (1, .inl x1), (2, .inl x2)]) (st' := [.inl 4, .inl x2]) (V' := q_V S) rfl ?_
  refine q_Sim.br vc_207 (c := x2 < 4) (t := 28) (f := 22) (lv' := [(0, .inr (.inr (11, 0, 0))), (1, .inl x1), (2, .inl x2)]) (st' := []) (V' := q_V S) rfl ?_ ?_
  · exact q_Sim.sub2 (lv' := [(0, .inr (.inr (11, 0, 0))), (1, .inl x1), (2, .inl x2)]) [0, 1, 2] rfl (by decide) ⟨rfl, rfl, rfl, trivial⟩ (sb_207_28 x1 x2 S)
  · refine q_Sim.steps vc_207 2 (pc' := 25) (lv' := [(0, .inr (.inr (11, 0, 0))), (1, .inl x1), (2, .inl x2)]) (st' := [.inl 9, .inr (.inr (11, 0, 0))]) (V' := q_V S) rfl ?_
    refine q_Sim.call vc_207 (as := [.inr (.inr (11, 0, 0)), .inl 9]) (pc' := 28) (lv' := [(0, .inr (.inr (11, 0, 0))), (1, .inl x1), (2, .inl x2)]) (st' := []) (S := S) rfl (rc_205 9) (s_205 9 S) (fun r_15 S_16 => ?_)
    exact q_Sim.sub2 (lv' := [(0, .inr (.inr (11, 0, 0))), (1, .inl x1), (2, .inl x2)]) [0, 1, 2] rfl (by decide) ⟨rfl, rfl, rfl, trivial⟩ (sb_207_28 x1 x2 S_16)
def f_207 (x1 : Int32) (S : QS) : Option ((Unit) × QS) := q_bd (f_192 x1 0 S) (fun r_1 S_2 => if ¬ r_1 = 1 then (b_207_17 x1 r_1 S_2) else (q_bd (f_205 5 S_2) (fun r_17 S_18 => b_207_17 x1 r_1 S_18)))
theorem s_207 (x1 : Int32) (S : QS) : q_Sim 207 0 [(0, .inr (.inr (11, 0, 0))), (1, .inl x1)] [] (q_V S) q_U (f_207 x1 S) := by
  unfold f_207
  refine q_Sim.steps vc_207 3 (pc' := 3) (lv' := [(0, .inr (.inr (11, 0, 0))), (1, .inl x1)]) (st' := [.inl 0, .inl x1, .inr (.inr (11, 0, 0))]) (V' := q_V S) rfl ?_
  refine q_Sim.call vc_207 (as := [.inr (.inr (11, 0, 0)), .inl x1, .inl 0]) (pc' := 6) (lv' := [(0, .inr (.inr (11, 0, 0))), (1, .inl x1)]) (st' := []) (S := S) rfl (rc_192 x1 0) (s_192 x1 0 S) (fun r_1 S_2 => ?_)
  refine q_Sim.steps vc_207 3 (pc' := 9) (lv' := [(2, .inl r_1), (0, .inr (.inr (11, 0, 0))), (1, .inl x1)]) (st' := [.inl 1, .inl r_1]) (V' := q_V S_2) rfl ?_
  refine q_Sim.br vc_207 (c := ¬ r_1 = 1) (t := 17) (f := 12) (lv' := [(2, .inl r_1), (0, .inr (.inr (11, 0, 0))), (1, .inl x1)]) (st' := []) (V' := q_V S_2) rfl ?_ ?_
  · exact q_Sim.sub2 (lv' := [(0, .inr (.inr (11, 0, 0))), (1, .inl x1), (2, .inl r_1)]) [0, 1, 2] rfl (by decide) ⟨rfl, rfl, rfl, trivial⟩ (sb_207_17 x1 r_1 S_2)
  · refine q_Sim.steps vc_207 2 (pc' := 14) (lv' := [(2, .inl r_1), (0, .inr (.inr (11, 0, 0))), (1, .inl x1)]) (st' := [.inl 5, .inr (.inr (11, 0, 0))]) (V' := q_V S_2) rfl ?_
    refine q_Sim.call vc_207 (as := [.inr (.inr (11, 0, 0)), .inl 5]) (pc' := 17) (lv' := [(2, .inl r_1), (0, .inr (.inr (11, 0, 0))), (1, .inl x1)]) (st' := []) (S := S_2) rfl (rc_205 5) (s_205 5 S_2) (fun r_17 S_18 => ?_)
    exact q_Sim.sub2 (lv' := [(0, .inr (.inr (11, 0, 0))), (1, .inl x1), (2, .inl r_1)]) [0, 1, 2] rfl (by decide) ⟨rfl, rfl, rfl, trivial⟩ (sb_207_17 x1 r_1 S_18)
theorem vc_208 : v_code 208 = k_208 := rfl
theorem rc_208 (x1 : Int32) : v_rcv 208 [.inr (.inr (11, 0, 0)), .inl x1] = true := rfl
def b_208_49 (x2 : Int32) (xs0 : Int32) (S : QS) : Option ((Int32) × QS) := if ¬ x2 = 5 then (some (xs0, S)) else (if xs0 ≤ 1000 then (some (xs0, S)) else (some (1000, S)))
theorem sb_208_49 (x2 : Int32) (xs0 : Int32) (S : QS) : q_Sim 208 49 [(2, .inl x2)] [.inl xs0] (q_V S) q_I (b_208_49 x2 xs0 S) := by
  unfold b_208_49
  refine q_Sim.steps vc_208 3 (pc' := 52) (lv' := [(3, .inl xs0), (2, .inl x2)]) (st' := [.inl 5, .inl x2]) (V' := q_V S) rfl ?_
  refine q_Sim.br vc_208 (c := ¬ x2 = 5) (t := 68) (f := 55) (lv' := [(3, .inl xs0), (2, .inl x2)]) (st' := []) (V' := q_V S) rfl ?_ ?_
  · refine q_Sim.steps vc_208 1 (pc' := 69) (lv' := [(3, .inl xs0), (2, .inl x2)]) (st' := [.inl xs0]) (V' := q_V S) rfl ?_
    exact q_Sim.ret vc_208 rfl
  · refine q_Sim.steps vc_208 2 (pc' := 59) (lv' := [(3, .inl xs0), (2, .inl x2)]) (st' := [.inl 1000, .inl xs0]) (V' := q_V S) rfl ?_
    refine q_Sim.br vc_208 (c := xs0 ≤ 1000) (t := 68) (f := 62) (lv' := [(3, .inl xs0), (2, .inl x2)]) (st' := []) (V' := q_V S) rfl ?_ ?_
    · refine q_Sim.steps vc_208 1 (pc' := 69) (lv' := [(3, .inl xs0), (2, .inl x2)]) (st' := [.inl xs0]) (V' := q_V S) rfl ?_
      exact q_Sim.ret vc_208 rfl
    · refine q_Sim.steps vc_208 2 (pc' := 69) (lv' := [(3, .inl xs0), (2, .inl x2)]) (st' := [.inl 1000]) (V' := q_V S) rfl ?_
      exact q_Sim.ret vc_208 rfl
def b_208_30 (x1 : Int32) (x2 : Int32) (xs1 : Int32) (S : QS) : Option ((Int32) × QS) := q_bd (f_205 xs1 S) (fun r_3 S_4 => if x2 < 4 then (b_208_49 x2 0 S_4) else (q_bd (f_192 x1 6 S_4) (fun r_5 S_6 => b_208_49 x2 r_5 S_6)))
theorem sb_208_30 (x1 : Int32) (x2 : Int32) (xs1 : Int32) (S : QS) : q_Sim 208 30 [(0, .inr (.inr (11, 0, 0))), (1, .inl x1), (2, .inl x2)] [.inl xs1, .inr (.inr (11, 0, 0))] (q_V S) q_I (b_208_30 x1 x2 xs1 S) := by
  unfold b_208_30
  refine q_Sim.call vc_208 (as := [.inr (.inr (11, 0, 0)), .inl xs1]) (pc' := 33) (lv' := [(0, .inr (.inr (11, 0, 0))), (1, .inl x1), (2, .inl x2)]) (st' := []) (S := S) rfl (rc_205 xs1) (s_205 xs1 S) (fun r_3 S_4 => ?_)
  refine q_Sim.steps vc_208 2 (pc' := 35) (lv' := [(0, .inr (.inr (11, 0, 0))), (1, .inl x1), (2, .inl x2)]) (st' := [.inl 4, .inl x2]) (V' := q_V S_4) rfl ?_
  refine q_Sim.br vc_208 (c := x2 < 4) (t := 48) (f := 38) (lv' := [(0, .inr (.inr (11, 0, 0))), (1, .inl x1), (2, .inl x2)]) (st' := []) (V' := q_V S_4) rfl ?_ ?_
  · refine q_Sim.steps vc_208 1 (pc' := 49) (lv' := [(0, .inr (.inr (11, 0, 0))), (1, .inl x1), (2, .inl x2)]) (st' := [.inl 0]) (V' := q_V S_4) rfl ?_
    exact q_Sim.sub2 (lv' := [(2, .inl x2)]) [2] rfl (by decide) ⟨rfl, trivial⟩ (sb_208_49 x2 0 S_4)
  · refine q_Sim.steps vc_208 3 (pc' := 42) (lv' := [(0, .inr (.inr (11, 0, 0))), (1, .inl x1), (2, .inl x2)]) (st' := [.inl 6, .inl x1, .inr (.inr (11, 0, 0))]) (V' := q_V S_4) rfl ?_
    refine q_Sim.call vc_208 (as := [.inr (.inr (11, 0, 0)), .inl x1, .inl 6]) (pc' := 45) (lv' := [(0, .inr (.inr (11, 0, 0))), (1, .inl x1), (2, .inl x2)]) (st' := []) (S := S_4) rfl (rc_192 x1 6) (s_192 x1 6 S_4) (fun r_5 S_6 => ?_)
    refine q_Sim.steps vc_208 1 (pc' := 49) (lv' := [(0, .inr (.inr (11, 0, 0))), (1, .inl x1), (2, .inl x2)]) (st' := [.inl r_5]) (V' := q_V S_6) rfl ?_
    exact q_Sim.sub2 (lv' := [(2, .inl x2)]) [2] rfl (by decide) ⟨rfl, trivial⟩ (sb_208_49 x2 r_5 S_6)
def b_208_18 (x1 : Int32) (x2 : Int32) (S : QS) : Option ((Int32) × QS) := if x2 < 4 then (b_208_30 x1 x2 2 S) else (b_208_30 x1 x2 10 S)
theorem sb_208_18 (x1 : Int32) (x2 : Int32) (S : QS) : q_Sim 208 18 [(0, .inr (.inr (11, 0, 0))), (1, .inl x1), (2, .inl x2)] [] (q_V S) q_I (b_208_18 x1 x2 S) := by
  unfold b_208_18
  refine q_Sim.steps vc_208 3 (pc' := 21) (lv' := [(0, .inr (.inr (11, 0, 0))), (1, .inl x1), (2, .inl x2)]) (st' := [.inl 4, .inl x2, .inr (.inr (11, 0, 0))]) (V' := q_V S) rfl ?_
  refine q_Sim.br vc_208 (c := x2 < 4) (t := 29) (f := 24) (lv' := [(0, .inr (.inr (11, 0, 0))), (1, .inl x1), (2, .inl x2)]) (st' := [.inr (.inr (11, 0, 0))]) (V' := q_V S) rfl ?_ ?_
  · refine q_Sim.steps vc_208 1 (pc' := 30) (lv' := [(0, .inr (.inr (11, 0, 0))), (1, .inl x1), (2, .inl x2)]) (st' := [.inl 2, .inr (.inr (11, 0, 0))]) (V' := q_V S) rfl ?_
    exact q_Sim.sub2 (lv' := [(0, .inr (.inr (11, 0, 0))), (1, .inl x1), (2, .inl x2)]) [0, 1, 2] rfl (by decide) ⟨rfl, rfl, rfl, trivial⟩ (sb_208_30 x1 x2 2 S)
  · refine q_Sim.steps vc_208 2 (pc' := 30) (lv' := [(0, .inr (.inr (11, 0, 0))), (1, .inl x1), (2, .inl x2)]) (st' := [.inl 10, .inr (.inr (11, 0, 0))]) (V' := q_V S) rfl ?_
    exact q_Sim.sub2 (lv' := [(0, .inr (.inr (11, 0, 0))), (1, .inl x1), (2, .inl x2)]) [0, 1, 2] rfl (by decide) ⟨rfl, rfl, rfl, trivial⟩ (sb_208_30 x1 x2 10 S)
def f_208 (x1 : Int32) (S : QS) : Option ((Int32) × QS) := q_bd (f_192 x1 0 S) (fun r_1 S_2 => if ¬ r_1 = 5 then (b_208_18 x1 r_1 S_2) else (q_bd (f_205 12 S_2) (fun r_7 S_8 => b_208_18 x1 r_1 S_8)))
theorem s_208 (x1 : Int32) (S : QS) : q_Sim 208 0 [(0, .inr (.inr (11, 0, 0))), (1, .inl x1)] [] (q_V S) q_I (f_208 x1 S) := by
  unfold f_208
  refine q_Sim.steps vc_208 3 (pc' := 3) (lv' := [(0, .inr (.inr (11, 0, 0))), (1, .inl x1)]) (st' := [.inl 0, .inl x1, .inr (.inr (11, 0, 0))]) (V' := q_V S) rfl ?_
  refine q_Sim.call vc_208 (as := [.inr (.inr (11, 0, 0)), .inl x1, .inl 0]) (pc' := 6) (lv' := [(0, .inr (.inr (11, 0, 0))), (1, .inl x1)]) (st' := []) (S := S) rfl (rc_192 x1 0) (s_192 x1 0 S) (fun r_1 S_2 => ?_)
  refine q_Sim.steps vc_208 3 (pc' := 9) (lv' := [(2, .inl r_1), (0, .inr (.inr (11, 0, 0))), (1, .inl x1)]) (st' := [.inl 5, .inl r_1]) (V' := q_V S_2) rfl ?_
  refine q_Sim.br vc_208 (c := ¬ r_1 = 5) (t := 18) (f := 12) (lv' := [(2, .inl r_1), (0, .inr (.inr (11, 0, 0))), (1, .inl x1)]) (st' := []) (V' := q_V S_2) rfl ?_ ?_
  · exact q_Sim.sub2 (lv' := [(0, .inr (.inr (11, 0, 0))), (1, .inl x1), (2, .inl r_1)]) [0, 1, 2] rfl (by decide) ⟨rfl, rfl, rfl, trivial⟩ (sb_208_18 x1 r_1 S_2)
  · refine q_Sim.steps vc_208 2 (pc' := 15) (lv' := [(2, .inl r_1), (0, .inr (.inr (11, 0, 0))), (1, .inl x1)]) (st' := [.inl 12, .inr (.inr (11, 0, 0))]) (V' := q_V S_2) rfl ?_
    refine q_Sim.call vc_208 (as := [.inr (.inr (11, 0, 0)), .inl 12]) (pc' := 18) (lv' := [(2, .inl r_1), (0, .inr (.inr (11, 0, 0))), (1, .inl x1)]) (st' := []) (S := S_2) rfl (rc_205 12) (s_205 12 S_2) (fun r_7 S_8 => ?_)
    exact q_Sim.sub2 (lv' := [(0, .inr (.inr (11, 0, 0))), (1, .inl x1), (2, .inl r_1)]) [0, 1, 2] rfl (by decide) ⟨rfl, rfl, rfl, trivial⟩ (sb_208_18 x1 r_1 S_8)
theorem vc_209 : v_code 209 = k_209 := rfl
theorem rc_209 (x1 : Int32) : v_rcv 209 [.inr (.inr (11, 0, 0)), .inl x1] = true := rfl
def b_209_52 (x1 : Int32) (x2 : Int32) (x3 : Int32) (S : QS) : Option ((Int32) × QS) := q_bd (f_205 4 S) (fun r_5 S_6 => q_bd (f_192 x1 4 S_6) (fun r_7 S_8 => q_let ((5 + r_7) - (x3 / 100)) (fun y_9 => if ¬ x2 = 0 then (if 0 ≤ y_9 then (some (y_9, S_8)) else (some (0, S_8))) else (some (5, S_8)))))
theorem sb_209_52 (x1 : Int32) (x2 : Int32) (x3 : Int32) (S : QS) : q_Sim 209 52 [(0, .inr (.inr (11, 0, 0))), (1, .inl x1), (2, .inl x2), (3, .inl x3)] [] (q_V S) q_I (b_209_52 x1 x2 x3 S) := by
  unfold b_209_52
  refine q_Sim.steps vc_209 2 (pc' := 54) (lv' := [(0, .inr (.inr (11, 0, 0))), (1, .inl x1), (2, .inl x2), (3, .inl x3)]) (st' := [.inl 4, .inr (.inr (11, 0, 0))]) (V' := q_V S) rfl ?_
  refine q_Sim.call vc_209 (as := [.inr (.inr (11, 0, 0)), .inl 4]) (pc' := 57) (lv' := [(0, .inr (.inr (11, 0, 0))), (1, .inl x1), (2, .inl x2), (3, .inl x3)]) (st' := []) (S := S) rfl (rc_205 4) (s_205 4 S) (fun r_5 S_6 => ?_)
  refine q_Sim.steps vc_209 4 (pc' := 61) (lv' := [(0, .inr (.inr (11, 0, 0))), (1, .inl x1), (2, .inl x2), (3, .inl x3)]) (st' := [.inl 4, .inl x1, .inr (.inr (11, 0, 0)), .inl 5]) (V' := q_V S_6) rfl ?_
  refine q_Sim.call vc_209 (as := [.inr (.inr (11, 0, 0)), .inl x1, .inl 4]) (pc' := 64) (lv' := [(0, .inr (.inr (11, 0, 0))), (1, .inl x1), (2, .inl x2), (3, .inl x3)]) (st' := [.inl 5]) (S := S_6) rfl (rc_192 x1 4) (s_192 x1 4 S_6) (fun r_7 S_8 => ?_)
  refine q_Sim.steps vc_209 3 (pc' := 68) (lv' := [(0, .inr (.inr (11, 0, 0))), (1, .inl x1), (2, .inl x2), (3, .inl x3)]) (st' := [.inl 100, .inl x3, .inl (5 + r_7)]) (V' := q_V S_8) rfl ?_
  refine q_Sim.okd vc_209 (c := decide (¬ (100 : Int32) = 0)) (pc' := 69) (lv' := [(0, .inr (.inr (11, 0, 0))), (1, .inl x1), (2, .inl x2), (3, .inl x3)]) (st' := [.inl (x3 / 100), .inl (5 + r_7)]) (V' := q_V S_8) rfl (by decide) ?_
  refine q_Sim.steps vc_209 1 (pc' := 70) (lv' := [(0, .inr (.inr (11, 0, 0))), (1, .inl x1), (2, .inl x2), (3, .inl x3)]) (st' := [.inl ((5 + r_7) - (x3 / 100))]) (V' := q_V S_8) rfl ?_
  refine q_Sim.letI (fun y_9 => ?_)
  refine q_Sim.steps vc_209 2 (pc' := 73) (lv' := [(4, .inl y_9), (0, .inr (.inr (11, 0, 0))), (1, .inl x1), (2, .inl x2), (3, .inl x3)]) (st' := [.inl x2]) (V' := q_V S_8) rfl ?_
  refine q_Sim.br vc_209 (c := ¬ x2 = 0) (t := 80) (f := 76) (lv' := [(4, .inl y_9), (0, .inr (.inr (11, 0, 0))), (1, .inl x1), (2, .inl x2), (3, .inl x3)]) (st' := []) (V' := q_V S_8) rfl ?_ ?_
  · refine q_Sim.steps vc_209 1 (pc' := 82) (lv' := [(4, .inl y_9), (0, .inr (.inr (11, 0, 0))), (1, .inl x1), (2, .inl x2), (3, .inl x3)]) (st' := [.inl y_9]) (V' := q_V S_8) rfl ?_
    refine q_Sim.br vc_209 (c := 0 ≤ y_9) (t := 89) (f := 85) (lv' := [(4, .inl y_9), (0, .inr (.inr (11, 0, 0))), (1, .inl x1), (2, .inl x2), (3, .inl x3)]) (st' := []) (V' := q_V S_8) rfl ?_ ?_
    · refine q_Sim.steps vc_209 1 (pc' := 91) (lv' := [(4, .inl y_9), (0, .inr (.inr (11, 0, 0))), (1, .inl x1), (2, .inl x2), (3, .inl x3)]) (st' := [.inl y_9]) (V' := q_V S_8) rfl ?_
      exact q_Sim.ret vc_209 rfl
    · refine q_Sim.steps vc_209 2 (pc' := 91) (lv' := [(4, .inl y_9), (0, .inr (.inr (11, 0, 0))), (1, .inl x1), (2, .inl x2), (3, .inl x3)]) (st' := [.inl 0]) (V' := q_V S_8) rfl ?_
      exact q_Sim.ret vc_209 rfl
  · refine q_Sim.steps vc_209 2 (pc' := 91) (lv' := [(4, .inl y_9), (0, .inr (.inr (11, 0, 0))), (1, .inl x1), (2, .inl x2), (3, .inl x3)]) (st' := [.inl 5]) (V' := q_V S_8) rfl ?_
    exact q_Sim.ret vc_209 rfl
def f_209 (x1 : Int32) (S : QS) : Option ((Int32) × QS) := q_bd (f_192 x1 0 S) (fun r_1 S_2 => q_bd (f_192 x1 1 S_2) (fun r_3 S_4 => if ¬ r_1 = 1 then (if ¬ r_1 = 2 then (b_209_52 x1 r_1 r_3 S_4) else (q_bd (f_205 7 S_4) (fun r_10 S_11 => b_209_52 x1 r_1 r_3 S_11))) else (q_bd (f_205 6 S_4) (fun r_12 S_13 => if 30 < r_3 then (q_bd (f_205 4 S_13) (fun r_14 S_15 => some ((-5), S_15))) else (some (0, S_13))))))
theorem s_209 (x1 : Int32) (S : QS) : q_Sim 209 0 [(0, .inr (.inr (11, 0, 0))), (1, .inl x1)] [] (q_V S) q_I (f_209 x1 S) := by
  unfold f_209
  refine q_Sim.steps vc_209 3 (pc' := 3) (lv' := [(0, .inr (.inr (11, 0, 0))), (1, .inl x1)]) (st' := [.inl 0, .inl x1, .inr (.inr (11, 0, 0))]) (V' := q_V S) rfl ?_
  refine q_Sim.call vc_209 (as := [.inr (.inr (11, 0, 0)), .inl x1, .inl 0]) (pc' := 6) (lv' := [(0, .inr (.inr (11, 0, 0))), (1, .inl x1)]) (st' := []) (S := S) rfl (rc_192 x1 0) (s_192 x1 0 S) (fun r_1 S_2 => ?_)
  refine q_Sim.steps vc_209 4 (pc' := 10) (lv' := [(2, .inl r_1), (0, .inr (.inr (11, 0, 0))), (1, .inl x1)]) (st' := [.inl 1, .inl x1, .inr (.inr (11, 0, 0))]) (V' := q_V S_2) rfl ?_
  refine q_Sim.call vc_209 (as := [.inr (.inr (11, 0, 0)), .inl x1, .inl 1]) (pc' := 13) (lv' := [(2, .inl r_1), (0, .inr (.inr (11, 0, 0))), (1, .inl x1)]) (st' := []) (S := S_2) rfl (rc_192 x1 1) (s_192 x1 1 S_2) (fun r_3 S_4 => ?_)
  refine q_Sim.steps vc_209 3 (pc' := 16) (lv' := [(3, .inl r_3), (2, .inl r_1), (0, .inr (.inr (11, 0, 0))), (1, .inl x1)]) (st' := [.inl 1, .inl r_1]) (V' := q_V S_4) rfl ?_
  refine q_Sim.br vc_209 (c := ¬ r_1 = 1) (t := 41) (f := 19) (lv' := [(3, .inl r_3), (2, .inl r_1), (0, .inr (.inr (11, 0, 0))), (1, .inl x1)]) (st' := []) (V' := q_V S_4) rfl ?_ ?_
  · refine q_Sim.steps vc_209 2 (pc' := 43) (lv' := [(3, .inl r_3), (2, .inl r_1), (0, .inr (.inr (11, 0, 0))), (1, .inl x1)]) (st' := [.inl 2, .inl r_1]) (V' := q_V S_4) rfl ?_
    refine q_Sim.br vc_209 (c := ¬ r_1 = 2) (t := 52) (f := 46) (lv' := [(3, .inl r_3), (2, .inl r_1), (0, .inr (.inr (11, 0, 0))), (1, .inl x1)]) (st' := []) (V' := q_V S_4) rfl ?_ ?_
    · exact q_Sim.sub2 (lv' := [(0, .inr (.inr (11, 0, 0))), (1, .inl x1), (2, .inl r_1), (3, .inl r_3)]) [0, 1, 2, 3] rfl (by decide) ⟨rfl, rfl, rfl, rfl, trivial⟩ (sb_209_52 x1 r_1 r_3 S_4)
    · refine q_Sim.steps vc_209 2 (pc' := 49) (lv' := [(3, .inl r_3), (2, .inl r_1), (0, .inr (.inr (11, 0, 0))), (1, .inl x1)]) (st' := [.inl 7, .inr (.inr (11, 0, 0))]) (V' := q_V S_4) rfl ?_
      refine q_Sim.call vc_209 (as := [.inr (.inr (11, 0, 0)), .inl 7]) (pc' := 52) (lv' := [(3, .inl r_3), (2, .inl r_1), (0, .inr (.inr (11, 0, 0))), (1, .inl x1)]) (st' := []) (S := S_4) rfl (rc_205 7) (s_205 7 S_4) (fun r_10 S_11 => ?_)
      exact q_Sim.sub2 (lv' := [(0, .inr (.inr (11, 0, 0))), (1, .inl x1), (2, .inl r_1), (3, .inl r_3)]) [0, 1, 2, 3] rfl (by decide) ⟨rfl, rfl, rfl, rfl, trivial⟩ (sb_209_52 x1 r_1 r_3 S_11)
  · refine q_Sim.steps vc_209 2 (pc' := 22) (lv' := [(3, .inl r_3), (2, .inl r_1), (0, .inr (.inr (11, 0, 0))), (1, .inl x1)]) (st' := [.inl 6, .inr (.inr (11, 0, 0))]) (V' := q_V S_4) rfl ?_
    refine q_Sim.call vc_209 (as := [.inr (.inr (11, 0, 0)), .inl 6]) (pc' := 25) (lv' := [(3, .inl r_3), (2, .inl r_1), (0, .inr (.inr (11, 0, 0))), (1, .inl x1)]) (st' := []) (S := S_4) rfl (rc_205 6) (s_205 6 S_4) (fun r_12 S_13 => ?_)
    refine q_Sim.steps vc_209 2 (pc' := 28) (lv' := [(3, .inl r_3), (2, .inl r_1), (0, .inr (.inr (11, 0, 0))), (1, .inl x1)]) (st' := [.inl 30, .inl r_3]) (V' := q_V S_13) rfl ?_
    refine q_Sim.br vc_209 (c := 30 < r_3) (t := 33) (f := 31) (lv' := [(3, .inl r_3), (2, .inl r_1), (0, .inr (.inr (11, 0, 0))), (1, .inl x1)]) (st' := []) (V' := q_V S_13) rfl ?_ ?_
    · refine q_Sim.steps vc_209 2 (pc' := 35) (lv' := [(3, .inl r_3), (2, .inl r_1), (0, .inr (.inr (11, 0, 0))), (1, .inl x1)]) (st' := [.inl 4, .inr (.inr (11, 0, 0))]) (V' := q_V S_13) rfl ?_
      refine q_Sim.call vc_209 (as := [.inr (.inr (11, 0, 0)), .inl 4]) (pc' := 38) (lv' := [(3, .inl r_3), (2, .inl r_1), (0, .inr (.inr (11, 0, 0))), (1, .inl x1)]) (st' := []) (S := S_13) rfl (rc_205 4) (s_205 4 S_13) (fun r_14 S_15 => ?_)
      refine q_Sim.steps vc_209 1 (pc' := 40) (lv' := [(3, .inl r_3), (2, .inl r_1), (0, .inr (.inr (11, 0, 0))), (1, .inl x1)]) (st' := [.inl (-5)]) (V' := q_V S_15) rfl ?_
      exact q_Sim.ret vc_209 rfl
    · refine q_Sim.steps vc_209 1 (pc' := 32) (lv' := [(3, .inl r_3), (2, .inl r_1), (0, .inr (.inr (11, 0, 0))), (1, .inl x1)]) (st' := [.inl 0]) (V' := q_V S_13) rfl ?_
      exact q_Sim.ret vc_209 rfl
theorem vc_210 : v_code 210 = k_210 := rfl
theorem rc_210 (x1 : Int32) : v_rcv 210 [.inr (.inr (11, 0, 0)), .inl x1] = true := rfl
def b_210_22  (S : QS) : Option ((Int32) × QS) := q_bd (f_186 6 S) (fun r_3 S_4 => some (r_3, S_4))
theorem sb_210_22  (S : QS) : q_Sim 210 22 [(0, .inr (.inr (11, 0, 0)))] [] (q_V S) q_I (b_210_22  S) := by
  unfold b_210_22
  refine q_Sim.steps vc_210 2 (pc' := 25) (lv' := [(0, .inr (.inr (11, 0, 0)))]) (st' := [.inl 6, .inr (.inr (11, 0, 0))]) (V' := q_V S) rfl ?_
  refine q_Sim.call vc_210 (as := [.inr (.inr (11, 0, 0)), .inl 6]) (pc' := 28) (lv' := [(0, .inr (.inr (11, 0, 0)))]) (st' := []) (S := S) rfl (rc_186 6) (s_186 6 S) (fun r_3 S_4 => ?_)
  exact q_Sim.ret vc_210 rfl
def b_210_42 : Nat → Int32 → Int32 → Int32 → QS → Option ((Int32) × QS)
  | 0, _, _, _, _ => none
  | n + 1, x1, x2, x3, S => if 11 ≤ x3 then (q_bd (f_191 x2 0 x1 S) (fun r_9 S_10 => q_bd (f_191 x2 3 (-1) S_10) (fun r_11 S_12 => q_ck (v_in 0 19520) (q_let (S_12.1 (40, 0, 0) (0 : Int32).toNatClampNeg) (fun y_13 => q_ck (v_in 0 19520) (q_let (q_set S_12 (40, 0, 0) (0 : Int32).toNatClampNeg (y_13 + 1)) (fun S_14 => q_bd (f_187 x2 S_14) (fun r_15 S_16 => some (r_15, S_16))))))))) else (q_bd (f_191 x2 x3 0 S) (fun r_17 S_18 => b_210_42 n x1 x2 (x3 + 1) S_18))
theorem sb_210_42 : ∀ (n : Nat) (x1 : Int32) (x2 : Int32) (x3 : Int32) (S : QS), q_Sim 210 42 [(0, .inr (.inr (11, 0, 0))), (1, .inl x1), (2, .inl x2), (3, .inl x3)] [] (q_V S) q_I (b_210_42 n x1 x2 x3 S)
  | 0, _, _, _, _ => q_Sim.none
  | n + 1, x1, x2, x3, S => by
    rw [b_210_42]
    refine q_Sim.steps vc_210 2 (pc' := 45) (lv' := [(0, .inr (.inr (11, 0, 0))), (1, .inl x1), (2, .inl x2), (3, .inl x3)]) (st' := [.inl 11, .inl x3]) (V' := q_V S) rfl ?_
    refine q_Sim.br vc_210 (c := 11 ≤ x3) (t := 61) (f := 48) (lv' := [(0, .inr (.inr (11, 0, 0))), (1, .inl x1), (2, .inl x2), (3, .inl x3)]) (st' := []) (V' := q_V S) rfl ?_ ?_
    · refine q_Sim.steps vc_210 4 (pc' := 65) (lv' := [(0, .inr (.inr (11, 0, 0))), (1, .inl x1), (2, .inl x2), (3, .inl x3)]) (st' := [.inl x1, .inl 0, .inl x2, .inr (.inr (11, 0, 0))]) (V' := q_V S) rfl ?_
      refine q_Sim.call vc_210 (as := [.inr (.inr (11, 0, 0)), .inl x2, .inl 0, .inl x1]) (pc' := 68) (lv' := [(0, .inr (.inr (11, 0, 0))), (1, .inl x1), (2, .inl x2), (3, .inl x3)]) (st' := []) (S := S) rfl (rc_191 x2 0 x1) (s_191 x2 0 x1 S) (fun r_9 S_10 => ?_)
      refine q_Sim.steps vc_210 4 (pc' := 72) (lv' := [(0, .inr (.inr (11, 0, 0))), (1, .inl x1), (2, .inl x2), (3, .inl x3)]) (st' := [.inl (-1), .inl 3, .inl x2, .inr (.inr (11, 0, 0))]) (V' := q_V S_10) rfl ?_
      refine q_Sim.call vc_210 (as := [.inr (.inr (11, 0, 0)), .inl x2, .inl 3, .inl (-1)]) (pc' := 75) (lv' := [(0, .inr (.inr (11, 0, 0))), (1, .inl x1), (2, .inl x2), (3, .inl x3)]) (st' := []) (S := S_10) rfl (rc_191 x2 3 (-1)) (s_191 x2 3 (-1) S_10) (fun r_11 S_12 => ?_)
      refine q_Sim.steps vc_210 4 (pc' := 81) (lv' := [(0, .inr (.inr (11, 0, 0))), (1, .inl x1), (2, .inl x2), (3, .inl x3)]) (st' := [.inl 0, .inr (.inr (40, 0, 0)), .inl 0, .inr (.inr (40, 0, 0))]) (V' := q_V S_12) rfl ?_
      refine q_Sim.ck vc_210 (c := v_in 0 19520) (pc' := 82) (lv' := [(0, .inr (.inr (11, 0, 0))), (1, .inl x1), (2, .inl x2), (3, .inl x3)]) (st' := [.inl (S_12.1 (40, 0, 0) (0 : Int32).toNatClampNeg), .inl 0, .inr (.inr (40, 0, 0))]) (V' := q_V S_12) rfl ?_
      refine q_Sim.letI (fun y_13 => ?_)
      refine q_Sim.steps vc_210 2 (pc' := 84) (lv' := [(0, .inr (.inr (11, 0, 0))), (1, .inl x1), (2, .inl x2), (3, .inl x3)]) (st' := [.inl (y_13 + 1), .inl 0, .inr (.inr (40, 0, 0))]) (V' := q_V S_12) rfl ?_
      refine q_Sim.ck vc_210 (c := v_in 0 19520) (pc' := 85) (lv' := [(0, .inr (.inr (11, 0, 0))), (1, .inl x1), (2, .inl x2), (3, .inl x3)]) (st' := []) (V' := q_V (q_set S_12 (40, 0, 0) (0 : Int32).toNatClampNeg (y_13 + 1))) rfl ?_
      refine q_Sim.letS (fun S_14 => ?_)
      refine q_Sim.steps vc_210 2 (pc' := 87) (lv' := [(0, .inr (.inr (11, 0, 0))), (1, .inl x1), (2, .inl x2), (3, .inl x3)]) (st' := [.inl x2, .inr (.inr (11, 0, 0))]) (V' := q_V S_14) rfl ?_
      refine q_Sim.call vc_210 (as := [.inr (.inr (11, 0, 0)), .inl x2]) (pc' := 90) (lv' := [(0, .inr (.inr (11, 0, 0))), (1, .inl x1), (2, .inl x2), (3, .inl x3)]) (st' := []) (S := S_14) rfl (rc_187 x2) (s_187 x2 S_14) (fun r_15 S_16 => ?_)
      exact q_Sim.ret vc_210 rfl
    · refine q_Sim.steps vc_210 4 (pc' := 52) (lv' := [(0, .inr (.inr (11, 0, 0))), (1, .inl x1), (2, .inl x2), (3, .inl x3)]) (st' := [.inl 0, .inl x3, .inl x2, .inr (.inr (11, 0, 0))]) (V' := q_V S) rfl ?_
      refine q_Sim.call vc_210 (as := [.inr (.inr (11, 0, 0)), .inl x2, .inl x3, .inl 0]) (pc' := 55) (lv' := [(0, .inr (.inr (11, 0, 0))), (1, .inl x1), (2, .inl x2), (3, .inl x3)]) (st' := []) (S := S) rfl (rc_191 x2 x3 0) (s_191 x2 x3 0 S) (fun r_17 S_18 => ?_)
      refine q_Sim.steps vc_210 2 (pc' := 42) (lv' := [(3, .inl (x3 + 1)), (0, .inr (.inr (11, 0, 0))), (1, .inl x1), (2, .inl x2)]) (st' := []) (V' := q_V S_18) rfl ?_
      exact q_Sim.sub2 (lv' := [(0, .inr (.inr (11, 0, 0))), (1, .inl x1), (2, .inl x2), (3, .inl (x3 + 1))]) [0, 1, 2, 3] rfl (by decide) ⟨rfl, rfl, rfl, rfl, trivial⟩ (sb_210_42 n x1 x2 (x3 + 1) S_18)
def f_210 (x1 : Int32) (S : QS) : Option ((Int32) × QS) := q_bd (f_189 x1 0 20000 S) (fun r_1 S_2 => if r_1 = 0 then (b_210_22  S_2) else (q_ck (v_in 0 19520) (q_let (S_2.1 (40, 0, 0) (0 : Int32).toNatClampNeg) (fun y_5 => if ¬ y_5 = 40 then (q_bd (f_188  S_2) (fun r_6 S_7 => q_ck (v_in 0 19520) (q_let (S_7.1 (40, 0, 0) (0 : Int32).toNatClampNeg) (fun y_8 => b_210_42 q_N x1 y_8 0 S_7)))) else (b_210_22  S_2)))))
theorem s_210 (x1 : Int32) (S : QS) : q_Sim 210 0 [(0, .inr (.inr (11, 0, 0))), (1, .inl x1)] [] (q_V S) q_I (f_210 x1 S) := by
  unfold f_210
  refine q_Sim.steps vc_210 3 (pc' := 5) (lv' := [(0, .inr (.inr (11, 0, 0))), (1, .inl x1)]) (st' := [.inl 20000, .inl 0, .inl x1]) (V' := q_V S) rfl ?_
  refine q_Sim.call vc_210 (as := [.inl x1, .inl 0, .inl 20000]) (pc' := 8) (lv' := [(0, .inr (.inr (11, 0, 0))), (1, .inl x1)]) (st' := []) (S := S) rfl (rc_189 x1 0 20000) (s_189 x1 0 20000 S) (fun r_1 S_2 => ?_)
  refine q_Sim.br vc_210 (c := r_1 = 0) (t := 22) (f := 11) (lv' := [(0, .inr (.inr (11, 0, 0))), (1, .inl x1)]) (st' := []) (V' := q_V S_2) rfl ?_ ?_
  · exact q_Sim.sub2 (lv' := [(0, .inr (.inr (11, 0, 0)))]) [0] rfl (by decide) ⟨rfl, trivial⟩ (sb_210_22  S_2)
  · refine q_Sim.steps vc_210 3 (pc' := 16) (lv' := [(0, .inr (.inr (11, 0, 0))), (1, .inl x1)]) (st' := [.inl 0, .inr (.inr (40, 0, 0))]) (V' := q_V S_2) rfl ?_
    refine q_Sim.ck vc_210 (c := v_in 0 19520) (pc' := 17) (lv' := [(0, .inr (.inr (11, 0, 0))), (1, .inl x1)]) (st' := [.inl (S_2.1 (40, 0, 0) (0 : Int32).toNatClampNeg)]) (V' := q_V S_2) rfl ?_
    refine q_Sim.letI (fun y_5 => ?_)
    refine q_Sim.steps vc_210 1 (pc' := 19) (lv' := [(0, .inr (.inr (11, 0, 0))), (1, .inl x1)]) (st' := [.inl 40, .inl y_5]) (V' := q_V S_2) rfl ?_
    refine q_Sim.br vc_210 (c := ¬ y_5 = 40) (t := 29) (f := 22) (lv' := [(0, .inr (.inr (11, 0, 0))), (1, .inl x1)]) (st' := []) (V' := q_V S_2) rfl ?_ ?_
    · refine q_Sim.steps vc_210 1 (pc' := 30) (lv' := [(0, .inr (.inr (11, 0, 0))), (1, .inl x1)]) (st' := [.inr (.inr (11, 0, 0))]) (V' := q_V S_2) rfl ?_
      refine q_Sim.call vc_210 (as := [.inr (.inr (11, 0, 0))]) (pc' := 33) (lv' := [(0, .inr (.inr (11, 0, 0))), (1, .inl x1)]) (st' := []) (S := S_2) rfl (rc_188 ) (s_188  S_2) (fun r_6 S_7 => ?_)
      refine q_Sim.steps vc_210 3 (pc' := 38) (lv' := [(0, .inr (.inr (11, 0, 0))), (1, .inl x1)]) (st' := [.inl 0, .inr (.inr (40, 0, 0))]) (V' := q_V S_7) rfl ?_
      refine q_Sim.ck vc_210 (c := v_in 0 19520) (pc' := 39) (lv' := [(0, .inr (.inr (11, 0, 0))), (1, .inl x1)]) (st' := [.inl (S_7.1 (40, 0, 0) (0 : Int32).toNatClampNeg)]) (V' := q_V S_7) rfl ?_
      refine q_Sim.letI (fun y_8 => ?_)
      refine q_Sim.steps vc_210 3 (pc' := 42) (lv' := [(3, .inl 0), (2, .inl y_8), (0, .inr (.inr (11, 0, 0))), (1, .inl x1)]) (st' := []) (V' := q_V S_7) rfl ?_
      exact q_Sim.sub2 (lv' := [(0, .inr (.inr (11, 0, 0))), (1, .inl x1), (2, .inl y_8), (3, .inl 0)]) [0, 1, 2, 3] rfl (by decide) ⟨rfl, rfl, rfl, rfl, trivial⟩ (sb_210_42 q_N x1 y_8 0 S_7)
    · exact q_Sim.sub2 (lv' := [(0, .inr (.inr (11, 0, 0)))]) [0] rfl (by decide) ⟨rfl, trivial⟩ (sb_210_22  S_2)
