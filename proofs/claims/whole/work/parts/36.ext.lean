/-! ===== the code as functions, by program ===== -/
theorem vc_211 : v_code 211 = k_211 := rfl
theorem rc_211 (x1 : Int32) : v_rcv 211 [.inr (.inr (11, 0, 0)), .inl x1] = true := rfl
def b_211_25 (x1 : Int32) (x2 : Int32) (S : QS) : Option ((Int32) × QS) := if x2 ≤ 0 then (q_bd (f_188  S) (fun r_3 S_4 => q_bd (f_190 x1 10 S_4) (fun r_5 S_6 => q_bd (f_191 x1 10 (r_5 + 1) S_6) (fun r_7 S_8 => q_bd (f_187 r_5 S_8) (fun r_9 S_10 => some (r_9, S_10)))))) else (q_bd (f_186 x2 S) (fun r_11 S_12 => some (r_11, S_12)))
theorem sb_211_25 (x1 : Int32) (x2 : Int32) (S : QS) : q_Sim 211 25 [(0, .inr (.inr (11, 0, 0))), (1, .inl x1), (2, .inl x2)] [] (q_V S) q_I (b_211_25 x1 x2 S) := by
  unfold b_211_25
  refine q_Sim.steps vc_211 1 (pc' := 26) (lv' := [(0, .inr (.inr (11, 0, 0))), (1, .inl x1), (2, .inl x2)]) (st' := [.inl x2]) (V' := q_V S) rfl ?_
  refine q_Sim.br vc_211 (c := x2 ≤ 0) (t := 35) (f := 29) (lv' := [(0, .inr (.inr (11, 0, 0))), (1, .inl x1), (2, .inl x2)]) (st' := []) (V' := q_V S) rfl ?_ ?_
  · refine q_Sim.steps vc_211 1 (pc' := 36) (lv' := [(0, .inr (.inr (11, 0, 0))), (1, .inl x1), (2, .inl x2)]) (st' := [.inr (.inr (11, 0, 0))]) (V' := q_V S) rfl ?_
    refine q_Sim.call vc_211 (as := [.inr (.inr (11, 0, 0))]) (pc' := 39) (lv' := [(0, .inr (.inr (11, 0, 0))), (1, .inl x1), (2, .inl x2)]) (st' := []) (S := S) rfl (rc_188 ) (s_188  S) (fun r_3 S_4 => ?_)
    refine q_Sim.steps vc_211 3 (pc' := 43) (lv' := [(0, .inr (.inr (11, 0, 0))), (1, .inl x1), (2, .inl x2)]) (st' := [.inl 10, .inl x1, .inr (.inr (11, 0, 0))]) (V' := q_V S_4) rfl ?_
    refine q_Sim.call vc_211 (as := [.inr (.inr (11, 0, 0)), .inl x1, .inl 10]) (pc' := 46) (lv' := [(0, .inr (.inr (11, 0, 0))), (1, .inl x1), (2, .inl x2)]) (st' := []) (S := S_4) rfl (rc_190 x1 10) (s_190 x1 10 S_4) (fun r_5 S_6 => ?_)
    refine q_Sim.steps vc_211 7 (pc' := 54) (lv' := [(3, .inl r_5), (0, .inr (.inr (11, 0, 0))), (1, .inl x1), (2, .inl x2)]) (st' := [.inl (r_5 + 1), .inl 10, .inl x1, .inr (.inr (11, 0, 0))]) (V' := q_V S_6) rfl ?_
    refine q_Sim.call vc_211 (as := [.inr (.inr (11, 0, 0)), .inl x1, .inl 10, .inl (r_5 + 1)]) (pc' := 57) (lv' := [(3, .inl r_5), (0, .inr (.inr (11, 0, 0))), (1, .inl x1), (2, .inl x2)]) (st' := []) (S := S_6) rfl (rc_191 x1 10 (r_5 + 1)) (s_191 x1 10 (r_5 + 1) S_6) (fun r_7 S_8 => ?_)
    refine q_Sim.steps vc_211 2 (pc' := 59) (lv' := [(3, .inl r_5), (0, .inr (.inr (11, 0, 0))), (1, .inl x1), (2, .inl x2)]) (st' := [.inl r_5, .inr (.inr (11, 0, 0))]) (V' := q_V S_8) rfl ?_
    refine q_Sim.call vc_211 (as := [.inr (.inr (11, 0, 0)), .inl r_5]) (pc' := 62) (lv' := [(3, .inl r_5), (0, .inr (.inr (11, 0, 0))), (1, .inl x1), (2, .inl x2)]) (st' := []) (S := S_8) rfl (rc_187 r_5) (s_187 r_5 S_8) (fun r_9 S_10 => ?_)
    exact q_Sim.ret vc_211 rfl
  · refine q_Sim.steps vc_211 2 (pc' := 31) (lv' := [(0, .inr (.inr (11, 0, 0))), (1, .inl x1), (2, .inl x2)]) (st' := [.inl x2, .inr (.inr (11, 0, 0))]) (V' := q_V S) rfl ?_
    refine q_Sim.call vc_211 (as := [.inr (.inr (11, 0, 0)), .inl x2]) (pc' := 34) (lv' := [(0, .inr (.inr (11, 0, 0))), (1, .inl x1), (2, .inl x2)]) (st' := []) (S := S) rfl (rc_186 x2) (s_186 x2 S) (fun r_11 S_12 => ?_)
    exact q_Sim.ret vc_211 rfl
def f_211 (x1 : Int32) (S : QS) : Option ((Int32) × QS) := q_bd (f_198 x1 S) (fun r_1 S_2 => if ¬ r_1 = 0 then (b_211_25 x1 r_1 S_2) else (q_bd (f_190 x1 10 S_2) (fun r_13 S_14 => if ¬ r_13 = 8 then (b_211_25 x1 r_1 S_14) else (b_211_25 x1 6 S_14))))
theorem s_211 (x1 : Int32) (S : QS) : q_Sim 211 0 [(0, .inr (.inr (11, 0, 0))), (1, .inl x1)] [] (q_V S) q_I (f_211 x1 S) := by
  unfold f_211
  refine q_Sim.steps vc_211 2 (pc' := 2) (lv' := [(0, .inr (.inr (11, 0, 0))), (1, .inl x1)]) (st' := [.inl x1, .inr (.inr (11, 0, 0))]) (V' := q_V S) rfl ?_
  refine q_Sim.call vc_211 (as := [.inr (.inr (11, 0, 0)), .inl x1]) (pc' := 5) (lv' := [(0, .inr (.inr (11, 0, 0))), (1, .inl x1)]) (st' := []) (S := S) rfl (rc_198 x1) (s_198 x1 S) (fun r_1 S_2 => ?_)
  refine q_Sim.steps vc_211 2 (pc' := 7) (lv' := [(2, .inl r_1), (0, .inr (.inr (11, 0, 0))), (1, .inl x1)]) (st' := [.inl r_1]) (V' := q_V S_2) rfl ?_
  refine q_Sim.br vc_211 (c := ¬ r_1 = 0) (t := 25) (f := 10) (lv' := [(2, .inl r_1), (0, .inr (.inr (11, 0, 0))), (1, .inl x1)]) (st' := []) (V' := q_V S_2) rfl ?_ ?_
  · exact q_Sim.sub2 (lv' := [(0, .inr (.inr (11, 0, 0))), (1, .inl x1), (2, .inl r_1)]) [0, 1, 2] rfl (by decide) ⟨rfl, rfl, rfl, trivial⟩ (sb_211_25 x1 r_1 S_2)
  · refine q_Sim.steps vc_211 3 (pc' := 14) (lv' := [(2, .inl r_1), (0, .inr (.inr (11, 0, 0))), (1, .inl x1)]) (st' := [.inl 10, .inl x1, .inr (.inr (11, 0, 0))]) (V' := q_V S_2) rfl ?_
    refine q_Sim.call vc_211 (as := [.inr (.inr (11, 0, 0)), .inl x1, .inl 10]) (pc' := 17) (lv' := [(2, .inl r_1), (0, .inr (.inr (11, 0, 0))), (1, .inl x1)]) (st' := []) (S := S_2) rfl (rc_190 x1 10) (s_190 x1 10 S_2) (fun r_13 S_14 => ?_)
    refine q_Sim.steps vc_211 1 (pc' := 19) (lv' := [(2, .inl r_1), (0, .inr (.inr (11, 0, 0))), (1, .inl x1)]) (st' := [.inl 8, .inl r_13]) (V' := q_V S_14) rfl ?_
    refine q_Sim.br vc_211 (c := ¬ r_13 = 8) (t := 25) (f := 22) (lv' := [(2, .inl r_1), (0, .inr (.inr (11, 0, 0))), (1, .inl x1)]) (st' := []) (V' := q_V S_14) rfl ?_ ?_
    · exact q_Sim.sub2 (lv' := [(0, .inr (.inr (11, 0, 0))), (1, .inl x1), (2, .inl r_1)]) [0, 1, 2] rfl (by decide) ⟨rfl, rfl, rfl, trivial⟩ (sb_211_25 x1 r_1 S_14)
    · refine q_Sim.steps vc_211 2 (pc' := 25) (lv' := [(2, .inl 6), (0, .inr (.inr (11, 0, 0))), (1, .inl x1)]) (st' := []) (V' := q_V S_14) rfl ?_
      exact q_Sim.sub2 (lv' := [(0, .inr (.inr (11, 0, 0))), (1, .inl x1), (2, .inl 6)]) [0, 1, 2] rfl (by decide) ⟨rfl, rfl, rfl, trivial⟩ (sb_211_25 x1 6 S_14)
theorem vc_212 : v_code 212 = k_212 := rfl
theorem rc_212 (x1 : Int32) (x2 : Int32) : v_rcv 212 [.inr (.inr (11, 0, 0)), .inl x1, .inl x2] = true := rfl
def b_212_86 : Nat → Int32 → Int32 → Int32 → QS → Option ((Int32) × QS)
  | 0, _, _, _, _ => none
  | n + 1, x1, x4, x5, S => if 64 ≤ x5 then (q_ck (v_in (10 + x1) 19520) (q_let (q_set S (40, 0, 0) (10 + x1).toNatClampNeg x4) (fun S_7 => q_ck (v_in 1 19520) (q_let (S_7.1 (40, 0, 0) (1 : Int32).toNatClampNeg) (fun y_8 => q_ck (v_in 1 19520) (q_let (q_set S_7 (40, 0, 0) (1 : Int32).toNatClampNeg (y_8 + 1)) (fun S_9 => q_bd (f_187 x4 S_9) (fun r_10 S_11 => some (r_10, S_11))))))))) else (q_bd (f_197 x4 x5 0 S) (fun r_12 S_13 => b_212_86 n x1 x4 (x5 + 1) S_13))
theorem sb_212_86 : ∀ (n : Nat) (x1 : Int32) (x4 : Int32) (x5 : Int32) (S : QS), q_Sim 212 86 [(0, .inr (.inr (11, 0, 0))), (1, .inl x1), (4, .inl x4), (5, .inl x5)] [] (q_V S) q_I (b_212_86 n x1 x4 x5 S)
  | 0, _, _, _, _ => q_Sim.none
  | n + 1, x1, x4, x5, S => by
    rw [b_212_86]
    refine q_Sim.steps vc_212 2 (pc' := 90) (lv' := [(0, .inr (.inr (11, 0, 0))), (1, .inl x1), (4, .inl x4), (5, .inl x5)]) (st' := [.inl 64, .inl x5]) (V' := q_V S) rfl ?_
    refine q_Sim.br vc_212 (c := 64 ≤ x5) (t := 108) (f := 93) (lv' := [(0, .inr (.inr (11, 0, 0))), (1, .inl x1), (4, .inl x4), (5, .inl x5)]) (st' := []) (V' := q_V S) rfl ?_ ?_
    · refine q_Sim.steps vc_212 6 (pc' := 118) (lv' := [(0, .inr (.inr (11, 0, 0))), (1, .inl x1), (4, .inl x4), (5, .inl x5)]) (st' := [.inl x4, .inl (10 + x1), .inr (.inr (40, 0, 0))]) (V' := q_V S) rfl ?_
      refine q_Sim.ck vc_212 (c := v_in (10 + x1) 19520) (pc' := 119) (lv' := [(0, .inr (.inr (11, 0, 0))), (1, .inl x1), (4, .inl x4), (5, .inl x5)]) (st' := []) (V' := q_V (q_set S (40, 0, 0) (10 + x1).toNatClampNeg x4)) rfl ?_
      refine q_Sim.letS (fun S_7 => ?_)
      refine q_Sim.steps vc_212 4 (pc' := 125) (lv' := [(0, .inr (.inr (11, 0, 0))), (1, .inl x1), (4, .inl x4), (5, .inl x5)]) (st' := [.inl 1, .inr (.inr (40, 0, 0)), .inl 1, .inr (.inr (40, 0, 0))]) (V' := q_V S_7) rfl ?_
      refine q_Sim.ck vc_212 (c := v_in 1 19520) (pc' := 126) (lv' := [(0, .inr (.inr (11, 0, 0))), (1, .inl x1), (4, .inl x4), (5, .inl x5)]) (st' := [.inl (S_7.1 (40, 0, 0) (1 : Int32).toNatClampNeg), .inl 1, .inr (.inr (40, 0, 0))]) (V' := q_V S_7) rfl ?_
      refine q_Sim.letI (fun y_8 => ?_)
      refine q_Sim.steps vc_212 2 (pc' := 128) (lv' := [(0, .inr (.inr (11, 0, 0))), (1, .inl x1), (4, .inl x4), (5, .inl x5)]) (st' := [.inl (y_8 + 1), .inl 1, .inr (.inr (40, 0, 0))]) (V' := q_V S_7) rfl ?_
      refine q_Sim.ck vc_212 (c := v_in 1 19520) (pc' := 129) (lv' := [(0, .inr (.inr (11, 0, 0))), (1, .inl x1), (4, .inl x4), (5, .inl x5)]) (st' := []) (V' := q_V (q_set S_7 (40, 0, 0) (1 : Int32).toNatClampNeg (y_8 + 1))) rfl ?_
      refine q_Sim.letS (fun S_9 => ?_)
      refine q_Sim.steps vc_212 2 (pc' := 132) (lv' := [(0, .inr (.inr (11, 0, 0))), (1, .inl x1), (4, .inl x4), (5, .inl x5)]) (st' := [.inl x4, .inr (.inr (11, 0, 0))]) (V' := q_V S_9) rfl ?_
      refine q_Sim.call vc_212 (as := [.inr (.inr (11, 0, 0)), .inl x4]) (pc' := 135) (lv' := [(0, .inr (.inr (11, 0, 0))), (1, .inl x1), (4, .inl x4), (5, .inl x5)]) (st' := []) (S := S_9) rfl (rc_187 x4) (s_187 x4 S_9) (fun r_10 S_11 => ?_)
      exact q_Sim.ret vc_212 rfl
    · refine q_Sim.steps vc_212 4 (pc' := 99) (lv' := [(0, .inr (.inr (11, 0, 0))), (1, .inl x1), (4, .inl x4), (5, .inl x5)]) (st' := [.inl 0, .inl x5, .inl x4, .inr (.inr (11, 0, 0))]) (V' := q_V S) rfl ?_
      refine q_Sim.call vc_212 (as := [.inr (.inr (11, 0, 0)), .inl x4, .inl x5, .inl 0]) (pc' := 102) (lv' := [(0, .inr (.inr (11, 0, 0))), (1, .inl x1), (4, .inl x4), (5, .inl x5)]) (st' := []) (S := S) rfl (rc_197 x4 x5 0) (s_197 x4 x5 0 S) (fun r_12 S_13 => ?_)
      refine q_Sim.steps vc_212 2 (pc' := 86) (lv' := [(5, .inl (x5 + 1)), (0, .inr (.inr (11, 0, 0))), (1, .inl x1), (4, .inl x4)]) (st' := []) (V' := q_V S_13) rfl ?_
      exact q_Sim.sub2 (lv' := [(0, .inr (.inr (11, 0, 0))), (1, .inl x1), (4, .inl x4), (5, .inl (x5 + 1))]) [0, 1, 4, 5] rfl (by decide) ⟨rfl, rfl, rfl, rfl, trivial⟩ (sb_212_86 n x1 x4 (x5 + 1) S_13)
def b_212_49 (x1 : Int32) (x2 : Int32) (x3 : Int32) (S : QS) : Option ((Int32) × QS) := if x3 ≤ 0 then (q_bd (f_188  S) (fun r_3 S_4 => q_ck (v_in 1 19520) (q_let (S_4.1 (40, 0, 0) (1 : Int32).toNatClampNeg) (fun y_5 => q_ck (v_in (3850 + y_5) 19520) (q_let (q_set S_4 (40, 0, 0) (3850 + y_5).toNatClampNeg x2) (fun S_6 => b_212_86 q_N x1 y_5 0 S_6)))))) else (q_bd (f_186 x3 S) (fun r_14 S_15 => some (r_14, S_15)))
theorem sb_212_49 (x1 : Int32) (x2 : Int32) (x3 : Int32) (S : QS) : q_Sim 212 49 [(0, .inr (.inr (11, 0, 0))), (1, .inl x1), (2, .inl x2), (3, .inl x3)] [] (q_V S) q_I (b_212_49 x1 x2 x3 S) := by
  unfold b_212_49
  refine q_Sim.steps vc_212 1 (pc' := 50) (lv' := [(0, .inr (.inr (11, 0, 0))), (1, .inl x1), (2, .inl x2), (3, .inl x3)]) (st' := [.inl x3]) (V' := q_V S) rfl ?_
  refine q_Sim.br vc_212 (c := x3 ≤ 0) (t := 59) (f := 53) (lv' := [(0, .inr (.inr (11, 0, 0))), (1, .inl x1), (2, .inl x2), (3, .inl x3)]) (st' := []) (V' := q_V S) rfl ?_ ?_
  · refine q_Sim.steps vc_212 1 (pc' := 60) (lv' := [(0, .inr (.inr (11, 0, 0))), (1, .inl x1), (2, .inl x2), (3, .inl x3)]) (st' := [.inr (.inr (11, 0, 0))]) (V' := q_V S) rfl ?_
    refine q_Sim.call vc_212 (as := [.inr (.inr (11, 0, 0))]) (pc' := 63) (lv' := [(0, .inr (.inr (11, 0, 0))), (1, .inl x1), (2, .inl x2), (3, .inl x3)]) (st' := []) (S := S) rfl (rc_188 ) (s_188  S) (fun r_3 S_4 => ?_)
    refine q_Sim.steps vc_212 3 (pc' := 68) (lv' := [(0, .inr (.inr (11, 0, 0))), (1, .inl x1), (2, .inl x2), (3, .inl x3)]) (st' := [.inl 1, .inr (.inr (40, 0, 0))]) (V' := q_V S_4) rfl ?_
    refine q_Sim.ck vc_212 (c := v_in 1 19520) (pc' := 69) (lv' := [(0, .inr (.inr (11, 0, 0))), (1, .inl x1), (2, .inl x2), (3, .inl x3)]) (st' := [.inl (S_4.1 (40, 0, 0) (1 : Int32).toNatClampNeg)]) (V' := q_V S_4) rfl ?_
    refine q_Sim.letI (fun y_5 => ?_)
    refine q_Sim.steps vc_212 7 (pc' := 82) (lv' := [(4, .inl y_5), (0, .inr (.inr (11, 0, 0))), (1, .inl x1), (2, .inl x2), (3, .inl x3)]) (st' := [.inl x2, .inl (3850 + y_5), .inr (.inr (40, 0, 0))]) (V' := q_V S_4) rfl ?_
    refine q_Sim.ck vc_212 (c := v_in (3850 + y_5) 19520) (pc' := 83) (lv' := [(4, .inl y_5), (0, .inr (.inr (11, 0, 0))), (1, .inl x1), (2, .inl x2), (3, .inl x3)]) (st' := []) (V' := q_V (q_set S_4 (40, 0, 0) (3850 + y_5).toNatClampNeg x2)) rfl ?_
    refine q_Sim.letS (fun S_6 => ?_)
    refine q_Sim.steps vc_212 2 (pc' := 86) (lv' := [(5, .inl 0), (4, .inl y_5), (0, .inr (.inr (11, 0, 0))), (1, .inl x1), (2, .inl x2), (3, .inl x3)]) (st' := []) (V' := q_V S_6) rfl ?_
    exact q_Sim.sub2 (lv' := [(0, .inr (.inr (11, 0, 0))), (1, .inl x1), (4, .inl y_5), (5, .inl 0)]) [0, 1, 4, 5] rfl (by decide) ⟨rfl, rfl, rfl, rfl, trivial⟩ (sb_212_86 q_N x1 y_5 0 S_6)
  · refine q_Sim.steps vc_212 2 (pc' := 55) (lv' := [(0, .inr (.inr (11, 0, 0))), (1, .inl x1), (2, .inl x2), (3, .inl x3)]) (st' := [.inl x3, .inr (.inr (11, 0, 0))]) (V' := q_V S) rfl ?_
    refine q_Sim.call vc_212 (as := [.inr (.inr (11, 0, 0)), .inl x3]) (pc' := 58) (lv' := [(0, .inr (.inr (11, 0, 0))), (1, .inl x1), (2, .inl x2), (3, .inl x3)]) (st' := []) (S := S) rfl (rc_186 x3) (s_186 x3 S) (fun r_14 S_15 => ?_)
    exact q_Sim.ret vc_212 rfl
def b_212_39 (x1 : Int32) (x2 : Int32) (x3 : Int32) (S : QS) : Option ((Int32) × QS) := if ¬ x3 = 0 then (b_212_49 x1 x2 x3 S) else (if 0 ≤ x2 then (b_212_49 x1 x2 x3 S) else (b_212_49 x1 x2 5 S))
theorem sb_212_39 (x1 : Int32) (x2 : Int32) (x3 : Int32) (S : QS) : q_Sim 212 39 [(0, .inr (.inr (11, 0, 0))), (1, .inl x1), (2, .inl x2), (3, .inl x3)] [] (q_V S) q_I (b_212_39 x1 x2 x3 S) := by
  unfold b_212_39
  refine q_Sim.steps vc_212 1 (pc' := 40) (lv' := [(0, .inr (.inr (11, 0, 0))), (1, .inl x1), (2, .inl x2), (3, .inl x3)]) (st' := [.inl x3]) (V' := q_V S) rfl ?_
  refine q_Sim.br vc_212 (c := ¬ x3 = 0) (t := 49) (f := 43) (lv' := [(0, .inr (.inr (11, 0, 0))), (1, .inl x1), (2, .inl x2), (3, .inl x3)]) (st' := []) (V' := q_V S) rfl ?_ ?_
  · exact q_Sim.sub2 (lv' := [(0, .inr (.inr (11, 0, 0))), (1, .inl x1), (2, .inl x2), (3, .inl x3)]) [0, 1, 2, 3] rfl (by decide) ⟨rfl, rfl, rfl, rfl, trivial⟩ (sb_212_49 x1 x2 x3 S)
  · refine q_Sim.steps vc_212 1 (pc' := 44) (lv' := [(0, .inr (.inr (11, 0, 0))), (1, .inl x1), (2, .inl x2), (3, .inl x3)]) (st' := [.inl x2]) (V' := q_V S) rfl ?_
    refine q_Sim.br vc_212 (c := 0 ≤ x2) (t := 49) (f := 47) (lv' := [(0, .inr (.inr (11, 0, 0))), (1, .inl x1), (2, .inl x2), (3, .inl x3)]) (st' := []) (V' := q_V S) rfl ?_ ?_
    · exact q_Sim.sub2 (lv' := [(0, .inr (.inr (11, 0, 0))), (1, .inl x1), (2, .inl x2), (3, .inl x3)]) [0, 1, 2, 3] rfl (by decide) ⟨rfl, rfl, rfl, rfl, trivial⟩ (sb_212_49 x1 x2 x3 S)
    · refine q_Sim.steps vc_212 2 (pc' := 49) (lv' := [(3, .inl 5), (0, .inr (.inr (11, 0, 0))), (1, .inl x1), (2, .inl x2)]) (st' := []) (V' := q_V S) rfl ?_
      exact q_Sim.sub2 (lv' := [(0, .inr (.inr (11, 0, 0))), (1, .inl x1), (2, .inl x2), (3, .inl 5)]) [0, 1, 2, 3] rfl (by decide) ⟨rfl, rfl, rfl, rfl, trivial⟩ (sb_212_49 x1 x2 5 S)
def b_212_36 (x1 : Int32) (x2 : Int32) (S : QS) : Option ((Int32) × QS) := b_212_39 x1 x2 6 S
theorem sb_212_36 (x1 : Int32) (x2 : Int32) (S : QS) : q_Sim 212 36 [(0, .inr (.inr (11, 0, 0))), (1, .inl x1), (2, .inl x2)] [] (q_V S) q_I (b_212_36 x1 x2 S) := by
  unfold b_212_36
  refine q_Sim.steps vc_212 2 (pc' := 39) (lv' := [(3, .inl 6), (0, .inr (.inr (11, 0, 0))), (1, .inl x1), (2, .inl x2)]) (st' := []) (V' := q_V S) rfl ?_
  exact q_Sim.sub2 (lv' := [(0, .inr (.inr (11, 0, 0))), (1, .inl x1), (2, .inl x2), (3, .inl 6)]) [0, 1, 2, 3] rfl (by decide) ⟨rfl, rfl, rfl, rfl, trivial⟩ (sb_212_39 x1 x2 6 S)
def f_212 (x1 : Int32) (x2 : Int32) (S : QS) : Option ((Int32) × QS) := q_bd (f_200 x1 S) (fun r_1 S_2 => if ¬ r_1 = 0 then (b_212_39 x1 x2 r_1 S_2) else (if 64 < x2 then (b_212_36 x1 x2 S_2) else (q_ck (v_in 1 19520) (q_let (S_2.1 (40, 0, 0) (1 : Int32).toNatClampNeg) (fun y_16 => if y_16 = 200 then (b_212_36 x1 x2 S_2) else (q_bd (f_194 x1 S_2) (fun r_17 S_18 => if r_17 < 0 then (b_212_39 x1 x2 r_1 S_18) else (b_212_36 x1 x2 S_18))))))))
theorem s_212 (x1 : Int32) (x2 : Int32) (S : QS) : q_Sim 212 0 [(0, .inr (.inr (11, 0, 0))), (1, .inl x1), (2, .inl x2)] [] (q_V S) q_I (f_212 x1 x2 S) := by
  unfold f_212
  refine q_Sim.steps vc_212 2 (pc' := 2) (lv' := [(0, .inr (.inr (11, 0, 0))), (1, .inl x1), (2, .inl x2)]) (st' := [.inl x1, .inr (.inr (11, 0, 0))]) (V' := q_V S) rfl ?_
  refine q_Sim.call vc_212 (as := [.inr (.inr (11, 0, 0)), .inl x1]) (pc' := 5) (lv' := [(0, .inr (.inr (11, 0, 0))), (1, .inl x1), (2, .inl x2)]) (st' := []) (S := S) rfl (rc_200 x1) (s_200 x1 S) (fun r_1 S_2 => ?_)
  refine q_Sim.steps vc_212 2 (pc' := 7) (lv' := [(3, .inl r_1), (0, .inr (.inr (11, 0, 0))), (1, .inl x1), (2, .inl x2)]) (st' := [.inl r_1]) (V' := q_V S_2) rfl ?_
  refine q_Sim.br vc_212 (c := ¬ r_1 = 0) (t := 39) (f := 10) (lv' := [(3, .inl r_1), (0, .inr (.inr (11, 0, 0))), (1, .inl x1), (2, .inl x2)]) (st' := []) (V' := q_V S_2) rfl ?_ ?_
  · exact q_Sim.sub2 (lv' := [(0, .inr (.inr (11, 0, 0))), (1, .inl x1), (2, .inl x2), (3, .inl r_1)]) [0, 1, 2, 3] rfl (by decide) ⟨rfl, rfl, rfl, rfl, trivial⟩ (sb_212_39 x1 x2 r_1 S_2)
  · refine q_Sim.steps vc_212 2 (pc' := 13) (lv' := [(3, .inl r_1), (0, .inr (.inr (11, 0, 0))), (1, .inl x1), (2, .inl x2)]) (st' := [.inl 64, .inl x2]) (V' := q_V S_2) rfl ?_
    refine q_Sim.br vc_212 (c := 64 < x2) (t := 36) (f := 16) (lv' := [(3, .inl r_1), (0, .inr (.inr (11, 0, 0))), (1, .inl x1), (2, .inl x2)]) (st' := []) (V' := q_V S_2) rfl ?_ ?_
    · exact q_Sim.sub2 (lv' := [(0, .inr (.inr (11, 0, 0))), (1, .inl x1), (2, .inl x2)]) [0, 1, 2] rfl (by decide) ⟨rfl, rfl, rfl, trivial⟩ (sb_212_36 x1 x2 S_2)
    · refine q_Sim.steps vc_212 3 (pc' := 21) (lv' := [(3, .inl r_1), (0, .inr (.inr (11, 0, 0))), (1, .inl x1), (2, .inl x2)]) (st' := [.inl 1, .inr (.inr (40, 0, 0))]) (V' := q_V S_2) rfl ?_
      refine q_Sim.ck vc_212 (c := v_in 1 19520) (pc' := 22) (lv' := [(3, .inl r_1), (0, .inr (.inr (11, 0, 0))), (1, .inl x1), (2, .inl x2)]) (st' := [.inl (S_2.1 (40, 0, 0) (1 : Int32).toNatClampNeg)]) (V' := q_V S_2) rfl ?_
      refine q_Sim.letI (fun y_16 => ?_)
      refine q_Sim.steps vc_212 1 (pc' := 25) (lv' := [(3, .inl r_1), (0, .inr (.inr (11, 0, 0))), (1, .inl x1), (2, .inl x2)]) (st' := [.inl 200, .inl y_16]) (V' := q_V S_2) rfl ?_
      refine q_Sim.br vc_212 (c := y_16 = 200) (t := 36) (f := 28) (lv' := [(3, .inl r_1), (0, .inr (.inr (11, 0, 0))), (1, .inl x1), (2, .inl x2)]) (st' := []) (V' := q_V S_2) rfl ?_ ?_
      · exact q_Sim.sub2 (lv' := [(0, .inr (.inr (11, 0, 0))), (1, .inl x1), (2, .inl x2)]) [0, 1, 2] rfl (by decide) ⟨rfl, rfl, rfl, trivial⟩ (sb_212_36 x1 x2 S_2)
      · refine q_Sim.steps vc_212 2 (pc' := 30) (lv' := [(3, .inl r_1), (0, .inr (.inr (11, 0, 0))), (1, .inl x1), (2, .inl x2)]) (st' := [.inl x1, .inr (.inr (11, 0, 0))]) (V' := q_V S_2) rfl ?_
        refine q_Sim.call vc_212 (as := [.inr (.inr (11, 0, 0)), .inl x1]) (pc' := 33) (lv' := [(3, .inl r_1), (0, .inr (.inr (11, 0, 0))), (1, .inl x1), (2, .inl x2)]) (st' := []) (S := S_2) rfl (rc_194 x1) (s_194 x1 S_2) (fun r_17 S_18 => ?_)
        refine q_Sim.br vc_212 (c := r_17 < 0) (t := 39) (f := 36) (lv' := [(3, .inl r_1), (0, .inr (.inr (11, 0, 0))), (1, .inl x1), (2, .inl x2)]) (st' := []) (V' := q_V S_18) rfl ?_ ?_
        · exact q_Sim.sub2 (lv' := [(0, .inr (.inr (11, 0, 0))), (1, .inl x1), (2, .inl x2), (3, .inl r_1)]) [0, 1, 2, 3] rfl (by decide) ⟨rfl, rfl, rfl, rfl, trivial⟩ (sb_212_39 x1 x2 r_1 S_18)
        · exact q_Sim.sub2 (lv' := [(0, .inr (.inr (11, 0, 0))), (1, .inl x1), (2, .inl x2)]) [0, 1, 2] rfl (by decide) ⟨rfl, rfl, rfl, trivial⟩ (sb_212_36 x1 x2 S_18)
theorem vc_213 : v_code 213 = k_213 := rfl
theorem rc_213 (x1 : Int32) : v_rcv 213 [.inr (.inr (11, 0, 0)), .inl x1] = true := rfl
def b_213_46 (x1 : Int32) (x2 : Int32) (x3 : Int32) (S : QS) : Option ((Int32) × QS) := if x2 ≤ 0 then (q_bd (f_188  S) (fun r_3 S_4 => q_bd (f_194 x1 S_4) (fun r_5 S_6 => q_ck (v_in (16850 + x3) 19520) (q_let (q_set S_6 (40, 0, 0) (16850 + x3).toNatClampNeg r_5) (fun S_7 => q_ck (v_in (10 + x1) 19520) (q_let (q_set S_7 (40, 0, 0) (10 + x1).toNatClampNeg (-1)) (fun S_8 => q_bd (f_187 x3 S_8) (fun r_9 S_10 => some (r_9, S_10))))))))) else (q_bd (f_186 x2 S) (fun r_11 S_12 => some (r_11, S_12)))
theorem sb_213_46 (x1 : Int32) (x2 : Int32) (x3 : Int32) (S : QS) : q_Sim 213 46 [(0, .inr (.inr (11, 0, 0))), (1, .inl x1), (2, .inl x2), (3, .inl x3)] [] (q_V S) q_I (b_213_46 x1 x2 x3 S) := by
  unfold b_213_46
  refine q_Sim.steps vc_213 1 (pc' := 47) (lv' := [(0, .inr (.inr (11, 0, 0))), (1, .inl x1), (2, .inl x2), (3, .inl x3)]) (st' := [.inl x2]) (V' := q_V S) rfl ?_
  refine q_Sim.br vc_213 (c := x2 ≤ 0) (t := 56) (f := 50) (lv' := [(0, .inr (.inr (11, 0, 0))), (1, .inl x1), (2, .inl x2), (3, .inl x3)]) (st' := []) (V' := q_V S) rfl ?_ ?_
  · refine q_Sim.steps vc_213 1 (pc' := 57) (lv' := [(0, .inr (.inr (11, 0, 0))), (1, .inl x1), (2, .inl x2), (3, .inl x3)]) (st' := [.inr (.inr (11, 0, 0))]) (V' := q_V S) rfl ?_
    refine q_Sim.call vc_213 (as := [.inr (.inr (11, 0, 0))]) (pc' := 60) (lv' := [(0, .inr (.inr (11, 0, 0))), (1, .inl x1), (2, .inl x2), (3, .inl x3)]) (st' := []) (S := S) rfl (rc_188 ) (s_188  S) (fun r_3 S_4 => ?_)
    refine q_Sim.steps vc_213 7 (pc' := 71) (lv' := [(0, .inr (.inr (11, 0, 0))), (1, .inl x1), (2, .inl x2), (3, .inl x3)]) (st' := [.inl x1, .inr (.inr (11, 0, 0)), .inl (16850 + x3), .inr (.inr (40, 0, 0))]) (V' := q_V S_4) rfl ?_
    refine q_Sim.call vc_213 (as := [.inr (.inr (11, 0, 0)), .inl x1]) (pc' := 74) (lv' := [(0, .inr (.inr (11, 0, 0))), (1, .inl x1), (2, .inl x2), (3, .inl x3)]) (st' := [.inl (16850 + x3), .inr (.inr (40, 0, 0))]) (S := S_4) rfl (rc_194 x1) (s_194 x1 S_4) (fun r_5 S_6 => ?_)
    refine q_Sim.ck vc_213 (c := v_in (16850 + x3) 19520) (pc' := 75) (lv' := [(0, .inr (.inr (11, 0, 0))), (1, .inl x1), (2, .inl x2), (3, .inl x3)]) (st' := []) (V' := q_V (q_set S_6 (40, 0, 0) (16850 + x3).toNatClampNeg r_5)) rfl ?_
    refine q_Sim.letS (fun S_7 => ?_)
    refine q_Sim.steps vc_213 6 (pc' := 84) (lv' := [(0, .inr (.inr (11, 0, 0))), (1, .inl x1), (2, .inl x2), (3, .inl x3)]) (st' := [.inl (-1), .inl (10 + x1), .inr (.inr (40, 0, 0))]) (V' := q_V S_7) rfl ?_
    refine q_Sim.ck vc_213 (c := v_in (10 + x1) 19520) (pc' := 85) (lv' := [(0, .inr (.inr (11, 0, 0))), (1, .inl x1), (2, .inl x2), (3, .inl x3)]) (st' := []) (V' := q_V (q_set S_7 (40, 0, 0) (10 + x1).toNatClampNeg (-1))) rfl ?_
    refine q_Sim.letS (fun S_8 => ?_)
    refine q_Sim.steps vc_213 2 (pc' := 87) (lv' := [(0, .inr (.inr (11, 0, 0))), (1, .inl x1), (2, .inl x2), (3, .inl x3)]) (st' := [.inl x3, .inr (.inr (11, 0, 0))]) (V' := q_V S_8) rfl ?_
    refine q_Sim.call vc_213 (as := [.inr (.inr (11, 0, 0)), .inl x3]) (pc' := 90) (lv' := [(0, .inr (.inr (11, 0, 0))), (1, .inl x1), (2, .inl x2), (3, .inl x3)]) (st' := []) (S := S_8) rfl (rc_187 x3) (s_187 x3 S_8) (fun r_9 S_10 => ?_)
    exact q_Sim.ret vc_213 rfl
  · refine q_Sim.steps vc_213 2 (pc' := 52) (lv' := [(0, .inr (.inr (11, 0, 0))), (1, .inl x1), (2, .inl x2), (3, .inl x3)]) (st' := [.inl x2, .inr (.inr (11, 0, 0))]) (V' := q_V S) rfl ?_
    refine q_Sim.call vc_213 (as := [.inr (.inr (11, 0, 0)), .inl x2]) (pc' := 55) (lv' := [(0, .inr (.inr (11, 0, 0))), (1, .inl x1), (2, .inl x2), (3, .inl x3)]) (st' := []) (S := S) rfl (rc_186 x2) (s_186 x2 S) (fun r_11 S_12 => ?_)
    exact q_Sim.ret vc_213 rfl
def b_213_33 (x1 : Int32) (x2 : Int32) (x3 : Int32) (S : QS) : Option ((Int32) × QS) := if ¬ x2 = 0 then (b_213_46 x1 x2 x3 S) else (if ¬ x3 = 24 then (b_213_46 x1 x2 x3 S) else (b_213_46 x1 6 x3 S))
theorem sb_213_33 (x1 : Int32) (x2 : Int32) (x3 : Int32) (S : QS) : q_Sim 213 33 [(0, .inr (.inr (11, 0, 0))), (1, .inl x1), (2, .inl x2), (3, .inl x3)] [] (q_V S) q_I (b_213_33 x1 x2 x3 S) := by
  unfold b_213_33
  refine q_Sim.steps vc_213 1 (pc' := 34) (lv' := [(0, .inr (.inr (11, 0, 0))), (1, .inl x1), (2, .inl x2), (3, .inl x3)]) (st' := [.inl x2]) (V' := q_V S) rfl ?_
  refine q_Sim.br vc_213 (c := ¬ x2 = 0) (t := 46) (f := 37) (lv' := [(0, .inr (.inr (11, 0, 0))), (1, .inl x1), (2, .inl x2), (3, .inl x3)]) (st' := []) (V' := q_V S) rfl ?_ ?_
  · exact q_Sim.sub2 (lv' := [(0, .inr (.inr (11, 0, 0))), (1, .inl x1), (2, .inl x2), (3, .inl x3)]) [0, 1, 2, 3] rfl (by decide) ⟨rfl, rfl, rfl, rfl, trivial⟩ (sb_213_46 x1 x2 x3 S)
  · refine q_Sim.steps vc_213 2 (pc' := 40) (lv' := [(0, .inr (.inr (11, 0, 0))), (1, .inl x1), (2, .inl x2), (3, .inl x3)]) (st' := [.inl 24, .inl x3]) (V' := q_V S) rfl ?_
    refine q_Sim.br vc_213 (c := ¬ x3 = 24) (t := 46) (f := 43) (lv' := [(0, .inr (.inr (11, 0, 0))), (1, .inl x1), (2, .inl x2), (3, .inl x3)]) (st' := []) (V' := q_V S) rfl ?_ ?_
    · exact q_Sim.sub2 (lv' := [(0, .inr (.inr (11, 0, 0))), (1, .inl x1), (2, .inl x2), (3, .inl x3)]) [0, 1, 2, 3] rfl (by decide) ⟨rfl, rfl, rfl, rfl, trivial⟩ (sb_213_46 x1 x2 x3 S)
    · refine q_Sim.steps vc_213 2 (pc' := 46) (lv' := [(2, .inl 6), (0, .inr (.inr (11, 0, 0))), (1, .inl x1), (3, .inl x3)]) (st' := []) (V' := q_V S) rfl ?_
      exact q_Sim.sub2 (lv' := [(0, .inr (.inr (11, 0, 0))), (1, .inl x1), (2, .inl 6), (3, .inl x3)]) [0, 1, 2, 3] rfl (by decide) ⟨rfl, rfl, rfl, rfl, trivial⟩ (sb_213_46 x1 6 x3 S)
def b_213_8 : Nat → Int32 → Int32 → Int32 → QS → Option ((Int32) × QS)
  | 0, _, _, _, _ => none
  | n + 1, x1, x2, x3, S => if 24 ≤ x3 then (b_213_33 x1 x2 x3 S) else (q_ck (v_in (16850 + x3) 19520) (q_let (S.1 (40, 0, 0) (16850 + x3).toNatClampNeg) (fun y_13 => if y_13 < 0 then (b_213_33 x1 x2 x3 S) else (b_213_8 n x1 x2 (x3 + 1) S))))
theorem sb_213_8 : ∀ (n : Nat) (x1 : Int32) (x2 : Int32) (x3 : Int32) (S : QS), q_Sim 213 8 [(0, .inr (.inr (11, 0, 0))), (1, .inl x1), (2, .inl x2), (3, .inl x3)] [] (q_V S) q_I (b_213_8 n x1 x2 x3 S)
  | 0, _, _, _, _ => q_Sim.none
  | n + 1, x1, x2, x3, S => by
    rw [b_213_8]
    refine q_Sim.steps vc_213 2 (pc' := 11) (lv' := [(0, .inr (.inr (11, 0, 0))), (1, .inl x1), (2, .inl x2), (3, .inl x3)]) (st' := [.inl 24, .inl x3]) (V' := q_V S) rfl ?_
    refine q_Sim.br vc_213 (c := 24 ≤ x3) (t := 33) (f := 14) (lv' := [(0, .inr (.inr (11, 0, 0))), (1, .inl x1), (2, .inl x2), (3, .inl x3)]) (st' := []) (V' := q_V S) rfl ?_ ?_
    · exact q_Sim.sub2 (lv' := [(0, .inr (.inr (11, 0, 0))), (1, .inl x1), (2, .inl x2), (3, .inl x3)]) [0, 1, 2, 3] rfl (by decide) ⟨rfl, rfl, rfl, rfl, trivial⟩ (sb_213_33 x1 x2 x3 S)
    · refine q_Sim.steps vc_213 5 (pc' := 23) (lv' := [(0, .inr (.inr (11, 0, 0))), (1, .inl x1), (2, .inl x2), (3, .inl x3)]) (st' := [.inl (16850 + x3), .inr (.inr (40, 0, 0))]) (V' := q_V S) rfl ?_
      refine q_Sim.ck vc_213 (c := v_in (16850 + x3) 19520) (pc' := 24) (lv' := [(0, .inr (.inr (11, 0, 0))), (1, .inl x1), (2, .inl x2), (3, .inl x3)]) (st' := [.inl (S.1 (40, 0, 0) (16850 + x3).toNatClampNeg)]) (V' := q_V S) rfl ?_
      refine q_Sim.letI (fun y_13 => ?_)
      refine q_Sim.br vc_213 (c := y_13 < 0) (t := 33) (f := 27) (lv' := [(0, .inr (.inr (11, 0, 0))), (1, .inl x1), (2, .inl x2), (3, .inl x3)]) (st' := []) (V' := q_V S) rfl ?_ ?_
      · exact q_Sim.sub2 (lv' := [(0, .inr (.inr (11, 0, 0))), (1, .inl x1), (2, .inl x2), (3, .inl x3)]) [0, 1, 2, 3] rfl (by decide) ⟨rfl, rfl, rfl, rfl, trivial⟩ (sb_213_33 x1 x2 x3 S)
      · refine q_Sim.steps vc_213 2 (pc' := 8) (lv' := [(3, .inl (x3 + 1)), (0, .inr (.inr (11, 0, 0))), (1, .inl x1), (2, .inl x2)]) (st' := []) (V' := q_V S) rfl ?_
        exact q_Sim.sub2 (lv' := [(0, .inr (.inr (11, 0, 0))), (1, .inl x1), (2, .inl x2), (3, .inl (x3 + 1))]) [0, 1, 2, 3] rfl (by decide) ⟨rfl, rfl, rfl, rfl, trivial⟩ (sb_213_8 n x1 x2 (x3 + 1) S)
def f_213 (x1 : Int32) (S : QS) : Option ((Int32) × QS) := q_bd (f_201 x1 S) (fun r_1 S_2 => b_213_8 q_N x1 r_1 0 S_2)
theorem s_213 (x1 : Int32) (S : QS) : q_Sim 213 0 [(0, .inr (.inr (11, 0, 0))), (1, .inl x1)] [] (q_V S) q_I (f_213 x1 S) := by
  unfold f_213
  refine q_Sim.steps vc_213 2 (pc' := 2) (lv' := [(0, .inr (.inr (11, 0, 0))), (1, .inl x1)]) (st' := [.inl x1, .inr (.inr (11, 0, 0))]) (V' := q_V S) rfl ?_
  refine q_Sim.call vc_213 (as := [.inr (.inr (11, 0, 0)), .inl x1]) (pc' := 5) (lv' := [(0, .inr (.inr (11, 0, 0))), (1, .inl x1)]) (st' := []) (S := S) rfl (rc_201 x1) (s_201 x1 S) (fun r_1 S_2 => ?_)
  refine q_Sim.steps vc_213 3 (pc' := 8) (lv' := [(3, .inl 0), (2, .inl r_1), (0, .inr (.inr (11, 0, 0))), (1, .inl x1)]) (st' := []) (V' := q_V S_2) rfl ?_
  exact q_Sim.sub2 (lv' := [(0, .inr (.inr (11, 0, 0))), (1, .inl x1), (2, .inl r_1), (3, .inl 0)]) [0, 1, 2, 3] rfl (by decide) ⟨rfl, rfl, rfl, rfl, trivial⟩ (sb_213_8 q_N x1 r_1 0 S_2)
theorem vc_214 : v_code 214 = k_214 := rfl
theorem rc_214 (x1 : Int32) (x2 : Int32) : v_rcv 214 [.inr (.inr (11, 0, 0)), .inl x1, .inl x2] = true := rfl
def b_214_52 (x1 : Int32) (x2 : Int32) (x3 : Int32) (S : QS) : Option ((Int32) × QS) := if x3 ≤ 0 then (q_bd (f_188  S) (fun r_6 S_7 => q_ck (v_in (16850 + x1) 19520) (q_let (S_7.1 (40, 0, 0) (16850 + x1).toNatClampNeg) (fun y_8 => q_ck (v_in (10 + x2) 19520) (q_let (q_set S_7 (40, 0, 0) (10 + x2).toNatClampNeg y_8) (fun S_9 => q_ck (v_in (16850 + x1) 19520) (q_let (q_set S_9 (40, 0, 0) (16850 + x1).toNatClampNeg (-1)) (fun S_10 => q_bd (f_187 1 S_10) (fun r_11 S_12 => some (r_11, S_12)))))))))) else (q_bd (f_186 x3 S) (fun r_13 S_14 => some (r_13, S_14)))
theorem sb_214_52 (x1 : Int32) (x2 : Int32) (x3 : Int32) (S : QS) : q_Sim 214 52 [(0, .inr (.inr (11, 0, 0))), (1, .inl x1), (2, .inl x2), (3, .inl x3)] [] (q_V S) q_I (b_214_52 x1 x2 x3 S) := by
  unfold b_214_52
  refine q_Sim.steps vc_214 1 (pc' := 53) (lv' := [(0, .inr (.inr (11, 0, 0))), (1, .inl x1), (2, .inl x2), (3, .inl x3)]) (st' := [.inl x3]) (V' := q_V S) rfl ?_
  refine q_Sim.br vc_214 (c := x3 ≤ 0) (t := 62) (f := 56) (lv' := [(0, .inr (.inr (11, 0, 0))), (1, .inl x1), (2, .inl x2), (3, .inl x3)]) (st' := []) (V' := q_V S) rfl ?_ ?_
  · refine q_Sim.steps vc_214 1 (pc' := 63) (lv' := [(0, .inr (.inr (11, 0, 0))), (1, .inl x1), (2, .inl x2), (3, .inl x3)]) (st' := [.inr (.inr (11, 0, 0))]) (V' := q_V S) rfl ?_
    refine q_Sim.call vc_214 (as := [.inr (.inr (11, 0, 0))]) (pc' := 66) (lv' := [(0, .inr (.inr (11, 0, 0))), (1, .inl x1), (2, .inl x2), (3, .inl x3)]) (st' := []) (S := S) rfl (rc_188 ) (s_188  S) (fun r_6 S_7 => ?_)
    refine q_Sim.steps vc_214 10 (pc' := 83) (lv' := [(0, .inr (.inr (11, 0, 0))), (1, .inl x1), (2, .inl x2), (3, .inl x3)]) (st' := [.inl (16850 + x1), .inr (.inr (40, 0, 0)), .inl (10 + x2), .inr (.inr (40, 0, 0))]) (V' := q_V S_7) rfl ?_
    refine q_Sim.ck vc_214 (c := v_in (16850 + x1) 19520) (pc' := 84) (lv' := [(0, .inr (.inr (11, 0, 0))), (1, .inl x1), (2, .inl x2), (3, .inl x3)]) (st' := [.inl (S_7.1 (40, 0, 0) (16850 + x1).toNatClampNeg), .inl (10 + x2), .inr (.inr (40, 0, 0))]) (V' := q_V S_7) rfl ?_
    refine q_Sim.letI (fun y_8 => ?_)
    refine q_Sim.ck vc_214 (c := v_in (10 + x2) 19520) (pc' := 85) (lv' := [(0, .inr (.inr (11, 0, 0))), (1, .inl x1), (2, .inl x2), (3, .inl x3)]) (st' := []) (V' := q_V (q_set S_7 (40, 0, 0) (10 + x2).toNatClampNeg y_8)) rfl ?_
    refine q_Sim.letS (fun S_9 => ?_)
    refine q_Sim.steps vc_214 6 (pc' := 95) (lv' := [(0, .inr (.inr (11, 0, 0))), (1, .inl x1), (2, .inl x2), (3, .inl x3)]) (st' := [.inl (-1), .inl (16850 + x1), .inr (.inr (40, 0, 0))]) (V' := q_V S_9) rfl ?_
    refine q_Sim.ck vc_214 (c := v_in (16850 + x1) 19520) (pc' := 96) (lv' := [(0, .inr (.inr (11, 0, 0))), (1, .inl x1), (2, .inl x2), (3, .inl x3)]) (st' := []) (V' := q_V (q_set S_9 (40, 0, 0) (16850 + x1).toNatClampNeg (-1))) rfl ?_
    refine q_Sim.letS (fun S_10 => ?_)
    refine q_Sim.steps vc_214 2 (pc' := 98) (lv' := [(0, .inr (.inr (11, 0, 0))), (1, .inl x1), (2, .inl x2), (3, .inl x3)]) (st' := [.inl 1, .inr (.inr (11, 0, 0))]) (V' := q_V S_10) rfl ?_
    refine q_Sim.call vc_214 (as := [.inr (.inr (11, 0, 0)), .inl 1]) (pc' := 101) (lv' := [(0, .inr (.inr (11, 0, 0))), (1, .inl x1), (2, .inl x2), (3, .inl x3)]) (st' := []) (S := S_10) rfl (rc_187 1) (s_187 1 S_10) (fun r_11 S_12 => ?_)
    exact q_Sim.ret vc_214 rfl
  · refine q_Sim.steps vc_214 2 (pc' := 58) (lv' := [(0, .inr (.inr (11, 0, 0))), (1, .inl x1), (2, .inl x2), (3, .inl x3)]) (st' := [.inl x3, .inr (.inr (11, 0, 0))]) (V' := q_V S) rfl ?_
    refine q_Sim.call vc_214 (as := [.inr (.inr (11, 0, 0)), .inl x3]) (pc' := 61) (lv' := [(0, .inr (.inr (11, 0, 0))), (1, .inl x1), (2, .inl x2), (3, .inl x3)]) (st' := []) (S := S) rfl (rc_186 x3) (s_186 x3 S) (fun r_13 S_14 => ?_)
    exact q_Sim.ret vc_214 rfl
def b_214_36 (x1 : Int32) (x2 : Int32) (xs0 : Int32) (S : QS) : Option ((Int32) × QS) := if ¬ xs0 = 0 then (b_214_52 x1 x2 xs0 S) else (q_bd (f_194 x2 S) (fun r_15 S_16 => if r_15 < 0 then (b_214_52 x1 x2 xs0 S_16) else (b_214_52 x1 x2 6 S_16)))
theorem sb_214_36 (x1 : Int32) (x2 : Int32) (xs0 : Int32) (S : QS) : q_Sim 214 36 [(0, .inr (.inr (11, 0, 0))), (1, .inl x1), (2, .inl x2)] [.inl xs0] (q_V S) q_I (b_214_36 x1 x2 xs0 S) := by
  unfold b_214_36
  refine q_Sim.steps vc_214 2 (pc' := 38) (lv' := [(3, .inl xs0), (0, .inr (.inr (11, 0, 0))), (1, .inl x1), (2, .inl x2)]) (st' := [.inl xs0]) (V' := q_V S) rfl ?_
  refine q_Sim.br vc_214 (c := ¬ xs0 = 0) (t := 52) (f := 41) (lv' := [(3, .inl xs0), (0, .inr (.inr (11, 0, 0))), (1, .inl x1), (2, .inl x2)]) (st' := []) (V' := q_V S) rfl ?_ ?_
  · exact q_Sim.sub2 (lv' := [(0, .inr (.inr (11, 0, 0))), (1, .inl x1), (2, .inl x2), (3, .inl xs0)]) [0, 1, 2, 3] rfl (by decide) ⟨rfl, rfl, rfl, rfl, trivial⟩ (sb_214_52 x1 x2 xs0 S)
  · refine q_Sim.steps vc_214 2 (pc' := 43) (lv' := [(3, .inl xs0), (0, .inr (.inr (11, 0, 0))), (1, .inl x1), (2, .inl x2)]) (st' := [.inl x2, .inr (.inr (11, 0, 0))]) (V' := q_V S) rfl ?_
    refine q_Sim.call vc_214 (as := [.inr (.inr (11, 0, 0)), .inl x2]) (pc' := 46) (lv' := [(3, .inl xs0), (0, .inr (.inr (11, 0, 0))), (1, .inl x1), (2, .inl x2)]) (st' := []) (S := S) rfl (rc_194 x2) (s_194 x2 S) (fun r_15 S_16 => ?_)
    refine q_Sim.br vc_214 (c := r_15 < 0) (t := 52) (f := 49) (lv' := [(3, .inl xs0), (0, .inr (.inr (11, 0, 0))), (1, .inl x1), (2, .inl x2)]) (st' := []) (V' := q_V S_16) rfl ?_ ?_
    · exact q_Sim.sub2 (lv' := [(0, .inr (.inr (11, 0, 0))), (1, .inl x1), (2, .inl x2), (3, .inl xs0)]) [0, 1, 2, 3] rfl (by decide) ⟨rfl, rfl, rfl, rfl, trivial⟩ (sb_214_52 x1 x2 xs0 S_16)
    · refine q_Sim.steps vc_214 2 (pc' := 52) (lv' := [(3, .inl 6), (0, .inr (.inr (11, 0, 0))), (1, .inl x1), (2, .inl x2)]) (st' := []) (V' := q_V S_16) rfl ?_
      exact q_Sim.sub2 (lv' := [(0, .inr (.inr (11, 0, 0))), (1, .inl x1), (2, .inl x2), (3, .inl 6)]) [0, 1, 2, 3] rfl (by decide) ⟨rfl, rfl, rfl, rfl, trivial⟩ (sb_214_52 x1 x2 6 S_16)
def f_214 (x1 : Int32) (x2 : Int32) (S : QS) : Option ((Int32) × QS) := q_bd (f_189 x1 0 23 S) (fun r_1 S_2 => if ¬ r_1 = 0 then (q_ck (v_in (16850 + x1) 19520) (q_let (S_2.1 (40, 0, 0) (16850 + x1).toNatClampNeg) (fun y_3 => if 0 ≤ y_3 then (q_bd (f_200 x2 S_2) (fun r_4 S_5 => b_214_36 x1 x2 r_4 S_5)) else (b_214_36 x1 x2 1 S_2)))) else (b_214_36 x1 x2 2 S_2))
theorem s_214 (x1 : Int32) (x2 : Int32) (S : QS) : q_Sim 214 0 [(0, .inr (.inr (11, 0, 0))), (1, .inl x1), (2, .inl x2)] [] (q_V S) q_I (f_214 x1 x2 S) := by
  unfold f_214
  refine q_Sim.steps vc_214 3 (pc' := 4) (lv' := [(0, .inr (.inr (11, 0, 0))), (1, .inl x1), (2, .inl x2)]) (st' := [.inl 23, .inl 0, .inl x1]) (V' := q_V S) rfl ?_
  refine q_Sim.call vc_214 (as := [.inl x1, .inl 0, .inl 23]) (pc' := 7) (lv' := [(0, .inr (.inr (11, 0, 0))), (1, .inl x1), (2, .inl x2)]) (st' := []) (S := S) rfl (rc_189 x1 0 23) (s_189 x1 0 23 S) (fun r_1 S_2 => ?_)
  refine q_Sim.br vc_214 (c := ¬ r_1 = 0) (t := 14) (f := 10) (lv' := [(0, .inr (.inr (11, 0, 0))), (1, .inl x1), (2, .inl x2)]) (st' := []) (V' := q_V S_2) rfl ?_ ?_
  · refine q_Sim.steps vc_214 5 (pc' := 23) (lv' := [(0, .inr (.inr (11, 0, 0))), (1, .inl x1), (2, .inl x2)]) (st' := [.inl (16850 + x1), .inr (.inr (40, 0, 0))]) (V' := q_V S_2) rfl ?_
    refine q_Sim.ck vc_214 (c := v_in (16850 + x1) 19520) (pc' := 24) (lv' := [(0, .inr (.inr (11, 0, 0))), (1, .inl x1), (2, .inl x2)]) (st' := [.inl (S_2.1 (40, 0, 0) (16850 + x1).toNatClampNeg)]) (V' := q_V S_2) rfl ?_
    refine q_Sim.letI (fun y_3 => ?_)
    refine q_Sim.br vc_214 (c := 0 ≤ y_3) (t := 31) (f := 27) (lv' := [(0, .inr (.inr (11, 0, 0))), (1, .inl x1), (2, .inl x2)]) (st' := []) (V' := q_V S_2) rfl ?_ ?_
    · refine q_Sim.steps vc_214 2 (pc' := 33) (lv' := [(0, .inr (.inr (11, 0, 0))), (1, .inl x1), (2, .inl x2)]) (st' := [.inl x2, .inr (.inr (11, 0, 0))]) (V' := q_V S_2) rfl ?_
      refine q_Sim.call vc_214 (as := [.inr (.inr (11, 0, 0)), .inl x2]) (pc' := 36) (lv' := [(0, .inr (.inr (11, 0, 0))), (1, .inl x1), (2, .inl x2)]) (st' := []) (S := S_2) rfl (rc_200 x2) (s_200 x2 S_2) (fun r_4 S_5 => ?_)
      exact q_Sim.sub2 (lv' := [(0, .inr (.inr (11, 0, 0))), (1, .inl x1), (2, .inl x2)]) [0, 1, 2] rfl (by decide) ⟨rfl, rfl, rfl, trivial⟩ (sb_214_36 x1 x2 r_4 S_5)
    · refine q_Sim.steps vc_214 2 (pc' := 36) (lv' := [(0, .inr (.inr (11, 0, 0))), (1, .inl x1), (2, .inl x2)]) (st' := [.inl 1]) (V' := q_V S_2) rfl ?_
      exact q_Sim.sub2 (lv' := [(0, .inr (.inr (11, 0, 0))), (1, .inl x1), (2, .inl x2)]) [0, 1, 2] rfl (by decide) ⟨rfl, rfl, rfl, trivial⟩ (sb_214_36 x1 x2 1 S_2)
  · refine q_Sim.steps vc_214 2 (pc' := 36) (lv' := [(0, .inr (.inr (11, 0, 0))), (1, .inl x1), (2, .inl x2)]) (st' := [.inl 2]) (V' := q_V S_2) rfl ?_
    exact q_Sim.sub2 (lv' := [(0, .inr (.inr (11, 0, 0))), (1, .inl x1), (2, .inl x2)]) [0, 1, 2] rfl (by decide) ⟨rfl, rfl, rfl, trivial⟩ (sb_214_36 x1 x2 2 S_2)
theorem vc_215 : v_code 215 = k_215 := rfl
theorem rc_215 (x1 : Int32) : v_rcv 215 [.inr (.inr (11, 0, 0)), .inl x1] = true := rfl
def f_215 (x1 : Int32) (S : QS) : Option ((Int32) × QS) := q_bd (f_201 x1 S) (fun r_1 S_2 => if r_1 ≤ 0 then (q_bd (f_194 x1 S_2) (fun r_3 S_4 => q_bd (f_187 r_3 S_4) (fun r_5 S_6 => some (r_5, S_6)))) else (q_bd (f_186 r_1 S_2) (fun r_7 S_8 => some (r_7, S_8))))
theorem s_215 (x1 : Int32) (S : QS) : q_Sim 215 0 [(0, .inr (.inr (11, 0, 0))), (1, .inl x1)] [] (q_V S) q_I (f_215 x1 S) := by
  unfold f_215
  refine q_Sim.steps vc_215 2 (pc' := 2) (lv' := [(0, .inr (.inr (11, 0, 0))), (1, .inl x1)]) (st' := [.inl x1, .inr (.inr (11, 0, 0))]) (V' := q_V S) rfl ?_
  refine q_Sim.call vc_215 (as := [.inr (.inr (11, 0, 0)), .inl x1]) (pc' := 5) (lv' := [(0, .inr (.inr (11, 0, 0))), (1, .inl x1)]) (st' := []) (S := S) rfl (rc_201 x1) (s_201 x1 S) (fun r_1 S_2 => ?_)
  refine q_Sim.steps vc_215 2 (pc' := 7) (lv' := [(2, .inl r_1), (0, .inr (.inr (11, 0, 0))), (1, .inl x1)]) (st' := [.inl r_1]) (V' := q_V S_2) rfl ?_
  refine q_Sim.br vc_215 (c := r_1 ≤ 0) (t := 18) (f := 10) (lv' := [(2, .inl r_1), (0, .inr (.inr (11, 0, 0))), (1, .inl x1)]) (st' := []) (V' := q_V S_2) rfl ?_ ?_
  · refine q_Sim.steps vc_215 3 (pc' := 21) (lv' := [(2, .inl r_1), (0, .inr (.inr (11, 0, 0))), (1, .inl x1)]) (st' := [.inl x1, .inr (.inr (11, 0, 0)), .inr (.inr (11, 0, 0))]) (V' := q_V S_2) rfl ?_
    refine q_Sim.call vc_215 (as := [.inr (.inr (11, 0, 0)), .inl x1]) (pc' := 24) (lv' := [(2, .inl r_1), (0, .inr (.inr (11, 0, 0))), (1, .inl x1)]) (st' := [.inr (.inr (11, 0, 0))]) (S := S_2) rfl (rc_194 x1) (s_194 x1 S_2) (fun r_3 S_4 => ?_)
    refine q_Sim.call vc_215 (as := [.inr (.inr (11, 0, 0)), .inl r_3]) (pc' := 27) (lv' := [(2, .inl r_1), (0, .inr (.inr (11, 0, 0))), (1, .inl x1)]) (st' := []) (S := S_4) rfl (rc_187 r_3) (s_187 r_3 S_4) (fun r_5 S_6 => ?_)
    exact q_Sim.ret vc_215 rfl
  · refine q_Sim.steps vc_215 2 (pc' := 12) (lv' := [(2, .inl r_1), (0, .inr (.inr (11, 0, 0))), (1, .inl x1)]) (st' := [.inl r_1, .inr (.inr (11, 0, 0))]) (V' := q_V S_2) rfl ?_
    refine q_Sim.call vc_215 (as := [.inr (.inr (11, 0, 0)), .inl r_1]) (pc' := 15) (lv' := [(2, .inl r_1), (0, .inr (.inr (11, 0, 0))), (1, .inl x1)]) (st' := []) (S := S_2) rfl (rc_186 r_1) (s_186 r_1 S_2) (fun r_7 S_8 => ?_)
    refine q_Sim.steps vc_215 1 (pc' := 27) (lv' := [(2, .inl r_1), (0, .inr (.inr (11, 0, 0))), (1, .inl x1)]) (st' := [.inl r_7]) (V' := q_V S_8) rfl ?_
    exact q_Sim.ret vc_215 rfl
theorem vc_216 : v_code 216 = k_216 := rfl
theorem rc_216 (x1 : Int32) : v_rcv 216 [.inr (.inr (11, 0, 0)), .inl x1] = true := rfl
def b_216_95 (back_67 : Int32 → Int32 → Int32 → QS → Option ((Int32) × QS)) (x1 : Int32) (x3 : Int32) (xs0 : Int32) (S : QS) : Option ((Int32) × QS) := back_67 x1 xs0 (x3 + 1) S
theorem sb_216_95 (back_67 : Int32 → Int32 → Int32 → QS → Option ((Int32) × QS)) (hb_67 : ∀ (x1 : Int32) (x2 : Int32) (x3 : Int32) (S : QS), q_Sim 216 67 [(0, .inr (.inr (11, 0, 0))), (1, .inl x1), (2, .inl x2), (3, .inl x3)] [] (q_V S) q_I (back_67 x1 x2 x3 S)) (x1 : Int32) (x3 : Int32) (xs0 : Int32) (S : QS) : q_Sim 216 95 [(0, .inr (.inr (11, 0, 0))), (1, .inl x1), (3, .inl x3)] [.inl xs0] (q_V S) q_I (b_216_95 back_67 x1 x3 xs0 S) := by
  unfold b_216_95
  refine q_Sim.steps vc_216 3 (pc' := 67) (lv' := [(3, .inl (x3 + 1)), (2, .inl xs0), (0, .inr (.inr (11, 0, 0))), (1, .inl x1)]) (st' := []) (V' := q_V S) rfl ?_
  exact q_Sim.sub2 (lv' := [(0, .inr (.inr (11, 0, 0))), (1, .inl x1), (2, .inl xs0), (3, .inl (x3 + 1))]) [0, 1, 2, 3] rfl (by decide) ⟨rfl, rfl, rfl, rfl, trivial⟩ (hb_67 x1 xs0 (x3 + 1) S)
def b_216_67 : Nat → Int32 → Int32 → Int32 → QS → Option ((Int32) × QS)
  | 0, _, _, _, _ => none
  | n + 1, x1, x2, x3, S => if 24 ≤ x3 then (q_bd (f_187 x2 S) (fun r_4 S_5 => some (r_4, S_5))) else (q_ck (v_in (16850 + x3) 19520) (q_let (S.1 (40, 0, 0) (16850 + x3).toNatClampNeg) (fun y_6 => if ¬ y_6 = x1 then (b_216_95 (b_216_67 n) x1 x3 x2 S) else (b_216_95 (b_216_67 n) x1 x3 ((-2) - x3) S))))
theorem sb_216_67 : ∀ (n : Nat) (x1 : Int32) (x2 : Int32) (x3 : Int32) (S : QS), q_Sim 216 67 [(0, .inr (.inr (11, 0, 0))), (1, .inl x1), (2, .inl x2), (3, .inl x3)] [] (q_V S) q_I (b_216_67 n x1 x2 x3 S)
  | 0, _, _, _, _ => q_Sim.none
  | n + 1, x1, x2, x3, S => by
    rw [b_216_67]
    refine q_Sim.steps vc_216 2 (pc' := 70) (lv' := [(0, .inr (.inr (11, 0, 0))), (1, .inl x1), (2, .inl x2), (3, .inl x3)]) (st' := [.inl 24, .inl x3]) (V' := q_V S) rfl ?_
    refine q_Sim.br vc_216 (c := 24 ≤ x3) (t := 102) (f := 73) (lv' := [(0, .inr (.inr (11, 0, 0))), (1, .inl x1), (2, .inl x2), (3, .inl x3)]) (st' := []) (V' := q_V S) rfl ?_ ?_
    · refine q_Sim.steps vc_216 2 (pc' := 104) (lv' := [(0, .inr (.inr (11, 0, 0))), (1, .inl x1), (2, .inl x2), (3, .inl x3)]) (st' := [.inl x2, .inr (.inr (11, 0, 0))]) (V' := q_V S) rfl ?_
      refine q_Sim.call vc_216 (as := [.inr (.inr (11, 0, 0)), .inl x2]) (pc' := 107) (lv' := [(0, .inr (.inr (11, 0, 0))), (1, .inl x1), (2, .inl x2), (3, .inl x3)]) (st' := []) (S := S) rfl (rc_187 x2) (s_187 x2 S) (fun r_4 S_5 => ?_)
      exact q_Sim.ret vc_216 rfl
    · refine q_Sim.steps vc_216 5 (pc' := 82) (lv' := [(0, .inr (.inr (11, 0, 0))), (1, .inl x1), (2, .inl x2), (3, .inl x3)]) (st' := [.inl (16850 + x3), .inr (.inr (40, 0, 0))]) (V' := q_V S) rfl ?_
      refine q_Sim.ck vc_216 (c := v_in (16850 + x3) 19520) (pc' := 83) (lv' := [(0, .inr (.inr (11, 0, 0))), (1, .inl x1), (2, .inl x2), (3, .inl x3)]) (st' := [.inl (S.1 (40, 0, 0) (16850 + x3).toNatClampNeg)]) (V' := q_V S) rfl ?_
      refine q_Sim.letI (fun y_6 => ?_)
      refine q_Sim.steps vc_216 1 (pc' := 84) (lv' := [(0, .inr (.inr (11, 0, 0))), (1, .inl x1), (2, .inl x2), (3, .inl x3)]) (st' := [.inl x1, .inl y_6]) (V' := q_V S) rfl ?_
      refine q_Sim.br vc_216 (c := ¬ y_6 = x1) (t := 94) (f := 87) (lv' := [(0, .inr (.inr (11, 0, 0))), (1, .inl x1), (2, .inl x2), (3, .inl x3)]) (st' := []) (V' := q_V S) rfl ?_ ?_
      · refine q_Sim.steps vc_216 1 (pc' := 95) (lv' := [(0, .inr (.inr (11, 0, 0))), (1, .inl x1), (2, .inl x2), (3, .inl x3)]) (st' := [.inl x2]) (V' := q_V S) rfl ?_
        exact q_Sim.sub2 (lv' := [(0, .inr (.inr (11, 0, 0))), (1, .inl x1), (3, .inl x3)]) [0, 1, 3] rfl (by decide) ⟨rfl, rfl, rfl, trivial⟩ (sb_216_95 (b_216_67 n) (sb_216_67 n) x1 x3 x2 S)
      · refine q_Sim.steps vc_216 4 (pc' := 95) (lv' := [(0, .inr (.inr (11, 0, 0))), (1, .inl x1), (2, .inl x2), (3, .inl x3)]) (st' := [.inl ((-2) - x3)]) (V' := q_V S) rfl ?_
        exact q_Sim.sub2 (lv' := [(0, .inr (.inr (11, 0, 0))), (1, .inl x1), (3, .inl x3)]) [0, 1, 3] rfl (by decide) ⟨rfl, rfl, rfl, trivial⟩ (sb_216_95 (b_216_67 n) (sb_216_67 n) x1 x3 ((-2) - x3) S)
def b_216_58 (back_37 : Int32 → Int32 → Int32 → QS → Option ((Int32) × QS)) (x1 : Int32) (x3 : Int32) (xs0 : Int32) (S : QS) : Option ((Int32) × QS) := back_37 x1 xs0 (x3 + 1) S
theorem sb_216_58 (back_37 : Int32 → Int32 → Int32 → QS → Option ((Int32) × QS)) (hb_37 : ∀ (x1 : Int32) (x2 : Int32) (x3 : Int32) (S : QS), q_Sim 216 37 [(0, .inr (.inr (11, 0, 0))), (1, .inl x1), (2, .inl x2), (3, .inl x3)] [] (q_V S) q_I (back_37 x1 x2 x3 S)) (x1 : Int32) (x3 : Int32) (xs0 : Int32) (S : QS) : q_Sim 216 58 [(0, .inr (.inr (11, 0, 0))), (1, .inl x1), (3, .inl x3)] [.inl xs0] (q_V S) q_I (b_216_58 back_37 x1 x3 xs0 S) := by
  unfold b_216_58
  refine q_Sim.steps vc_216 3 (pc' := 37) (lv' := [(3, .inl (x3 + 1)), (2, .inl xs0), (0, .inr (.inr (11, 0, 0))), (1, .inl x1)]) (st' := []) (V' := q_V S) rfl ?_
  exact q_Sim.sub2 (lv' := [(0, .inr (.inr (11, 0, 0))), (1, .inl x1), (2, .inl xs0), (3, .inl (x3 + 1))]) [0, 1, 2, 3] rfl (by decide) ⟨rfl, rfl, rfl, rfl, trivial⟩ (hb_37 x1 xs0 (x3 + 1) S)
def b_216_37 : Nat → Int32 → Int32 → Int32 → QS → Option ((Int32) × QS)
  | 0, _, _, _, _ => none
  | n + 1, x1, x2, x3, S => if 3840 ≤ x3 then (b_216_67 q_N x1 x2 0 S) else (q_bd (f_194 x3 S) (fun r_7 S_8 => if ¬ r_7 = x1 then (b_216_58 (b_216_37 n) x1 x3 x2 S_8) else (b_216_58 (b_216_37 n) x1 x3 x3 S_8)))
theorem sb_216_37 : ∀ (n : Nat) (x1 : Int32) (x2 : Int32) (x3 : Int32) (S : QS), q_Sim 216 37 [(0, .inr (.inr (11, 0, 0))), (1, .inl x1), (2, .inl x2), (3, .inl x3)] [] (q_V S) q_I (b_216_37 n x1 x2 x3 S)
  | 0, _, _, _, _ => q_Sim.none
  | n + 1, x1, x2, x3, S => by
    rw [b_216_37]
    refine q_Sim.steps vc_216 2 (pc' := 41) (lv' := [(0, .inr (.inr (11, 0, 0))), (1, .inl x1), (2, .inl x2), (3, .inl x3)]) (st' := [.inl 3840, .inl x3]) (V' := q_V S) rfl ?_
    refine q_Sim.br vc_216 (c := 3840 ≤ x3) (t := 65) (f := 44) (lv' := [(0, .inr (.inr (11, 0, 0))), (1, .inl x1), (2, .inl x2), (3, .inl x3)]) (st' := []) (V' := q_V S) rfl ?_ ?_
    · refine q_Sim.steps vc_216 2 (pc' := 67) (lv' := [(3, .inl 0), (0, .inr (.inr (11, 0, 0))), (1, .inl x1), (2, .inl x2)]) (st' := []) (V' := q_V S) rfl ?_
      exact q_Sim.sub2 (lv' := [(0, .inr (.inr (11, 0, 0))), (1, .inl x1), (2, .inl x2), (3, .inl 0)]) [0, 1, 2, 3] rfl (by decide) ⟨rfl, rfl, rfl, rfl, trivial⟩ (sb_216_67 q_N x1 x2 0 S)
    · refine q_Sim.steps vc_216 2 (pc' := 46) (lv' := [(0, .inr (.inr (11, 0, 0))), (1, .inl x1), (2, .inl x2), (3, .inl x3)]) (st' := [.inl x3, .inr (.inr (11, 0, 0))]) (V' := q_V S) rfl ?_
      refine q_Sim.call vc_216 (as := [.inr (.inr (11, 0, 0)), .inl x3]) (pc' := 49) (lv' := [(0, .inr (.inr (11, 0, 0))), (1, .inl x1), (2, .inl x2), (3, .inl x3)]) (st' := []) (S := S) rfl (rc_194 x3) (s_194 x3 S) (fun r_7 S_8 => ?_)
      refine q_Sim.steps vc_216 1 (pc' := 50) (lv' := [(0, .inr (.inr (11, 0, 0))), (1, .inl x1), (2, .inl x2), (3, .inl x3)]) (st' := [.inl x1, .inl r_7]) (V' := q_V S_8) rfl ?_
      refine q_Sim.br vc_216 (c := ¬ r_7 = x1) (t := 57) (f := 53) (lv' := [(0, .inr (.inr (11, 0, 0))), (1, .inl x1), (2, .inl x2), (3, .inl x3)]) (st' := []) (V' := q_V S_8) rfl ?_ ?_
      · refine q_Sim.steps vc_216 1 (pc' := 58) (lv' := [(0, .inr (.inr (11, 0, 0))), (1, .inl x1), (2, .inl x2), (3, .inl x3)]) (st' := [.inl x2]) (V' := q_V S_8) rfl ?_
        exact q_Sim.sub2 (lv' := [(0, .inr (.inr (11, 0, 0))), (1, .inl x1), (3, .inl x3)]) [0, 1, 3] rfl (by decide) ⟨rfl, rfl, rfl, trivial⟩ (sb_216_58 (b_216_37 n) (sb_216_37 n) x1 x3 x2 S_8)
      · refine q_Sim.steps vc_216 2 (pc' := 58) (lv' := [(0, .inr (.inr (11, 0, 0))), (1, .inl x1), (2, .inl x2), (3, .inl x3)]) (st' := [.inl x3]) (V' := q_V S_8) rfl ?_
        exact q_Sim.sub2 (lv' := [(0, .inr (.inr (11, 0, 0))), (1, .inl x1), (3, .inl x3)]) [0, 1, 3] rfl (by decide) ⟨rfl, rfl, rfl, trivial⟩ (sb_216_58 (b_216_37 n) (sb_216_37 n) x1 x3 x3 S_8)
def f_216 (x1 : Int32) (S : QS) : Option ((Int32) × QS) := q_bd (f_189 x1 0 199 S) (fun r_1 S_2 => if ¬ r_1 = 0 then (q_ck (v_in 1 19520) (q_let (S_2.1 (40, 0, 0) (1 : Int32).toNatClampNeg) (fun y_3 => if x1 < y_3 then (b_216_37 q_N x1 (-1) 0 S_2) else (q_bd (f_186 1 S_2) (fun r_9 S_10 => some (r_9, S_10)))))) else (q_bd (f_186 2 S_2) (fun r_11 S_12 => some (r_11, S_12))))
theorem s_216 (x1 : Int32) (S : QS) : q_Sim 216 0 [(0, .inr (.inr (11, 0, 0))), (1, .inl x1)] [] (q_V S) q_I (f_216 x1 S) := by
  unfold f_216
  refine q_Sim.steps vc_216 3 (pc' := 5) (lv' := [(0, .inr (.inr (11, 0, 0))), (1, .inl x1)]) (st' := [.inl 199, .inl 0, .inl x1]) (V' := q_V S) rfl ?_
  refine q_Sim.call vc_216 (as := [.inl x1, .inl 0, .inl 199]) (pc' := 8) (lv' := [(0, .inr (.inr (11, 0, 0))), (1, .inl x1)]) (st' := []) (S := S) rfl (rc_189 x1 0 199) (s_189 x1 0 199 S) (fun r_1 S_2 => ?_)
  refine q_Sim.br vc_216 (c := ¬ r_1 = 0) (t := 17) (f := 11) (lv' := [(0, .inr (.inr (11, 0, 0))), (1, .inl x1)]) (st' := []) (V' := q_V S_2) rfl ?_ ?_
  · refine q_Sim.steps vc_216 4 (pc' := 23) (lv' := [(0, .inr (.inr (11, 0, 0))), (1, .inl x1)]) (st' := [.inl 1, .inr (.inr (40, 0, 0)), .inl x1]) (V' := q_V S_2) rfl ?_
    refine q_Sim.ck vc_216 (c := v_in 1 19520) (pc' := 24) (lv' := [(0, .inr (.inr (11, 0, 0))), (1, .inl x1)]) (st' := [.inl (S_2.1 (40, 0, 0) (1 : Int32).toNatClampNeg), .inl x1]) (V' := q_V S_2) rfl ?_
    refine q_Sim.letI (fun y_3 => ?_)
    refine q_Sim.br vc_216 (c := x1 < y_3) (t := 33) (f := 27) (lv' := [(0, .inr (.inr (11, 0, 0))), (1, .inl x1)]) (st' := []) (V' := q_V S_2) rfl ?_ ?_
    · refine q_Sim.steps vc_216 4 (pc' := 37) (lv' := [(3, .inl 0), (2, .inl (-1)), (0, .inr (.inr (11, 0, 0))), (1, .inl x1)]) (st' := []) (V' := q_V S_2) rfl ?_
      exact q_Sim.sub2 (lv' := [(0, .inr (.inr (11, 0, 0))), (1, .inl x1), (2, .inl (-1)), (3, .inl 0)]) [0, 1, 2, 3] rfl (by decide) ⟨rfl, rfl, rfl, rfl, trivial⟩ (sb_216_37 q_N x1 (-1) 0 S_2)
    · refine q_Sim.steps vc_216 2 (pc' := 29) (lv' := [(0, .inr (.inr (11, 0, 0))), (1, .inl x1)]) (st' := [.inl 1, .inr (.inr (11, 0, 0))]) (V' := q_V S_2) rfl ?_
      refine q_Sim.call vc_216 (as := [.inr (.inr (11, 0, 0)), .inl 1]) (pc' := 32) (lv' := [(0, .inr (.inr (11, 0, 0))), (1, .inl x1)]) (st' := []) (S := S_2) rfl (rc_186 1) (s_186 1 S_2) (fun r_9 S_10 => ?_)
      exact q_Sim.ret vc_216 rfl
  · refine q_Sim.steps vc_216 2 (pc' := 13) (lv' := [(0, .inr (.inr (11, 0, 0))), (1, .inl x1)]) (st' := [.inl 2, .inr (.inr (11, 0, 0))]) (V' := q_V S_2) rfl ?_
    refine q_Sim.call vc_216 (as := [.inr (.inr (11, 0, 0)), .inl 2]) (pc' := 16) (lv' := [(0, .inr (.inr (11, 0, 0))), (1, .inl x1)]) (st' := []) (S := S_2) rfl (rc_186 2) (s_186 2 S_2) (fun r_11 S_12 => ?_)
    exact q_Sim.ret vc_216 rfl
theorem vc_217 : v_code 217 = k_217 := rfl
theorem rc_217 (x1 : Int32) (x2 : Int32) : v_rcv 217 [.inr (.inr (11, 0, 0)), .inl x1, .inl x2] = true := rfl
def f_217 (x1 : Int32) (x2 : Int32) (S : QS) : Option ((Int32) × QS) := q_bd (f_201 x1 S) (fun r_1 S_2 => if r_1 ≤ 0 then (q_bd (f_194 x1 S_2) (fun r_3 S_4 => q_bd (f_195 r_3 S_4) (fun r_5 S_6 => q_bd (f_189 x2 0 (r_5 - 1) S_6) (fun r_7 S_8 => if r_7 = 0 then (some (2, S_8)) else (some (0, S_8)))))) else (some (r_1, S_2)))
theorem s_217 (x1 : Int32) (x2 : Int32) (S : QS) : q_Sim 217 0 [(0, .inr (.inr (11, 0, 0))), (1, .inl x1), (2, .inl x2)] [] (q_V S) q_I (f_217 x1 x2 S) := by
  unfold f_217
  refine q_Sim.steps vc_217 2 (pc' := 2) (lv' := [(0, .inr (.inr (11, 0, 0))), (1, .inl x1), (2, .inl x2)]) (st' := [.inl x1, .inr (.inr (11, 0, 0))]) (V' := q_V S) rfl ?_
  refine q_Sim.call vc_217 (as := [.inr (.inr (11, 0, 0)), .inl x1]) (pc' := 5) (lv' := [(0, .inr (.inr (11, 0, 0))), (1, .inl x1), (2, .inl x2)]) (st' := []) (S := S) rfl (rc_201 x1) (s_201 x1 S) (fun r_1 S_2 => ?_)
  refine q_Sim.steps vc_217 2 (pc' := 7) (lv' := [(3, .inl r_1), (0, .inr (.inr (11, 0, 0))), (1, .inl x1), (2, .inl x2)]) (st' := [.inl r_1]) (V' := q_V S_2) rfl ?_
  refine q_Sim.br vc_217 (c := r_1 ≤ 0) (t := 14) (f := 10) (lv' := [(3, .inl r_1), (0, .inr (.inr (11, 0, 0))), (1, .inl x1), (2, .inl x2)]) (st' := []) (V' := q_V S_2) rfl ?_ ?_
  · refine q_Sim.steps vc_217 5 (pc' := 19) (lv' := [(3, .inl r_1), (0, .inr (.inr (11, 0, 0))), (1, .inl x1), (2, .inl x2)]) (st' := [.inl x1, .inr (.inr (11, 0, 0)), .inr (.inr (11, 0, 0)), .inl 0, .inl x2]) (V' := q_V S_2) rfl ?_
    refine q_Sim.call vc_217 (as := [.inr (.inr (11, 0, 0)), .inl x1]) (pc' := 22) (lv' := [(3, .inl r_1), (0, .inr (.inr (11, 0, 0))), (1, .inl x1), (2, .inl x2)]) (st' := [.inr (.inr (11, 0, 0)), .inl 0, .inl x2]) (S := S_2) rfl (rc_194 x1) (s_194 x1 S_2) (fun r_3 S_4 => ?_)
    refine q_Sim.call vc_217 (as := [.inr (.inr (11, 0, 0)), .inl r_3]) (pc' := 25) (lv' := [(3, .inl r_1), (0, .inr (.inr (11, 0, 0))), (1, .inl x1), (2, .inl x2)]) (st' := [.inl 0, .inl x2]) (S := S_4) rfl (rc_195 r_3) (s_195 r_3 S_4) (fun r_5 S_6 => ?_)
    refine q_Sim.steps vc_217 2 (pc' := 27) (lv' := [(3, .inl r_1), (0, .inr (.inr (11, 0, 0))), (1, .inl x1), (2, .inl x2)]) (st' := [.inl (r_5 - 1), .inl 0, .inl x2]) (V' := q_V S_6) rfl ?_
    refine q_Sim.call vc_217 (as := [.inl x2, .inl 0, .inl (r_5 - 1)]) (pc' := 30) (lv' := [(3, .inl r_1), (0, .inr (.inr (11, 0, 0))), (1, .inl x1), (2, .inl x2)]) (st' := []) (S := S_6) rfl (rc_189 x2 0 (r_5 - 1)) (s_189 x2 0 (r_5 - 1) S_6) (fun r_7 S_8 => ?_)
    refine q_Sim.br vc_217 (c := r_7 = 0) (t := 37) (f := 33) (lv' := [(3, .inl r_1), (0, .inr (.inr (11, 0, 0))), (1, .inl x1), (2, .inl x2)]) (st' := []) (V' := q_V S_8) rfl ?_ ?_
    · refine q_Sim.steps vc_217 1 (pc' := 38) (lv' := [(3, .inl r_1), (0, .inr (.inr (11, 0, 0))), (1, .inl x1), (2, .inl x2)]) (st' := [.inl 2]) (V' := q_V S_8) rfl ?_
      exact q_Sim.ret vc_217 rfl
    · refine q_Sim.steps vc_217 2 (pc' := 38) (lv' := [(3, .inl r_1), (0, .inr (.inr (11, 0, 0))), (1, .inl x1), (2, .inl x2)]) (st' := [.inl 0]) (V' := q_V S_8) rfl ?_
      exact q_Sim.ret vc_217 rfl
  · refine q_Sim.steps vc_217 2 (pc' := 38) (lv' := [(3, .inl r_1), (0, .inr (.inr (11, 0, 0))), (1, .inl x1), (2, .inl x2)]) (st' := [.inl r_1]) (V' := q_V S_2) rfl ?_
    exact q_Sim.ret vc_217 rfl
theorem vc_218 : v_code 218 = k_218 := rfl
theorem rc_218 (x1 : Int32) (x2 : Int32) : v_rcv 218 [.inr (.inr (11, 0, 0)), .inl x1, .inl x2] = true := rfl
def f_218 (x1 : Int32) (x2 : Int32) (S : QS) : Option ((Int32) × QS) := q_bd (f_217 x1 x2 S) (fun r_1 S_2 => if r_1 ≤ 0 then (q_bd (f_194 x1 S_2) (fun r_3 S_4 => q_bd (f_196 r_3 x2 S_4) (fun r_5 S_6 => q_bd (f_187 r_5 S_6) (fun r_7 S_8 => some (r_7, S_8))))) else (q_bd (f_186 r_1 S_2) (fun r_9 S_10 => some (r_9, S_10))))
theorem s_218 (x1 : Int32) (x2 : Int32) (S : QS) : q_Sim 218 0 [(0, .inr (.inr (11, 0, 0))), (1, .inl x1), (2, .inl x2)] [] (q_V S) q_I (f_218 x1 x2 S) := by
  unfold f_218
  refine q_Sim.steps vc_218 3 (pc' := 3) (lv' := [(0, .inr (.inr (11, 0, 0))), (1, .inl x1), (2, .inl x2)]) (st' := [.inl x2, .inl x1, .inr (.inr (11, 0, 0))]) (V' := q_V S) rfl ?_
  refine q_Sim.call vc_218 (as := [.inr (.inr (11, 0, 0)), .inl x1, .inl x2]) (pc' := 6) (lv' := [(0, .inr (.inr (11, 0, 0))), (1, .inl x1), (2, .inl x2)]) (st' := []) (S := S) rfl (rc_217 x1 x2) (s_217 x1 x2 S) (fun r_1 S_2 => ?_)
  refine q_Sim.steps vc_218 2 (pc' := 8) (lv' := [(3, .inl r_1), (0, .inr (.inr (11, 0, 0))), (1, .inl x1), (2, .inl x2)]) (st' := [.inl r_1]) (V' := q_V S_2) rfl ?_
  refine q_Sim.br vc_218 (c := r_1 ≤ 0) (t := 19) (f := 11) (lv' := [(3, .inl r_1), (0, .inr (.inr (11, 0, 0))), (1, .inl x1), (2, .inl x2)]) (st' := []) (V' := q_V S_2) rfl ?_ ?_
  · refine q_Sim.steps vc_218 4 (pc' := 23) (lv' := [(3, .inl r_1), (0, .inr (.inr (11, 0, 0))), (1, .inl x1), (2, .inl x2)]) (st' := [.inl x1, .inr (.inr (11, 0, 0)), .inr (.inr (11, 0, 0)), .inr (.inr (11, 0, 0))]) (V' := q_V S_2) rfl ?_
    refine q_Sim.call vc_218 (as := [.inr (.inr (11, 0, 0)), .inl x1]) (pc' := 26) (lv' := [(3, .inl r_1), (0, .inr (.inr (11, 0, 0))), (1, .inl x1), (2, .inl x2)]) (st' := [.inr (.inr (11, 0, 0)), .inr (.inr (11, 0, 0))]) (S := S_2) rfl (rc_194 x1) (s_194 x1 S_2) (fun r_3 S_4 => ?_)
    refine q_Sim.steps vc_218 1 (pc' := 27) (lv' := [(3, .inl r_1), (0, .inr (.inr (11, 0, 0))), (1, .inl x1), (2, .inl x2)]) (st' := [.inl x2, .inl r_3, .inr (.inr (11, 0, 0)), .inr (.inr (11, 0, 0))]) (V' := q_V S_4) rfl ?_
    refine q_Sim.call vc_218 (as := [.inr (.inr (11, 0, 0)), .inl r_3, .inl x2]) (pc' := 30) (lv' := [(3, .inl r_1), (0, .inr (.inr (11, 0, 0))), (1, .inl x1), (2, .inl x2)]) (st' := [.inr (.inr (11, 0, 0))]) (S := S_4) rfl (rc_196 r_3 x2) (s_196 r_3 x2 S_4) (fun r_5 S_6 => ?_)
    refine q_Sim.call vc_218 (as := [.inr (.inr (11, 0, 0)), .inl r_5]) (pc' := 33) (lv' := [(3, .inl r_1), (0, .inr (.inr (11, 0, 0))), (1, .inl x1), (2, .inl x2)]) (st' := []) (S := S_6) rfl (rc_187 r_5) (s_187 r_5 S_6) (fun r_7 S_8 => ?_)
    exact q_Sim.ret vc_218 rfl
  · refine q_Sim.steps vc_218 2 (pc' := 13) (lv' := [(3, .inl r_1), (0, .inr (.inr (11, 0, 0))), (1, .inl x1), (2, .inl x2)]) (st' := [.inl r_1, .inr (.inr (11, 0, 0))]) (V' := q_V S_2) rfl ?_
    refine q_Sim.call vc_218 (as := [.inr (.inr (11, 0, 0)), .inl r_1]) (pc' := 16) (lv' := [(3, .inl r_1), (0, .inr (.inr (11, 0, 0))), (1, .inl x1), (2, .inl x2)]) (st' := []) (S := S_2) rfl (rc_186 r_1) (s_186 r_1 S_2) (fun r_9 S_10 => ?_)
    refine q_Sim.steps vc_218 1 (pc' := 33) (lv' := [(3, .inl r_1), (0, .inr (.inr (11, 0, 0))), (1, .inl x1), (2, .inl x2)]) (st' := [.inl r_9]) (V' := q_V S_10) rfl ?_
    exact q_Sim.ret vc_218 rfl
theorem vc_219 : v_code 219 = k_219 := rfl
theorem rc_219 (x1 : Int32) (x2 : Int32) (x3 : Int32) : v_rcv 219 [.inr (.inr (11, 0, 0)), .inl x1, .inl x2, .inl x3] = true := rfl
def b_219_96 (x2 : Int32) (x3 : Int32) (x5 : Int32) (x6 : Int32) (xs1 : Int32) (xs2 : Int32) (xs3 : Int32) (S : QS) : Option ((Int32) × QS) := q_ck (v_in xs1 19520) (q_let (q_set S (40, 0, 0) xs1.toNatClampNeg (xs2 + xs3)) (fun S_12 => q_bd (f_197 x5 x2 x3 S_12) (fun r_13 S_14 => q_bd (f_187 x6 S_14) (fun r_15 S_16 => some (r_15, S_16)))))
theorem sb_219_96 (x2 : Int32) (x3 : Int32) (x5 : Int32) (x6 : Int32) (xs1 : Int32) (xs2 : Int32) (xs3 : Int32) (S : QS) : q_Sim 219 96 [(0, .inr (.inr (11, 0, 0))), (2, .inl x2), (3, .inl x3), (5, .inl x5), (6, .inl x6)] [.inl xs3, .inl xs2, .inl xs1, .inr (.inr (40, 0, 0))] (q_V S) q_I (b_219_96 x2 x3 x5 x6 xs1 xs2 xs3 S) := by
  unfold b_219_96
  refine q_Sim.steps vc_219 1 (pc' := 97) (lv' := [(0, .inr (.inr (11, 0, 0))), (2, .inl x2), (3, .inl x3), (5, .inl x5), (6, .inl x6)]) (st' := [.inl (xs2 + xs3), .inl xs1, .inr (.inr (40, 0, 0))]) (V' := q_V S) rfl ?_
  refine q_Sim.ck vc_219 (c := v_in xs1 19520) (pc' := 98) (lv' := [(0, .inr (.inr (11, 0, 0))), (2, .inl x2), (3, .inl x3), (5, .inl x5), (6, .inl x6)]) (st' := []) (V' := q_V (q_set S (40, 0, 0) xs1.toNatClampNeg (xs2 + xs3))) rfl ?_
  refine q_Sim.letS (fun S_12 => ?_)
  refine q_Sim.steps vc_219 4 (pc' := 103) (lv' := [(0, .inr (.inr (11, 0, 0))), (2, .inl x2), (3, .inl x3), (5, .inl x5), (6, .inl x6)]) (st' := [.inl x3, .inl x2, .inl x5, .inr (.inr (11, 0, 0))]) (V' := q_V S_12) rfl ?_
  refine q_Sim.call vc_219 (as := [.inr (.inr (11, 0, 0)), .inl x5, .inl x2, .inl x3]) (pc' := 106) (lv' := [(0, .inr (.inr (11, 0, 0))), (2, .inl x2), (3, .inl x3), (5, .inl x5), (6, .inl x6)]) (st' := []) (S := S_12) rfl (rc_197 x5 x2 x3) (s_197 x5 x2 x3 S_12) (fun r_13 S_14 => ?_)
  refine q_Sim.steps vc_219 2 (pc' := 109) (lv' := [(0, .inr (.inr (11, 0, 0))), (2, .inl x2), (3, .inl x3), (5, .inl x5), (6, .inl x6)]) (st' := [.inl x6, .inr (.inr (11, 0, 0))]) (V' := q_V S_14) rfl ?_
  refine q_Sim.call vc_219 (as := [.inr (.inr (11, 0, 0)), .inl x6]) (pc' := 112) (lv' := [(0, .inr (.inr (11, 0, 0))), (2, .inl x2), (3, .inl x3), (5, .inl x5), (6, .inl x6)]) (st' := []) (S := S_14) rfl (rc_187 x6) (s_187 x6 S_14) (fun r_15 S_16 => ?_)
  exact q_Sim.ret vc_219 rfl
def b_219_42 (x1 : Int32) (x2 : Int32) (x3 : Int32) (x4 : Int32) (S : QS) : Option ((Int32) × QS) := if x4 ≤ 0 then (q_bd (f_188  S) (fun r_3 S_4 => q_bd (f_194 x1 S_4) (fun r_5 S_6 => q_bd (f_196 r_5 x2 S_6) (fun r_7 S_8 => q_ck (v_in 6 19520) (q_let (S_8.1 (40, 0, 0) (6 : Int32).toNatClampNeg) (fun y_9 => q_bd (f_203 r_7 S_8) (fun r_10 S_11 => if r_10 = 0 then (b_219_96 x2 x3 r_5 r_7 6 y_9 0 S_11) else (b_219_96 x2 x3 r_5 r_7 6 y_9 r_7 S_11)))))))) else (q_bd (f_186 x4 S) (fun r_17 S_18 => some (r_17, S_18)))
theorem sb_219_42 (x1 : Int32) (x2 : Int32) (x3 : Int32) (x4 : Int32) (S : QS) : q_Sim 219 42 [(0, .inr (.inr (11, 0, 0))), (1, .inl x1), (2, .inl x2), (3, .inl x3), (4, .inl x4)] [] (q_V S) q_I (b_219_42 x1 x2 x3 x4 S) := by
  unfold b_219_42
  refine q_Sim.steps vc_219 1 (pc' := 44) (lv' := [(0, .inr (.inr (11, 0, 0))), (1, .inl x1), (2, .inl x2), (3, .inl x3), (4, .inl x4)]) (st' := [.inl x4]) (V' := q_V S) rfl ?_
  refine q_Sim.br vc_219 (c := x4 ≤ 0) (t := 54) (f := 47) (lv' := [(0, .inr (.inr (11, 0, 0))), (1, .inl x1), (2, .inl x2), (3, .inl x3), (4, .inl x4)]) (st' := []) (V' := q_V S) rfl ?_ ?_
  · refine q_Sim.steps vc_219 1 (pc' := 55) (lv' := [(0, .inr (.inr (11, 0, 0))), (1, .inl x1), (2, .inl x2), (3, .inl x3), (4, .inl x4)]) (st' := [.inr (.inr (11, 0, 0))]) (V' := q_V S) rfl ?_
    refine q_Sim.call vc_219 (as := [.inr (.inr (11, 0, 0))]) (pc' := 58) (lv' := [(0, .inr (.inr (11, 0, 0))), (1, .inl x1), (2, .inl x2), (3, .inl x3), (4, .inl x4)]) (st' := []) (S := S) rfl (rc_188 ) (s_188  S) (fun r_3 S_4 => ?_)
    refine q_Sim.steps vc_219 2 (pc' := 60) (lv' := [(0, .inr (.inr (11, 0, 0))), (1, .inl x1), (2, .inl x2), (3, .inl x3), (4, .inl x4)]) (st' := [.inl x1, .inr (.inr (11, 0, 0))]) (V' := q_V S_4) rfl ?_
    refine q_Sim.call vc_219 (as := [.inr (.inr (11, 0, 0)), .inl x1]) (pc' := 63) (lv' := [(0, .inr (.inr (11, 0, 0))), (1, .inl x1), (2, .inl x2), (3, .inl x3), (4, .inl x4)]) (st' := []) (S := S_4) rfl (rc_194 x1) (s_194 x1 S_4) (fun r_5 S_6 => ?_)
    refine q_Sim.steps vc_219 4 (pc' := 69) (lv' := [(5, .inl r_5), (0, .inr (.inr (11, 0, 0))), (1, .inl x1), (2, .inl x2), (3, .inl x3), (4, .inl x4)]) (st' := [.inl x2, .inl r_5, .inr (.inr (11, 0, 0))]) (V' := q_V S_6) rfl ?_
    refine q_Sim.call vc_219 (as := [.inr (.inr (11, 0, 0)), .inl r_5, .inl x2]) (pc' := 72) (lv' := [(5, .inl r_5), (0, .inr (.inr (11, 0, 0))), (1, .inl x1), (2, .inl x2), (3, .inl x3), (4, .inl x4)]) (st' := []) (S := S_6) rfl (rc_196 r_5 x2) (s_196 r_5 x2 S_6) (fun r_7 S_8 => ?_)
    refine q_Sim.steps vc_219 5 (pc' := 81) (lv' := [(6, .inl r_7), (5, .inl r_5), (0, .inr (.inr (11, 0, 0))), (1, .inl x1), (2, .inl x2), (3, .inl x3), (4, .inl x4)]) (st' := [.inl 6, .inr (.inr (40, 0, 0)), .inl 6, .inr (.inr (40, 0, 0))]) (V' := q_V S_8) rfl ?_
    refine q_Sim.ck vc_219 (c := v_in 6 19520) (pc' := 82) (lv' := [(6, .inl r_7), (5, .inl r_5), (0, .inr (.inr (11, 0, 0))), (1, .inl x1), (2, .inl x2), (3, .inl x3), (4, .inl x4)]) (st' := [.inl (S_8.1 (40, 0, 0) (6 : Int32).toNatClampNeg), .inl 6, .inr (.inr (40, 0, 0))]) (V' := q_V S_8) rfl ?_
    refine q_Sim.letI (fun y_9 => ?_)
    refine q_Sim.steps vc_219 1 (pc' := 84) (lv' := [(6, .inl r_7), (5, .inl r_5), (0, .inr (.inr (11, 0, 0))), (1, .inl x1), (2, .inl x2), (3, .inl x3), (4, .inl x4)]) (st' := [.inl r_7, .inl y_9, .inl 6, .inr (.inr (40, 0, 0))]) (V' := q_V S_8) rfl ?_
    refine q_Sim.call vc_219 (as := [.inl r_7]) (pc' := 87) (lv' := [(6, .inl r_7), (5, .inl r_5), (0, .inr (.inr (11, 0, 0))), (1, .inl x1), (2, .inl x2), (3, .inl x3), (4, .inl x4)]) (st' := [.inl y_9, .inl 6, .inr (.inr (40, 0, 0))]) (S := S_8) rfl (rc_203 r_7) (s_203 r_7 S_8) (fun r_10 S_11 => ?_)
    refine q_Sim.br vc_219 (c := r_10 = 0) (t := 95) (f := 90) (lv' := [(6, .inl r_7), (5, .inl r_5), (0, .inr (.inr (11, 0, 0))), (1, .inl x1), (2, .inl x2), (3, .inl x3), (4, .inl x4)]) (st' := [.inl y_9, .inl 6, .inr (.inr (40, 0, 0))]) (V' := q_V S_11) rfl ?_ ?_
    · refine q_Sim.steps vc_219 1 (pc' := 96) (lv' := [(6, .inl r_7), (5, .inl r_5), (0, .inr (.inr (11, 0, 0))), (1, .inl x1), (2, .inl x2), (3, .inl x3), (4, .inl x4)]) (st' := [.inl 0, .inl y_9, .inl 6, .inr (.inr (40, 0, 0))]) (V' := q_V S_11) rfl ?_
      exact q_Sim.sub2 (lv' := [(0, .inr (.inr (11, 0, 0))), (2, .inl x2), (3, .inl x3), (5, .inl r_5), (6, .inl r_7)]) [0, 2, 3, 5, 6] rfl (by decide) ⟨rfl, rfl, rfl, rfl, rfl, trivial⟩ (sb_219_96 x2 x3 r_5 r_7 6 y_9 0 S_11)
    · refine q_Sim.steps vc_219 2 (pc' := 96) (lv' := [(6, .inl r_7), (5, .inl r_5), (0, .inr (.inr (11, 0, 0))), (1, .inl x1), (2, .inl x2), (3, .inl x3), (4, .inl x4)]) (st' := [.inl r_7, .inl y_9, .inl 6, .inr (.inr (40, 0, 0))]) (V' := q_V S_11) rfl ?_
      exact q_Sim.sub2 (lv' := [(0, .inr (.inr (11, 0, 0))), (2, .inl x2), (3, .inl x3), (5, .inl r_5), (6, .inl r_7)]) [0, 2, 3, 5, 6] rfl (by decide) ⟨rfl, rfl, rfl, rfl, rfl, trivial⟩ (sb_219_96 x2 x3 r_5 r_7 6 y_9 r_7 S_11)
  · refine q_Sim.steps vc_219 2 (pc' := 50) (lv' := [(0, .inr (.inr (11, 0, 0))), (1, .inl x1), (2, .inl x2), (3, .inl x3), (4, .inl x4)]) (st' := [.inl x4, .inr (.inr (11, 0, 0))]) (V' := q_V S) rfl ?_
    refine q_Sim.call vc_219 (as := [.inr (.inr (11, 0, 0)), .inl x4]) (pc' := 53) (lv' := [(0, .inr (.inr (11, 0, 0))), (1, .inl x1), (2, .inl x2), (3, .inl x3), (4, .inl x4)]) (st' := []) (S := S) rfl (rc_186 x4) (s_186 x4 S) (fun r_17 S_18 => ?_)
    exact q_Sim.ret vc_219 rfl
def f_219 (x1 : Int32) (x2 : Int32) (x3 : Int32) (S : QS) : Option ((Int32) × QS) := q_bd (f_217 x1 x2 S) (fun r_1 S_2 => if ¬ r_1 = 0 then (b_219_42 x1 x2 x3 r_1 S_2) else (if x3 = 0 then (b_219_42 x1 x2 x3 r_1 S_2) else (if x3 = 200 then (b_219_42 x1 x2 x3 r_1 S_2) else (if x3 = 300 then (b_219_42 x1 x2 x3 r_1 S_2) else (if x3 = 400 then (b_219_42 x1 x2 x3 r_1 S_2) else (b_219_42 x1 x2 x3 6 S_2))))))
theorem s_219 (x1 : Int32) (x2 : Int32) (x3 : Int32) (S : QS) : q_Sim 219 0 [(0, .inr (.inr (11, 0, 0))), (1, .inl x1), (2, .inl x2), (3, .inl x3)] [] (q_V S) q_I (f_219 x1 x2 x3 S) := by
  unfold f_219
  refine q_Sim.steps vc_219 3 (pc' := 3) (lv' := [(0, .inr (.inr (11, 0, 0))), (1, .inl x1), (2, .inl x2), (3, .inl x3)]) (st' := [.inl x2, .inl x1, .inr (.inr (11, 0, 0))]) (V' := q_V S) rfl ?_
  refine q_Sim.call vc_219 (as := [.inr (.inr (11, 0, 0)), .inl x1, .inl x2]) (pc' := 6) (lv' := [(0, .inr (.inr (11, 0, 0))), (1, .inl x1), (2, .inl x2), (3, .inl x3)]) (st' := []) (S := S) rfl (rc_217 x1 x2) (s_217 x1 x2 S) (fun r_1 S_2 => ?_)
  refine q_Sim.steps vc_219 2 (pc' := 10) (lv' := [(4, .inl r_1), (0, .inr (.inr (11, 0, 0))), (1, .inl x1), (2, .inl x2), (3, .inl x3)]) (st' := [.inl r_1]) (V' := q_V S_2) rfl ?_
  refine q_Sim.br vc_219 (c := ¬ r_1 = 0) (t := 42) (f := 13) (lv' := [(4, .inl r_1), (0, .inr (.inr (11, 0, 0))), (1, .inl x1), (2, .inl x2), (3, .inl x3)]) (st' := []) (V' := q_V S_2) rfl ?_ ?_
  · exact q_Sim.sub2 (lv' := [(0, .inr (.inr (11, 0, 0))), (1, .inl x1), (2, .inl x2), (3, .inl x3), (4, .inl r_1)]) [0, 1, 2, 3, 4] rfl (by decide) ⟨rfl, rfl, rfl, rfl, rfl, trivial⟩ (sb_219_42 x1 x2 x3 r_1 S_2)
  · refine q_Sim.steps vc_219 1 (pc' := 14) (lv' := [(4, .inl r_1), (0, .inr (.inr (11, 0, 0))), (1, .inl x1), (2, .inl x2), (3, .inl x3)]) (st' := [.inl x3]) (V' := q_V S_2) rfl ?_
    refine q_Sim.br vc_219 (c := x3 = 0) (t := 42) (f := 17) (lv' := [(4, .inl r_1), (0, .inr (.inr (11, 0, 0))), (1, .inl x1), (2, .inl x2), (3, .inl x3)]) (st' := []) (V' := q_V S_2) rfl ?_ ?_
    · exact q_Sim.sub2 (lv' := [(0, .inr (.inr (11, 0, 0))), (1, .inl x1), (2, .inl x2), (3, .inl x3), (4, .inl r_1)]) [0, 1, 2, 3, 4] rfl (by decide) ⟨rfl, rfl, rfl, rfl, rfl, trivial⟩ (sb_219_42 x1 x2 x3 r_1 S_2)
    · refine q_Sim.steps vc_219 2 (pc' := 21) (lv' := [(4, .inl r_1), (0, .inr (.inr (11, 0, 0))), (1, .inl x1), (2, .inl x2), (3, .inl x3)]) (st' := [.inl 200, .inl x3]) (V' := q_V S_2) rfl ?_
      refine q_Sim.br vc_219 (c := x3 = 200) (t := 42) (f := 24) (lv' := [(4, .inl r_1), (0, .inr (.inr (11, 0, 0))), (1, .inl x1), (2, .inl x2), (3, .inl x3)]) (st' := []) (V' := q_V S_2) rfl ?_ ?_
      · exact q_Sim.sub2 (lv' := [(0, .inr (.inr (11, 0, 0))), (1, .inl x1), (2, .inl x2), (3, .inl x3), (4, .inl r_1)]) [0, 1, 2, 3, 4] rfl (by decide) ⟨rfl, rfl, rfl, rfl, rfl, trivial⟩ (sb_219_42 x1 x2 x3 r_1 S_2)
      · refine q_Sim.steps vc_219 2 (pc' := 28) (lv' := [(4, .inl r_1), (0, .inr (.inr (11, 0, 0))), (1, .inl x1), (2, .inl x2), (3, .inl x3)]) (st' := [.inl 300, .inl x3]) (V' := q_V S_2) rfl ?_
        refine q_Sim.br vc_219 (c := x3 = 300) (t := 42) (f := 31) (lv' := [(4, .inl r_1), (0, .inr (.inr (11, 0, 0))), (1, .inl x1), (2, .inl x2), (3, .inl x3)]) (st' := []) (V' := q_V S_2) rfl ?_ ?_
        · exact q_Sim.sub2 (lv' := [(0, .inr (.inr (11, 0, 0))), (1, .inl x1), (2, .inl x2), (3, .inl x3), (4, .inl r_1)]) [0, 1, 2, 3, 4] rfl (by decide) ⟨rfl, rfl, rfl, rfl, rfl, trivial⟩ (sb_219_42 x1 x2 x3 r_1 S_2)
        · refine q_Sim.steps vc_219 2 (pc' := 35) (lv' := [(4, .inl r_1), (0, .inr (.inr (11, 0, 0))), (1, .inl x1), (2, .inl x2), (3, .inl x3)]) (st' := [.inl 400, .inl x3]) (V' := q_V S_2) rfl ?_
          refine q_Sim.br vc_219 (c := x3 = 400) (t := 42) (f := 38) (lv' := [(4, .inl r_1), (0, .inr (.inr (11, 0, 0))), (1, .inl x1), (2, .inl x2), (3, .inl x3)]) (st' := []) (V' := q_V S_2) rfl ?_ ?_
          · exact q_Sim.sub2 (lv' := [(0, .inr (.inr (11, 0, 0))), (1, .inl x1), (2, .inl x2), (3, .inl x3), (4, .inl r_1)]) [0, 1, 2, 3, 4] rfl (by decide) ⟨rfl, rfl, rfl, rfl, rfl, trivial⟩ (sb_219_42 x1 x2 x3 r_1 S_2)
          · refine q_Sim.steps vc_219 2 (pc' := 42) (lv' := [(4, .inl 6), (0, .inr (.inr (11, 0, 0))), (1, .inl x1), (2, .inl x2), (3, .inl x3)]) (st' := []) (V' := q_V S_2) rfl ?_
            exact q_Sim.sub2 (lv' := [(0, .inr (.inr (11, 0, 0))), (1, .inl x1), (2, .inl x2), (3, .inl x3), (4, .inl 6)]) [0, 1, 2, 3, 4] rfl (by decide) ⟨rfl, rfl, rfl, rfl, rfl, trivial⟩ (sb_219_42 x1 x2 x3 6 S_2)
theorem vc_220 : v_code 220 = k_220 := rfl
theorem rc_220 (x1 : Int32) (x2 : Int32) : v_rcv 220 [.inr (.inr (11, 0, 0)), .inl x1, .inl x2] = true := rfl
def b_220_167 (back_47 : Int32 → Int32 → Int32 → Int32 → QS → Option ((Int32) × QS)) (x1 : Int32) (x2 : Int32) (x4 : Int32) (x5 : Int32) (S : QS) : Option ((Int32) × QS) := back_47 x1 x2 x4 (x5 + 1) S
theorem sb_220_167 (back_47 : Int32 → Int32 → Int32 → Int32 → QS → Option ((Int32) × QS)) (hb_47 : ∀ (x1 : Int32) (x2 : Int32) (x4 : Int32) (x5 : Int32) (S : QS), q_Sim 220 47 [(0, .inr (.inr (11, 0, 0))), (1, .inl x1), (2, .inl x2), (4, .inl x4), (5, .inl x5)] [] (q_V S) q_I (back_47 x1 x2 x4 x5 S)) (x1 : Int32) (x2 : Int32) (x4 : Int32) (x5 : Int32) (S : QS) : q_Sim 220 167 [(0, .inr (.inr (11, 0, 0))), (1, .inl x1), (2, .inl x2), (4, .inl x4), (5, .inl x5)] [] (q_V S) q_I (b_220_167 back_47 x1 x2 x4 x5 S) := by
  unfold b_220_167
  refine q_Sim.steps vc_220 2 (pc' := 47) (lv' := [(5, .inl (x5 + 1)), (0, .inr (.inr (11, 0, 0))), (1, .inl x1), (2, .inl x2), (4, .inl x4)]) (st' := []) (V' := q_V S) rfl ?_
  exact q_Sim.sub2 (lv' := [(0, .inr (.inr (11, 0, 0))), (1, .inl x1), (2, .inl x2), (4, .inl x4), (5, .inl (x5 + 1))]) [0, 1, 2, 4, 5] rfl (by decide) ⟨rfl, rfl, rfl, rfl, rfl, trivial⟩ (hb_47 x1 x2 x4 (x5 + 1) S)
def b_220_161 (back_47 : Int32 → Int32 → Int32 → Int32 → QS → Option ((Int32) × QS)) (back_78 : Int32 → Int32 → Int32 → Int32 → Int32 → Int32 → QS → Option ((Int32) × QS)) (x1 : Int32) (x2 : Int32) (x4 : Int32) (x5 : Int32) (x6 : Int32) (x7 : Int32) (S : QS) : Option ((Int32) × QS) := back_78 x1 x2 x4 x5 x6 (x7 + 1) S
theorem sb_220_161 (back_47 : Int32 → Int32 → Int32 → Int32 → QS → Option ((Int32) × QS)) (hb_47 : ∀ (x1 : Int32) (x2 : Int32) (x4 : Int32) (x5 : Int32) (S : QS), q_Sim 220 47 [(0, .inr (.inr (11, 0, 0))), (1, .inl x1), (2, .inl x2), (4, .inl x4), (5, .inl x5)] [] (q_V S) q_I (back_47 x1 x2 x4 x5 S)) (back_78 : Int32 → Int32 → Int32 → Int32 → Int32 → Int32 → QS → Option ((Int32) × QS)) (hb_78 : ∀ (x1 : Int32) (x2 : Int32) (x4 : Int32) (x5 : Int32) (x6 : Int32) (x7 : Int32) (S : QS), q_Sim 220 78 [(0, .inr (.inr (11, 0, 0))), (1, .inl x1), (2, .inl x2), (4, .inl x4), (5, .inl x5), (6, .inl x6), (7, .inl x7)] [] (q_V S) q_I (back_78 x1 x2 x4 x5 x6 x7 S)) (x1 : Int32) (x2 : Int32) (x4 : Int32) (x5 : Int32) (x6 : Int32) (x7 : Int32) (S : QS) : q_Sim 220 161 [(0, .inr (.inr (11, 0, 0))), (1, .inl x1), (2, .inl x2), (4, .inl x4), (5, .inl x5), (6, .inl x6), (7, .inl x7)] [] (q_V S) q_I (b_220_161 back_47 back_78 x1 x2 x4 x5 x6 x7 S) := by
  unfold b_220_161
  refine q_Sim.steps vc_220 2 (pc' := 78) (lv' := [(7, .inl (x7 + 1)), (0, .inr (.inr (11, 0, 0))), (1, .inl x1), (2, .inl x2), (4, .inl x4), (5, .inl x5), (6, .inl x6)]) (st' := []) (V' := q_V S) rfl ?_
  exact q_Sim.sub2 (lv' := [(0, .inr (.inr (11, 0, 0))), (1, .inl x1), (2, .inl x2), (4, .inl x4), (5, .inl x5), (6, .inl x6), (7, .inl (x7 + 1))]) [0, 1, 2, 4, 5, 6, 7] rfl (by decide) ⟨rfl, rfl, rfl, rfl, rfl, rfl, rfl, trivial⟩ (hb_78 x1 x2 x4 x5 x6 (x7 + 1) S)
def b_220_139 (back_47 : Int32 → Int32 → Int32 → Int32 → QS → Option ((Int32) × QS)) (back_78 : Int32 → Int32 → Int32 → Int32 → Int32 → Int32 → QS → Option ((Int32) × QS)) (x1 : Int32) (x2 : Int32) (x4 : Int32) (x5 : Int32) (x6 : Int32) (x7 : Int32) (x8 : Int32) (xs0 : Int32) (S : QS) : Option ((Int32) × QS) := q_bd (f_197 x6 x7 (x8 + xs0) S) (fun r_20 S_21 => q_let (x4 - xs0) (fun y_22 => b_220_161 back_47 back_78 x1 x2 y_22 x5 x6 x7 S_21))
theorem sb_220_139 (back_47 : Int32 → Int32 → Int32 → Int32 → QS → Option ((Int32) × QS)) (hb_47 : ∀ (x1 : Int32) (x2 : Int32) (x4 : Int32) (x5 : Int32) (S : QS), q_Sim 220 47 [(0, .inr (.inr (11, 0, 0))), (1, .inl x1), (2, .inl x2), (4, .inl x4), (5, .inl x5)] [] (q_V S) q_I (back_47 x1 x2 x4 x5 S)) (back_78 : Int32 → Int32 → Int32 → Int32 → Int32 → Int32 → QS → Option ((Int32) × QS)) (hb_78 : ∀ (x1 : Int32) (x2 : Int32) (x4 : Int32) (x5 : Int32) (x6 : Int32) (x7 : Int32) (S : QS), q_Sim 220 78 [(0, .inr (.inr (11, 0, 0))), (1, .inl x1), (2, .inl x2), (4, .inl x4), (5, .inl x5), (6, .inl x6), (7, .inl x7)] [] (q_V S) q_I (back_78 x1 x2 x4 x5 x6 x7 S)) (x1 : Int32) (x2 : Int32) (x4 : Int32) (x5 : Int32) (x6 : Int32) (x7 : Int32) (x8 : Int32) (xs0 : Int32) (S : QS) : q_Sim 220 139 [(0, .inr (.inr (11, 0, 0))), (1, .inl x1), (2, .inl x2), (4, .inl x4), (5, .inl x5), (6, .inl x6), (7, .inl x7), (8, .inl x8)] [.inl xs0] (q_V S) q_I (b_220_139 back_47 back_78 x1 x2 x4 x5 x6 x7 x8 xs0 S) := by
  unfold b_220_139
  refine q_Sim.steps vc_220 7 (pc' := 151) (lv' := [(9, .inl xs0), (0, .inr (.inr (11, 0, 0))), (1, .inl x1), (2, .inl x2), (4, .inl x4), (5, .inl x5), (6, .inl x6), (7, .inl x7), (8, .inl x8)]) (st' := [.inl (x8 + xs0), .inl x7, .inl x6, .inr (.inr (11, 0, 0))]) (V' := q_V S) rfl ?_
  refine q_Sim.call vc_220 (as := [.inr (.inr (11, 0, 0)), .inl x6, .inl x7, .inl (x8 + xs0)]) (pc' := 154) (lv' := [(9, .inl xs0), (0, .inr (.inr (11, 0, 0))), (1, .inl x1), (2, .inl x2), (4, .inl x4), (5, .inl x5), (6, .inl x6), (7, .inl x7), (8, .inl x8)]) (st' := []) (S := S) rfl (rc_197 x6 x7 (x8 + xs0)) (s_197 x6 x7 (x8 + xs0) S) (fun r_20 S_21 => ?_)
  refine q_Sim.steps vc_220 3 (pc' := 159) (lv' := [(9, .inl xs0), (0, .inr (.inr (11, 0, 0))), (1, .inl x1), (2, .inl x2), (4, .inl x4), (5, .inl x5), (6, .inl x6), (7, .inl x7), (8, .inl x8)]) (st' := [.inl (x4 - xs0)]) (V' := q_V S_21) rfl ?_
  refine q_Sim.letI (fun y_22 => ?_)
  refine q_Sim.steps vc_220 1 (pc' := 161) (lv' := [(4, .inl y_22), (9, .inl xs0), (0, .inr (.inr (11, 0, 0))), (1, .inl x1), (2, .inl x2), (5, .inl x5), (6, .inl x6), (7, .inl x7), (8, .inl x8)]) (st' := []) (V' := q_V S_21) rfl ?_
  exact q_Sim.sub2 (lv' := [(0, .inr (.inr (11, 0, 0))), (1, .inl x1), (2, .inl x2), (4, .inl y_22), (5, .inl x5), (6, .inl x6), (7, .inl x7)]) [0, 1, 2, 4, 5, 6, 7] rfl (by decide) ⟨rfl, rfl, rfl, rfl, rfl, rfl, rfl, trivial⟩ (sb_220_161 back_47 hb_47 back_78 hb_78 x1 x2 y_22 x5 x6 x7 S_21)
def b_220_78 (back_47 : Int32 → Int32 → Int32 → Int32 → QS → Option ((Int32) × QS)) : Nat → Int32 → Int32 → Int32 → Int32 → Int32 → Int32 → QS → Option ((Int32) × QS)
  | 0, _, _, _, _, _, _, _ => none
  | n + 1, x1, x2, x4, x5, x6, x7, S => if x6 < 0 then (b_220_167 back_47 x1 x2 x4 x5 S) else (q_bd (f_195 x6 S) (fun r_16 S_17 => if r_16 ≤ x7 then (b_220_167 back_47 x1 x2 x4 x5 S_17) else (if x4 ≤ 0 then (b_220_167 back_47 x1 x2 x4 x5 S_17) else (q_bd (f_196 x6 x7 S_17) (fun r_18 S_19 => if r_18 ≤ 100 then (if (100 - r_18) ≤ x4 then (b_220_139 back_47 (b_220_78 back_47 n) x1 x2 x4 x5 x6 x7 r_18 (100 - r_18) S_19) else (b_220_139 back_47 (b_220_78 back_47 n) x1 x2 x4 x5 x6 x7 r_18 x4 S_19)) else (b_220_161 back_47 (b_220_78 back_47 n) x1 x2 x4 x5 x6 x7 S_19))))))
theorem sb_220_78 (back_47 : Int32 → Int32 → Int32 → Int32 → QS → Option ((Int32) × QS)) (hb_47 : ∀ (x1 : Int32) (x2 : Int32) (x4 : Int32) (x5 : Int32) (S : QS), q_Sim 220 47 [(0, .inr (.inr (11, 0, 0))), (1, .inl x1), (2, .inl x2), (4, .inl x4), (5, .inl x5)] [] (q_V S) q_I (back_47 x1 x2 x4 x5 S)) : ∀ (n : Nat) (x1 : Int32) (x2 : Int32) (x4 : Int32) (x5 : Int32) (x6 : Int32) (x7 : Int32) (S : QS), q_Sim 220 78 [(0, .inr (.inr (11, 0, 0))), (1, .inl x1), (2, .inl x2), (4, .inl x4), (5, .inl x5), (6, .inl x6), (7, .inl x7)] [] (q_V S) q_I (b_220_78 back_47 n x1 x2 x4 x5 x6 x7 S)
  | 0, _, _, _, _, _, _, _ => q_Sim.none
  | n + 1, x1, x2, x4, x5, x6, x7, S => by
    rw [b_220_78]
    refine q_Sim.steps vc_220 1 (pc' := 80) (lv' := [(0, .inr (.inr (11, 0, 0))), (1, .inl x1), (2, .inl x2), (4, .inl x4), (5, .inl x5), (6, .inl x6), (7, .inl x7)]) (st' := [.inl x6]) (V' := q_V S) rfl ?_
    refine q_Sim.br vc_220 (c := x6 < 0) (t := 167) (f := 83) (lv' := [(0, .inr (.inr (11, 0, 0))), (1, .inl x1), (2, .inl x2), (4, .inl x4), (5, .inl x5), (6, .inl x6), (7, .inl x7)]) (st' := []) (V' := q_V S) rfl ?_ ?_
    · exact q_Sim.sub2 (lv' := [(0, .inr (.inr (11, 0, 0))), (1, .inl x1), (2, .inl x2), (4, .inl x4), (5, .inl x5)]) [0, 1, 2, 4, 5] rfl (by decide) ⟨rfl, rfl, rfl, rfl, rfl, trivial⟩ (sb_220_167 back_47 hb_47 x1 x2 x4 x5 S)
    · refine q_Sim.steps vc_220 3 (pc' := 88) (lv' := [(0, .inr (.inr (11, 0, 0))), (1, .inl x1), (2, .inl x2), (4, .inl x4), (5, .inl x5), (6, .inl x6), (7, .inl x7)]) (st' := [.inl x6, .inr (.inr (11, 0, 0)), .inl x7]) (V' := q_V S) rfl ?_
      refine q_Sim.call vc_220 (as := [.inr (.inr (11, 0, 0)), .inl x6]) (pc' := 91) (lv' := [(0, .inr (.inr (11, 0, 0))), (1, .inl x1), (2, .inl x2), (4, .inl x4), (5, .inl x5), (6, .inl x6), (7, .inl x7)]) (st' := [.inl x7]) (S := S) rfl (rc_195 x6) (s_195 x6 S) (fun r_16 S_17 => ?_)
      refine q_Sim.br vc_220 (c := r_16 ≤ x7) (t := 167) (f := 94) (lv' := [(0, .inr (.inr (11, 0, 0))), (1, .inl x1), (2, .inl x2), (4, .inl x4), (5, .inl x5), (6, .inl x6), (7, .inl x7)]) (st' := []) (V' := q_V S_17) rfl ?_ ?_
      · exact q_Sim.sub2 (lv' := [(0, .inr (.inr (11, 0, 0))), (1, .inl x1), (2, .inl x2), (4, .inl x4), (5, .inl x5)]) [0, 1, 2, 4, 5] rfl (by decide) ⟨rfl, rfl, rfl, rfl, rfl, trivial⟩ (sb_220_167 back_47 hb_47 x1 x2 x4 x5 S_17)
      · refine q_Sim.steps vc_220 1 (pc' := 96) (lv' := [(0, .inr (.inr (11, 0, 0))), (1, .inl x1), (2, .inl x2), (4, .inl x4), (5, .inl x5), (6, .inl x6), (7, .inl x7)]) (st' := [.inl x4]) (V' := q_V S_17) rfl ?_
        refine q_Sim.br vc_220 (c := x4 ≤ 0) (t := 167) (f := 99) (lv' := [(0, .inr (.inr (11, 0, 0))), (1, .inl x1), (2, .inl x2), (4, .inl x4), (5, .inl x5), (6, .inl x6), (7, .inl x7)]) (st' := []) (V' := q_V S_17) rfl ?_ ?_
        · exact q_Sim.sub2 (lv' := [(0, .inr (.inr (11, 0, 0))), (1, .inl x1), (2, .inl x2), (4, .inl x4), (5, .inl x5)]) [0, 1, 2, 4, 5] rfl (by decide) ⟨rfl, rfl, rfl, rfl, rfl, trivial⟩ (sb_220_167 back_47 hb_47 x1 x2 x4 x5 S_17)
        · refine q_Sim.steps vc_220 3 (pc' := 104) (lv' := [(0, .inr (.inr (11, 0, 0))), (1, .inl x1), (2, .inl x2), (4, .inl x4), (5, .inl x5), (6, .inl x6), (7, .inl x7)]) (st' := [.inl x7, .inl x6, .inr (.inr (11, 0, 0))]) (V' := q_V S_17) rfl ?_
          refine q_Sim.call vc_220 (as := [.inr (.inr (11, 0, 0)), .inl x6, .inl x7]) (pc' := 107) (lv' := [(0, .inr (.inr (11, 0, 0))), (1, .inl x1), (2, .inl x2), (4, .inl x4), (5, .inl x5), (6, .inl x6), (7, .inl x7)]) (st' := []) (S := S_17) rfl (rc_196 x6 x7) (s_196 x6 x7 S_17) (fun r_18 S_19 => ?_)
          refine q_Sim.steps vc_220 3 (pc' := 113) (lv' := [(8, .inl r_18), (0, .inr (.inr (11, 0, 0))), (1, .inl x1), (2, .inl x2), (4, .inl x4), (5, .inl x5), (6, .inl x6), (7, .inl x7)]) (st' := [.inl 100, .inl r_18]) (V' := q_V S_19) rfl ?_
          refine q_Sim.br vc_220 (c := r_18 ≤ 100) (t := 119) (f := 116) (lv' := [(8, .inl r_18), (0, .inr (.inr (11, 0, 0))), (1, .inl x1), (2, .inl x2), (4, .inl x4), (5, .inl x5), (6, .inl x6), (7, .inl x7)]) (st' := []) (V' := q_V S_19) rfl ?_ ?_
          · refine q_Sim.steps vc_220 4 (pc' := 126) (lv' := [(8, .inl r_18), (0, .inr (.inr (11, 0, 0))), (1, .inl x1), (2, .inl x2), (4, .inl x4), (5, .inl x5), (6, .inl x6), (7, .inl x7)]) (st' := [.inl (100 - r_18), .inl x4]) (V' := q_V S_19) rfl ?_
            refine q_Sim.br vc_220 (c := (100 - r_18) ≤ x4) (t := 134) (f := 129) (lv' := [(8, .inl r_18), (0, .inr (.inr (11, 0, 0))), (1, .inl x1), (2, .inl x2), (4, .inl x4), (5, .inl x5), (6, .inl x6), (7, .inl x7)]) (st' := []) (V' := q_V S_19) rfl ?_ ?_
            · refine q_Sim.steps vc_220 3 (pc' := 139) (lv' := [(8, .inl r_18), (0, .inr (.inr (11, 0, 0))), (1, .inl x1), (2, .inl x2), (4, .inl x4), (5, .inl x5), (6, .inl x6), (7, .inl x7)]) (st' := [.inl (100 - r_18)]) (V' := q_V S_19) rfl ?_
              exact q_Sim.sub2 (lv' := [(0, .inr (.inr (11, 0, 0))), (1, .inl x1), (2, .inl x2), (4, .inl x4), (5, .inl x5), (6, .inl x6), (7, .inl x7), (8, .inl r_18)]) [0, 1, 2, 4, 5, 6, 7, 8] rfl (by decide) ⟨rfl, rfl, rfl, rfl, rfl, rfl, rfl, rfl, trivial⟩ (sb_220_139 back_47 hb_47 (b_220_78 back_47 n) (sb_220_78 back_47 hb_47 n) x1 x2 x4 x5 x6 x7 r_18 (100 - r_18) S_19)
            · refine q_Sim.steps vc_220 2 (pc' := 139) (lv' := [(8, .inl r_18), (0, .inr (.inr (11, 0, 0))), (1, .inl x1), (2, .inl x2), (4, .inl x4), (5, .inl x5), (6, .inl x6), (7, .inl x7)]) (st' := [.inl x4]) (V' := q_V S_19) rfl ?_
              exact q_Sim.sub2 (lv' := [(0, .inr (.inr (11, 0, 0))), (1, .inl x1), (2, .inl x2), (4, .inl x4), (5, .inl x5), (6, .inl x6), (7, .inl x7), (8, .inl r_18)]) [0, 1, 2, 4, 5, 6, 7, 8] rfl (by decide) ⟨rfl, rfl, rfl, rfl, rfl, rfl, rfl, rfl, trivial⟩ (sb_220_139 back_47 hb_47 (b_220_78 back_47 n) (sb_220_78 back_47 hb_47 n) x1 x2 x4 x5 x6 x7 r_18 x4 S_19)
          · refine q_Sim.steps vc_220 1 (pc' := 161) (lv' := [(8, .inl r_18), (0, .inr (.inr (11, 0, 0))), (1, .inl x1), (2, .inl x2), (4, .inl x4), (5, .inl x5), (6, .inl x6), (7, .inl x7)]) (st' := []) (V' := q_V S_19) rfl ?_
            exact q_Sim.sub2 (lv' := [(0, .inr (.inr (11, 0, 0))), (1, .inl x1), (2, .inl x2), (4, .inl x4), (5, .inl x5), (6, .inl x6), (7, .inl x7)]) [0, 1, 2, 4, 5, 6, 7] rfl (by decide) ⟨rfl, rfl, rfl, rfl, rfl, rfl, rfl, trivial⟩ (sb_220_161 back_47 hb_47 (b_220_78 back_47 n) (sb_220_78 back_47 hb_47 n) x1 x2 x4 x5 x6 x7 S_19)
def b_220_47 : Nat → Int32 → Int32 → Int32 → Int32 → QS → Option ((Int32) × QS)
  | 0, _, _, _, _, _ => none
  | n + 1, x1, x2, x4, x5, S => q_bd (f_190 x1 10 S) (fun r_6 S_7 => if ((96 * x1) + (12 * r_6)) ≤ x5 then (q_ck (v_in 7 19520) (q_let (S_7.1 (40, 0, 0) (7 : Int32).toNatClampNeg) (fun y_8 => q_ck (v_in 7 19520) (q_let (q_set S_7 (40, 0, 0) (7 : Int32).toNatClampNeg (y_8 + x2)) (fun S_9 => q_ck (v_in 6 19520) (q_let (S_9.1 (40, 0, 0) (6 : Int32).toNatClampNeg) (fun y_10 => q_ck (v_in 6 19520) (q_let (q_set S_9 (40, 0, 0) (6 : Int32).toNatClampNeg (y_10 + x4)) (fun S_11 => q_bd (f_187 (x2 - x4) S_11) (fun r_12 S_13 => some (r_12, S_13))))))))))) else (q_bd (f_194 x5 S_7) (fun r_14 S_15 => b_220_78 (b_220_47 n) q_N x1 x2 x4 x5 r_14 0 S_15)))
theorem sb_220_47 : ∀ (n : Nat) (x1 : Int32) (x2 : Int32) (x4 : Int32) (x5 : Int32) (S : QS), q_Sim 220 47 [(0, .inr (.inr (11, 0, 0))), (1, .inl x1), (2, .inl x2), (4, .inl x4), (5, .inl x5)] [] (q_V S) q_I (b_220_47 n x1 x2 x4 x5 S)
  | 0, _, _, _, _, _ => q_Sim.none
  | n + 1, x1, x2, x4, x5, S => by
    rw [b_220_47]
    refine q_Sim.steps vc_220 8 (pc' := 59) (lv' := [(0, .inr (.inr (11, 0, 0))), (1, .inl x1), (2, .inl x2), (4, .inl x4), (5, .inl x5)]) (st' := [.inl 10, .inl x1, .inr (.inr (11, 0, 0)), .inl 12, .inl (96 * x1), .inl x5]) (V' := q_V S) rfl ?_
    refine q_Sim.call vc_220 (as := [.inr (.inr (11, 0, 0)), .inl x1, .inl 10]) (pc' := 62) (lv' := [(0, .inr (.inr (11, 0, 0))), (1, .inl x1), (2, .inl x2), (4, .inl x4), (5, .inl x5)]) (st' := [.inl 12, .inl (96 * x1), .inl x5]) (S := S) rfl (rc_190 x1 10) (s_190 x1 10 S) (fun r_6 S_7 => ?_)
    refine q_Sim.steps vc_220 2 (pc' := 64) (lv' := [(0, .inr (.inr (11, 0, 0))), (1, .inl x1), (2, .inl x2), (4, .inl x4), (5, .inl x5)]) (st' := [.inl ((96 * x1) + (12 * r_6)), .inl x5]) (V' := q_V S_7) rfl ?_
    refine q_Sim.br vc_220 (c := ((96 * x1) + (12 * r_6)) ≤ x5) (t := 173) (f := 67) (lv' := [(0, .inr (.inr (11, 0, 0))), (1, .inl x1), (2, .inl x2), (4, .inl x4), (5, .inl x5)]) (st' := []) (V' := q_V S_7) rfl ?_ ?_
    · refine q_Sim.steps vc_220 4 (pc' := 180) (lv' := [(0, .inr (.inr (11, 0, 0))), (1, .inl x1), (2, .inl x2), (4, .inl x4), (5, .inl x5)]) (st' := [.inl 7, .inr (.inr (40, 0, 0)), .inl 7, .inr (.inr (40, 0, 0))]) (V' := q_V S_7) rfl ?_
      refine q_Sim.ck vc_220 (c := v_in 7 19520) (pc' := 181) (lv' := [(0, .inr (.inr (11, 0, 0))), (1, .inl x1), (2, .inl x2), (4, .inl x4), (5, .inl x5)]) (st' := [.inl (S_7.1 (40, 0, 0) (7 : Int32).toNatClampNeg), .inl 7, .inr (.inr (40, 0, 0))]) (V' := q_V S_7) rfl ?_
      refine q_Sim.letI (fun y_8 => ?_)
      refine q_Sim.steps vc_220 2 (pc' := 183) (lv' := [(0, .inr (.inr (11, 0, 0))), (1, .inl x1), (2, .inl x2), (4, .inl x4), (5, .inl x5)]) (st' := [.inl (y_8 + x2), .inl 7, .inr (.inr (40, 0, 0))]) (V' := q_V S_7) rfl ?_
      refine q_Sim.ck vc_220 (c := v_in 7 19520) (pc' := 184) (lv' := [(0, .inr (.inr (11, 0, 0))), (1, .inl x1), (2, .inl x2), (4, .inl x4), (5, .inl x5)]) (st' := []) (V' := q_V (q_set S_7 (40, 0, 0) (7 : Int32).toNatClampNeg (y_8 + x2))) rfl ?_
      refine q_Sim.letS (fun S_9 => ?_)
      refine q_Sim.steps vc_220 4 (pc' := 191) (lv' := [(0, .inr (.inr (11, 0, 0))), (1, .inl x1), (2, .inl x2), (4, .inl x4), (5, .inl x5)]) (st' := [.inl 6, .inr (.inr (40, 0, 0)), .inl 6, .inr (.inr (40, 0, 0))]) (V' := q_V S_9) rfl ?_
      refine q_Sim.ck vc_220 (c := v_in 6 19520) (pc' := 192) (lv' := [(0, .inr (.inr (11, 0, 0))), (1, .inl x1), (2, .inl x2), (4, .inl x4), (5, .inl x5)]) (st' := [.inl (S_9.1 (40, 0, 0) (6 : Int32).toNatClampNeg), .inl 6, .inr (.inr (40, 0, 0))]) (V' := q_V S_9) rfl ?_
      refine q_Sim.letI (fun y_10 => ?_)
      refine q_Sim.steps vc_220 2 (pc' := 195) (lv' := [(0, .inr (.inr (11, 0, 0))), (1, .inl x1), (2, .inl x2), (4, .inl x4), (5, .inl x5)]) (st' := [.inl (y_10 + x4), .inl 6, .inr (.inr (40, 0, 0))]) (V' := q_V S_9) rfl ?_
      refine q_Sim.ck vc_220 (c := v_in 6 19520) (pc' := 196) (lv' := [(0, .inr (.inr (11, 0, 0))), (1, .inl x1), (2, .inl x2), (4, .inl x4), (5, .inl x5)]) (st' := []) (V' := q_V (q_set S_9 (40, 0, 0) (6 : Int32).toNatClampNeg (y_10 + x4))) rfl ?_
      refine q_Sim.letS (fun S_11 => ?_)
      refine q_Sim.steps vc_220 4 (pc' := 201) (lv' := [(0, .inr (.inr (11, 0, 0))), (1, .inl x1), (2, .inl x2), (4, .inl x4), (5, .inl x5)]) (st' := [.inl (x2 - x4), .inr (.inr (11, 0, 0))]) (V' := q_V S_11) rfl ?_
      refine q_Sim.call vc_220 (as := [.inr (.inr (11, 0, 0)), .inl (x2 - x4)]) (pc' := 204) (lv' := [(0, .inr (.inr (11, 0, 0))), (1, .inl x1), (2, .inl x2), (4, .inl x4), (5, .inl x5)]) (st' := []) (S := S_11) rfl (rc_187 (x2 - x4)) (s_187 (x2 - x4) S_11) (fun r_12 S_13 => ?_)
      exact q_Sim.ret vc_220 rfl
    · refine q_Sim.steps vc_220 2 (pc' := 70) (lv' := [(0, .inr (.inr (11, 0, 0))), (1, .inl x1), (2, .inl x2), (4, .inl x4), (5, .inl x5)]) (st' := [.inl x5, .inr (.inr (11, 0, 0))]) (V' := q_V S_7) rfl ?_
      refine q_Sim.call vc_220 (as := [.inr (.inr (11, 0, 0)), .inl x5]) (pc' := 73) (lv' := [(0, .inr (.inr (11, 0, 0))), (1, .inl x1), (2, .inl x2), (4, .inl x4), (5, .inl x5)]) (st' := []) (S := S_7) rfl (rc_194 x5) (s_194 x5 S_7) (fun r_14 S_15 => ?_)
      refine q_Sim.steps vc_220 3 (pc' := 78) (lv' := [(7, .inl 0), (6, .inl r_14), (0, .inr (.inr (11, 0, 0))), (1, .inl x1), (2, .inl x2), (4, .inl x4), (5, .inl x5)]) (st' := []) (V' := q_V S_15) rfl ?_
      exact q_Sim.sub2 (lv' := [(0, .inr (.inr (11, 0, 0))), (1, .inl x1), (2, .inl x2), (4, .inl x4), (5, .inl x5), (6, .inl r_14), (7, .inl 0)]) [0, 1, 2, 4, 5, 6, 7] rfl (by decide) ⟨rfl, rfl, rfl, rfl, rfl, rfl, rfl, trivial⟩ (sb_220_78 (b_220_47 n) (sb_220_47 n) q_N x1 x2 x4 x5 r_14 0 S_15)
def b_220_24 (x1 : Int32) (x2 : Int32) (x3 : Int32) (S : QS) : Option ((Int32) × QS) := if x3 ≤ 0 then (q_bd (f_188  S) (fun r_3 S_4 => q_let (96 * x1) (fun y_5 => b_220_47 q_N x1 x2 x2 y_5 S_4))) else (q_bd (f_186 x3 S) (fun r_23 S_24 => some (r_23, S_24)))
theorem sb_220_24 (x1 : Int32) (x2 : Int32) (x3 : Int32) (S : QS) : q_Sim 220 24 [(0, .inr (.inr (11, 0, 0))), (1, .inl x1), (2, .inl x2), (3, .inl x3)] [] (q_V S) q_I (b_220_24 x1 x2 x3 S) := by
  unfold b_220_24
  refine q_Sim.steps vc_220 1 (pc' := 25) (lv' := [(0, .inr (.inr (11, 0, 0))), (1, .inl x1), (2, .inl x2), (3, .inl x3)]) (st' := [.inl x3]) (V' := q_V S) rfl ?_
  refine q_Sim.br vc_220 (c := x3 ≤ 0) (t := 34) (f := 28) (lv' := [(0, .inr (.inr (11, 0, 0))), (1, .inl x1), (2, .inl x2), (3, .inl x3)]) (st' := []) (V' := q_V S) rfl ?_ ?_
  · refine q_Sim.steps vc_220 1 (pc' := 35) (lv' := [(0, .inr (.inr (11, 0, 0))), (1, .inl x1), (2, .inl x2), (3, .inl x3)]) (st' := [.inr (.inr (11, 0, 0))]) (V' := q_V S) rfl ?_
    refine q_Sim.call vc_220 (as := [.inr (.inr (11, 0, 0))]) (pc' := 38) (lv' := [(0, .inr (.inr (11, 0, 0))), (1, .inl x1), (2, .inl x2), (3, .inl x3)]) (st' := []) (S := S) rfl (rc_188 ) (s_188  S) (fun r_3 S_4 => ?_)
    refine q_Sim.steps vc_220 5 (pc' := 45) (lv' := [(4, .inl x2), (0, .inr (.inr (11, 0, 0))), (1, .inl x1), (2, .inl x2), (3, .inl x3)]) (st' := [.inl (96 * x1)]) (V' := q_V S_4) rfl ?_
    refine q_Sim.letI (fun y_5 => ?_)
    refine q_Sim.steps vc_220 1 (pc' := 47) (lv' := [(5, .inl y_5), (4, .inl x2), (0, .inr (.inr (11, 0, 0))), (1, .inl x1), (2, .inl x2), (3, .inl x3)]) (st' := []) (V' := q_V S_4) rfl ?_
    exact q_Sim.sub2 (lv' := [(0, .inr (.inr (11, 0, 0))), (1, .inl x1), (2, .inl x2), (4, .inl x2), (5, .inl y_5)]) [0, 1, 2, 4, 5] rfl (by decide) ⟨rfl, rfl, rfl, rfl, rfl, trivial⟩ (sb_220_47 q_N x1 x2 x2 y_5 S_4)
  · refine q_Sim.steps vc_220 2 (pc' := 30) (lv' := [(0, .inr (.inr (11, 0, 0))), (1, .inl x1), (2, .inl x2), (3, .inl x3)]) (st' := [.inl x3, .inr (.inr (11, 0, 0))]) (V' := q_V S) rfl ?_
    refine q_Sim.call vc_220 (as := [.inr (.inr (11, 0, 0)), .inl x3]) (pc' := 33) (lv' := [(0, .inr (.inr (11, 0, 0))), (1, .inl x1), (2, .inl x2), (3, .inl x3)]) (st' := []) (S := S) rfl (rc_186 x3) (s_186 x3 S) (fun r_23 S_24 => ?_)
    exact q_Sim.ret vc_220 rfl
def f_220 (x1 : Int32) (x2 : Int32) (S : QS) : Option ((Int32) × QS) := q_bd (f_198 x1 S) (fun r_1 S_2 => if ¬ r_1 = 0 then (b_220_24 x1 x2 r_1 S_2) else (q_bd (f_189 x2 0 10000 S_2) (fun r_25 S_26 => if ¬ r_25 = 0 then (b_220_24 x1 x2 r_1 S_26) else (b_220_24 x1 x2 6 S_26))))
theorem s_220 (x1 : Int32) (x2 : Int32) (S : QS) : q_Sim 220 0 [(0, .inr (.inr (11, 0, 0))), (1, .inl x1), (2, .inl x2)] [] (q_V S) q_I (f_220 x1 x2 S) := by
  unfold f_220
  refine q_Sim.steps vc_220 2 (pc' := 2) (lv' := [(0, .inr (.inr (11, 0, 0))), (1, .inl x1), (2, .inl x2)]) (st' := [.inl x1, .inr (.inr (11, 0, 0))]) (V' := q_V S) rfl ?_
  refine q_Sim.call vc_220 (as := [.inr (.inr (11, 0, 0)), .inl x1]) (pc' := 5) (lv' := [(0, .inr (.inr (11, 0, 0))), (1, .inl x1), (2, .inl x2)]) (st' := []) (S := S) rfl (rc_198 x1) (s_198 x1 S) (fun r_1 S_2 => ?_)
  refine q_Sim.steps vc_220 2 (pc' := 7) (lv' := [(3, .inl r_1), (0, .inr (.inr (11, 0, 0))), (1, .inl x1), (2, .inl x2)]) (st' := [.inl r_1]) (V' := q_V S_2) rfl ?_
  refine q_Sim.br vc_220 (c := ¬ r_1 = 0) (t := 24) (f := 10) (lv' := [(3, .inl r_1), (0, .inr (.inr (11, 0, 0))), (1, .inl x1), (2, .inl x2)]) (st' := []) (V' := q_V S_2) rfl ?_ ?_
  · exact q_Sim.sub2 (lv' := [(0, .inr (.inr (11, 0, 0))), (1, .inl x1), (2, .inl x2), (3, .inl r_1)]) [0, 1, 2, 3] rfl (by decide) ⟨rfl, rfl, rfl, rfl, trivial⟩ (sb_220_24 x1 x2 r_1 S_2)
  · refine q_Sim.steps vc_220 3 (pc' := 15) (lv' := [(3, .inl r_1), (0, .inr (.inr (11, 0, 0))), (1, .inl x1), (2, .inl x2)]) (st' := [.inl 10000, .inl 0, .inl x2]) (V' := q_V S_2) rfl ?_
    refine q_Sim.call vc_220 (as := [.inl x2, .inl 0, .inl 10000]) (pc' := 18) (lv' := [(3, .inl r_1), (0, .inr (.inr (11, 0, 0))), (1, .inl x1), (2, .inl x2)]) (st' := []) (S := S_2) rfl (rc_189 x2 0 10000) (s_189 x2 0 10000 S_2) (fun r_25 S_26 => ?_)
    refine q_Sim.br vc_220 (c := ¬ r_25 = 0) (t := 24) (f := 21) (lv' := [(3, .inl r_1), (0, .inr (.inr (11, 0, 0))), (1, .inl x1), (2, .inl x2)]) (st' := []) (V' := q_V S_26) rfl ?_ ?_
    · exact q_Sim.sub2 (lv' := [(0, .inr (.inr (11, 0, 0))), (1, .inl x1), (2, .inl x2), (3, .inl r_1)]) [0, 1, 2, 3] rfl (by decide) ⟨rfl, rfl, rfl, rfl, trivial⟩ (sb_220_24 x1 x2 r_1 S_26)
    · refine q_Sim.steps vc_220 2 (pc' := 24) (lv' := [(3, .inl 6), (0, .inr (.inr (11, 0, 0))), (1, .inl x1), (2, .inl x2)]) (st' := []) (V' := q_V S_26) rfl ?_
      exact q_Sim.sub2 (lv' := [(0, .inr (.inr (11, 0, 0))), (1, .inl x1), (2, .inl x2), (3, .inl 6)]) [0, 1, 2, 3] rfl (by decide) ⟨rfl, rfl, rfl, rfl, trivial⟩ (sb_220_24 x1 x2 6 S_26)
theorem vc_221 : v_code 221 = k_221 := rfl
theorem rc_221 (x1 : Int32) : v_rcv 221 [.inr (.inr (11, 0, 0)), .inl x1] = true := rfl
def b_221_36 (back_4 : Int32 → Int32 → Int32 → QS → Option ((Int32) × QS)) (x1 : Int32) (x3 : Int32) (xs0 : Int32) (xs1 : Int32) (S : QS) : Option ((Int32) × QS) := q_let (xs0 + xs1) (fun y_7 => back_4 x1 y_7 (x3 + 1) S)
theorem sb_221_36 (back_4 : Int32 → Int32 → Int32 → QS → Option ((Int32) × QS)) (hb_4 : ∀ (x1 : Int32) (x2 : Int32) (x3 : Int32) (S : QS), q_Sim 221 4 [(0, .inr (.inr (11, 0, 0))), (1, .inl x1), (2, .inl x2), (3, .inl x3)] [] (q_V S) q_I (back_4 x1 x2 x3 S)) (x1 : Int32) (x3 : Int32) (xs0 : Int32) (xs1 : Int32) (S : QS) : q_Sim 221 36 [(0, .inr (.inr (11, 0, 0))), (1, .inl x1), (3, .inl x3)] [.inl xs1, .inl xs0] (q_V S) q_I (b_221_36 back_4 x1 x3 xs0 xs1 S) := by
  unfold b_221_36
  refine q_Sim.steps vc_221 1 (pc' := 37) (lv' := [(0, .inr (.inr (11, 0, 0))), (1, .inl x1), (3, .inl x3)]) (st' := [.inl (xs0 + xs1)]) (V' := q_V S) rfl ?_
  refine q_Sim.letI (fun y_7 => ?_)
  refine q_Sim.steps vc_221 3 (pc' := 4) (lv' := [(3, .inl (x3 + 1)), (2, .inl y_7), (0, .inr (.inr (11, 0, 0))), (1, .inl x1)]) (st' := []) (V' := q_V S) rfl ?_
  exact q_Sim.sub2 (lv' := [(0, .inr (.inr (11, 0, 0))), (1, .inl x1), (2, .inl y_7), (3, .inl (x3 + 1))]) [0, 1, 2, 3] rfl (by decide) ⟨rfl, rfl, rfl, rfl, trivial⟩ (hb_4 x1 y_7 (x3 + 1) S)
def b_221_4 : Nat → Int32 → Int32 → Int32 → QS → Option ((Int32) × QS)
  | 0, _, _, _, _ => none
  | n + 1, x1, x2, x3, S => q_bd (f_195 x1 S) (fun r_1 S_2 => if r_1 ≤ x3 then (some (x2, S_2)) else (q_bd (f_196 x1 x3 S_2) (fun r_3 S_4 => q_bd (f_203 r_3 S_4) (fun r_5 S_6 => if r_5 = 0 then (b_221_36 (b_221_4 n) x1 x3 x2 0 S_6) else (q_bd (f_196 x1 x3 S_6) (fun r_8 S_9 => b_221_36 (b_221_4 n) x1 x3 x2 r_8 S_9))))))
theorem sb_221_4 : ∀ (n : Nat) (x1 : Int32) (x2 : Int32) (x3 : Int32) (S : QS), q_Sim 221 4 [(0, .inr (.inr (11, 0, 0))), (1, .inl x1), (2, .inl x2), (3, .inl x3)] [] (q_V S) q_I (b_221_4 n x1 x2 x3 S)
  | 0, _, _, _, _ => q_Sim.none
  | n + 1, x1, x2, x3, S => by
    rw [b_221_4]
    refine q_Sim.steps vc_221 3 (pc' := 7) (lv' := [(0, .inr (.inr (11, 0, 0))), (1, .inl x1), (2, .inl x2), (3, .inl x3)]) (st' := [.inl x1, .inr (.inr (11, 0, 0)), .inl x3]) (V' := q_V S) rfl ?_
    refine q_Sim.call vc_221 (as := [.inr (.inr (11, 0, 0)), .inl x1]) (pc' := 10) (lv' := [(0, .inr (.inr (11, 0, 0))), (1, .inl x1), (2, .inl x2), (3, .inl x3)]) (st' := [.inl x3]) (S := S) rfl (rc_195 x1) (s_195 x1 S) (fun r_1 S_2 => ?_)
    refine q_Sim.br vc_221 (c := r_1 ≤ x3) (t := 44) (f := 13) (lv' := [(0, .inr (.inr (11, 0, 0))), (1, .inl x1), (2, .inl x2), (3, .inl x3)]) (st' := []) (V' := q_V S_2) rfl ?_ ?_
    · refine q_Sim.steps vc_221 1 (pc' := 45) (lv' := [(0, .inr (.inr (11, 0, 0))), (1, .inl x1), (2, .inl x2), (3, .inl x3)]) (st' := [.inl x2]) (V' := q_V S_2) rfl ?_
      exact q_Sim.ret vc_221 rfl
    · refine q_Sim.steps vc_221 4 (pc' := 17) (lv' := [(0, .inr (.inr (11, 0, 0))), (1, .inl x1), (2, .inl x2), (3, .inl x3)]) (st' := [.inl x3, .inl x1, .inr (.inr (11, 0, 0)), .inl x2]) (V' := q_V S_2) rfl ?_
      refine q_Sim.call vc_221 (as := [.inr (.inr (11, 0, 0)), .inl x1, .inl x3]) (pc' := 20) (lv' := [(0, .inr (.inr (11, 0, 0))), (1, .inl x1), (2, .inl x2), (3, .inl x3)]) (st' := [.inl x2]) (S := S_2) rfl (rc_196 x1 x3) (s_196 x1 x3 S_2) (fun r_3 S_4 => ?_)
      refine q_Sim.call vc_221 (as := [.inl r_3]) (pc' := 23) (lv' := [(0, .inr (.inr (11, 0, 0))), (1, .inl x1), (2, .inl x2), (3, .inl x3)]) (st' := [.inl x2]) (S := S_4) rfl (rc_203 r_3) (s_203 r_3 S_4) (fun r_5 S_6 => ?_)
      refine q_Sim.br vc_221 (c := r_5 = 0) (t := 35) (f := 26) (lv' := [(0, .inr (.inr (11, 0, 0))), (1, .inl x1), (2, .inl x2), (3, .inl x3)]) (st' := [.inl x2]) (V' := q_V S_6) rfl ?_ ?_
      · refine q_Sim.steps vc_221 1 (pc' := 36) (lv' := [(0, .inr (.inr (11, 0, 0))), (1, .inl x1), (2, .inl x2), (3, .inl x3)]) (st' := [.inl 0, .inl x2]) (V' := q_V S_6) rfl ?_
        exact q_Sim.sub2 (lv' := [(0, .inr (.inr (11, 0, 0))), (1, .inl x1), (3, .inl x3)]) [0, 1, 3] rfl (by decide) ⟨rfl, rfl, rfl, trivial⟩ (sb_221_36 (b_221_4 n) (sb_221_4 n) x1 x3 x2 0 S_6)
      · refine q_Sim.steps vc_221 3 (pc' := 29) (lv' := [(0, .inr (.inr (11, 0, 0))), (1, .inl x1), (2, .inl x2), (3, .inl x3)]) (st' := [.inl x3, .inl x1, .inr (.inr (11, 0, 0)), .inl x2]) (V' := q_V S_6) rfl ?_
        refine q_Sim.call vc_221 (as := [.inr (.inr (11, 0, 0)), .inl x1, .inl x3]) (pc' := 32) (lv' := [(0, .inr (.inr (11, 0, 0))), (1, .inl x1), (2, .inl x2), (3, .inl x3)]) (st' := [.inl x2]) (S := S_6) rfl (rc_196 x1 x3) (s_196 x1 x3 S_6) (fun r_8 S_9 => ?_)
        refine q_Sim.steps vc_221 1 (pc' := 36) (lv' := [(0, .inr (.inr (11, 0, 0))), (1, .inl x1), (2, .inl x2), (3, .inl x3)]) (st' := [.inl r_8, .inl x2]) (V' := q_V S_9) rfl ?_
        exact q_Sim.sub2 (lv' := [(0, .inr (.inr (11, 0, 0))), (1, .inl x1), (3, .inl x3)]) [0, 1, 3] rfl (by decide) ⟨rfl, rfl, rfl, trivial⟩ (sb_221_36 (b_221_4 n) (sb_221_4 n) x1 x3 x2 r_8 S_9)
def f_221 (x1 : Int32) (S : QS) : Option ((Int32) × QS) := b_221_4 q_N x1 0 0 S
theorem s_221 (x1 : Int32) (S : QS) : q_Sim 221 0 [(0, .inr (.inr (11, 0, 0))), (1, .inl x1)] [] (q_V S) q_I (f_221 x1 S) := by
  unfold f_221
  refine q_Sim.steps vc_221 4 (pc' := 4) (lv' := [(3, .inl 0), (2, .inl 0), (0, .inr (.inr (11, 0, 0))), (1, .inl x1)]) (st' := []) (V' := q_V S) rfl ?_
  exact q_Sim.sub2 (lv' := [(0, .inr (.inr (11, 0, 0))), (1, .inl x1), (2, .inl 0), (3, .inl 0)]) [0, 1, 2, 3] rfl (by decide) ⟨rfl, rfl, rfl, rfl, trivial⟩ (sb_221_4 q_N x1 0 0 S)
theorem vc_222 : v_code 222 = k_222 := rfl
theorem rc_222 (x1 : Int32) : v_rcv 222 [.inr (.inr (11, 0, 0)), .inl x1] = true := rfl
def b_222_87 (back_56 : Int32 → Int32 → Int32 → Int32 → QS → Option ((Int32) × QS)) (x1 : Int32) (x3 : Int32) (x4 : Int32) (x5 : Int32) (S : QS) : Option ((Int32) × QS) := back_56 x1 x3 x4 (x5 + 1) S
theorem sb_222_87 (back_56 : Int32 → Int32 → Int32 → Int32 → QS → Option ((Int32) × QS)) (hb_56 : ∀ (x1 : Int32) (x3 : Int32) (x4 : Int32) (x5 : Int32) (S : QS), q_Sim 222 56 [(0, .inr (.inr (11, 0, 0))), (1, .inl x1), (3, .inl x3), (4, .inl x4), (5, .inl x5)] [] (q_V S) q_I (back_56 x1 x3 x4 x5 S)) (x1 : Int32) (x3 : Int32) (x4 : Int32) (x5 : Int32) (S : QS) : q_Sim 222 87 [(0, .inr (.inr (11, 0, 0))), (1, .inl x1), (3, .inl x3), (4, .inl x4), (5, .inl x5)] [] (q_V S) q_I (b_222_87 back_56 x1 x3 x4 x5 S) := by
  unfold b_222_87
  refine q_Sim.steps vc_222 2 (pc' := 56) (lv' := [(5, .inl (x5 + 1)), (0, .inr (.inr (11, 0, 0))), (1, .inl x1), (3, .inl x3), (4, .inl x4)]) (st' := []) (V' := q_V S) rfl ?_
  exact q_Sim.sub2 (lv' := [(0, .inr (.inr (11, 0, 0))), (1, .inl x1), (3, .inl x3), (4, .inl x4), (5, .inl (x5 + 1))]) [0, 1, 3, 4, 5] rfl (by decide) ⟨rfl, rfl, rfl, rfl, rfl, trivial⟩ (hb_56 x1 x3 x4 (x5 + 1) S)
def b_222_56 : Nat → Int32 → Int32 → Int32 → Int32 → QS → Option ((Int32) × QS)
  | 0, _, _, _, _, _ => none
  | n + 1, x1, x3, x4, x5, S => q_bd (f_195 x3 S) (fun r_9 S_10 => if r_9 ≤ x5 then (q_ck (v_in 4 19520) (q_let (S_10.1 (40, 0, 0) (4 : Int32).toNatClampNeg) (fun y_11 => q_ck (v_in 4 19520) (q_let (q_set S_10 (40, 0, 0) (4 : Int32).toNatClampNeg (y_11 + x4)) (fun S_12 => q_ck (v_in 8 19520) (q_let (S_12.1 (40, 0, 0) (8 : Int32).toNatClampNeg) (fun y_13 => q_let (18920 + (3 * y_13)) (fun y_14 => q_ck (v_in y_14 19520) (q_let (q_set S_12 (40, 0, 0) y_14.toNatClampNeg (S_12.1 (11, 0, 0) 3)) (fun S_15 => q_ck (v_in (y_14 + 1) 19520) (q_let (q_set S_15 (40, 0, 0) (y_14 + 1).toNatClampNeg x1) (fun S_16 => q_ck (v_in (y_14 + 2) 19520) (q_let (q_set S_16 (40, 0, 0) (y_14 + 2).toNatClampNeg x4) (fun S_17 => q_ck (v_in 8 19520) (q_let (S_17.1 (40, 0, 0) (8 : Int32).toNatClampNeg) (fun y_18 => q_ck (v_in 8 19520) (q_let (q_set S_17 (40, 0, 0) (8 : Int32).toNatClampNeg (y_18 + 1)) (fun S_19 => q_let (q_set S_19 (11, 0, 0) 3 ((S_19.1 (11, 0, 0) 3) + 1)) (fun S_20 => q_bd (f_187 x4 S_20) (fun r_21 S_22 => some (r_21, S_22))))))))))))))))))))) else (q_bd (f_196 x3 x5 S_10) (fun r_23 S_24 => q_bd (f_203 r_23 S_24) (fun r_25 S_26 => if r_25 = 0 then (b_222_87 (b_222_56 n) x1 x3 x4 x5 S_26) else (q_bd (f_197 x3 x5 0 S_26) (fun r_27 S_28 => b_222_87 (b_222_56 n) x1 x3 x4 x5 S_28))))))
theorem sb_222_56 : ∀ (n : Nat) (x1 : Int32) (x3 : Int32) (x4 : Int32) (x5 : Int32) (S : QS), q_Sim 222 56 [(0, .inr (.inr (11, 0, 0))), (1, .inl x1), (3, .inl x3), (4, .inl x4), (5, .inl x5)] [] (q_V S) q_I (b_222_56 n x1 x3 x4 x5 S)
  | 0, _, _, _, _, _ => q_Sim.none
  | n + 1, x1, x3, x4, x5, S => by
    rw [b_222_56]
    refine q_Sim.steps vc_222 3 (pc' := 60) (lv' := [(0, .inr (.inr (11, 0, 0))), (1, .inl x1), (3, .inl x3), (4, .inl x4), (5, .inl x5)]) (st' := [.inl x3, .inr (.inr (11, 0, 0)), .inl x5]) (V' := q_V S) rfl ?_
    refine q_Sim.call vc_222 (as := [.inr (.inr (11, 0, 0)), .inl x3]) (pc' := 63) (lv' := [(0, .inr (.inr (11, 0, 0))), (1, .inl x1), (3, .inl x3), (4, .inl x4), (5, .inl x5)]) (st' := [.inl x5]) (S := S) rfl (rc_195 x3) (s_195 x3 S) (fun r_9 S_10 => ?_)
    refine q_Sim.br vc_222 (c := r_9 ≤ x5) (t := 93) (f := 66) (lv' := [(0, .inr (.inr (11, 0, 0))), (1, .inl x1), (3, .inl x3), (4, .inl x4), (5, .inl x5)]) (st' := []) (V' := q_V S_10) rfl ?_ ?_
    · refine q_Sim.steps vc_222 4 (pc' := 99) (lv' := [(0, .inr (.inr (11, 0, 0))), (1, .inl x1), (3, .inl x3), (4, .inl x4), (5, .inl x5)]) (st' := [.inl 4, .inr (.inr (40, 0, 0)), .inl 4, .inr (.inr (40, 0, 0))]) (V' := q_V S_10) rfl ?_
      refine q_Sim.ck vc_222 (c := v_in 4 19520) (pc' := 100) (lv' := [(0, .inr (.inr (11, 0, 0))), (1, .inl x1), (3, .inl x3), (4, .inl x4), (5, .inl x5)]) (st' := [.inl (S_10.1 (40, 0, 0) (4 : Int32).toNatClampNeg), .inl 4, .inr (.inr (40, 0, 0))]) (V' := q_V S_10) rfl ?_
      refine q_Sim.letI (fun y_11 => ?_)
      refine q_Sim.steps vc_222 2 (pc' := 103) (lv' := [(0, .inr (.inr (11, 0, 0))), (1, .inl x1), (3, .inl x3), (4, .inl x4), (5, .inl x5)]) (st' := [.inl (y_11 + x4), .inl 4, .inr (.inr (40, 0, 0))]) (V' := q_V S_10) rfl ?_
      refine q_Sim.ck vc_222 (c := v_in 4 19520) (pc' := 104) (lv' := [(0, .inr (.inr (11, 0, 0))), (1, .inl x1), (3, .inl x3), (4, .inl x4), (5, .inl x5)]) (st' := []) (V' := q_V (q_set S_10 (40, 0, 0) (4 : Int32).toNatClampNeg (y_11 + x4))) rfl ?_
      refine q_Sim.letS (fun S_12 => ?_)
      refine q_Sim.steps vc_222 5 (pc' := 114) (lv' := [(0, .inr (.inr (11, 0, 0))), (1, .inl x1), (3, .inl x3), (4, .inl x4), (5, .inl x5)]) (st' := [.inl 8, .inr (.inr (40, 0, 0)), .inl 3, .inl 18920]) (V' := q_V S_12) rfl ?_
      refine q_Sim.ck vc_222 (c := v_in 8 19520) (pc' := 115) (lv' := [(0, .inr (.inr (11, 0, 0))), (1, .inl x1), (3, .inl x3), (4, .inl x4), (5, .inl x5)]) (st' := [.inl (S_12.1 (40, 0, 0) (8 : Int32).toNatClampNeg), .inl 3, .inl 18920]) (V' := q_V S_12) rfl ?_
      refine q_Sim.letI (fun y_13 => ?_)
      refine q_Sim.steps vc_222 2 (pc' := 117) (lv' := [(0, .inr (.inr (11, 0, 0))), (1, .inl x1), (3, .inl x3), (4, .inl x4), (5, .inl x5)]) (st' := [.inl (18920 + (3 * y_13))]) (V' := q_V S_12) rfl ?_
      refine q_Sim.letI (fun y_14 => ?_)
      refine q_Sim.steps vc_222 6 (pc' := 129) (lv' := [(5, .inl y_14), (0, .inr (.inr (11, 0, 0))), (1, .inl x1), (3, .inl x3), (4, .inl x4)]) (st' := [.inl (S_12.1 (11, 0, 0) 3), .inl y_14, .inr (.inr (40, 0, 0))]) (V' := q_V S_12) rfl ?_
      refine q_Sim.ck vc_222 (c := v_in y_14 19520) (pc' := 130) (lv' := [(5, .inl y_14), (0, .inr (.inr (11, 0, 0))), (1, .inl x1), (3, .inl x3), (4, .inl x4)]) (st' := []) (V' := q_V (q_set S_12 (40, 0, 0) y_14.toNatClampNeg (S_12.1 (11, 0, 0) 3))) rfl ?_
      refine q_Sim.letS (fun S_15 => ?_)
      refine q_Sim.steps vc_222 6 (pc' := 139) (lv' := [(5, .inl y_14), (0, .inr (.inr (11, 0, 0))), (1, .inl x1), (3, .inl x3), (4, .inl x4)]) (st' := [.inl x1, .inl (y_14 + 1), .inr (.inr (40, 0, 0))]) (V' := q_V S_15) rfl ?_
      refine q_Sim.ck vc_222 (c := v_in (y_14 + 1) 19520) (pc' := 140) (lv' := [(5, .inl y_14), (0, .inr (.inr (11, 0, 0))), (1, .inl x1), (3, .inl x3), (4, .inl x4)]) (st' := []) (V' := q_V (q_set S_15 (40, 0, 0) (y_14 + 1).toNatClampNeg x1)) rfl ?_
      refine q_Sim.letS (fun S_16 => ?_)
      refine q_Sim.steps vc_222 6 (pc' := 150) (lv' := [(5, .inl y_14), (0, .inr (.inr (11, 0, 0))), (1, .inl x1), (3, .inl x3), (4, .inl x4)]) (st' := [.inl x4, .inl (y_14 + 2), .inr (.inr (40, 0, 0))]) (V' := q_V S_16) rfl ?_
      refine q_Sim.ck vc_222 (c := v_in (y_14 + 2) 19520) (pc' := 151) (lv' := [(5, .inl y_14), (0, .inr (.inr (11, 0, 0))), (1, .inl x1), (3, .inl x3), (4, .inl x4)]) (st' := []) (V' := q_V (q_set S_16 (40, 0, 0) (y_14 + 2).toNatClampNeg x4)) rfl ?_
      refine q_Sim.letS (fun S_17 => ?_)
      refine q_Sim.steps vc_222 4 (pc' := 158) (lv' := [(5, .inl y_14), (0, .inr (.inr (11, 0, 0))), (1, .inl x1), (3, .inl x3), (4, .inl x4)]) (st' := [.inl 8, .inr (.inr (40, 0, 0)), .inl 8, .inr (.inr (40, 0, 0))]) (V' := q_V S_17) rfl ?_
      refine q_Sim.ck vc_222 (c := v_in 8 19520) (pc' := 159) (lv' := [(5, .inl y_14), (0, .inr (.inr (11, 0, 0))), (1, .inl x1), (3, .inl x3), (4, .inl x4)]) (st' := [.inl (S_17.1 (40, 0, 0) (8 : Int32).toNatClampNeg), .inl 8, .inr (.inr (40, 0, 0))]) (V' := q_V S_17) rfl ?_
      refine q_Sim.letI (fun y_18 => ?_)
      refine q_Sim.steps vc_222 2 (pc' := 161) (lv' := [(5, .inl y_14), (0, .inr (.inr (11, 0, 0))), (1, .inl x1), (3, .inl x3), (4, .inl x4)]) (st' := [.inl (y_18 + 1), .inl 8, .inr (.inr (40, 0, 0))]) (V' := q_V S_17) rfl ?_
      refine q_Sim.ck vc_222 (c := v_in 8 19520) (pc' := 162) (lv' := [(5, .inl y_14), (0, .inr (.inr (11, 0, 0))), (1, .inl x1), (3, .inl x3), (4, .inl x4)]) (st' := []) (V' := q_V (q_set S_17 (40, 0, 0) (8 : Int32).toNatClampNeg (y_18 + 1))) rfl ?_
      refine q_Sim.letS (fun S_19 => ?_)
      refine q_Sim.steps vc_222 5 (pc' := 169) (lv' := [(5, .inl y_14), (0, .inr (.inr (11, 0, 0))), (1, .inl x1), (3, .inl x3), (4, .inl x4)]) (st' := [.inl ((S_19.1 (11, 0, 0) 3) + 1), .inr (.inr (11, 0, 0))]) (V' := q_V S_19) rfl ?_
      refine q_Sim.steps vc_222 1 (pc' := 172) (lv' := [(5, .inl y_14), (0, .inr (.inr (11, 0, 0))), (1, .inl x1), (3, .inl x3), (4, .inl x4)]) (st' := []) (V' := q_V (q_set S_19 (11, 0, 0) 3 ((S_19.1 (11, 0, 0) 3) + 1))) rfl ?_
      refine q_Sim.letS (fun S_20 => ?_)
      refine q_Sim.steps vc_222 2 (pc' := 175) (lv' := [(5, .inl y_14), (0, .inr (.inr (11, 0, 0))), (1, .inl x1), (3, .inl x3), (4, .inl x4)]) (st' := [.inl x4, .inr (.inr (11, 0, 0))]) (V' := q_V S_20) rfl ?_
      refine q_Sim.call vc_222 (as := [.inr (.inr (11, 0, 0)), .inl x4]) (pc' := 178) (lv' := [(5, .inl y_14), (0, .inr (.inr (11, 0, 0))), (1, .inl x1), (3, .inl x3), (4, .inl x4)]) (st' := []) (S := S_20) rfl (rc_187 x4) (s_187 x4 S_20) (fun r_21 S_22 => ?_)
      exact q_Sim.ret vc_222 rfl
    · refine q_Sim.steps vc_222 3 (pc' := 70) (lv' := [(0, .inr (.inr (11, 0, 0))), (1, .inl x1), (3, .inl x3), (4, .inl x4), (5, .inl x5)]) (st' := [.inl x5, .inl x3, .inr (.inr (11, 0, 0))]) (V' := q_V S_10) rfl ?_
      refine q_Sim.call vc_222 (as := [.inr (.inr (11, 0, 0)), .inl x3, .inl x5]) (pc' := 73) (lv' := [(0, .inr (.inr (11, 0, 0))), (1, .inl x1), (3, .inl x3), (4, .inl x4), (5, .inl x5)]) (st' := []) (S := S_10) rfl (rc_196 x3 x5) (s_196 x3 x5 S_10) (fun r_23 S_24 => ?_)
      refine q_Sim.call vc_222 (as := [.inl r_23]) (pc' := 76) (lv' := [(0, .inr (.inr (11, 0, 0))), (1, .inl x1), (3, .inl x3), (4, .inl x4), (5, .inl x5)]) (st' := []) (S := S_24) rfl (rc_203 r_23) (s_203 r_23 S_24) (fun r_25 S_26 => ?_)
      refine q_Sim.br vc_222 (c := r_25 = 0) (t := 87) (f := 79) (lv' := [(0, .inr (.inr (11, 0, 0))), (1, .inl x1), (3, .inl x3), (4, .inl x4), (5, .inl x5)]) (st' := []) (V' := q_V S_26) rfl ?_ ?_
      · exact q_Sim.sub2 (lv' := [(0, .inr (.inr (11, 0, 0))), (1, .inl x1), (3, .inl x3), (4, .inl x4), (5, .inl x5)]) [0, 1, 3, 4, 5] rfl (by decide) ⟨rfl, rfl, rfl, rfl, rfl, trivial⟩ (sb_222_87 (b_222_56 n) (sb_222_56 n) x1 x3 x4 x5 S_26)
      · refine q_Sim.steps vc_222 4 (pc' := 84) (lv' := [(0, .inr (.inr (11, 0, 0))), (1, .inl x1), (3, .inl x3), (4, .inl x4), (5, .inl x5)]) (st' := [.inl 0, .inl x5, .inl x3, .inr (.inr (11, 0, 0))]) (V' := q_V S_26) rfl ?_
        refine q_Sim.call vc_222 (as := [.inr (.inr (11, 0, 0)), .inl x3, .inl x5, .inl 0]) (pc' := 87) (lv' := [(0, .inr (.inr (11, 0, 0))), (1, .inl x1), (3, .inl x3), (4, .inl x4), (5, .inl x5)]) (st' := []) (S := S_26) rfl (rc_197 x3 x5 0) (s_197 x3 x5 0 S_26) (fun r_27 S_28 => ?_)
        exact q_Sim.sub2 (lv' := [(0, .inr (.inr (11, 0, 0))), (1, .inl x1), (3, .inl x3), (4, .inl x4), (5, .inl x5)]) [0, 1, 3, 4, 5] rfl (by decide) ⟨rfl, rfl, rfl, rfl, rfl, trivial⟩ (sb_222_87 (b_222_56 n) (sb_222_56 n) x1 x3 x4 x5 S_28)
def b_222_26 (x1 : Int32) (x2 : Int32) (S : QS) : Option ((Int32) × QS) := if x2 ≤ 0 then (q_bd (f_188  S) (fun r_3 S_4 => q_bd (f_194 x1 S_4) (fun r_5 S_6 => q_bd (f_221 r_5 S_6) (fun r_7 S_8 => b_222_56 q_N x1 r_5 r_7 0 S_8)))) else (q_bd (f_186 x2 S) (fun r_29 S_30 => some (r_29, S_30)))
theorem sb_222_26 (x1 : Int32) (x2 : Int32) (S : QS) : q_Sim 222 26 [(0, .inr (.inr (11, 0, 0))), (1, .inl x1), (2, .inl x2)] [] (q_V S) q_I (b_222_26 x1 x2 S) := by
  unfold b_222_26
  refine q_Sim.steps vc_222 1 (pc' := 27) (lv' := [(0, .inr (.inr (11, 0, 0))), (1, .inl x1), (2, .inl x2)]) (st' := [.inl x2]) (V' := q_V S) rfl ?_
  refine q_Sim.br vc_222 (c := x2 ≤ 0) (t := 36) (f := 30) (lv' := [(0, .inr (.inr (11, 0, 0))), (1, .inl x1), (2, .inl x2)]) (st' := []) (V' := q_V S) rfl ?_ ?_
  · refine q_Sim.steps vc_222 1 (pc' := 37) (lv' := [(0, .inr (.inr (11, 0, 0))), (1, .inl x1), (2, .inl x2)]) (st' := [.inr (.inr (11, 0, 0))]) (V' := q_V S) rfl ?_
    refine q_Sim.call vc_222 (as := [.inr (.inr (11, 0, 0))]) (pc' := 40) (lv' := [(0, .inr (.inr (11, 0, 0))), (1, .inl x1), (2, .inl x2)]) (st' := []) (S := S) rfl (rc_188 ) (s_188  S) (fun r_3 S_4 => ?_)
    refine q_Sim.steps vc_222 2 (pc' := 42) (lv' := [(0, .inr (.inr (11, 0, 0))), (1, .inl x1), (2, .inl x2)]) (st' := [.inl x1, .inr (.inr (11, 0, 0))]) (V' := q_V S_4) rfl ?_
    refine q_Sim.call vc_222 (as := [.inr (.inr (11, 0, 0)), .inl x1]) (pc' := 45) (lv' := [(0, .inr (.inr (11, 0, 0))), (1, .inl x1), (2, .inl x2)]) (st' := []) (S := S_4) rfl (rc_194 x1) (s_194 x1 S_4) (fun r_5 S_6 => ?_)
    refine q_Sim.steps vc_222 3 (pc' := 48) (lv' := [(3, .inl r_5), (0, .inr (.inr (11, 0, 0))), (1, .inl x1), (2, .inl x2)]) (st' := [.inl r_5, .inr (.inr (11, 0, 0))]) (V' := q_V S_6) rfl ?_
    refine q_Sim.call vc_222 (as := [.inr (.inr (11, 0, 0)), .inl r_5]) (pc' := 51) (lv' := [(3, .inl r_5), (0, .inr (.inr (11, 0, 0))), (1, .inl x1), (2, .inl x2)]) (st' := []) (S := S_6) rfl (rc_221 r_5) (s_221 r_5 S_6) (fun r_7 S_8 => ?_)
    refine q_Sim.steps vc_222 3 (pc' := 56) (lv' := [(5, .inl 0), (4, .inl r_7), (3, .inl r_5), (0, .inr (.inr (11, 0, 0))), (1, .inl x1), (2, .inl x2)]) (st' := []) (V' := q_V S_8) rfl ?_
    exact q_Sim.sub2 (lv' := [(0, .inr (.inr (11, 0, 0))), (1, .inl x1), (3, .inl r_5), (4, .inl r_7), (5, .inl 0)]) [0, 1, 3, 4, 5] rfl (by decide) ⟨rfl, rfl, rfl, rfl, rfl, trivial⟩ (sb_222_56 q_N x1 r_5 r_7 0 S_8)
  · refine q_Sim.steps vc_222 2 (pc' := 32) (lv' := [(0, .inr (.inr (11, 0, 0))), (1, .inl x1), (2, .inl x2)]) (st' := [.inl x2, .inr (.inr (11, 0, 0))]) (V' := q_V S) rfl ?_
    refine q_Sim.call vc_222 (as := [.inr (.inr (11, 0, 0)), .inl x2]) (pc' := 35) (lv' := [(0, .inr (.inr (11, 0, 0))), (1, .inl x1), (2, .inl x2)]) (st' := []) (S := S) rfl (rc_186 x2) (s_186 x2 S) (fun r_29 S_30 => ?_)
    exact q_Sim.ret vc_222 rfl
def f_222 (x1 : Int32) (S : QS) : Option ((Int32) × QS) := q_bd (f_201 x1 S) (fun r_1 S_2 => if ¬ r_1 = 0 then (b_222_26 x1 r_1 S_2) else (q_ck (v_in 8 19520) (q_let (S_2.1 (40, 0, 0) (8 : Int32).toNatClampNeg) (fun y_31 => if ¬ y_31 = 200 then (b_222_26 x1 r_1 S_2) else (b_222_26 x1 6 S_2)))))
theorem s_222 (x1 : Int32) (S : QS) : q_Sim 222 0 [(0, .inr (.inr (11, 0, 0))), (1, .inl x1)] [] (q_V S) q_I (f_222 x1 S) := by
  unfold f_222
  refine q_Sim.steps vc_222 2 (pc' := 2) (lv' := [(0, .inr (.inr (11, 0, 0))), (1, .inl x1)]) (st' := [.inl x1, .inr (.inr (11, 0, 0))]) (V' := q_V S) rfl ?_
  refine q_Sim.call vc_222 (as := [.inr (.inr (11, 0, 0)), .inl x1]) (pc' := 5) (lv' := [(0, .inr (.inr (11, 0, 0))), (1, .inl x1)]) (st' := []) (S := S) rfl (rc_201 x1) (s_201 x1 S) (fun r_1 S_2 => ?_)
  refine q_Sim.steps vc_222 2 (pc' := 7) (lv' := [(2, .inl r_1), (0, .inr (.inr (11, 0, 0))), (1, .inl x1)]) (st' := [.inl r_1]) (V' := q_V S_2) rfl ?_
  refine q_Sim.br vc_222 (c := ¬ r_1 = 0) (t := 26) (f := 10) (lv' := [(2, .inl r_1), (0, .inr (.inr (11, 0, 0))), (1, .inl x1)]) (st' := []) (V' := q_V S_2) rfl ?_ ?_
  · exact q_Sim.sub2 (lv' := [(0, .inr (.inr (11, 0, 0))), (1, .inl x1), (2, .inl r_1)]) [0, 1, 2] rfl (by decide) ⟨rfl, rfl, rfl, trivial⟩ (sb_222_26 x1 r_1 S_2)
  · refine q_Sim.steps vc_222 3 (pc' := 16) (lv' := [(2, .inl r_1), (0, .inr (.inr (11, 0, 0))), (1, .inl x1)]) (st' := [.inl 8, .inr (.inr (40, 0, 0))]) (V' := q_V S_2) rfl ?_
    refine q_Sim.ck vc_222 (c := v_in 8 19520) (pc' := 17) (lv' := [(2, .inl r_1), (0, .inr (.inr (11, 0, 0))), (1, .inl x1)]) (st' := [.inl (S_2.1 (40, 0, 0) (8 : Int32).toNatClampNeg)]) (V' := q_V S_2) rfl ?_
    refine q_Sim.letI (fun y_31 => ?_)
    refine q_Sim.steps vc_222 1 (pc' := 20) (lv' := [(2, .inl r_1), (0, .inr (.inr (11, 0, 0))), (1, .inl x1)]) (st' := [.inl 200, .inl y_31]) (V' := q_V S_2) rfl ?_
    refine q_Sim.br vc_222 (c := ¬ y_31 = 200) (t := 26) (f := 23) (lv' := [(2, .inl r_1), (0, .inr (.inr (11, 0, 0))), (1, .inl x1)]) (st' := []) (V' := q_V S_2) rfl ?_ ?_
    · exact q_Sim.sub2 (lv' := [(0, .inr (.inr (11, 0, 0))), (1, .inl x1), (2, .inl r_1)]) [0, 1, 2] rfl (by decide) ⟨rfl, rfl, rfl, trivial⟩ (sb_222_26 x1 r_1 S_2)
    · refine q_Sim.steps vc_222 2 (pc' := 26) (lv' := [(2, .inl 6), (0, .inr (.inr (11, 0, 0))), (1, .inl x1)]) (st' := []) (V' := q_V S_2) rfl ?_
      exact q_Sim.sub2 (lv' := [(0, .inr (.inr (11, 0, 0))), (1, .inl x1), (2, .inl 6)]) [0, 1, 2] rfl (by decide) ⟨rfl, rfl, rfl, trivial⟩ (sb_222_26 x1 6 S_2)
theorem vc_223 : v_code 223 = k_223 := rfl
theorem rc_223 (x1 : Int32) (x2 : Int32) : v_rcv 223 [.inr (.inr (11, 0, 0)), .inl x1, .inl x2] = true := rfl
def f_223 (x1 : Int32) (x2 : Int32) (S : QS) : Option ((Int32) × QS) := q_bd (f_189 x1 0 199 S) (fun r_1 S_2 => if ¬ r_1 = 0 then (q_ck (v_in 8 19520) (q_let (S_2.1 (40, 0, 0) (8 : Int32).toNatClampNeg) (fun y_3 => if x1 < y_3 then (q_bd (f_189 x2 0 2 S_2) (fun r_4 S_5 => if r_4 = 0 then (q_bd (f_186 2 S_5) (fun r_6 S_7 => some (r_6, S_7))) else (q_ck (v_in ((18920 + (3 * x1)) + x2) 19520) (q_let (S_5.1 (40, 0, 0) ((18920 + (3 * x1)) + x2).toNatClampNeg) (fun y_8 => q_bd (f_187 y_8 S_5) (fun r_9 S_10 => some (r_9, S_10))))))) else (q_bd (f_186 1 S_2) (fun r_11 S_12 => some (r_11, S_12)))))) else (q_bd (f_186 2 S_2) (fun r_13 S_14 => some (r_13, S_14))))
theorem s_223 (x1 : Int32) (x2 : Int32) (S : QS) : q_Sim 223 0 [(0, .inr (.inr (11, 0, 0))), (1, .inl x1), (2, .inl x2)] [] (q_V S) q_I (f_223 x1 x2 S) := by
  unfold f_223
  refine q_Sim.steps vc_223 3 (pc' := 5) (lv' := [(0, .inr (.inr (11, 0, 0))), (1, .inl x1), (2, .inl x2)]) (st' := [.inl 199, .inl 0, .inl x1]) (V' := q_V S) rfl ?_
  refine q_Sim.call vc_223 (as := [.inl x1, .inl 0, .inl 199]) (pc' := 8) (lv' := [(0, .inr (.inr (11, 0, 0))), (1, .inl x1), (2, .inl x2)]) (st' := []) (S := S) rfl (rc_189 x1 0 199) (s_189 x1 0 199 S) (fun r_1 S_2 => ?_)
  refine q_Sim.br vc_223 (c := ¬ r_1 = 0) (t := 17) (f := 11) (lv' := [(0, .inr (.inr (11, 0, 0))), (1, .inl x1), (2, .inl x2)]) (st' := []) (V' := q_V S_2) rfl ?_ ?_
  · refine q_Sim.steps vc_223 4 (pc' := 24) (lv' := [(0, .inr (.inr (11, 0, 0))), (1, .inl x1), (2, .inl x2)]) (st' := [.inl 8, .inr (.inr (40, 0, 0)), .inl x1]) (V' := q_V S_2) rfl ?_
    refine q_Sim.ck vc_223 (c := v_in 8 19520) (pc' := 25) (lv' := [(0, .inr (.inr (11, 0, 0))), (1, .inl x1), (2, .inl x2)]) (st' := [.inl (S_2.1 (40, 0, 0) (8 : Int32).toNatClampNeg), .inl x1]) (V' := q_V S_2) rfl ?_
    refine q_Sim.letI (fun y_3 => ?_)
    refine q_Sim.br vc_223 (c := x1 < y_3) (t := 34) (f := 28) (lv' := [(0, .inr (.inr (11, 0, 0))), (1, .inl x1), (2, .inl x2)]) (st' := []) (V' := q_V S_2) rfl ?_ ?_
    · refine q_Sim.steps vc_223 3 (pc' := 37) (lv' := [(0, .inr (.inr (11, 0, 0))), (1, .inl x1), (2, .inl x2)]) (st' := [.inl 2, .inl 0, .inl x2]) (V' := q_V S_2) rfl ?_
      refine q_Sim.call vc_223 (as := [.inl x2, .inl 0, .inl 2]) (pc' := 40) (lv' := [(0, .inr (.inr (11, 0, 0))), (1, .inl x1), (2, .inl x2)]) (st' := []) (S := S_2) rfl (rc_189 x2 0 2) (s_189 x2 0 2 S_2) (fun r_4 S_5 => ?_)
      refine q_Sim.br vc_223 (c := r_4 = 0) (t := 64) (f := 43) (lv' := [(0, .inr (.inr (11, 0, 0))), (1, .inl x1), (2, .inl x2)]) (st' := []) (V' := q_V S_5) rfl ?_ ?_
      · refine q_Sim.steps vc_223 2 (pc' := 66) (lv' := [(0, .inr (.inr (11, 0, 0))), (1, .inl x1), (2, .inl x2)]) (st' := [.inl 2, .inr (.inr (11, 0, 0))]) (V' := q_V S_5) rfl ?_
        refine q_Sim.call vc_223 (as := [.inr (.inr (11, 0, 0)), .inl 2]) (pc' := 69) (lv' := [(0, .inr (.inr (11, 0, 0))), (1, .inl x1), (2, .inl x2)]) (st' := []) (S := S_5) rfl (rc_186 2) (s_186 2 S_5) (fun r_6 S_7 => ?_)
        exact q_Sim.ret vc_223 rfl
      · refine q_Sim.steps vc_223 10 (pc' := 57) (lv' := [(0, .inr (.inr (11, 0, 0))), (1, .inl x1), (2, .inl x2)]) (st' := [.inl ((18920 + (3 * x1)) + x2), .inr (.inr (40, 0, 0)), .inr (.inr (11, 0, 0))]) (V' := q_V S_5) rfl ?_
        refine q_Sim.ck vc_223 (c := v_in ((18920 + (3 * x1)) + x2) 19520) (pc' := 58) (lv' := [(0, .inr (.inr (11, 0, 0))), (1, .inl x1), (2, .inl x2)]) (st' := [.inl (S_5.1 (40, 0, 0) ((18920 + (3 * x1)) + x2).toNatClampNeg), .inr (.inr (11, 0, 0))]) (V' := q_V S_5) rfl ?_
        refine q_Sim.letI (fun y_8 => ?_)
        refine q_Sim.call vc_223 (as := [.inr (.inr (11, 0, 0)), .inl y_8]) (pc' := 61) (lv' := [(0, .inr (.inr (11, 0, 0))), (1, .inl x1), (2, .inl x2)]) (st' := []) (S := S_5) rfl (rc_187 y_8) (s_187 y_8 S_5) (fun r_9 S_10 => ?_)
        refine q_Sim.steps vc_223 1 (pc' := 69) (lv' := [(0, .inr (.inr (11, 0, 0))), (1, .inl x1), (2, .inl x2)]) (st' := [.inl r_9]) (V' := q_V S_10) rfl ?_
        exact q_Sim.ret vc_223 rfl
    · refine q_Sim.steps vc_223 2 (pc' := 30) (lv' := [(0, .inr (.inr (11, 0, 0))), (1, .inl x1), (2, .inl x2)]) (st' := [.inl 1, .inr (.inr (11, 0, 0))]) (V' := q_V S_2) rfl ?_
      refine q_Sim.call vc_223 (as := [.inr (.inr (11, 0, 0)), .inl 1]) (pc' := 33) (lv' := [(0, .inr (.inr (11, 0, 0))), (1, .inl x1), (2, .inl x2)]) (st' := []) (S := S_2) rfl (rc_186 1) (s_186 1 S_2) (fun r_11 S_12 => ?_)
      exact q_Sim.ret vc_223 rfl
  · refine q_Sim.steps vc_223 2 (pc' := 13) (lv' := [(0, .inr (.inr (11, 0, 0))), (1, .inl x1), (2, .inl x2)]) (st' := [.inl 2, .inr (.inr (11, 0, 0))]) (V' := q_V S_2) rfl ?_
    refine q_Sim.call vc_223 (as := [.inr (.inr (11, 0, 0)), .inl 2]) (pc' := 16) (lv' := [(0, .inr (.inr (11, 0, 0))), (1, .inl x1), (2, .inl x2)]) (st' := []) (S := S_2) rfl (rc_186 2) (s_186 2 S_2) (fun r_13 S_14 => ?_)
    exact q_Sim.ret vc_223 rfl
theorem vc_224 : v_code 224 = k_224 := rfl
theorem rc_224 (x1 : Int32) : v_rcv 224 [.inr (.inr (11, 0, 0)), .inl x1] = true := rfl
def b_224_19 : Nat → Int32 → Int32 → QS → Option ((Int32) × QS)
  | 0, _, _, _ => none
  | n + 1, x2, x3, S => q_ck (v_in 1 19520) (q_let (S.1 (40, 0, 0) (1 : Int32).toNatClampNeg) (fun y_1 => if y_1 ≤ x3 then (some (x2, S)) else (q_bd (f_221 x3 S) (fun r_2 S_3 => q_let (x2 + r_2) (fun y_4 => b_224_19 n y_4 (x3 + 1) S_3)))))
theorem sb_224_19 : ∀ (n : Nat) (x2 : Int32) (x3 : Int32) (S : QS), q_Sim 224 19 [(0, .inr (.inr (11, 0, 0))), (2, .inl x2), (3, .inl x3)] [] (q_V S) q_I (b_224_19 n x2 x3 S)
  | 0, _, _, _ => q_Sim.none
  | n + 1, x2, x3, S => by
    rw [b_224_19]
    refine q_Sim.steps vc_224 4 (pc' := 25) (lv' := [(0, .inr (.inr (11, 0, 0))), (2, .inl x2), (3, .inl x3)]) (st' := [.inl 1, .inr (.inr (40, 0, 0)), .inl x3]) (V' := q_V S) rfl ?_
    refine q_Sim.ck vc_224 (c := v_in 1 19520) (pc' := 26) (lv' := [(0, .inr (.inr (11, 0, 0))), (2, .inl x2), (3, .inl x3)]) (st' := [.inl (S.1 (40, 0, 0) (1 : Int32).toNatClampNeg), .inl x3]) (V' := q_V S) rfl ?_
    refine q_Sim.letI (fun y_1 => ?_)
    refine q_Sim.br vc_224 (c := y_1 ≤ x3) (t := 43) (f := 29) (lv' := [(0, .inr (.inr (11, 0, 0))), (2, .inl x2), (3, .inl x3)]) (st' := []) (V' := q_V S) rfl ?_ ?_
    · refine q_Sim.steps vc_224 1 (pc' := 44) (lv' := [(0, .inr (.inr (11, 0, 0))), (2, .inl x2), (3, .inl x3)]) (st' := [.inl x2]) (V' := q_V S) rfl ?_
      exact q_Sim.ret vc_224 rfl
    · refine q_Sim.steps vc_224 3 (pc' := 32) (lv' := [(0, .inr (.inr (11, 0, 0))), (2, .inl x2), (3, .inl x3)]) (st' := [.inl x3, .inr (.inr (11, 0, 0)), .inl x2]) (V' := q_V S) rfl ?_
      refine q_Sim.call vc_224 (as := [.inr (.inr (11, 0, 0)), .inl x3]) (pc' := 35) (lv' := [(0, .inr (.inr (11, 0, 0))), (2, .inl x2), (3, .inl x3)]) (st' := [.inl x2]) (S := S) rfl (rc_221 x3) (s_221 x3 S) (fun r_2 S_3 => ?_)
      refine q_Sim.steps vc_224 1 (pc' := 36) (lv' := [(0, .inr (.inr (11, 0, 0))), (2, .inl x2), (3, .inl x3)]) (st' := [.inl (x2 + r_2)]) (V' := q_V S_3) rfl ?_
      refine q_Sim.letI (fun y_4 => ?_)
      refine q_Sim.steps vc_224 3 (pc' := 19) (lv' := [(3, .inl (x3 + 1)), (2, .inl y_4), (0, .inr (.inr (11, 0, 0)))]) (st' := []) (V' := q_V S_3) rfl ?_
      exact q_Sim.sub2 (lv' := [(0, .inr (.inr (11, 0, 0))), (2, .inl y_4), (3, .inl (x3 + 1))]) [0, 2, 3] rfl (by decide) ⟨rfl, rfl, rfl, trivial⟩ (sb_224_19 n y_4 (x3 + 1) S_3)
def f_224 (x1 : Int32) (S : QS) : Option ((Int32) × QS) := if x1 ≤ 0 then (b_224_19 q_N 0 0 S) else (q_ck (v_in ((4 + x1) - 1) 19520) (q_let (S.1 (40, 0, 0) ((4 + x1) - 1).toNatClampNeg) (fun y_5 => some (y_5, S))))
theorem s_224 (x1 : Int32) (S : QS) : q_Sim 224 0 [(0, .inr (.inr (11, 0, 0))), (1, .inl x1)] [] (q_V S) q_I (f_224 x1 S) := by
  unfold f_224
  refine q_Sim.steps vc_224 1 (pc' := 1) (lv' := [(0, .inr (.inr (11, 0, 0))), (1, .inl x1)]) (st' := [.inl x1]) (V' := q_V S) rfl ?_
  refine q_Sim.br vc_224 (c := x1 ≤ 0) (t := 15) (f := 4) (lv' := [(0, .inr (.inr (11, 0, 0))), (1, .inl x1)]) (st' := []) (V' := q_V S) rfl ?_ ?_
  · refine q_Sim.steps vc_224 4 (pc' := 19) (lv' := [(3, .inl 0), (2, .inl 0), (0, .inr (.inr (11, 0, 0))), (1, .inl x1)]) (st' := []) (V' := q_V S) rfl ?_
    exact q_Sim.sub2 (lv' := [(0, .inr (.inr (11, 0, 0))), (2, .inl 0), (3, .inl 0)]) [0, 2, 3] rfl (by decide) ⟨rfl, rfl, rfl, trivial⟩ (sb_224_19 q_N 0 0 S)
  · refine q_Sim.steps vc_224 7 (pc' := 13) (lv' := [(0, .inr (.inr (11, 0, 0))), (1, .inl x1)]) (st' := [.inl ((4 + x1) - 1), .inr (.inr (40, 0, 0))]) (V' := q_V S) rfl ?_
    refine q_Sim.ck vc_224 (c := v_in ((4 + x1) - 1) 19520) (pc' := 14) (lv' := [(0, .inr (.inr (11, 0, 0))), (1, .inl x1)]) (st' := [.inl (S.1 (40, 0, 0) ((4 + x1) - 1).toNatClampNeg)]) (V' := q_V S) rfl ?_
    refine q_Sim.letI (fun y_5 => ?_)
    exact q_Sim.ret vc_224 rfl
theorem vc_225 : v_code 225 = k_225 := rfl
theorem rc_225 (x1 : Int32) : v_rcv 225 [.inr (.inr (11, 0, 0)), .inl x1] = true := rfl
def f_225 (x1 : Int32) (S : QS) : Option ((Int32) × QS) := q_bd (f_189 x1 0 4 S) (fun r_1 S_2 => if r_1 = 0 then (q_bd (f_186 6 S_2) (fun r_3 S_4 => some (r_3, S_4))) else (q_bd (f_224 x1 S_2) (fun r_5 S_6 => q_bd (f_187 r_5 S_6) (fun r_7 S_8 => some (r_7, S_8)))))
theorem s_225 (x1 : Int32) (S : QS) : q_Sim 225 0 [(0, .inr (.inr (11, 0, 0))), (1, .inl x1)] [] (q_V S) q_I (f_225 x1 S) := by
  unfold f_225
  refine q_Sim.steps vc_225 3 (pc' := 3) (lv' := [(0, .inr (.inr (11, 0, 0))), (1, .inl x1)]) (st' := [.inl 4, .inl 0, .inl x1]) (V' := q_V S) rfl ?_
  refine q_Sim.call vc_225 (as := [.inl x1, .inl 0, .inl 4]) (pc' := 6) (lv' := [(0, .inr (.inr (11, 0, 0))), (1, .inl x1)]) (st' := []) (S := S) rfl (rc_189 x1 0 4) (s_189 x1 0 4 S) (fun r_1 S_2 => ?_)
  refine q_Sim.br vc_225 (c := r_1 = 0) (t := 21) (f := 9) (lv' := [(0, .inr (.inr (11, 0, 0))), (1, .inl x1)]) (st' := []) (V' := q_V S_2) rfl ?_ ?_
  · refine q_Sim.steps vc_225 2 (pc' := 24) (lv' := [(0, .inr (.inr (11, 0, 0))), (1, .inl x1)]) (st' := [.inl 6, .inr (.inr (11, 0, 0))]) (V' := q_V S_2) rfl ?_
    refine q_Sim.call vc_225 (as := [.inr (.inr (11, 0, 0)), .inl 6]) (pc' := 27) (lv' := [(0, .inr (.inr (11, 0, 0))), (1, .inl x1)]) (st' := []) (S := S_2) rfl (rc_186 6) (s_186 6 S_2) (fun r_3 S_4 => ?_)
    exact q_Sim.ret vc_225 rfl
  · refine q_Sim.steps vc_225 3 (pc' := 12) (lv' := [(0, .inr (.inr (11, 0, 0))), (1, .inl x1)]) (st' := [.inl x1, .inr (.inr (11, 0, 0)), .inr (.inr (11, 0, 0))]) (V' := q_V S_2) rfl ?_
    refine q_Sim.call vc_225 (as := [.inr (.inr (11, 0, 0)), .inl x1]) (pc' := 15) (lv' := [(0, .inr (.inr (11, 0, 0))), (1, .inl x1)]) (st' := [.inr (.inr (11, 0, 0))]) (S := S_2) rfl (rc_224 x1) (s_224 x1 S_2) (fun r_5 S_6 => ?_)
    refine q_Sim.call vc_225 (as := [.inr (.inr (11, 0, 0)), .inl r_5]) (pc' := 18) (lv' := [(0, .inr (.inr (11, 0, 0))), (1, .inl x1)]) (st' := []) (S := S_6) rfl (rc_187 r_5) (s_187 r_5 S_6) (fun r_7 S_8 => ?_)
    refine q_Sim.steps vc_225 1 (pc' := 27) (lv' := [(0, .inr (.inr (11, 0, 0))), (1, .inl x1)]) (st' := [.inl r_7]) (V' := q_V S_8) rfl ?_
    exact q_Sim.ret vc_225 rfl
theorem vc_226 : v_code 226 = k_226 := rfl
theorem rc_226 (x1 : Int32) (x2 : Int32) : v_rcv 226 [.inr (.inr (11, 0, 0)), .inl x1, .inl x2] = true := rfl
def f_226 (x1 : Int32) (x2 : Int32) (S : QS) : Option ((Int32) × QS) := q_bd (f_201 x1 S) (fun r_1 S_2 => q_bd (f_201 x2 S_2) (fun r_3 S_4 => q_bd (f_202 r_1 r_3 S_4) (fun r_5 S_6 => if r_5 ≤ 0 then (q_bd (f_194 x2 S_6) (fun r_7 S_8 => q_bd (f_195 r_7 S_8) (fun r_9 S_10 => q_bd (f_194 x1 S_10) (fun r_11 S_12 => q_bd (f_195 r_11 S_12) (fun r_13 S_14 => if r_13 ≤ r_9 then (some (0, S_14)) else (some (2, S_14))))))) else (some (r_5, S_6)))))
theorem s_226 (x1 : Int32) (x2 : Int32) (S : QS) : q_Sim 226 0 [(0, .inr (.inr (11, 0, 0))), (1, .inl x1), (2, .inl x2)] [] (q_V S) q_I (f_226 x1 x2 S) := by
  unfold f_226
  refine q_Sim.steps vc_226 2 (pc' := 2) (lv' := [(0, .inr (.inr (11, 0, 0))), (1, .inl x1), (2, .inl x2)]) (st' := [.inl x1, .inr (.inr (11, 0, 0))]) (V' := q_V S) rfl ?_
  refine q_Sim.call vc_226 (as := [.inr (.inr (11, 0, 0)), .inl x1]) (pc' := 5) (lv' := [(0, .inr (.inr (11, 0, 0))), (1, .inl x1), (2, .inl x2)]) (st' := []) (S := S) rfl (rc_201 x1) (s_201 x1 S) (fun r_1 S_2 => ?_)
  refine q_Sim.steps vc_226 2 (pc' := 7) (lv' := [(0, .inr (.inr (11, 0, 0))), (1, .inl x1), (2, .inl x2)]) (st' := [.inl x2, .inr (.inr (11, 0, 0)), .inl r_1]) (V' := q_V S_2) rfl ?_
  refine q_Sim.call vc_226 (as := [.inr (.inr (11, 0, 0)), .inl x2]) (pc' := 10) (lv' := [(0, .inr (.inr (11, 0, 0))), (1, .inl x1), (2, .inl x2)]) (st' := [.inl r_1]) (S := S_2) rfl (rc_201 x2) (s_201 x2 S_2) (fun r_3 S_4 => ?_)
  refine q_Sim.call vc_226 (as := [.inl r_1, .inl r_3]) (pc' := 13) (lv' := [(0, .inr (.inr (11, 0, 0))), (1, .inl x1), (2, .inl x2)]) (st' := []) (S := S_4) rfl (rc_202 r_1 r_3) (s_202 r_1 r_3 S_4) (fun r_5 S_6 => ?_)
  refine q_Sim.steps vc_226 2 (pc' := 15) (lv' := [(3, .inl r_5), (0, .inr (.inr (11, 0, 0))), (1, .inl x1), (2, .inl x2)]) (st' := [.inl r_5]) (V' := q_V S_6) rfl ?_
  refine q_Sim.br vc_226 (c := r_5 ≤ 0) (t := 22) (f := 18) (lv' := [(3, .inl r_5), (0, .inr (.inr (11, 0, 0))), (1, .inl x1), (2, .inl x2)]) (st' := []) (V' := q_V S_6) rfl ?_ ?_
  · refine q_Sim.steps vc_226 3 (pc' := 25) (lv' := [(3, .inl r_5), (0, .inr (.inr (11, 0, 0))), (1, .inl x1), (2, .inl x2)]) (st' := [.inl x2, .inr (.inr (11, 0, 0)), .inr (.inr (11, 0, 0))]) (V' := q_V S_6) rfl ?_
    refine q_Sim.call vc_226 (as := [.inr (.inr (11, 0, 0)), .inl x2]) (pc' := 28) (lv' := [(3, .inl r_5), (0, .inr (.inr (11, 0, 0))), (1, .inl x1), (2, .inl x2)]) (st' := [.inr (.inr (11, 0, 0))]) (S := S_6) rfl (rc_194 x2) (s_194 x2 S_6) (fun r_7 S_8 => ?_)
    refine q_Sim.call vc_226 (as := [.inr (.inr (11, 0, 0)), .inl r_7]) (pc' := 31) (lv' := [(3, .inl r_5), (0, .inr (.inr (11, 0, 0))), (1, .inl x1), (2, .inl x2)]) (st' := []) (S := S_8) rfl (rc_195 r_7) (s_195 r_7 S_8) (fun r_9 S_10 => ?_)
    refine q_Sim.steps vc_226 3 (pc' := 34) (lv' := [(3, .inl r_5), (0, .inr (.inr (11, 0, 0))), (1, .inl x1), (2, .inl x2)]) (st' := [.inl x1, .inr (.inr (11, 0, 0)), .inr (.inr (11, 0, 0)), .inl r_9]) (V' := q_V S_10) rfl ?_
    refine q_Sim.call vc_226 (as := [.inr (.inr (11, 0, 0)), .inl x1]) (pc' := 37) (lv' := [(3, .inl r_5), (0, .inr (.inr (11, 0, 0))), (1, .inl x1), (2, .inl x2)]) (st' := [.inr (.inr (11, 0, 0)), .inl r_9]) (S := S_10) rfl (rc_194 x1) (s_194 x1 S_10) (fun r_11 S_12 => ?_)
    refine q_Sim.call vc_226 (as := [.inr (.inr (11, 0, 0)), .inl r_11]) (pc' := 40) (lv' := [(3, .inl r_5), (0, .inr (.inr (11, 0, 0))), (1, .inl x1), (2, .inl x2)]) (st' := [.inl r_9]) (S := S_12) rfl (rc_195 r_11) (s_195 r_11 S_12) (fun r_13 S_14 => ?_)
    refine q_Sim.br vc_226 (c := r_13 ≤ r_9) (t := 47) (f := 43) (lv' := [(3, .inl r_5), (0, .inr (.inr (11, 0, 0))), (1, .inl x1), (2, .inl x2)]) (st' := []) (V' := q_V S_14) rfl ?_ ?_
    · refine q_Sim.steps vc_226 1 (pc' := 48) (lv' := [(3, .inl r_5), (0, .inr (.inr (11, 0, 0))), (1, .inl x1), (2, .inl x2)]) (st' := [.inl 0]) (V' := q_V S_14) rfl ?_
      exact q_Sim.ret vc_226 rfl
    · refine q_Sim.steps vc_226 2 (pc' := 48) (lv' := [(3, .inl r_5), (0, .inr (.inr (11, 0, 0))), (1, .inl x1), (2, .inl x2)]) (st' := [.inl 2]) (V' := q_V S_14) rfl ?_
      exact q_Sim.ret vc_226 rfl
  · refine q_Sim.steps vc_226 2 (pc' := 48) (lv' := [(3, .inl r_5), (0, .inr (.inr (11, 0, 0))), (1, .inl x1), (2, .inl x2)]) (st' := [.inl r_5]) (V' := q_V S_6) rfl ?_
    exact q_Sim.ret vc_226 rfl
theorem vc_227 : v_code 227 = k_227 := rfl
theorem rc_227 (x1 : Int32) (x2 : Int32) : v_rcv 227 [.inr (.inr (11, 0, 0)), .inl x1, .inl x2] = true := rfl
def b_227_41 (back_2 : Int32 → Int32 → Int32 → QS → Option ((Unit) × QS)) (x1 : Int32) (x2 : Int32) (x3 : Int32) (xs1 : Int32) (xs2 : Int32) (xs3 : Int32) (S : QS) : Option ((Unit) × QS) := q_ck (v_in xs1 19520) (q_let (q_set S (40, 0, 0) xs1.toNatClampNeg (xs2 + xs3)) (fun S_8 => q_bd (f_196 x1 x3 S_8) (fun r_9 S_10 => q_bd (f_197 x2 x3 r_9 S_10) (fun r_11 S_12 => q_bd (f_197 x1 x3 0 S_12) (fun r_13 S_14 => back_2 x1 x2 (x3 + 1) S_14)))))
theorem sb_227_41 (back_2 : Int32 → Int32 → Int32 → QS → Option ((Unit) × QS)) (hb_2 : ∀ (x1 : Int32) (x2 : Int32) (x3 : Int32) (S : QS), q_Sim 227 2 [(0, .inr (.inr (11, 0, 0))), (1, .inl x1), (2, .inl x2), (3, .inl x3)] [] (q_V S) q_U (back_2 x1 x2 x3 S)) (x1 : Int32) (x2 : Int32) (x3 : Int32) (xs1 : Int32) (xs2 : Int32) (xs3 : Int32) (S : QS) : q_Sim 227 41 [(0, .inr (.inr (11, 0, 0))), (1, .inl x1), (2, .inl x2), (3, .inl x3)] [.inl xs3, .inl xs2, .inl xs1, .inr (.inr (40, 0, 0))] (q_V S) q_U (b_227_41 back_2 x1 x2 x3 xs1 xs2 xs3 S) := by
  unfold b_227_41
  refine q_Sim.steps vc_227 1 (pc' := 42) (lv' := [(0, .inr (.inr (11, 0, 0))), (1, .inl x1), (2, .inl x2), (3, .inl x3)]) (st' := [.inl (xs2 + xs3), .inl xs1, .inr (.inr (40, 0, 0))]) (V' := q_V S) rfl ?_
  refine q_Sim.ck vc_227 (c := v_in xs1 19520) (pc' := 43) (lv' := [(0, .inr (.inr (11, 0, 0))), (1, .inl x1), (2, .inl x2), (3, .inl x3)]) (st' := []) (V' := q_V (q_set S (40, 0, 0) xs1.toNatClampNeg (xs2 + xs3))) rfl ?_
  refine q_Sim.letS (fun S_8 => ?_)
  refine q_Sim.steps vc_227 6 (pc' := 49) (lv' := [(0, .inr (.inr (11, 0, 0))), (1, .inl x1), (2, .inl x2), (3, .inl x3)]) (st' := [.inl x3, .inl x1, .inr (.inr (11, 0, 0)), .inl x3, .inl x2, .inr (.inr (11, 0, 0))]) (V' := q_V S_8) rfl ?_
  refine q_Sim.call vc_227 (as := [.inr (.inr (11, 0, 0)), .inl x1, .inl x3]) (pc' := 52) (lv' := [(0, .inr (.inr (11, 0, 0))), (1, .inl x1), (2, .inl x2), (3, .inl x3)]) (st' := [.inl x3, .inl x2, .inr (.inr (11, 0, 0))]) (S := S_8) rfl (rc_196 x1 x3) (s_196 x1 x3 S_8) (fun r_9 S_10 => ?_)
  refine q_Sim.call vc_227 (as := [.inr (.inr (11, 0, 0)), .inl x2, .inl x3, .inl r_9]) (pc' := 55) (lv' := [(0, .inr (.inr (11, 0, 0))), (1, .inl x1), (2, .inl x2), (3, .inl x3)]) (st' := []) (S := S_10) rfl (rc_197 x2 x3 r_9) (s_197 x2 x3 r_9 S_10) (fun r_11 S_12 => ?_)
  refine q_Sim.steps vc_227 4 (pc' := 59) (lv' := [(0, .inr (.inr (11, 0, 0))), (1, .inl x1), (2, .inl x2), (3, .inl x3)]) (st' := [.inl 0, .inl x3, .inl x1, .inr (.inr (11, 0, 0))]) (V' := q_V S_12) rfl ?_
  refine q_Sim.call vc_227 (as := [.inr (.inr (11, 0, 0)), .inl x1, .inl x3, .inl 0]) (pc' := 62) (lv' := [(0, .inr (.inr (11, 0, 0))), (1, .inl x1), (2, .inl x2), (3, .inl x3)]) (st' := []) (S := S_12) rfl (rc_197 x1 x3 0) (s_197 x1 x3 0 S_12) (fun r_13 S_14 => ?_)
  refine q_Sim.steps vc_227 2 (pc' := 2) (lv' := [(3, .inl (x3 + 1)), (0, .inr (.inr (11, 0, 0))), (1, .inl x1), (2, .inl x2)]) (st' := []) (V' := q_V S_14) rfl ?_
  exact q_Sim.sub2 (lv' := [(0, .inr (.inr (11, 0, 0))), (1, .inl x1), (2, .inl x2), (3, .inl (x3 + 1))]) [0, 1, 2, 3] rfl (by decide) ⟨rfl, rfl, rfl, rfl, trivial⟩ (hb_2 x1 x2 (x3 + 1) S_14)
def b_227_2 : Nat → Int32 → Int32 → Int32 → QS → Option ((Unit) × QS)
  | 0, _, _, _, _ => none
  | n + 1, x1, x2, x3, S => q_bd (f_195 x1 S) (fun r_1 S_2 => if r_1 ≤ x3 then (some ((), S_2)) else (q_bd (f_196 x2 x3 S_2) (fun r_3 S_4 => q_ck (v_in 6 19520) (q_let (S_4.1 (40, 0, 0) (6 : Int32).toNatClampNeg) (fun y_5 => q_bd (f_203 r_3 S_4) (fun r_6 S_7 => if r_6 = 0 then (b_227_41 (b_227_2 n) x1 x2 x3 6 y_5 0 S_7) else (b_227_41 (b_227_2 n) x1 x2 x3 6 y_5 r_3 S_7)))))))
theorem sb_227_2 : ∀ (n : Nat) (x1 : Int32) (x2 : Int32) (x3 : Int32) (S : QS), q_Sim 227 2 [(0, .inr (.inr (11, 0, 0))), (1, .inl x1), (2, .inl x2), (3, .inl x3)] [] (q_V S) q_U (b_227_2 n x1 x2 x3 S)
  | 0, _, _, _, _ => q_Sim.none
  | n + 1, x1, x2, x3, S => by
    rw [b_227_2]
    refine q_Sim.steps vc_227 3 (pc' := 5) (lv' := [(0, .inr (.inr (11, 0, 0))), (1, .inl x1), (2, .inl x2), (3, .inl x3)]) (st' := [.inl x1, .inr (.inr (11, 0, 0)), .inl x3]) (V' := q_V S) rfl ?_
    refine q_Sim.call vc_227 (as := [.inr (.inr (11, 0, 0)), .inl x1]) (pc' := 8) (lv' := [(0, .inr (.inr (11, 0, 0))), (1, .inl x1), (2, .inl x2), (3, .inl x3)]) (st' := [.inl x3]) (S := S) rfl (rc_195 x1) (s_195 x1 S) (fun r_1 S_2 => ?_)
    refine q_Sim.br vc_227 (c := r_1 ≤ x3) (t := 68) (f := 11) (lv' := [(0, .inr (.inr (11, 0, 0))), (1, .inl x1), (2, .inl x2), (3, .inl x3)]) (st' := []) (V' := q_V S_2) rfl ?_ ?_
    · exact q_Sim.ret vc_227 rfl
    · refine q_Sim.steps vc_227 3 (pc' := 14) (lv' := [(0, .inr (.inr (11, 0, 0))), (1, .inl x1), (2, .inl x2), (3, .inl x3)]) (st' := [.inl x3, .inl x2, .inr (.inr (11, 0, 0))]) (V' := q_V S_2) rfl ?_
      refine q_Sim.call vc_227 (as := [.inr (.inr (11, 0, 0)), .inl x2, .inl x3]) (pc' := 17) (lv' := [(0, .inr (.inr (11, 0, 0))), (1, .inl x1), (2, .inl x2), (3, .inl x3)]) (st' := []) (S := S_2) rfl (rc_196 x2 x3) (s_196 x2 x3 S_2) (fun r_3 S_4 => ?_)
      refine q_Sim.steps vc_227 5 (pc' := 26) (lv' := [(4, .inl r_3), (0, .inr (.inr (11, 0, 0))), (1, .inl x1), (2, .inl x2), (3, .inl x3)]) (st' := [.inl 6, .inr (.inr (40, 0, 0)), .inl 6, .inr (.inr (40, 0, 0))]) (V' := q_V S_4) rfl ?_
      refine q_Sim.ck vc_227 (c := v_in 6 19520) (pc' := 27) (lv' := [(4, .inl r_3), (0, .inr (.inr (11, 0, 0))), (1, .inl x1), (2, .inl x2), (3, .inl x3)]) (st' := [.inl (S_4.1 (40, 0, 0) (6 : Int32).toNatClampNeg), .inl 6, .inr (.inr (40, 0, 0))]) (V' := q_V S_4) rfl ?_
      refine q_Sim.letI (fun y_5 => ?_)
      refine q_Sim.steps vc_227 1 (pc' := 29) (lv' := [(4, .inl r_3), (0, .inr (.inr (11, 0, 0))), (1, .inl x1), (2, .inl x2), (3, .inl x3)]) (st' := [.inl r_3, .inl y_5, .inl 6, .inr (.inr (40, 0, 0))]) (V' := q_V S_4) rfl ?_
      refine q_Sim.call vc_227 (as := [.inl r_3]) (pc' := 32) (lv' := [(4, .inl r_3), (0, .inr (.inr (11, 0, 0))), (1, .inl x1), (2, .inl x2), (3, .inl x3)]) (st' := [.inl y_5, .inl 6, .inr (.inr (40, 0, 0))]) (S := S_4) rfl (rc_203 r_3) (s_203 r_3 S_4) (fun r_6 S_7 => ?_)
      refine q_Sim.br vc_227 (c := r_6 = 0) (t := 40) (f := 35) (lv' := [(4, .inl r_3), (0, .inr (.inr (11, 0, 0))), (1, .inl x1), (2, .inl x2), (3, .inl x3)]) (st' := [.inl y_5, .inl 6, .inr (.inr (40, 0, 0))]) (V' := q_V S_7) rfl ?_ ?_
      · refine q_Sim.steps vc_227 1 (pc' := 41) (lv' := [(4, .inl r_3), (0, .inr (.inr (11, 0, 0))), (1, .inl x1), (2, .inl x2), (3, .inl x3)]) (st' := [.inl 0, .inl y_5, .inl 6, .inr (.inr (40, 0, 0))]) (V' := q_V S_7) rfl ?_
        exact q_Sim.sub2 (lv' := [(0, .inr (.inr (11, 0, 0))), (1, .inl x1), (2, .inl x2), (3, .inl x3)]) [0, 1, 2, 3] rfl (by decide) ⟨rfl, rfl, rfl, rfl, trivial⟩ (sb_227_41 (b_227_2 n) (sb_227_2 n) x1 x2 x3 6 y_5 0 S_7)
      · refine q_Sim.steps vc_227 2 (pc' := 41) (lv' := [(4, .inl r_3), (0, .inr (.inr (11, 0, 0))), (1, .inl x1), (2, .inl x2), (3, .inl x3)]) (st' := [.inl r_3, .inl y_5, .inl 6, .inr (.inr (40, 0, 0))]) (V' := q_V S_7) rfl ?_
        exact q_Sim.sub2 (lv' := [(0, .inr (.inr (11, 0, 0))), (1, .inl x1), (2, .inl x2), (3, .inl x3)]) [0, 1, 2, 3] rfl (by decide) ⟨rfl, rfl, rfl, rfl, trivial⟩ (sb_227_41 (b_227_2 n) (sb_227_2 n) x1 x2 x3 6 y_5 r_3 S_7)
def f_227 (x1 : Int32) (x2 : Int32) (S : QS) : Option ((Unit) × QS) := b_227_2 q_N x1 x2 0 S
theorem s_227 (x1 : Int32) (x2 : Int32) (S : QS) : q_Sim 227 0 [(0, .inr (.inr (11, 0, 0))), (1, .inl x1), (2, .inl x2)] [] (q_V S) q_U (f_227 x1 x2 S) := by
  unfold f_227
  refine q_Sim.steps vc_227 2 (pc' := 2) (lv' := [(3, .inl 0), (0, .inr (.inr (11, 0, 0))), (1, .inl x1), (2, .inl x2)]) (st' := []) (V' := q_V S) rfl ?_
  exact q_Sim.sub2 (lv' := [(0, .inr (.inr (11, 0, 0))), (1, .inl x1), (2, .inl x2), (3, .inl 0)]) [0, 1, 2, 3] rfl (by decide) ⟨rfl, rfl, rfl, rfl, trivial⟩ (sb_227_2 q_N x1 x2 0 S)
theorem vc_228 : v_code 228 = k_228 := rfl
theorem rc_228 (x1 : Int32) (x2 : Int32) (x3 : Int32) : v_rcv 228 [.inr (.inr (11, 0, 0)), .inl x1, .inl x2, .inl x3] = true := rfl
def b_228_123 (x3 : Int32) (x4 : Int32) (S : QS) : Option ((Int32) × QS) := if x4 ≤ 0 then (q_bd (f_187 x3 S) (fun r_2 S_3 => some (r_2, S_3))) else (q_bd (f_186 x4 S) (fun r_4 S_5 => some (r_4, S_5)))
theorem sb_228_123 (x3 : Int32) (x4 : Int32) (S : QS) : q_Sim 228 123 [(0, .inr (.inr (11, 0, 0))), (3, .inl x3), (4, .inl x4)] [] (q_V S) q_I (b_228_123 x3 x4 S) := by
  unfold b_228_123
  refine q_Sim.steps vc_228 1 (pc' := 125) (lv' := [(0, .inr (.inr (11, 0, 0))), (3, .inl x3), (4, .inl x4)]) (st' := [.inl x4]) (V' := q_V S) rfl ?_
  refine q_Sim.br vc_228 (c := x4 ≤ 0) (t := 137) (f := 128) (lv' := [(0, .inr (.inr (11, 0, 0))), (3, .inl x3), (4, .inl x4)]) (st' := []) (V' := q_V S) rfl ?_ ?_
  · refine q_Sim.steps vc_228 2 (pc' := 139) (lv' := [(0, .inr (.inr (11, 0, 0))), (3, .inl x3), (4, .inl x4)]) (st' := [.inl x3, .inr (.inr (11, 0, 0))]) (V' := q_V S) rfl ?_
    refine q_Sim.call vc_228 (as := [.inr (.inr (11, 0, 0)), .inl x3]) (pc' := 142) (lv' := [(0, .inr (.inr (11, 0, 0))), (3, .inl x3), (4, .inl x4)]) (st' := []) (S := S) rfl (rc_187 x3) (s_187 x3 S) (fun r_2 S_3 => ?_)
    exact q_Sim.ret vc_228 rfl
  · refine q_Sim.steps vc_228 2 (pc' := 131) (lv' := [(0, .inr (.inr (11, 0, 0))), (3, .inl x3), (4, .inl x4)]) (st' := [.inl x4, .inr (.inr (11, 0, 0))]) (V' := q_V S) rfl ?_
    refine q_Sim.call vc_228 (as := [.inr (.inr (11, 0, 0)), .inl x4]) (pc' := 134) (lv' := [(0, .inr (.inr (11, 0, 0))), (3, .inl x3), (4, .inl x4)]) (st' := []) (S := S) rfl (rc_186 x4) (s_186 x4 S) (fun r_4 S_5 => ?_)
    refine q_Sim.steps vc_228 1 (pc' := 142) (lv' := [(0, .inr (.inr (11, 0, 0))), (3, .inl x3), (4, .inl x4)]) (st' := [.inl r_4]) (V' := q_V S_5) rfl ?_
    exact q_Sim.ret vc_228 rfl
def b_228_110 (back_31 : Int32 → Int32 → Int32 → Int32 → QS → Option ((Int32) × QS)) (x1 : Int32) (x2 : Int32) (x3 : Int32) (x4 : Int32) (S : QS) : Option ((Int32) × QS) := q_let (q_set S (11, 0, 0) 6 ((S.1 (11, 0, 0) 6) + 1)) (fun S_8 => back_31 x1 x2 x3 x4 S_8)
theorem sb_228_110 (back_31 : Int32 → Int32 → Int32 → Int32 → QS → Option ((Int32) × QS)) (hb_31 : ∀ (x1 : Int32) (x2 : Int32) (x3 : Int32) (x4 : Int32) (S : QS), q_Sim 228 31 [(0, .inr (.inr (11, 0, 0))), (1, .inl x1), (2, .inl x2), (3, .inl x3), (4, .inl x4)] [] (q_V S) q_I (back_31 x1 x2 x3 x4 S)) (x1 : Int32) (x2 : Int32) (x3 : Int32) (x4 : Int32) (S : QS) : q_Sim 228 110 [(0, .inr (.inr (11, 0, 0))), (1, .inl x1), (2, .inl x2), (3, .inl x3), (4, .inl x4)] [] (q_V S) q_I (b_228_110 back_31 x1 x2 x3 x4 S) := by
  unfold b_228_110
  refine q_Sim.steps vc_228 5 (pc' := 117) (lv' := [(0, .inr (.inr (11, 0, 0))), (1, .inl x1), (2, .inl x2), (3, .inl x3), (4, .inl x4)]) (st' := [.inl ((S.1 (11, 0, 0) 6) + 1), .inr (.inr (11, 0, 0))]) (V' := q_V S) rfl ?_
  refine q_Sim.steps vc_228 1 (pc' := 120) (lv' := [(0, .inr (.inr (11, 0, 0))), (1, .inl x1), (2, .inl x2), (3, .inl x3), (4, .inl x4)]) (st' := []) (V' := q_V (q_set S (11, 0, 0) 6 ((S.1 (11, 0, 0) 6) + 1))) rfl ?_
  refine q_Sim.letS (fun S_8 => ?_)
  refine q_Sim.steps vc_228 1 (pc' := 31) (lv' := [(0, .inr (.inr (11, 0, 0))), (1, .inl x1), (2, .inl x2), (3, .inl x3), (4, .inl x4)]) (st' := []) (V' := q_V S_8) rfl ?_
  exact q_Sim.sub2 (lv' := [(0, .inr (.inr (11, 0, 0))), (1, .inl x1), (2, .inl x2), (3, .inl x3), (4, .inl x4)]) [0, 1, 2, 3, 4] rfl (by decide) ⟨rfl, rfl, rfl, rfl, rfl, trivial⟩ (hb_31 x1 x2 x3 x4 S_8)
def b_228_81 (back_31 : Int32 → Int32 → Int32 → Int32 → QS → Option ((Int32) × QS)) (x1 : Int32) (x2 : Int32) (x3 : Int32) (x4 : Int32) (S : QS) : Option ((Int32) × QS) := if x1 = x2 then (b_228_110 back_31 x1 x2 x3 x4 S) else (q_bd (f_194 (x1 + (S.1 (11, 0, 0) 6)) S) (fun r_9 S_10 => q_bd (f_194 (x2 + (S_10.1 (11, 0, 0) 6)) S_10) (fun r_11 S_12 => q_bd (f_227 r_9 r_11 S_12) (fun r_13 S_14 => b_228_110 back_31 x1 x2 x3 x4 S_14))))
theorem sb_228_81 (back_31 : Int32 → Int32 → Int32 → Int32 → QS → Option ((Int32) × QS)) (hb_31 : ∀ (x1 : Int32) (x2 : Int32) (x3 : Int32) (x4 : Int32) (S : QS), q_Sim 228 31 [(0, .inr (.inr (11, 0, 0))), (1, .inl x1), (2, .inl x2), (3, .inl x3), (4, .inl x4)] [] (q_V S) q_I (back_31 x1 x2 x3 x4 S)) (x1 : Int32) (x2 : Int32) (x3 : Int32) (x4 : Int32) (S : QS) : q_Sim 228 81 [(0, .inr (.inr (11, 0, 0))), (1, .inl x1), (2, .inl x2), (3, .inl x3), (4, .inl x4)] [] (q_V S) q_I (b_228_81 back_31 x1 x2 x3 x4 S) := by
  unfold b_228_81
  refine q_Sim.steps vc_228 2 (pc' := 83) (lv' := [(0, .inr (.inr (11, 0, 0))), (1, .inl x1), (2, .inl x2), (3, .inl x3), (4, .inl x4)]) (st' := [.inl x2, .inl x1]) (V' := q_V S) rfl ?_
  refine q_Sim.br vc_228 (c := x1 = x2) (t := 110) (f := 86) (lv' := [(0, .inr (.inr (11, 0, 0))), (1, .inl x1), (2, .inl x2), (3, .inl x3), (4, .inl x4)]) (st' := []) (V' := q_V S) rfl ?_ ?_
  · exact q_Sim.sub2 (lv' := [(0, .inr (.inr (11, 0, 0))), (1, .inl x1), (2, .inl x2), (3, .inl x3), (4, .inl x4)]) [0, 1, 2, 3, 4] rfl (by decide) ⟨rfl, rfl, rfl, rfl, rfl, trivial⟩ (sb_228_110 back_31 hb_31 x1 x2 x3 x4 S)
  · refine q_Sim.steps vc_228 6 (pc' := 94) (lv' := [(0, .inr (.inr (11, 0, 0))), (1, .inl x1), (2, .inl x2), (3, .inl x3), (4, .inl x4)]) (st' := [.inl (x1 + (S.1 (11, 0, 0) 6)), .inr (.inr (11, 0, 0)), .inr (.inr (11, 0, 0))]) (V' := q_V S) rfl ?_
    refine q_Sim.call vc_228 (as := [.inr (.inr (11, 0, 0)), .inl (x1 + (S.1 (11, 0, 0) 6))]) (pc' := 97) (lv' := [(0, .inr (.inr (11, 0, 0))), (1, .inl x1), (2, .inl x2), (3, .inl x3), (4, .inl x4)]) (st' := [.inr (.inr (11, 0, 0))]) (S := S) rfl (rc_194 (x1 + (S.1 (11, 0, 0) 6))) (s_194 (x1 + (S.1 (11, 0, 0) 6)) S) (fun r_9 S_10 => ?_)
    refine q_Sim.steps vc_228 5 (pc' := 104) (lv' := [(0, .inr (.inr (11, 0, 0))), (1, .inl x1), (2, .inl x2), (3, .inl x3), (4, .inl x4)]) (st' := [.inl (x2 + (S_10.1 (11, 0, 0) 6)), .inr (.inr (11, 0, 0)), .inl r_9, .inr (.inr (11, 0, 0))]) (V' := q_V S_10) rfl ?_
    refine q_Sim.call vc_228 (as := [.inr (.inr (11, 0, 0)), .inl (x2 + (S_10.1 (11, 0, 0) 6))]) (pc' := 107) (lv' := [(0, .inr (.inr (11, 0, 0))), (1, .inl x1), (2, .inl x2), (3, .inl x3), (4, .inl x4)]) (st' := [.inl r_9, .inr (.inr (11, 0, 0))]) (S := S_10) rfl (rc_194 (x2 + (S_10.1 (11, 0, 0) 6))) (s_194 (x2 + (S_10.1 (11, 0, 0) 6)) S_10) (fun r_11 S_12 => ?_)
    refine q_Sim.call vc_228 (as := [.inr (.inr (11, 0, 0)), .inl r_9, .inl r_11]) (pc' := 110) (lv' := [(0, .inr (.inr (11, 0, 0))), (1, .inl x1), (2, .inl x2), (3, .inl x3), (4, .inl x4)]) (st' := []) (S := S_12) rfl (rc_227 r_9 r_11) (s_227 r_9 r_11 S_12) (fun r_13 S_14 => ?_)
    exact q_Sim.sub2 (lv' := [(0, .inr (.inr (11, 0, 0))), (1, .inl x1), (2, .inl x2), (3, .inl x3), (4, .inl x4)]) [0, 1, 2, 3, 4] rfl (by decide) ⟨rfl, rfl, rfl, rfl, rfl, trivial⟩ (sb_228_110 back_31 hb_31 x1 x2 x3 x4 S_14)
def b_228_31 : Nat → Int32 → Int32 → Int32 → Int32 → QS → Option ((Int32) × QS)
  | 0, _, _, _, _, _ => none
  | n + 1, x1, x2, x3, x4, S => if x3 ≤ (S.1 (11, 0, 0) 6) then (b_228_123 x3 x4 S) else (if ¬ x4 = 0 then (b_228_123 x3 x4 S) else (q_bd (f_226 (x1 + (S.1 (11, 0, 0) 6)) (x2 + (S.1 (11, 0, 0) 6)) S) (fun r_6 S_7 => if r_6 ≤ 0 then (if ¬ (S_7.1 (11, 0, 0) 6) = 0 then (b_228_81 (b_228_31 n) x1 x2 x3 r_6 S_7) else (q_bd (f_188  S_7) (fun r_15 S_16 => b_228_81 (b_228_31 n) x1 x2 x3 r_6 S_16))) else (b_228_31 n x1 x2 x3 r_6 S_7))))
theorem sb_228_31 : ∀ (n : Nat) (x1 : Int32) (x2 : Int32) (x3 : Int32) (x4 : Int32) (S : QS), q_Sim 228 31 [(0, .inr (.inr (11, 0, 0))), (1, .inl x1), (2, .inl x2), (3, .inl x3), (4, .inl x4)] [] (q_V S) q_I (b_228_31 n x1 x2 x3 x4 S)
  | 0, _, _, _, _, _ => q_Sim.none
  | n + 1, x1, x2, x3, x4, S => by
    rw [b_228_31]
    refine q_Sim.steps vc_228 3 (pc' := 36) (lv' := [(0, .inr (.inr (11, 0, 0))), (1, .inl x1), (2, .inl x2), (3, .inl x3), (4, .inl x4)]) (st' := [.inl x3, .inl (S.1 (11, 0, 0) 6)]) (V' := q_V S) rfl ?_
    refine q_Sim.br vc_228 (c := x3 ≤ (S.1 (11, 0, 0) 6)) (t := 123) (f := 39) (lv' := [(0, .inr (.inr (11, 0, 0))), (1, .inl x1), (2, .inl x2), (3, .inl x3), (4, .inl x4)]) (st' := []) (V' := q_V S) rfl ?_ ?_
    · exact q_Sim.sub2 (lv' := [(0, .inr (.inr (11, 0, 0))), (3, .inl x3), (4, .inl x4)]) [0, 3, 4] rfl (by decide) ⟨rfl, rfl, rfl, trivial⟩ (sb_228_123 x3 x4 S)
    · refine q_Sim.steps vc_228 1 (pc' := 41) (lv' := [(0, .inr (.inr (11, 0, 0))), (1, .inl x1), (2, .inl x2), (3, .inl x3), (4, .inl x4)]) (st' := [.inl x4]) (V' := q_V S) rfl ?_
      refine q_Sim.br vc_228 (c := ¬ x4 = 0) (t := 123) (f := 44) (lv' := [(0, .inr (.inr (11, 0, 0))), (1, .inl x1), (2, .inl x2), (3, .inl x3), (4, .inl x4)]) (st' := []) (V' := q_V S) rfl ?_ ?_
      · exact q_Sim.sub2 (lv' := [(0, .inr (.inr (11, 0, 0))), (3, .inl x3), (4, .inl x4)]) [0, 3, 4] rfl (by decide) ⟨rfl, rfl, rfl, trivial⟩ (sb_228_123 x3 x4 S)
      · refine q_Sim.steps vc_228 9 (pc' := 57) (lv' := [(0, .inr (.inr (11, 0, 0))), (1, .inl x1), (2, .inl x2), (3, .inl x3), (4, .inl x4)]) (st' := [.inl (x2 + (S.1 (11, 0, 0) 6)), .inl (x1 + (S.1 (11, 0, 0) 6)), .inr (.inr (11, 0, 0))]) (V' := q_V S) rfl ?_
        refine q_Sim.call vc_228 (as := [.inr (.inr (11, 0, 0)), .inl (x1 + (S.1 (11, 0, 0) 6)), .inl (x2 + (S.1 (11, 0, 0) 6))]) (pc' := 60) (lv' := [(0, .inr (.inr (11, 0, 0))), (1, .inl x1), (2, .inl x2), (3, .inl x3), (4, .inl x4)]) (st' := []) (S := S) rfl (rc_226 (x1 + (S.1 (11, 0, 0) 6)) (x2 + (S.1 (11, 0, 0) 6))) (s_226 (x1 + (S.1 (11, 0, 0) 6)) (x2 + (S.1 (11, 0, 0) 6)) S) (fun r_6 S_7 => ?_)
        refine q_Sim.steps vc_228 2 (pc' := 64) (lv' := [(4, .inl r_6), (0, .inr (.inr (11, 0, 0))), (1, .inl x1), (2, .inl x2), (3, .inl x3)]) (st' := [.inl r_6]) (V' := q_V S_7) rfl ?_
        refine q_Sim.br vc_228 (c := r_6 ≤ 0) (t := 70) (f := 67) (lv' := [(4, .inl r_6), (0, .inr (.inr (11, 0, 0))), (1, .inl x1), (2, .inl x2), (3, .inl x3)]) (st' := []) (V' := q_V S_7) rfl ?_ ?_
        · refine q_Sim.steps vc_228 2 (pc' := 74) (lv' := [(4, .inl r_6), (0, .inr (.inr (11, 0, 0))), (1, .inl x1), (2, .inl x2), (3, .inl x3)]) (st' := [.inl (S_7.1 (11, 0, 0) 6)]) (V' := q_V S_7) rfl ?_
          refine q_Sim.br vc_228 (c := ¬ (S_7.1 (11, 0, 0) 6) = 0) (t := 81) (f := 77) (lv' := [(4, .inl r_6), (0, .inr (.inr (11, 0, 0))), (1, .inl x1), (2, .inl x2), (3, .inl x3)]) (st' := []) (V' := q_V S_7) rfl ?_ ?_
          · exact q_Sim.sub2 (lv' := [(0, .inr (.inr (11, 0, 0))), (1, .inl x1), (2, .inl x2), (3, .inl x3), (4, .inl r_6)]) [0, 1, 2, 3, 4] rfl (by decide) ⟨rfl, rfl, rfl, rfl, rfl, trivial⟩ (sb_228_81 (b_228_31 n) (sb_228_31 n) x1 x2 x3 r_6 S_7)
          · refine q_Sim.steps vc_228 1 (pc' := 78) (lv' := [(4, .inl r_6), (0, .inr (.inr (11, 0, 0))), (1, .inl x1), (2, .inl x2), (3, .inl x3)]) (st' := [.inr (.inr (11, 0, 0))]) (V' := q_V S_7) rfl ?_
            refine q_Sim.call vc_228 (as := [.inr (.inr (11, 0, 0))]) (pc' := 81) (lv' := [(4, .inl r_6), (0, .inr (.inr (11, 0, 0))), (1, .inl x1), (2, .inl x2), (3, .inl x3)]) (st' := []) (S := S_7) rfl (rc_188 ) (s_188  S_7) (fun r_15 S_16 => ?_)
            exact q_Sim.sub2 (lv' := [(0, .inr (.inr (11, 0, 0))), (1, .inl x1), (2, .inl x2), (3, .inl x3), (4, .inl r_6)]) [0, 1, 2, 3, 4] rfl (by decide) ⟨rfl, rfl, rfl, rfl, rfl, trivial⟩ (sb_228_81 (b_228_31 n) (sb_228_31 n) x1 x2 x3 r_6 S_16)
        · refine q_Sim.steps vc_228 1 (pc' := 31) (lv' := [(4, .inl r_6), (0, .inr (.inr (11, 0, 0))), (1, .inl x1), (2, .inl x2), (3, .inl x3)]) (st' := []) (V' := q_V S_7) rfl ?_
          exact q_Sim.sub2 (lv' := [(0, .inr (.inr (11, 0, 0))), (1, .inl x1), (2, .inl x2), (3, .inl x3), (4, .inl r_6)]) [0, 1, 2, 3, 4] rfl (by decide) ⟨rfl, rfl, rfl, rfl, rfl, trivial⟩ (sb_228_31 n x1 x2 x3 r_6 S_7)
def f_228 (x1 : Int32) (x2 : Int32) (x3 : Int32) (S : QS) : Option ((Int32) × QS) := if x3 ≤ 12 then (if 0 ≤ x3 then (q_let (q_set S (11, 0, 0) 6 0) (fun S_1 => b_228_31 q_N x1 x2 x3 0 S_1)) else (q_bd (f_186 5 S) (fun r_17 S_18 => some (r_17, S_18)))) else (q_bd (f_186 6 S) (fun r_19 S_20 => some (r_19, S_20)))
theorem s_228 (x1 : Int32) (x2 : Int32) (x3 : Int32) (S : QS) : q_Sim 228 0 [(0, .inr (.inr (11, 0, 0))), (1, .inl x1), (2, .inl x2), (3, .inl x3)] [] (q_V S) q_I (f_228 x1 x2 x3 S) := by
  unfold f_228
  refine q_Sim.steps vc_228 2 (pc' := 3) (lv' := [(0, .inr (.inr (11, 0, 0))), (1, .inl x1), (2, .inl x2), (3, .inl x3)]) (st' := [.inl 12, .inl x3]) (V' := q_V S) rfl ?_
  refine q_Sim.br vc_228 (c := x3 ≤ 12) (t := 13) (f := 6) (lv' := [(0, .inr (.inr (11, 0, 0))), (1, .inl x1), (2, .inl x2), (3, .inl x3)]) (st' := []) (V' := q_V S) rfl ?_ ?_
  · refine q_Sim.steps vc_228 1 (pc' := 14) (lv' := [(0, .inr (.inr (11, 0, 0))), (1, .inl x1), (2, .inl x2), (3, .inl x3)]) (st' := [.inl x3]) (V' := q_V S) rfl ?_
    refine q_Sim.br vc_228 (c := 0 ≤ x3) (t := 23) (f := 17) (lv' := [(0, .inr (.inr (11, 0, 0))), (1, .inl x1), (2, .inl x2), (3, .inl x3)]) (st' := []) (V' := q_V S) rfl ?_ ?_
    · refine q_Sim.steps vc_228 2 (pc' := 25) (lv' := [(0, .inr (.inr (11, 0, 0))), (1, .inl x1), (2, .inl x2), (3, .inl x3)]) (st' := [.inl 0, .inr (.inr (11, 0, 0))]) (V' := q_V S) rfl ?_
      refine q_Sim.steps vc_228 1 (pc' := 28) (lv' := [(0, .inr (.inr (11, 0, 0))), (1, .inl x1), (2, .inl x2), (3, .inl x3)]) (st' := []) (V' := q_V (q_set S (11, 0, 0) 6 0)) rfl ?_
      refine q_Sim.letS (fun S_1 => ?_)
      refine q_Sim.steps vc_228 2 (pc' := 31) (lv' := [(4, .inl 0), (0, .inr (.inr (11, 0, 0))), (1, .inl x1), (2, .inl x2), (3, .inl x3)]) (st' := []) (V' := q_V S_1) rfl ?_
      exact q_Sim.sub2 (lv' := [(0, .inr (.inr (11, 0, 0))), (1, .inl x1), (2, .inl x2), (3, .inl x3), (4, .inl 0)]) [0, 1, 2, 3, 4] rfl (by decide) ⟨rfl, rfl, rfl, rfl, rfl, trivial⟩ (sb_228_31 q_N x1 x2 x3 0 S_1)
    · refine q_Sim.steps vc_228 2 (pc' := 19) (lv' := [(0, .inr (.inr (11, 0, 0))), (1, .inl x1), (2, .inl x2), (3, .inl x3)]) (st' := [.inl 5, .inr (.inr (11, 0, 0))]) (V' := q_V S) rfl ?_
      refine q_Sim.call vc_228 (as := [.inr (.inr (11, 0, 0)), .inl 5]) (pc' := 22) (lv' := [(0, .inr (.inr (11, 0, 0))), (1, .inl x1), (2, .inl x2), (3, .inl x3)]) (st' := []) (S := S) rfl (rc_186 5) (s_186 5 S) (fun r_17 S_18 => ?_)
      exact q_Sim.ret vc_228 rfl
  · refine q_Sim.steps vc_228 2 (pc' := 9) (lv' := [(0, .inr (.inr (11, 0, 0))), (1, .inl x1), (2, .inl x2), (3, .inl x3)]) (st' := [.inl 6, .inr (.inr (11, 0, 0))]) (V' := q_V S) rfl ?_
    refine q_Sim.call vc_228 (as := [.inr (.inr (11, 0, 0)), .inl 6]) (pc' := 12) (lv' := [(0, .inr (.inr (11, 0, 0))), (1, .inl x1), (2, .inl x2), (3, .inl x3)]) (st' := []) (S := S) rfl (rc_186 6) (s_186 6 S) (fun r_19 S_20 => ?_)
    exact q_Sim.ret vc_228 rfl
theorem vc_229 : v_code 229 = k_229 := rfl
theorem rc_229  : v_rcv 229 [.inr (.inr (11, 0, 0))] = true := rfl
def f_229  (S : QS) : Option ((Int32) × QS) := some (S.1 (11, 0, 0) 6, S)
theorem s_229  (S : QS) : q_Sim 229 0 [(0, .inr (.inr (11, 0, 0)))] [] (q_V S) q_I (f_229  S) := by
  unfold f_229
  refine q_Sim.steps vc_229 2 (pc' := 4) (lv' := [(0, .inr (.inr (11, 0, 0)))]) (st' := [.inl (S.1 (11, 0, 0) 6)]) (V' := q_V S) rfl ?_
  exact q_Sim.ret vc_229 rfl
theorem vc_230 : v_code 230 = k_230 := rfl
theorem rc_230 (x1 : Int32) (x2 : Int32) : v_rcv 230 [.inr (.inr (11, 0, 0)), .inl x1, .inl x2] = true := rfl
def b_230_2 : Nat → Int32 → Int32 → Int32 → QS → Option ((Unit) × QS)
  | 0, _, _, _, _ => none
  | n + 1, x1, x2, x3, S => if 12 ≤ x3 then (some ((), S)) else (q_ck (v_in ((10 + (12 * x1)) + x3) 19520) (q_let (S.1 (40, 0, 0) ((10 + (12 * x1)) + x3).toNatClampNeg) (fun y_1 => q_ck (v_in ((10 + (12 * x2)) + x3) 19520) (q_let (q_set S (40, 0, 0) ((10 + (12 * x2)) + x3).toNatClampNeg y_1) (fun S_2 => q_ck (v_in ((10 + (12 * x1)) + x3) 19520) (q_let (q_set S_2 (40, 0, 0) ((10 + (12 * x1)) + x3).toNatClampNeg (-1)) (fun S_3 => b_230_2 n x1 x2 (x3 + 1) S_3)))))))
theorem sb_230_2 : ∀ (n : Nat) (x1 : Int32) (x2 : Int32) (x3 : Int32) (S : QS), q_Sim 230 2 [(0, .inr (.inr (11, 0, 0))), (1, .inl x1), (2, .inl x2), (3, .inl x3)] [] (q_V S) q_U (b_230_2 n x1 x2 x3 S)
  | 0, _, _, _, _ => q_Sim.none
  | n + 1, x1, x2, x3, S => by
    rw [b_230_2]
    refine q_Sim.steps vc_230 2 (pc' := 5) (lv' := [(0, .inr (.inr (11, 0, 0))), (1, .inl x1), (2, .inl x2), (3, .inl x3)]) (st' := [.inl 12, .inl x3]) (V' := q_V S) rfl ?_
    refine q_Sim.br vc_230 (c := 12 ≤ x3) (t := 57) (f := 8) (lv' := [(0, .inr (.inr (11, 0, 0))), (1, .inl x1), (2, .inl x2), (3, .inl x3)]) (st' := []) (V' := q_V S) rfl ?_ ?_
    · exact q_Sim.ret vc_230 rfl
    · refine q_Sim.steps vc_230 18 (pc' := 34) (lv' := [(0, .inr (.inr (11, 0, 0))), (1, .inl x1), (2, .inl x2), (3, .inl x3)]) (st' := [.inl ((10 + (12 * x1)) + x3), .inr (.inr (40, 0, 0)), .inl ((10 + (12 * x2)) + x3), .inr (.inr (40, 0, 0))]) (V' := q_V S) rfl ?_
      refine q_Sim.ck vc_230 (c := v_in ((10 + (12 * x1)) + x3) 19520) (pc' := 35) (lv' := [(0, .inr (.inr (11, 0, 0))), (1, .inl x1), (2, .inl x2), (3, .inl x3)]) (st' := [.inl (S.1 (40, 0, 0) ((10 + (12 * x1)) + x3).toNatClampNeg), .inl ((10 + (12 * x2)) + x3), .inr (.inr (40, 0, 0))]) (V' := q_V S) rfl ?_
      refine q_Sim.letI (fun y_1 => ?_)
      refine q_Sim.ck vc_230 (c := v_in ((10 + (12 * x2)) + x3) 19520) (pc' := 36) (lv' := [(0, .inr (.inr (11, 0, 0))), (1, .inl x1), (2, .inl x2), (3, .inl x3)]) (st' := []) (V' := q_V (q_set S (40, 0, 0) ((10 + (12 * x2)) + x3).toNatClampNeg y_1)) rfl ?_
      refine q_Sim.letS (fun S_2 => ?_)
      refine q_Sim.steps vc_230 10 (pc' := 50) (lv' := [(0, .inr (.inr (11, 0, 0))), (1, .inl x1), (2, .inl x2), (3, .inl x3)]) (st' := [.inl (-1), .inl ((10 + (12 * x1)) + x3), .inr (.inr (40, 0, 0))]) (V' := q_V S_2) rfl ?_
      refine q_Sim.ck vc_230 (c := v_in ((10 + (12 * x1)) + x3) 19520) (pc' := 51) (lv' := [(0, .inr (.inr (11, 0, 0))), (1, .inl x1), (2, .inl x2), (3, .inl x3)]) (st' := []) (V' := q_V (q_set S_2 (40, 0, 0) ((10 + (12 * x1)) + x3).toNatClampNeg (-1))) rfl ?_
      refine q_Sim.letS (fun S_3 => ?_)
      refine q_Sim.steps vc_230 2 (pc' := 2) (lv' := [(3, .inl (x3 + 1)), (0, .inr (.inr (11, 0, 0))), (1, .inl x1), (2, .inl x2)]) (st' := []) (V' := q_V S_3) rfl ?_
      exact q_Sim.sub2 (lv' := [(0, .inr (.inr (11, 0, 0))), (1, .inl x1), (2, .inl x2), (3, .inl (x3 + 1))]) [0, 1, 2, 3] rfl (by decide) ⟨rfl, rfl, rfl, rfl, trivial⟩ (sb_230_2 n x1 x2 (x3 + 1) S_3)
def f_230 (x1 : Int32) (x2 : Int32) (S : QS) : Option ((Unit) × QS) := b_230_2 q_N x1 x2 0 S
theorem s_230 (x1 : Int32) (x2 : Int32) (S : QS) : q_Sim 230 0 [(0, .inr (.inr (11, 0, 0))), (1, .inl x1), (2, .inl x2)] [] (q_V S) q_U (f_230 x1 x2 S) := by
  unfold f_230
  refine q_Sim.steps vc_230 2 (pc' := 2) (lv' := [(3, .inl 0), (0, .inr (.inr (11, 0, 0))), (1, .inl x1), (2, .inl x2)]) (st' := []) (V' := q_V S) rfl ?_
  exact q_Sim.sub2 (lv' := [(0, .inr (.inr (11, 0, 0))), (1, .inl x1), (2, .inl x2), (3, .inl 0)]) [0, 1, 2, 3] rfl (by decide) ⟨rfl, rfl, rfl, rfl, trivial⟩ (sb_230_2 q_N x1 x2 0 S)
