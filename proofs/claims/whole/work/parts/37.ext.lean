/-! ===== the code as functions, by program ===== -/
theorem vc_231 : v_code 231 = k_231 := rfl
theorem rc_231 (x1 : Int32) (x2 : Int32) (x3 : Int32) : v_rcv 231 [.inr (.inr (11, 0, 0)), .inl x1, .inl x2, .inl x3] = true := rfl
def b_231_21 : Nat → Int32 → Int32 → Int32 → Int32 → Int32 → Int32 → QS → Option ((Unit) × QS)
  | 0, _, _, _, _, _, _, _ => none
  | n + 1, x1, x2, x3, x4, x5, x6, S => if x4 ≤ x6 then (q_bd (f_191 x1 10 x2 S) (fun r_5 S_6 => q_bd (f_191 x3 10 ((x5 + x4) - x2) S_6) (fun r_7 S_8 => some ((), S_8)))) else (q_bd (f_230 ((8 * x1) + x6) ((((8 * x3) + x5) + x6) - x2) S) (fun r_9 S_10 => b_231_21 n x1 x2 x3 x4 x5 (x6 + 1) S_10))
theorem sb_231_21 : ∀ (n : Nat) (x1 : Int32) (x2 : Int32) (x3 : Int32) (x4 : Int32) (x5 : Int32) (x6 : Int32) (S : QS), q_Sim 231 21 [(0, .inr (.inr (11, 0, 0))), (1, .inl x1), (2, .inl x2), (3, .inl x3), (4, .inl x4), (5, .inl x5), (6, .inl x6)] [] (q_V S) q_U (b_231_21 n x1 x2 x3 x4 x5 x6 S)
  | 0, _, _, _, _, _, _, _ => q_Sim.none
  | n + 1, x1, x2, x3, x4, x5, x6, S => by
    rw [b_231_21]
    refine q_Sim.steps vc_231 2 (pc' := 25) (lv' := [(0, .inr (.inr (11, 0, 0))), (1, .inl x1), (2, .inl x2), (3, .inl x3), (4, .inl x4), (5, .inl x5), (6, .inl x6)]) (st' := [.inl x4, .inl x6]) (V' := q_V S) rfl ?_
    refine q_Sim.br vc_231 (c := x4 ≤ x6) (t := 57) (f := 28) (lv' := [(0, .inr (.inr (11, 0, 0))), (1, .inl x1), (2, .inl x2), (3, .inl x3), (4, .inl x4), (5, .inl x5), (6, .inl x6)]) (st' := []) (V' := q_V S) rfl ?_ ?_
    · refine q_Sim.steps vc_231 4 (pc' := 62) (lv' := [(0, .inr (.inr (11, 0, 0))), (1, .inl x1), (2, .inl x2), (3, .inl x3), (4, .inl x4), (5, .inl x5), (6, .inl x6)]) (st' := [.inl x2, .inl 10, .inl x1, .inr (.inr (11, 0, 0))]) (V' := q_V S) rfl ?_
      refine q_Sim.call vc_231 (as := [.inr (.inr (11, 0, 0)), .inl x1, .inl 10, .inl x2]) (pc' := 65) (lv' := [(0, .inr (.inr (11, 0, 0))), (1, .inl x1), (2, .inl x2), (3, .inl x3), (4, .inl x4), (5, .inl x5), (6, .inl x6)]) (st' := []) (S := S) rfl (rc_191 x1 10 x2) (s_191 x1 10 x2 S) (fun r_5 S_6 => ?_)
      refine q_Sim.steps vc_231 8 (pc' := 76) (lv' := [(0, .inr (.inr (11, 0, 0))), (1, .inl x1), (2, .inl x2), (3, .inl x3), (4, .inl x4), (5, .inl x5), (6, .inl x6)]) (st' := [.inl ((x5 + x4) - x2), .inl 10, .inl x3, .inr (.inr (11, 0, 0))]) (V' := q_V S_6) rfl ?_
      refine q_Sim.call vc_231 (as := [.inr (.inr (11, 0, 0)), .inl x3, .inl 10, .inl ((x5 + x4) - x2)]) (pc' := 79) (lv' := [(0, .inr (.inr (11, 0, 0))), (1, .inl x1), (2, .inl x2), (3, .inl x3), (4, .inl x4), (5, .inl x5), (6, .inl x6)]) (st' := []) (S := S_6) rfl (rc_191 x3 10 ((x5 + x4) - x2)) (s_191 x3 10 ((x5 + x4) - x2) S_6) (fun r_7 S_8 => ?_)
      exact q_Sim.ret vc_231 rfl
    · refine q_Sim.steps vc_231 15 (pc' := 48) (lv' := [(0, .inr (.inr (11, 0, 0))), (1, .inl x1), (2, .inl x2), (3, .inl x3), (4, .inl x4), (5, .inl x5), (6, .inl x6)]) (st' := [.inl ((((8 * x3) + x5) + x6) - x2), .inl ((8 * x1) + x6), .inr (.inr (11, 0, 0))]) (V' := q_V S) rfl ?_
      refine q_Sim.call vc_231 (as := [.inr (.inr (11, 0, 0)), .inl ((8 * x1) + x6), .inl ((((8 * x3) + x5) + x6) - x2)]) (pc' := 51) (lv' := [(0, .inr (.inr (11, 0, 0))), (1, .inl x1), (2, .inl x2), (3, .inl x3), (4, .inl x4), (5, .inl x5), (6, .inl x6)]) (st' := []) (S := S) rfl (rc_230 ((8 * x1) + x6) ((((8 * x3) + x5) + x6) - x2)) (s_230 ((8 * x1) + x6) ((((8 * x3) + x5) + x6) - x2) S) (fun r_9 S_10 => ?_)
      refine q_Sim.steps vc_231 2 (pc' := 21) (lv' := [(6, .inl (x6 + 1)), (0, .inr (.inr (11, 0, 0))), (1, .inl x1), (2, .inl x2), (3, .inl x3), (4, .inl x4), (5, .inl x5)]) (st' := []) (V' := q_V S_10) rfl ?_
      exact q_Sim.sub2 (lv' := [(0, .inr (.inr (11, 0, 0))), (1, .inl x1), (2, .inl x2), (3, .inl x3), (4, .inl x4), (5, .inl x5), (6, .inl (x6 + 1))]) [0, 1, 2, 3, 4, 5, 6] rfl (by decide) ⟨rfl, rfl, rfl, rfl, rfl, rfl, rfl, trivial⟩ (sb_231_21 n x1 x2 x3 x4 x5 (x6 + 1) S_10)
def f_231 (x1 : Int32) (x2 : Int32) (x3 : Int32) (S : QS) : Option ((Unit) × QS) := q_bd (f_190 x1 10 S) (fun r_1 S_2 => q_bd (f_190 x3 10 S_2) (fun r_3 S_4 => b_231_21 q_N x1 x2 x3 r_1 r_3 x2 S_4))
theorem s_231 (x1 : Int32) (x2 : Int32) (x3 : Int32) (S : QS) : q_Sim 231 0 [(0, .inr (.inr (11, 0, 0))), (1, .inl x1), (2, .inl x2), (3, .inl x3)] [] (q_V S) q_U (f_231 x1 x2 x3 S) := by
  unfold f_231
  refine q_Sim.steps vc_231 3 (pc' := 4) (lv' := [(0, .inr (.inr (11, 0, 0))), (1, .inl x1), (2, .inl x2), (3, .inl x3)]) (st' := [.inl 10, .inl x1, .inr (.inr (11, 0, 0))]) (V' := q_V S) rfl ?_
  refine q_Sim.call vc_231 (as := [.inr (.inr (11, 0, 0)), .inl x1, .inl 10]) (pc' := 7) (lv' := [(0, .inr (.inr (11, 0, 0))), (1, .inl x1), (2, .inl x2), (3, .inl x3)]) (st' := []) (S := S) rfl (rc_190 x1 10) (s_190 x1 10 S) (fun r_1 S_2 => ?_)
  refine q_Sim.steps vc_231 4 (pc' := 13) (lv' := [(4, .inl r_1), (0, .inr (.inr (11, 0, 0))), (1, .inl x1), (2, .inl x2), (3, .inl x3)]) (st' := [.inl 10, .inl x3, .inr (.inr (11, 0, 0))]) (V' := q_V S_2) rfl ?_
  refine q_Sim.call vc_231 (as := [.inr (.inr (11, 0, 0)), .inl x3, .inl 10]) (pc' := 16) (lv' := [(4, .inl r_1), (0, .inr (.inr (11, 0, 0))), (1, .inl x1), (2, .inl x2), (3, .inl x3)]) (st' := []) (S := S_2) rfl (rc_190 x3 10) (s_190 x3 10 S_2) (fun r_3 S_4 => ?_)
  refine q_Sim.steps vc_231 3 (pc' := 21) (lv' := [(6, .inl x2), (5, .inl r_3), (4, .inl r_1), (0, .inr (.inr (11, 0, 0))), (1, .inl x1), (2, .inl x2), (3, .inl x3)]) (st' := []) (V' := q_V S_4) rfl ?_
  exact q_Sim.sub2 (lv' := [(0, .inr (.inr (11, 0, 0))), (1, .inl x1), (2, .inl x2), (3, .inl x3), (4, .inl r_1), (5, .inl r_3), (6, .inl x2)]) [0, 1, 2, 3, 4, 5, 6] rfl (by decide) ⟨rfl, rfl, rfl, rfl, rfl, rfl, rfl, trivial⟩ (sb_231_21 q_N x1 x2 x3 r_1 r_3 x2 S_4)
theorem vc_232 : v_code 232 = k_232 := rfl
theorem rc_232 (x1 : Int32) (x2 : Int32) : v_rcv 232 [.inr (.inr (11, 0, 0)), .inl x1, .inl x2] = true := rfl
def b_232_54 (x1 : Int32) (x2 : Int32) (x3 : Int32) (S : QS) : Option ((Int32) × QS) := if x3 ≤ 0 then (q_bd (f_188  S) (fun r_7 S_8 => q_bd (f_190 x2 10 S_8) (fun r_9 S_10 => q_bd (f_190 x1 10 S_10) (fun r_11 S_12 => q_bd (f_231 x1 (r_11 - 1) x2 S_12) (fun r_13 S_14 => q_bd (f_187 r_9 S_14) (fun r_15 S_16 => some (r_15, S_16))))))) else (q_bd (f_186 x3 S) (fun r_17 S_18 => some (r_17, S_18)))
theorem sb_232_54 (x1 : Int32) (x2 : Int32) (x3 : Int32) (S : QS) : q_Sim 232 54 [(0, .inr (.inr (11, 0, 0))), (1, .inl x1), (2, .inl x2), (3, .inl x3)] [] (q_V S) q_I (b_232_54 x1 x2 x3 S) := by
  unfold b_232_54
  refine q_Sim.steps vc_232 1 (pc' := 55) (lv' := [(0, .inr (.inr (11, 0, 0))), (1, .inl x1), (2, .inl x2), (3, .inl x3)]) (st' := [.inl x3]) (V' := q_V S) rfl ?_
  refine q_Sim.br vc_232 (c := x3 ≤ 0) (t := 64) (f := 58) (lv' := [(0, .inr (.inr (11, 0, 0))), (1, .inl x1), (2, .inl x2), (3, .inl x3)]) (st' := []) (V' := q_V S) rfl ?_ ?_
  · refine q_Sim.steps vc_232 1 (pc' := 65) (lv' := [(0, .inr (.inr (11, 0, 0))), (1, .inl x1), (2, .inl x2), (3, .inl x3)]) (st' := [.inr (.inr (11, 0, 0))]) (V' := q_V S) rfl ?_
    refine q_Sim.call vc_232 (as := [.inr (.inr (11, 0, 0))]) (pc' := 68) (lv' := [(0, .inr (.inr (11, 0, 0))), (1, .inl x1), (2, .inl x2), (3, .inl x3)]) (st' := []) (S := S) rfl (rc_188 ) (s_188  S) (fun r_7 S_8 => ?_)
    refine q_Sim.steps vc_232 3 (pc' := 72) (lv' := [(0, .inr (.inr (11, 0, 0))), (1, .inl x1), (2, .inl x2), (3, .inl x3)]) (st' := [.inl 10, .inl x2, .inr (.inr (11, 0, 0))]) (V' := q_V S_8) rfl ?_
    refine q_Sim.call vc_232 (as := [.inr (.inr (11, 0, 0)), .inl x2, .inl 10]) (pc' := 75) (lv' := [(0, .inr (.inr (11, 0, 0))), (1, .inl x1), (2, .inl x2), (3, .inl x3)]) (st' := []) (S := S_8) rfl (rc_190 x2 10) (s_190 x2 10 S_8) (fun r_9 S_10 => ?_)
    refine q_Sim.steps vc_232 6 (pc' := 83) (lv' := [(4, .inl r_9), (0, .inr (.inr (11, 0, 0))), (1, .inl x1), (2, .inl x2), (3, .inl x3)]) (st' := [.inl 10, .inl x1, .inr (.inr (11, 0, 0)), .inl x1, .inr (.inr (11, 0, 0))]) (V' := q_V S_10) rfl ?_
    refine q_Sim.call vc_232 (as := [.inr (.inr (11, 0, 0)), .inl x1, .inl 10]) (pc' := 86) (lv' := [(4, .inl r_9), (0, .inr (.inr (11, 0, 0))), (1, .inl x1), (2, .inl x2), (3, .inl x3)]) (st' := [.inl x1, .inr (.inr (11, 0, 0))]) (S := S_10) rfl (rc_190 x1 10) (s_190 x1 10 S_10) (fun r_11 S_12 => ?_)
    refine q_Sim.steps vc_232 3 (pc' := 89) (lv' := [(4, .inl r_9), (0, .inr (.inr (11, 0, 0))), (1, .inl x1), (2, .inl x2), (3, .inl x3)]) (st' := [.inl x2, .inl (r_11 - 1), .inl x1, .inr (.inr (11, 0, 0))]) (V' := q_V S_12) rfl ?_
    refine q_Sim.call vc_232 (as := [.inr (.inr (11, 0, 0)), .inl x1, .inl (r_11 - 1), .inl x2]) (pc' := 92) (lv' := [(4, .inl r_9), (0, .inr (.inr (11, 0, 0))), (1, .inl x1), (2, .inl x2), (3, .inl x3)]) (st' := []) (S := S_12) rfl (rc_231 x1 (r_11 - 1) x2) (s_231 x1 (r_11 - 1) x2 S_12) (fun r_13 S_14 => ?_)
    refine q_Sim.steps vc_232 2 (pc' := 95) (lv' := [(4, .inl r_9), (0, .inr (.inr (11, 0, 0))), (1, .inl x1), (2, .inl x2), (3, .inl x3)]) (st' := [.inl r_9, .inr (.inr (11, 0, 0))]) (V' := q_V S_14) rfl ?_
    refine q_Sim.call vc_232 (as := [.inr (.inr (11, 0, 0)), .inl r_9]) (pc' := 98) (lv' := [(4, .inl r_9), (0, .inr (.inr (11, 0, 0))), (1, .inl x1), (2, .inl x2), (3, .inl x3)]) (st' := []) (S := S_14) rfl (rc_187 r_9) (s_187 r_9 S_14) (fun r_15 S_16 => ?_)
    exact q_Sim.ret vc_232 rfl
  · refine q_Sim.steps vc_232 2 (pc' := 60) (lv' := [(0, .inr (.inr (11, 0, 0))), (1, .inl x1), (2, .inl x2), (3, .inl x3)]) (st' := [.inl x3, .inr (.inr (11, 0, 0))]) (V' := q_V S) rfl ?_
    refine q_Sim.call vc_232 (as := [.inr (.inr (11, 0, 0)), .inl x3]) (pc' := 63) (lv' := [(0, .inr (.inr (11, 0, 0))), (1, .inl x1), (2, .inl x2), (3, .inl x3)]) (st' := []) (S := S) rfl (rc_186 x3) (s_186 x3 S) (fun r_17 S_18 => ?_)
    exact q_Sim.ret vc_232 rfl
def b_232_51 (x1 : Int32) (x2 : Int32) (S : QS) : Option ((Int32) × QS) := b_232_54 x1 x2 6 S
theorem sb_232_51 (x1 : Int32) (x2 : Int32) (S : QS) : q_Sim 232 51 [(0, .inr (.inr (11, 0, 0))), (1, .inl x1), (2, .inl x2)] [] (q_V S) q_I (b_232_51 x1 x2 S) := by
  unfold b_232_51
  refine q_Sim.steps vc_232 2 (pc' := 54) (lv' := [(3, .inl 6), (0, .inr (.inr (11, 0, 0))), (1, .inl x1), (2, .inl x2)]) (st' := []) (V' := q_V S) rfl ?_
  exact q_Sim.sub2 (lv' := [(0, .inr (.inr (11, 0, 0))), (1, .inl x1), (2, .inl x2), (3, .inl 6)]) [0, 1, 2, 3] rfl (by decide) ⟨rfl, rfl, rfl, rfl, trivial⟩ (sb_232_54 x1 x2 6 S)
def b_232_30 (x1 : Int32) (x2 : Int32) (x3 : Int32) (S : QS) : Option ((Int32) × QS) := if ¬ x3 = 0 then (b_232_54 x1 x2 x3 S) else (if x2 = x1 then (b_232_51 x1 x2 S) else (q_bd (f_190 x2 10 S) (fun r_19 S_20 => if ¬ r_19 = 8 then (b_232_54 x1 x2 x3 S_20) else (b_232_51 x1 x2 S_20))))
theorem sb_232_30 (x1 : Int32) (x2 : Int32) (x3 : Int32) (S : QS) : q_Sim 232 30 [(0, .inr (.inr (11, 0, 0))), (1, .inl x1), (2, .inl x2), (3, .inl x3)] [] (q_V S) q_I (b_232_30 x1 x2 x3 S) := by
  unfold b_232_30
  refine q_Sim.steps vc_232 1 (pc' := 31) (lv' := [(0, .inr (.inr (11, 0, 0))), (1, .inl x1), (2, .inl x2), (3, .inl x3)]) (st' := [.inl x3]) (V' := q_V S) rfl ?_
  refine q_Sim.br vc_232 (c := ¬ x3 = 0) (t := 54) (f := 34) (lv' := [(0, .inr (.inr (11, 0, 0))), (1, .inl x1), (2, .inl x2), (3, .inl x3)]) (st' := []) (V' := q_V S) rfl ?_ ?_
  · exact q_Sim.sub2 (lv' := [(0, .inr (.inr (11, 0, 0))), (1, .inl x1), (2, .inl x2), (3, .inl x3)]) [0, 1, 2, 3] rfl (by decide) ⟨rfl, rfl, rfl, rfl, trivial⟩ (sb_232_54 x1 x2 x3 S)
  · refine q_Sim.steps vc_232 2 (pc' := 36) (lv' := [(0, .inr (.inr (11, 0, 0))), (1, .inl x1), (2, .inl x2), (3, .inl x3)]) (st' := [.inl x1, .inl x2]) (V' := q_V S) rfl ?_
    refine q_Sim.br vc_232 (c := x2 = x1) (t := 51) (f := 39) (lv' := [(0, .inr (.inr (11, 0, 0))), (1, .inl x1), (2, .inl x2), (3, .inl x3)]) (st' := []) (V' := q_V S) rfl ?_ ?_
    · exact q_Sim.sub2 (lv' := [(0, .inr (.inr (11, 0, 0))), (1, .inl x1), (2, .inl x2)]) [0, 1, 2] rfl (by decide) ⟨rfl, rfl, rfl, trivial⟩ (sb_232_51 x1 x2 S)
    · refine q_Sim.steps vc_232 3 (pc' := 43) (lv' := [(0, .inr (.inr (11, 0, 0))), (1, .inl x1), (2, .inl x2), (3, .inl x3)]) (st' := [.inl 10, .inl x2, .inr (.inr (11, 0, 0))]) (V' := q_V S) rfl ?_
      refine q_Sim.call vc_232 (as := [.inr (.inr (11, 0, 0)), .inl x2, .inl 10]) (pc' := 46) (lv' := [(0, .inr (.inr (11, 0, 0))), (1, .inl x1), (2, .inl x2), (3, .inl x3)]) (st' := []) (S := S) rfl (rc_190 x2 10) (s_190 x2 10 S) (fun r_19 S_20 => ?_)
      refine q_Sim.steps vc_232 1 (pc' := 48) (lv' := [(0, .inr (.inr (11, 0, 0))), (1, .inl x1), (2, .inl x2), (3, .inl x3)]) (st' := [.inl 8, .inl r_19]) (V' := q_V S_20) rfl ?_
      refine q_Sim.br vc_232 (c := ¬ r_19 = 8) (t := 54) (f := 51) (lv' := [(0, .inr (.inr (11, 0, 0))), (1, .inl x1), (2, .inl x2), (3, .inl x3)]) (st' := []) (V' := q_V S_20) rfl ?_ ?_
      · exact q_Sim.sub2 (lv' := [(0, .inr (.inr (11, 0, 0))), (1, .inl x1), (2, .inl x2), (3, .inl x3)]) [0, 1, 2, 3] rfl (by decide) ⟨rfl, rfl, rfl, rfl, trivial⟩ (sb_232_54 x1 x2 x3 S_20)
      · exact q_Sim.sub2 (lv' := [(0, .inr (.inr (11, 0, 0))), (1, .inl x1), (2, .inl x2)]) [0, 1, 2] rfl (by decide) ⟨rfl, rfl, rfl, trivial⟩ (sb_232_51 x1 x2 S_20)
def f_232 (x1 : Int32) (x2 : Int32) (S : QS) : Option ((Int32) × QS) := q_bd (f_198 x1 S) (fun r_1 S_2 => q_bd (f_198 x2 S_2) (fun r_3 S_4 => q_bd (f_202 r_1 r_3 S_4) (fun r_5 S_6 => if ¬ r_5 = 0 then (b_232_30 x1 x2 r_5 S_6) else (q_bd (f_190 x1 10 S_6) (fun r_21 S_22 => if ¬ r_21 = 0 then (b_232_30 x1 x2 r_5 S_22) else (b_232_30 x1 x2 2 S_22))))))
theorem s_232 (x1 : Int32) (x2 : Int32) (S : QS) : q_Sim 232 0 [(0, .inr (.inr (11, 0, 0))), (1, .inl x1), (2, .inl x2)] [] (q_V S) q_I (f_232 x1 x2 S) := by
  unfold f_232
  refine q_Sim.steps vc_232 2 (pc' := 2) (lv' := [(0, .inr (.inr (11, 0, 0))), (1, .inl x1), (2, .inl x2)]) (st' := [.inl x1, .inr (.inr (11, 0, 0))]) (V' := q_V S) rfl ?_
  refine q_Sim.call vc_232 (as := [.inr (.inr (11, 0, 0)), .inl x1]) (pc' := 5) (lv' := [(0, .inr (.inr (11, 0, 0))), (1, .inl x1), (2, .inl x2)]) (st' := []) (S := S) rfl (rc_198 x1) (s_198 x1 S) (fun r_1 S_2 => ?_)
  refine q_Sim.steps vc_232 2 (pc' := 7) (lv' := [(0, .inr (.inr (11, 0, 0))), (1, .inl x1), (2, .inl x2)]) (st' := [.inl x2, .inr (.inr (11, 0, 0)), .inl r_1]) (V' := q_V S_2) rfl ?_
  refine q_Sim.call vc_232 (as := [.inr (.inr (11, 0, 0)), .inl x2]) (pc' := 10) (lv' := [(0, .inr (.inr (11, 0, 0))), (1, .inl x1), (2, .inl x2)]) (st' := [.inl r_1]) (S := S_2) rfl (rc_198 x2) (s_198 x2 S_2) (fun r_3 S_4 => ?_)
  refine q_Sim.call vc_232 (as := [.inl r_1, .inl r_3]) (pc' := 13) (lv' := [(0, .inr (.inr (11, 0, 0))), (1, .inl x1), (2, .inl x2)]) (st' := []) (S := S_4) rfl (rc_202 r_1 r_3) (s_202 r_1 r_3 S_4) (fun r_5 S_6 => ?_)
  refine q_Sim.steps vc_232 2 (pc' := 15) (lv' := [(3, .inl r_5), (0, .inr (.inr (11, 0, 0))), (1, .inl x1), (2, .inl x2)]) (st' := [.inl r_5]) (V' := q_V S_6) rfl ?_
  refine q_Sim.br vc_232 (c := ¬ r_5 = 0) (t := 30) (f := 18) (lv' := [(3, .inl r_5), (0, .inr (.inr (11, 0, 0))), (1, .inl x1), (2, .inl x2)]) (st' := []) (V' := q_V S_6) rfl ?_ ?_
  · exact q_Sim.sub2 (lv' := [(0, .inr (.inr (11, 0, 0))), (1, .inl x1), (2, .inl x2), (3, .inl r_5)]) [0, 1, 2, 3] rfl (by decide) ⟨rfl, rfl, rfl, rfl, trivial⟩ (sb_232_30 x1 x2 r_5 S_6)
  · refine q_Sim.steps vc_232 3 (pc' := 22) (lv' := [(3, .inl r_5), (0, .inr (.inr (11, 0, 0))), (1, .inl x1), (2, .inl x2)]) (st' := [.inl 10, .inl x1, .inr (.inr (11, 0, 0))]) (V' := q_V S_6) rfl ?_
    refine q_Sim.call vc_232 (as := [.inr (.inr (11, 0, 0)), .inl x1, .inl 10]) (pc' := 25) (lv' := [(3, .inl r_5), (0, .inr (.inr (11, 0, 0))), (1, .inl x1), (2, .inl x2)]) (st' := []) (S := S_6) rfl (rc_190 x1 10) (s_190 x1 10 S_6) (fun r_21 S_22 => ?_)
    refine q_Sim.br vc_232 (c := ¬ r_21 = 0) (t := 30) (f := 28) (lv' := [(3, .inl r_5), (0, .inr (.inr (11, 0, 0))), (1, .inl x1), (2, .inl x2)]) (st' := []) (V' := q_V S_22) rfl ?_ ?_
    · exact q_Sim.sub2 (lv' := [(0, .inr (.inr (11, 0, 0))), (1, .inl x1), (2, .inl x2), (3, .inl r_5)]) [0, 1, 2, 3] rfl (by decide) ⟨rfl, rfl, rfl, rfl, trivial⟩ (sb_232_30 x1 x2 r_5 S_22)
    · refine q_Sim.steps vc_232 2 (pc' := 30) (lv' := [(3, .inl 2), (0, .inr (.inr (11, 0, 0))), (1, .inl x1), (2, .inl x2)]) (st' := []) (V' := q_V S_22) rfl ?_
      exact q_Sim.sub2 (lv' := [(0, .inr (.inr (11, 0, 0))), (1, .inl x1), (2, .inl x2), (3, .inl 2)]) [0, 1, 2, 3] rfl (by decide) ⟨rfl, rfl, rfl, rfl, trivial⟩ (sb_232_30 x1 x2 2 S_22)
theorem vc_233 : v_code 233 = k_233 := rfl
theorem rc_233 (x1 : Int32) (x2 : Int32) : v_rcv 233 [.inr (.inr (11, 0, 0)), .inl x1, .inl x2] = true := rfl
def b_233_152 (x2 : Int32) (x4 : Int32) (S : QS) : Option ((Int32) × QS) := q_bd (f_191 x2 3 (-1) S) (fun r_15 S_16 => q_bd (f_187 x4 S_16) (fun r_17 S_18 => some (r_17, S_18)))
theorem sb_233_152 (x2 : Int32) (x4 : Int32) (S : QS) : q_Sim 233 152 [(0, .inr (.inr (11, 0, 0))), (2, .inl x2), (4, .inl x4)] [] (q_V S) q_I (b_233_152 x2 x4 S) := by
  unfold b_233_152
  refine q_Sim.steps vc_233 4 (pc' := 156) (lv' := [(0, .inr (.inr (11, 0, 0))), (2, .inl x2), (4, .inl x4)]) (st' := [.inl (-1), .inl 3, .inl x2, .inr (.inr (11, 0, 0))]) (V' := q_V S) rfl ?_
  refine q_Sim.call vc_233 (as := [.inr (.inr (11, 0, 0)), .inl x2, .inl 3, .inl (-1)]) (pc' := 159) (lv' := [(0, .inr (.inr (11, 0, 0))), (2, .inl x2), (4, .inl x4)]) (st' := []) (S := S) rfl (rc_191 x2 3 (-1)) (s_191 x2 3 (-1) S) (fun r_15 S_16 => ?_)
  refine q_Sim.steps vc_233 2 (pc' := 162) (lv' := [(0, .inr (.inr (11, 0, 0))), (2, .inl x2), (4, .inl x4)]) (st' := [.inl x4, .inr (.inr (11, 0, 0))]) (V' := q_V S_16) rfl ?_
  refine q_Sim.call vc_233 (as := [.inr (.inr (11, 0, 0)), .inl x4]) (pc' := 165) (lv' := [(0, .inr (.inr (11, 0, 0))), (2, .inl x2), (4, .inl x4)]) (st' := []) (S := S_16) rfl (rc_187 x4) (s_187 x4 S_16) (fun r_17 S_18 => ?_)
  exact q_Sim.ret vc_233 rfl
def b_233_125 (back_79 : Int32 → Int32 → Int32 → Int32 → QS → Option ((Int32) × QS)) (x1 : Int32) (x2 : Int32) (x4 : Int32) (x5 : Int32) (S : QS) : Option ((Int32) × QS) := back_79 x1 x2 x4 (x5 + 1) S
theorem sb_233_125 (back_79 : Int32 → Int32 → Int32 → Int32 → QS → Option ((Int32) × QS)) (hb_79 : ∀ (x1 : Int32) (x2 : Int32) (x4 : Int32) (x5 : Int32) (S : QS), q_Sim 233 79 [(0, .inr (.inr (11, 0, 0))), (1, .inl x1), (2, .inl x2), (4, .inl x4), (5, .inl x5)] [] (q_V S) q_I (back_79 x1 x2 x4 x5 S)) (x1 : Int32) (x2 : Int32) (x4 : Int32) (x5 : Int32) (S : QS) : q_Sim 233 125 [(0, .inr (.inr (11, 0, 0))), (1, .inl x1), (2, .inl x2), (4, .inl x4), (5, .inl x5)] [] (q_V S) q_I (b_233_125 back_79 x1 x2 x4 x5 S) := by
  unfold b_233_125
  refine q_Sim.steps vc_233 2 (pc' := 79) (lv' := [(5, .inl (x5 + 1)), (0, .inr (.inr (11, 0, 0))), (1, .inl x1), (2, .inl x2), (4, .inl x4)]) (st' := []) (V' := q_V S) rfl ?_
  exact q_Sim.sub2 (lv' := [(0, .inr (.inr (11, 0, 0))), (1, .inl x1), (2, .inl x2), (4, .inl x4), (5, .inl (x5 + 1))]) [0, 1, 2, 4, 5] rfl (by decide) ⟨rfl, rfl, rfl, rfl, rfl, trivial⟩ (hb_79 x1 x2 x4 (x5 + 1) S)
def b_233_79 : Nat → Int32 → Int32 → Int32 → Int32 → QS → Option ((Int32) × QS)
  | 0, _, _, _, _, _ => none
  | n + 1, x1, x2, x4, x5, S => if 6 < x5 then (q_bd (f_190 x1 3 S) (fun r_13 S_14 => if 0 ≤ r_13 then (b_233_152 x2 x4 S_14) else (q_bd (f_190 x2 3 S_14) (fun r_19 S_20 => q_bd (f_191 x1 3 r_19 S_20) (fun r_21 S_22 => b_233_152 x2 x4 S_22))))) else (if ¬ x5 = 3 then (q_bd (f_190 x1 x5 S) (fun r_23 S_24 => q_bd (f_190 x2 x5 S_24) (fun r_25 S_26 => q_bd (f_191 x1 x5 (r_23 + r_25) S_26) (fun r_27 S_28 => q_bd (f_191 x2 x5 0 S_28) (fun r_29 S_30 => b_233_125 (b_233_79 n) x1 x2 x4 x5 S_30))))) else (b_233_125 (b_233_79 n) x1 x2 x4 x5 S))
theorem sb_233_79 : ∀ (n : Nat) (x1 : Int32) (x2 : Int32) (x4 : Int32) (x5 : Int32) (S : QS), q_Sim 233 79 [(0, .inr (.inr (11, 0, 0))), (1, .inl x1), (2, .inl x2), (4, .inl x4), (5, .inl x5)] [] (q_V S) q_I (b_233_79 n x1 x2 x4 x5 S)
  | 0, _, _, _, _, _ => q_Sim.none
  | n + 1, x1, x2, x4, x5, S => by
    rw [b_233_79]
    refine q_Sim.steps vc_233 2 (pc' := 83) (lv' := [(0, .inr (.inr (11, 0, 0))), (1, .inl x1), (2, .inl x2), (4, .inl x4), (5, .inl x5)]) (st' := [.inl 6, .inl x5]) (V' := q_V S) rfl ?_
    refine q_Sim.br vc_233 (c := 6 < x5) (t := 131) (f := 86) (lv' := [(0, .inr (.inr (11, 0, 0))), (1, .inl x1), (2, .inl x2), (4, .inl x4), (5, .inl x5)]) (st' := []) (V' := q_V S) rfl ?_ ?_
    · refine q_Sim.steps vc_233 3 (pc' := 134) (lv' := [(0, .inr (.inr (11, 0, 0))), (1, .inl x1), (2, .inl x2), (4, .inl x4), (5, .inl x5)]) (st' := [.inl 3, .inl x1, .inr (.inr (11, 0, 0))]) (V' := q_V S) rfl ?_
      refine q_Sim.call vc_233 (as := [.inr (.inr (11, 0, 0)), .inl x1, .inl 3]) (pc' := 137) (lv' := [(0, .inr (.inr (11, 0, 0))), (1, .inl x1), (2, .inl x2), (4, .inl x4), (5, .inl x5)]) (st' := []) (S := S) rfl (rc_190 x1 3) (s_190 x1 3 S) (fun r_13 S_14 => ?_)
      refine q_Sim.br vc_233 (c := 0 ≤ r_13) (t := 152) (f := 140) (lv' := [(0, .inr (.inr (11, 0, 0))), (1, .inl x1), (2, .inl x2), (4, .inl x4), (5, .inl x5)]) (st' := []) (V' := q_V S_14) rfl ?_ ?_
      · exact q_Sim.sub2 (lv' := [(0, .inr (.inr (11, 0, 0))), (2, .inl x2), (4, .inl x4)]) [0, 2, 4] rfl (by decide) ⟨rfl, rfl, rfl, trivial⟩ (sb_233_152 x2 x4 S_14)
      · refine q_Sim.steps vc_233 6 (pc' := 146) (lv' := [(0, .inr (.inr (11, 0, 0))), (1, .inl x1), (2, .inl x2), (4, .inl x4), (5, .inl x5)]) (st' := [.inl 3, .inl x2, .inr (.inr (11, 0, 0)), .inl 3, .inl x1, .inr (.inr (11, 0, 0))]) (V' := q_V S_14) rfl ?_
        refine q_Sim.call vc_233 (as := [.inr (.inr (11, 0, 0)), .inl x2, .inl 3]) (pc' := 149) (lv' := [(0, .inr (.inr (11, 0, 0))), (1, .inl x1), (2, .inl x2), (4, .inl x4), (5, .inl x5)]) (st' := [.inl 3, .inl x1, .inr (.inr (11, 0, 0))]) (S := S_14) rfl (rc_190 x2 3) (s_190 x2 3 S_14) (fun r_19 S_20 => ?_)
        refine q_Sim.call vc_233 (as := [.inr (.inr (11, 0, 0)), .inl x1, .inl 3, .inl r_19]) (pc' := 152) (lv' := [(0, .inr (.inr (11, 0, 0))), (1, .inl x1), (2, .inl x2), (4, .inl x4), (5, .inl x5)]) (st' := []) (S := S_20) rfl (rc_191 x1 3 r_19) (s_191 x1 3 r_19 S_20) (fun r_21 S_22 => ?_)
        exact q_Sim.sub2 (lv' := [(0, .inr (.inr (11, 0, 0))), (2, .inl x2), (4, .inl x4)]) [0, 2, 4] rfl (by decide) ⟨rfl, rfl, rfl, trivial⟩ (sb_233_152 x2 x4 S_22)
    · refine q_Sim.steps vc_233 2 (pc' := 89) (lv' := [(0, .inr (.inr (11, 0, 0))), (1, .inl x1), (2, .inl x2), (4, .inl x4), (5, .inl x5)]) (st' := [.inl 3, .inl x5]) (V' := q_V S) rfl ?_
      refine q_Sim.br vc_233 (c := ¬ x5 = 3) (t := 95) (f := 92) (lv' := [(0, .inr (.inr (11, 0, 0))), (1, .inl x1), (2, .inl x2), (4, .inl x4), (5, .inl x5)]) (st' := []) (V' := q_V S) rfl ?_ ?_
      · refine q_Sim.steps vc_233 6 (pc' := 103) (lv' := [(0, .inr (.inr (11, 0, 0))), (1, .inl x1), (2, .inl x2), (4, .inl x4), (5, .inl x5)]) (st' := [.inl x5, .inl x1, .inr (.inr (11, 0, 0)), .inl x5, .inl x1, .inr (.inr (11, 0, 0))]) (V' := q_V S) rfl ?_
        refine q_Sim.call vc_233 (as := [.inr (.inr (11, 0, 0)), .inl x1, .inl x5]) (pc' := 106) (lv' := [(0, .inr (.inr (11, 0, 0))), (1, .inl x1), (2, .inl x2), (4, .inl x4), (5, .inl x5)]) (st' := [.inl x5, .inl x1, .inr (.inr (11, 0, 0))]) (S := S) rfl (rc_190 x1 x5) (s_190 x1 x5 S) (fun r_23 S_24 => ?_)
        refine q_Sim.steps vc_233 3 (pc' := 110) (lv' := [(0, .inr (.inr (11, 0, 0))), (1, .inl x1), (2, .inl x2), (4, .inl x4), (5, .inl x5)]) (st' := [.inl x5, .inl x2, .inr (.inr (11, 0, 0)), .inl r_23, .inl x5, .inl x1, .inr (.inr (11, 0, 0))]) (V' := q_V S_24) rfl ?_
        refine q_Sim.call vc_233 (as := [.inr (.inr (11, 0, 0)), .inl x2, .inl x5]) (pc' := 113) (lv' := [(0, .inr (.inr (11, 0, 0))), (1, .inl x1), (2, .inl x2), (4, .inl x4), (5, .inl x5)]) (st' := [.inl r_23, .inl x5, .inl x1, .inr (.inr (11, 0, 0))]) (S := S_24) rfl (rc_190 x2 x5) (s_190 x2 x5 S_24) (fun r_25 S_26 => ?_)
        refine q_Sim.steps vc_233 1 (pc' := 114) (lv' := [(0, .inr (.inr (11, 0, 0))), (1, .inl x1), (2, .inl x2), (4, .inl x4), (5, .inl x5)]) (st' := [.inl (r_23 + r_25), .inl x5, .inl x1, .inr (.inr (11, 0, 0))]) (V' := q_V S_26) rfl ?_
        refine q_Sim.call vc_233 (as := [.inr (.inr (11, 0, 0)), .inl x1, .inl x5, .inl (r_23 + r_25)]) (pc' := 117) (lv' := [(0, .inr (.inr (11, 0, 0))), (1, .inl x1), (2, .inl x2), (4, .inl x4), (5, .inl x5)]) (st' := []) (S := S_26) rfl (rc_191 x1 x5 (r_23 + r_25)) (s_191 x1 x5 (r_23 + r_25) S_26) (fun r_27 S_28 => ?_)
        refine q_Sim.steps vc_233 4 (pc' := 122) (lv' := [(0, .inr (.inr (11, 0, 0))), (1, .inl x1), (2, .inl x2), (4, .inl x4), (5, .inl x5)]) (st' := [.inl 0, .inl x5, .inl x2, .inr (.inr (11, 0, 0))]) (V' := q_V S_28) rfl ?_
        refine q_Sim.call vc_233 (as := [.inr (.inr (11, 0, 0)), .inl x2, .inl x5, .inl 0]) (pc' := 125) (lv' := [(0, .inr (.inr (11, 0, 0))), (1, .inl x1), (2, .inl x2), (4, .inl x4), (5, .inl x5)]) (st' := []) (S := S_28) rfl (rc_191 x2 x5 0) (s_191 x2 x5 0 S_28) (fun r_29 S_30 => ?_)
        exact q_Sim.sub2 (lv' := [(0, .inr (.inr (11, 0, 0))), (1, .inl x1), (2, .inl x2), (4, .inl x4), (5, .inl x5)]) [0, 1, 2, 4, 5] rfl (by decide) ⟨rfl, rfl, rfl, rfl, rfl, trivial⟩ (sb_233_125 (b_233_79 n) (sb_233_79 n) x1 x2 x4 x5 S_30)
      · refine q_Sim.steps vc_233 1 (pc' := 125) (lv' := [(0, .inr (.inr (11, 0, 0))), (1, .inl x1), (2, .inl x2), (4, .inl x4), (5, .inl x5)]) (st' := []) (V' := q_V S) rfl ?_
        exact q_Sim.sub2 (lv' := [(0, .inr (.inr (11, 0, 0))), (1, .inl x1), (2, .inl x2), (4, .inl x4), (5, .inl x5)]) [0, 1, 2, 4, 5] rfl (by decide) ⟨rfl, rfl, rfl, rfl, rfl, trivial⟩ (sb_233_125 (b_233_79 n) (sb_233_79 n) x1 x2 x4 x5 S)
def b_233_46 (x1 : Int32) (x2 : Int32) (x3 : Int32) (S : QS) : Option ((Int32) × QS) := if x3 ≤ 0 then (q_bd (f_188  S) (fun r_7 S_8 => q_bd (f_190 x1 10 S_8) (fun r_9 S_10 => q_bd (f_231 x2 0 x1 S_10) (fun r_11 S_12 => b_233_79 q_N x1 x2 r_9 0 S_12)))) else (q_bd (f_186 x3 S) (fun r_31 S_32 => some (r_31, S_32)))
theorem sb_233_46 (x1 : Int32) (x2 : Int32) (x3 : Int32) (S : QS) : q_Sim 233 46 [(0, .inr (.inr (11, 0, 0))), (1, .inl x1), (2, .inl x2), (3, .inl x3)] [] (q_V S) q_I (b_233_46 x1 x2 x3 S) := by
  unfold b_233_46
  refine q_Sim.steps vc_233 1 (pc' := 47) (lv' := [(0, .inr (.inr (11, 0, 0))), (1, .inl x1), (2, .inl x2), (3, .inl x3)]) (st' := [.inl x3]) (V' := q_V S) rfl ?_
  refine q_Sim.br vc_233 (c := x3 ≤ 0) (t := 56) (f := 50) (lv' := [(0, .inr (.inr (11, 0, 0))), (1, .inl x1), (2, .inl x2), (3, .inl x3)]) (st' := []) (V' := q_V S) rfl ?_ ?_
  · refine q_Sim.steps vc_233 1 (pc' := 57) (lv' := [(0, .inr (.inr (11, 0, 0))), (1, .inl x1), (2, .inl x2), (3, .inl x3)]) (st' := [.inr (.inr (11, 0, 0))]) (V' := q_V S) rfl ?_
    refine q_Sim.call vc_233 (as := [.inr (.inr (11, 0, 0))]) (pc' := 60) (lv' := [(0, .inr (.inr (11, 0, 0))), (1, .inl x1), (2, .inl x2), (3, .inl x3)]) (st' := []) (S := S) rfl (rc_188 ) (s_188  S) (fun r_7 S_8 => ?_)
    refine q_Sim.steps vc_233 3 (pc' := 64) (lv' := [(0, .inr (.inr (11, 0, 0))), (1, .inl x1), (2, .inl x2), (3, .inl x3)]) (st' := [.inl 10, .inl x1, .inr (.inr (11, 0, 0))]) (V' := q_V S_8) rfl ?_
    refine q_Sim.call vc_233 (as := [.inr (.inr (11, 0, 0)), .inl x1, .inl 10]) (pc' := 67) (lv' := [(0, .inr (.inr (11, 0, 0))), (1, .inl x1), (2, .inl x2), (3, .inl x3)]) (st' := []) (S := S_8) rfl (rc_190 x1 10) (s_190 x1 10 S_8) (fun r_9 S_10 => ?_)
    refine q_Sim.steps vc_233 5 (pc' := 73) (lv' := [(4, .inl r_9), (0, .inr (.inr (11, 0, 0))), (1, .inl x1), (2, .inl x2), (3, .inl x3)]) (st' := [.inl x1, .inl 0, .inl x2, .inr (.inr (11, 0, 0))]) (V' := q_V S_10) rfl ?_
    refine q_Sim.call vc_233 (as := [.inr (.inr (11, 0, 0)), .inl x2, .inl 0, .inl x1]) (pc' := 76) (lv' := [(4, .inl r_9), (0, .inr (.inr (11, 0, 0))), (1, .inl x1), (2, .inl x2), (3, .inl x3)]) (st' := []) (S := S_10) rfl (rc_231 x2 0 x1) (s_231 x2 0 x1 S_10) (fun r_11 S_12 => ?_)
    refine q_Sim.steps vc_233 2 (pc' := 79) (lv' := [(5, .inl 0), (4, .inl r_9), (0, .inr (.inr (11, 0, 0))), (1, .inl x1), (2, .inl x2), (3, .inl x3)]) (st' := []) (V' := q_V S_12) rfl ?_
    exact q_Sim.sub2 (lv' := [(0, .inr (.inr (11, 0, 0))), (1, .inl x1), (2, .inl x2), (4, .inl r_9), (5, .inl 0)]) [0, 1, 2, 4, 5] rfl (by decide) ⟨rfl, rfl, rfl, rfl, rfl, trivial⟩ (sb_233_79 q_N x1 x2 r_9 0 S_12)
  · refine q_Sim.steps vc_233 2 (pc' := 52) (lv' := [(0, .inr (.inr (11, 0, 0))), (1, .inl x1), (2, .inl x2), (3, .inl x3)]) (st' := [.inl x3, .inr (.inr (11, 0, 0))]) (V' := q_V S) rfl ?_
    refine q_Sim.call vc_233 (as := [.inr (.inr (11, 0, 0)), .inl x3]) (pc' := 55) (lv' := [(0, .inr (.inr (11, 0, 0))), (1, .inl x1), (2, .inl x2), (3, .inl x3)]) (st' := []) (S := S) rfl (rc_186 x3) (s_186 x3 S) (fun r_31 S_32 => ?_)
    exact q_Sim.ret vc_233 rfl
def b_233_43 (x1 : Int32) (x2 : Int32) (S : QS) : Option ((Int32) × QS) := b_233_46 x1 x2 6 S
theorem sb_233_43 (x1 : Int32) (x2 : Int32) (S : QS) : q_Sim 233 43 [(0, .inr (.inr (11, 0, 0))), (1, .inl x1), (2, .inl x2)] [] (q_V S) q_I (b_233_43 x1 x2 S) := by
  unfold b_233_43
  refine q_Sim.steps vc_233 2 (pc' := 46) (lv' := [(3, .inl 6), (0, .inr (.inr (11, 0, 0))), (1, .inl x1), (2, .inl x2)]) (st' := []) (V' := q_V S) rfl ?_
  exact q_Sim.sub2 (lv' := [(0, .inr (.inr (11, 0, 0))), (1, .inl x1), (2, .inl x2), (3, .inl 6)]) [0, 1, 2, 3] rfl (by decide) ⟨rfl, rfl, rfl, rfl, trivial⟩ (sb_233_46 x1 x2 6 S)
def f_233 (x1 : Int32) (x2 : Int32) (S : QS) : Option ((Int32) × QS) := q_bd (f_198 x1 S) (fun r_1 S_2 => q_bd (f_198 x2 S_2) (fun r_3 S_4 => q_bd (f_202 r_1 r_3 S_4) (fun r_5 S_6 => if ¬ r_5 = 0 then (b_233_46 x1 x2 r_5 S_6) else (if x2 = x1 then (b_233_43 x1 x2 S_6) else (q_bd (f_190 x1 10 S_6) (fun r_33 S_34 => q_bd (f_190 x2 10 S_34) (fun r_35 S_36 => if (r_33 + r_35) ≤ 8 then (b_233_46 x1 x2 r_5 S_36) else (b_233_43 x1 x2 S_36))))))))
theorem s_233 (x1 : Int32) (x2 : Int32) (S : QS) : q_Sim 233 0 [(0, .inr (.inr (11, 0, 0))), (1, .inl x1), (2, .inl x2)] [] (q_V S) q_I (f_233 x1 x2 S) := by
  unfold f_233
  refine q_Sim.steps vc_233 2 (pc' := 2) (lv' := [(0, .inr (.inr (11, 0, 0))), (1, .inl x1), (2, .inl x2)]) (st' := [.inl x1, .inr (.inr (11, 0, 0))]) (V' := q_V S) rfl ?_
  refine q_Sim.call vc_233 (as := [.inr (.inr (11, 0, 0)), .inl x1]) (pc' := 5) (lv' := [(0, .inr (.inr (11, 0, 0))), (1, .inl x1), (2, .inl x2)]) (st' := []) (S := S) rfl (rc_198 x1) (s_198 x1 S) (fun r_1 S_2 => ?_)
  refine q_Sim.steps vc_233 2 (pc' := 7) (lv' := [(0, .inr (.inr (11, 0, 0))), (1, .inl x1), (2, .inl x2)]) (st' := [.inl x2, .inr (.inr (11, 0, 0)), .inl r_1]) (V' := q_V S_2) rfl ?_
  refine q_Sim.call vc_233 (as := [.inr (.inr (11, 0, 0)), .inl x2]) (pc' := 10) (lv' := [(0, .inr (.inr (11, 0, 0))), (1, .inl x1), (2, .inl x2)]) (st' := [.inl r_1]) (S := S_2) rfl (rc_198 x2) (s_198 x2 S_2) (fun r_3 S_4 => ?_)
  refine q_Sim.call vc_233 (as := [.inl r_1, .inl r_3]) (pc' := 13) (lv' := [(0, .inr (.inr (11, 0, 0))), (1, .inl x1), (2, .inl x2)]) (st' := []) (S := S_4) rfl (rc_202 r_1 r_3) (s_202 r_1 r_3 S_4) (fun r_5 S_6 => ?_)
  refine q_Sim.steps vc_233 2 (pc' := 15) (lv' := [(3, .inl r_5), (0, .inr (.inr (11, 0, 0))), (1, .inl x1), (2, .inl x2)]) (st' := [.inl r_5]) (V' := q_V S_6) rfl ?_
  refine q_Sim.br vc_233 (c := ¬ r_5 = 0) (t := 46) (f := 18) (lv' := [(3, .inl r_5), (0, .inr (.inr (11, 0, 0))), (1, .inl x1), (2, .inl x2)]) (st' := []) (V' := q_V S_6) rfl ?_ ?_
  · exact q_Sim.sub2 (lv' := [(0, .inr (.inr (11, 0, 0))), (1, .inl x1), (2, .inl x2), (3, .inl r_5)]) [0, 1, 2, 3] rfl (by decide) ⟨rfl, rfl, rfl, rfl, trivial⟩ (sb_233_46 x1 x2 r_5 S_6)
  · refine q_Sim.steps vc_233 2 (pc' := 20) (lv' := [(3, .inl r_5), (0, .inr (.inr (11, 0, 0))), (1, .inl x1), (2, .inl x2)]) (st' := [.inl x1, .inl x2]) (V' := q_V S_6) rfl ?_
    refine q_Sim.br vc_233 (c := x2 = x1) (t := 43) (f := 23) (lv' := [(3, .inl r_5), (0, .inr (.inr (11, 0, 0))), (1, .inl x1), (2, .inl x2)]) (st' := []) (V' := q_V S_6) rfl ?_ ?_
    · exact q_Sim.sub2 (lv' := [(0, .inr (.inr (11, 0, 0))), (1, .inl x1), (2, .inl x2)]) [0, 1, 2] rfl (by decide) ⟨rfl, rfl, rfl, trivial⟩ (sb_233_43 x1 x2 S_6)
    · refine q_Sim.steps vc_233 3 (pc' := 27) (lv' := [(3, .inl r_5), (0, .inr (.inr (11, 0, 0))), (1, .inl x1), (2, .inl x2)]) (st' := [.inl 10, .inl x1, .inr (.inr (11, 0, 0))]) (V' := q_V S_6) rfl ?_
      refine q_Sim.call vc_233 (as := [.inr (.inr (11, 0, 0)), .inl x1, .inl 10]) (pc' := 30) (lv' := [(3, .inl r_5), (0, .inr (.inr (11, 0, 0))), (1, .inl x1), (2, .inl x2)]) (st' := []) (S := S_6) rfl (rc_190 x1 10) (s_190 x1 10 S_6) (fun r_33 S_34 => ?_)
      refine q_Sim.steps vc_233 3 (pc' := 34) (lv' := [(3, .inl r_5), (0, .inr (.inr (11, 0, 0))), (1, .inl x1), (2, .inl x2)]) (st' := [.inl 10, .inl x2, .inr (.inr (11, 0, 0)), .inl r_33]) (V' := q_V S_34) rfl ?_
      refine q_Sim.call vc_233 (as := [.inr (.inr (11, 0, 0)), .inl x2, .inl 10]) (pc' := 37) (lv' := [(3, .inl r_5), (0, .inr (.inr (11, 0, 0))), (1, .inl x1), (2, .inl x2)]) (st' := [.inl r_33]) (S := S_34) rfl (rc_190 x2 10) (s_190 x2 10 S_34) (fun r_35 S_36 => ?_)
      refine q_Sim.steps vc_233 2 (pc' := 40) (lv' := [(3, .inl r_5), (0, .inr (.inr (11, 0, 0))), (1, .inl x1), (2, .inl x2)]) (st' := [.inl 8, .inl (r_33 + r_35)]) (V' := q_V S_36) rfl ?_
      refine q_Sim.br vc_233 (c := (r_33 + r_35) ≤ 8) (t := 46) (f := 43) (lv' := [(3, .inl r_5), (0, .inr (.inr (11, 0, 0))), (1, .inl x1), (2, .inl x2)]) (st' := []) (V' := q_V S_36) rfl ?_ ?_
      · exact q_Sim.sub2 (lv' := [(0, .inr (.inr (11, 0, 0))), (1, .inl x1), (2, .inl x2), (3, .inl r_5)]) [0, 1, 2, 3] rfl (by decide) ⟨rfl, rfl, rfl, rfl, trivial⟩ (sb_233_46 x1 x2 r_5 S_36)
      · exact q_Sim.sub2 (lv' := [(0, .inr (.inr (11, 0, 0))), (1, .inl x1), (2, .inl x2)]) [0, 1, 2] rfl (by decide) ⟨rfl, rfl, rfl, trivial⟩ (sb_233_43 x1 x2 S_36)
theorem vc_234 : v_code 234 = k_234 := rfl
theorem rc_234 (x1 : Int32) (x2 : Int32) (x3 : Int32) : v_rcv 234 [.inr (.inr (11, 0, 0)), .inl x1, .inl x2, .inl x3] = true := rfl
def b_234_108 : Nat → Int32 → Int32 → Int32 → Int32 → Int32 → QS → Option ((Int32) × QS)
  | 0, _, _, _, _, _, _ => none
  | n + 1, x1, x2, x3, x5, x6, S => if 1 < x6 then (q_bd (f_231 x1 x2 x3 S) (fun r_11 S_12 => q_bd (f_187 (x5 - x2) S_12) (fun r_13 S_14 => some (r_13, S_14)))) else (q_bd (f_190 x1 x6 S) (fun r_15 S_16 => q_ck (decide (¬ x5.toInt64 = 0)) (q_let (((r_15.toInt64 * ((x5 - x2).toInt64)) / x5.toInt64).toInt32) (fun y_17 => q_bd (f_190 x1 x6 S_16) (fun r_18 S_19 => q_bd (f_191 x1 x6 (r_18 - y_17) S_19) (fun r_20 S_21 => q_bd (f_190 x3 x6 S_21) (fun r_22 S_23 => q_bd (f_191 x3 x6 (r_22 + y_17) S_23) (fun r_24 S_25 => b_234_108 n x1 x2 x3 x5 (x6 + 1) S_25))))))))
theorem sb_234_108 : ∀ (n : Nat) (x1 : Int32) (x2 : Int32) (x3 : Int32) (x5 : Int32) (x6 : Int32) (S : QS), q_Sim 234 108 [(0, .inr (.inr (11, 0, 0))), (1, .inl x1), (2, .inl x2), (3, .inl x3), (5, .inl x5), (6, .inl x6)] [] (q_V S) q_I (b_234_108 n x1 x2 x3 x5 x6 S)
  | 0, _, _, _, _, _, _ => q_Sim.none
  | n + 1, x1, x2, x3, x5, x6, S => by
    rw [b_234_108]
    refine q_Sim.steps vc_234 2 (pc' := 111) (lv' := [(0, .inr (.inr (11, 0, 0))), (1, .inl x1), (2, .inl x2), (3, .inl x3), (5, .inl x5), (6, .inl x6)]) (st' := [.inl 1, .inl x6]) (V' := q_V S) rfl ?_
    refine q_Sim.br vc_234 (c := 1 < x6) (t := 175) (f := 114) (lv' := [(0, .inr (.inr (11, 0, 0))), (1, .inl x1), (2, .inl x2), (3, .inl x3), (5, .inl x5), (6, .inl x6)]) (st' := []) (V' := q_V S) rfl ?_ ?_
    · refine q_Sim.steps vc_234 4 (pc' := 179) (lv' := [(0, .inr (.inr (11, 0, 0))), (1, .inl x1), (2, .inl x2), (3, .inl x3), (5, .inl x5), (6, .inl x6)]) (st' := [.inl x3, .inl x2, .inl x1, .inr (.inr (11, 0, 0))]) (V' := q_V S) rfl ?_
      refine q_Sim.call vc_234 (as := [.inr (.inr (11, 0, 0)), .inl x1, .inl x2, .inl x3]) (pc' := 182) (lv' := [(0, .inr (.inr (11, 0, 0))), (1, .inl x1), (2, .inl x2), (3, .inl x3), (5, .inl x5), (6, .inl x6)]) (st' := []) (S := S) rfl (rc_231 x1 x2 x3) (s_231 x1 x2 x3 S) (fun r_11 S_12 => ?_)
      refine q_Sim.steps vc_234 4 (pc' := 187) (lv' := [(0, .inr (.inr (11, 0, 0))), (1, .inl x1), (2, .inl x2), (3, .inl x3), (5, .inl x5), (6, .inl x6)]) (st' := [.inl (x5 - x2), .inr (.inr (11, 0, 0))]) (V' := q_V S_12) rfl ?_
      refine q_Sim.call vc_234 (as := [.inr (.inr (11, 0, 0)), .inl (x5 - x2)]) (pc' := 190) (lv' := [(0, .inr (.inr (11, 0, 0))), (1, .inl x1), (2, .inl x2), (3, .inl x3), (5, .inl x5), (6, .inl x6)]) (st' := []) (S := S_12) rfl (rc_187 (x5 - x2)) (s_187 (x5 - x2) S_12) (fun r_13 S_14 => ?_)
      exact q_Sim.ret vc_234 rfl
    · refine q_Sim.steps vc_234 3 (pc' := 118) (lv' := [(0, .inr (.inr (11, 0, 0))), (1, .inl x1), (2, .inl x2), (3, .inl x3), (5, .inl x5), (6, .inl x6)]) (st' := [.inl x6, .inl x1, .inr (.inr (11, 0, 0))]) (V' := q_V S) rfl ?_
      refine q_Sim.call vc_234 (as := [.inr (.inr (11, 0, 0)), .inl x1, .inl x6]) (pc' := 121) (lv' := [(0, .inr (.inr (11, 0, 0))), (1, .inl x1), (2, .inl x2), (3, .inl x3), (5, .inl x5), (6, .inl x6)]) (st' := []) (S := S) rfl (rc_190 x1 x6) (s_190 x1 x6 S) (fun r_15 S_16 => ?_)
      refine q_Sim.steps vc_234 8 (pc' := 131) (lv' := [(0, .inr (.inr (11, 0, 0))), (1, .inl x1), (2, .inl x2), (3, .inl x3), (5, .inl x5), (6, .inl x6)]) (st' := [.inr (.inl x5.toInt64), .inr (.inl (r_15.toInt64 * ((x5 - x2).toInt64)))]) (V' := q_V S_16) rfl ?_
      refine q_Sim.ck vc_234 (c := decide (¬ x5.toInt64 = 0)) (pc' := 132) (lv' := [(0, .inr (.inr (11, 0, 0))), (1, .inl x1), (2, .inl x2), (3, .inl x3), (5, .inl x5), (6, .inl x6)]) (st' := [.inr (.inl ((r_15.toInt64 * ((x5 - x2).toInt64)) / x5.toInt64))]) (V' := q_V S_16) rfl ?_
      refine q_Sim.steps vc_234 1 (pc' := 133) (lv' := [(0, .inr (.inr (11, 0, 0))), (1, .inl x1), (2, .inl x2), (3, .inl x3), (5, .inl x5), (6, .inl x6)]) (st' := [.inl (((r_15.toInt64 * ((x5 - x2).toInt64)) / x5.toInt64).toInt32)]) (V' := q_V S_16) rfl ?_
      refine q_Sim.letI (fun y_17 => ?_)
      refine q_Sim.steps vc_234 7 (pc' := 143) (lv' := [(7, .inl y_17), (0, .inr (.inr (11, 0, 0))), (1, .inl x1), (2, .inl x2), (3, .inl x3), (5, .inl x5), (6, .inl x6)]) (st' := [.inl x6, .inl x1, .inr (.inr (11, 0, 0)), .inl x6, .inl x1, .inr (.inr (11, 0, 0))]) (V' := q_V S_16) rfl ?_
      refine q_Sim.call vc_234 (as := [.inr (.inr (11, 0, 0)), .inl x1, .inl x6]) (pc' := 146) (lv' := [(7, .inl y_17), (0, .inr (.inr (11, 0, 0))), (1, .inl x1), (2, .inl x2), (3, .inl x3), (5, .inl x5), (6, .inl x6)]) (st' := [.inl x6, .inl x1, .inr (.inr (11, 0, 0))]) (S := S_16) rfl (rc_190 x1 x6) (s_190 x1 x6 S_16) (fun r_18 S_19 => ?_)
      refine q_Sim.steps vc_234 2 (pc' := 149) (lv' := [(7, .inl y_17), (0, .inr (.inr (11, 0, 0))), (1, .inl x1), (2, .inl x2), (3, .inl x3), (5, .inl x5), (6, .inl x6)]) (st' := [.inl (r_18 - y_17), .inl x6, .inl x1, .inr (.inr (11, 0, 0))]) (V' := q_V S_19) rfl ?_
      refine q_Sim.call vc_234 (as := [.inr (.inr (11, 0, 0)), .inl x1, .inl x6, .inl (r_18 - y_17)]) (pc' := 152) (lv' := [(7, .inl y_17), (0, .inr (.inr (11, 0, 0))), (1, .inl x1), (2, .inl x2), (3, .inl x3), (5, .inl x5), (6, .inl x6)]) (st' := []) (S := S_19) rfl (rc_191 x1 x6 (r_18 - y_17)) (s_191 x1 x6 (r_18 - y_17) S_19) (fun r_20 S_21 => ?_)
      refine q_Sim.steps vc_234 6 (pc' := 160) (lv' := [(7, .inl y_17), (0, .inr (.inr (11, 0, 0))), (1, .inl x1), (2, .inl x2), (3, .inl x3), (5, .inl x5), (6, .inl x6)]) (st' := [.inl x6, .inl x3, .inr (.inr (11, 0, 0)), .inl x6, .inl x3, .inr (.inr (11, 0, 0))]) (V' := q_V S_21) rfl ?_
      refine q_Sim.call vc_234 (as := [.inr (.inr (11, 0, 0)), .inl x3, .inl x6]) (pc' := 163) (lv' := [(7, .inl y_17), (0, .inr (.inr (11, 0, 0))), (1, .inl x1), (2, .inl x2), (3, .inl x3), (5, .inl x5), (6, .inl x6)]) (st' := [.inl x6, .inl x3, .inr (.inr (11, 0, 0))]) (S := S_21) rfl (rc_190 x3 x6) (s_190 x3 x6 S_21) (fun r_22 S_23 => ?_)
      refine q_Sim.steps vc_234 2 (pc' := 166) (lv' := [(7, .inl y_17), (0, .inr (.inr (11, 0, 0))), (1, .inl x1), (2, .inl x2), (3, .inl x3), (5, .inl x5), (6, .inl x6)]) (st' := [.inl (r_22 + y_17), .inl x6, .inl x3, .inr (.inr (11, 0, 0))]) (V' := q_V S_23) rfl ?_
      refine q_Sim.call vc_234 (as := [.inr (.inr (11, 0, 0)), .inl x3, .inl x6, .inl (r_22 + y_17)]) (pc' := 169) (lv' := [(7, .inl y_17), (0, .inr (.inr (11, 0, 0))), (1, .inl x1), (2, .inl x2), (3, .inl x3), (5, .inl x5), (6, .inl x6)]) (st' := []) (S := S_23) rfl (rc_191 x3 x6 (r_22 + y_17)) (s_191 x3 x6 (r_22 + y_17) S_23) (fun r_24 S_25 => ?_)
      refine q_Sim.steps vc_234 2 (pc' := 108) (lv' := [(6, .inl (x6 + 1)), (7, .inl y_17), (0, .inr (.inr (11, 0, 0))), (1, .inl x1), (2, .inl x2), (3, .inl x3), (5, .inl x5)]) (st' := []) (V' := q_V S_25) rfl ?_
      exact q_Sim.sub2 (lv' := [(0, .inr (.inr (11, 0, 0))), (1, .inl x1), (2, .inl x2), (3, .inl x3), (5, .inl x5), (6, .inl (x6 + 1))]) [0, 1, 2, 3, 5, 6] rfl (by decide) ⟨rfl, rfl, rfl, rfl, rfl, rfl, trivial⟩ (sb_234_108 n x1 x2 x3 x5 (x6 + 1) S_25)
def b_234_80 (x1 : Int32) (x2 : Int32) (x3 : Int32) (x4 : Int32) (S : QS) : Option ((Int32) × QS) := if x4 ≤ 0 then (q_bd (f_188  S) (fun r_7 S_8 => q_bd (f_190 x1 10 S_8) (fun r_9 S_10 => b_234_108 q_N x1 x2 x3 r_9 0 S_10))) else (q_bd (f_186 x4 S) (fun r_26 S_27 => some (r_26, S_27)))
theorem sb_234_80 (x1 : Int32) (x2 : Int32) (x3 : Int32) (x4 : Int32) (S : QS) : q_Sim 234 80 [(0, .inr (.inr (11, 0, 0))), (1, .inl x1), (2, .inl x2), (3, .inl x3), (4, .inl x4)] [] (q_V S) q_I (b_234_80 x1 x2 x3 x4 S) := by
  unfold b_234_80
  refine q_Sim.steps vc_234 1 (pc' := 82) (lv' := [(0, .inr (.inr (11, 0, 0))), (1, .inl x1), (2, .inl x2), (3, .inl x3), (4, .inl x4)]) (st' := [.inl x4]) (V' := q_V S) rfl ?_
  refine q_Sim.br vc_234 (c := x4 ≤ 0) (t := 92) (f := 85) (lv' := [(0, .inr (.inr (11, 0, 0))), (1, .inl x1), (2, .inl x2), (3, .inl x3), (4, .inl x4)]) (st' := []) (V' := q_V S) rfl ?_ ?_
  · refine q_Sim.steps vc_234 1 (pc' := 93) (lv' := [(0, .inr (.inr (11, 0, 0))), (1, .inl x1), (2, .inl x2), (3, .inl x3), (4, .inl x4)]) (st' := [.inr (.inr (11, 0, 0))]) (V' := q_V S) rfl ?_
    refine q_Sim.call vc_234 (as := [.inr (.inr (11, 0, 0))]) (pc' := 96) (lv' := [(0, .inr (.inr (11, 0, 0))), (1, .inl x1), (2, .inl x2), (3, .inl x3), (4, .inl x4)]) (st' := []) (S := S) rfl (rc_188 ) (s_188  S) (fun r_7 S_8 => ?_)
    refine q_Sim.steps vc_234 3 (pc' := 100) (lv' := [(0, .inr (.inr (11, 0, 0))), (1, .inl x1), (2, .inl x2), (3, .inl x3), (4, .inl x4)]) (st' := [.inl 10, .inl x1, .inr (.inr (11, 0, 0))]) (V' := q_V S_8) rfl ?_
    refine q_Sim.call vc_234 (as := [.inr (.inr (11, 0, 0)), .inl x1, .inl 10]) (pc' := 103) (lv' := [(0, .inr (.inr (11, 0, 0))), (1, .inl x1), (2, .inl x2), (3, .inl x3), (4, .inl x4)]) (st' := []) (S := S_8) rfl (rc_190 x1 10) (s_190 x1 10 S_8) (fun r_9 S_10 => ?_)
    refine q_Sim.steps vc_234 3 (pc' := 108) (lv' := [(6, .inl 0), (5, .inl r_9), (0, .inr (.inr (11, 0, 0))), (1, .inl x1), (2, .inl x2), (3, .inl x3), (4, .inl x4)]) (st' := []) (V' := q_V S_10) rfl ?_
    exact q_Sim.sub2 (lv' := [(0, .inr (.inr (11, 0, 0))), (1, .inl x1), (2, .inl x2), (3, .inl x3), (5, .inl r_9), (6, .inl 0)]) [0, 1, 2, 3, 5, 6] rfl (by decide) ⟨rfl, rfl, rfl, rfl, rfl, rfl, trivial⟩ (sb_234_108 q_N x1 x2 x3 r_9 0 S_10)
  · refine q_Sim.steps vc_234 2 (pc' := 88) (lv' := [(0, .inr (.inr (11, 0, 0))), (1, .inl x1), (2, .inl x2), (3, .inl x3), (4, .inl x4)]) (st' := [.inl x4, .inr (.inr (11, 0, 0))]) (V' := q_V S) rfl ?_
    refine q_Sim.call vc_234 (as := [.inr (.inr (11, 0, 0)), .inl x4]) (pc' := 91) (lv' := [(0, .inr (.inr (11, 0, 0))), (1, .inl x1), (2, .inl x2), (3, .inl x3), (4, .inl x4)]) (st' := []) (S := S) rfl (rc_186 x4) (s_186 x4 S) (fun r_26 S_27 => ?_)
    exact q_Sim.ret vc_234 rfl
def b_234_62 (x1 : Int32) (x2 : Int32) (x3 : Int32) (x4 : Int32) (S : QS) : Option ((Int32) × QS) := if ¬ x4 = 0 then (b_234_80 x1 x2 x3 x4 S) else (q_bd (f_190 x1 10 S) (fun r_28 S_29 => if ¬ r_28 = 0 then (b_234_80 x1 x2 x3 x4 S_29) else (b_234_80 x1 x2 x3 4 S_29)))
theorem sb_234_62 (x1 : Int32) (x2 : Int32) (x3 : Int32) (x4 : Int32) (S : QS) : q_Sim 234 62 [(0, .inr (.inr (11, 0, 0))), (1, .inl x1), (2, .inl x2), (3, .inl x3), (4, .inl x4)] [] (q_V S) q_I (b_234_62 x1 x2 x3 x4 S) := by
  unfold b_234_62
  refine q_Sim.steps vc_234 1 (pc' := 64) (lv' := [(0, .inr (.inr (11, 0, 0))), (1, .inl x1), (2, .inl x2), (3, .inl x3), (4, .inl x4)]) (st' := [.inl x4]) (V' := q_V S) rfl ?_
  refine q_Sim.br vc_234 (c := ¬ x4 = 0) (t := 80) (f := 67) (lv' := [(0, .inr (.inr (11, 0, 0))), (1, .inl x1), (2, .inl x2), (3, .inl x3), (4, .inl x4)]) (st' := []) (V' := q_V S) rfl ?_ ?_
  · exact q_Sim.sub2 (lv' := [(0, .inr (.inr (11, 0, 0))), (1, .inl x1), (2, .inl x2), (3, .inl x3), (4, .inl x4)]) [0, 1, 2, 3, 4] rfl (by decide) ⟨rfl, rfl, rfl, rfl, rfl, trivial⟩ (sb_234_80 x1 x2 x3 x4 S)
  · refine q_Sim.steps vc_234 3 (pc' := 71) (lv' := [(0, .inr (.inr (11, 0, 0))), (1, .inl x1), (2, .inl x2), (3, .inl x3), (4, .inl x4)]) (st' := [.inl 10, .inl x1, .inr (.inr (11, 0, 0))]) (V' := q_V S) rfl ?_
    refine q_Sim.call vc_234 (as := [.inr (.inr (11, 0, 0)), .inl x1, .inl 10]) (pc' := 74) (lv' := [(0, .inr (.inr (11, 0, 0))), (1, .inl x1), (2, .inl x2), (3, .inl x3), (4, .inl x4)]) (st' := []) (S := S) rfl (rc_190 x1 10) (s_190 x1 10 S) (fun r_28 S_29 => ?_)
    refine q_Sim.br vc_234 (c := ¬ r_28 = 0) (t := 80) (f := 77) (lv' := [(0, .inr (.inr (11, 0, 0))), (1, .inl x1), (2, .inl x2), (3, .inl x3), (4, .inl x4)]) (st' := []) (V' := q_V S_29) rfl ?_ ?_
    · exact q_Sim.sub2 (lv' := [(0, .inr (.inr (11, 0, 0))), (1, .inl x1), (2, .inl x2), (3, .inl x3), (4, .inl x4)]) [0, 1, 2, 3, 4] rfl (by decide) ⟨rfl, rfl, rfl, rfl, rfl, trivial⟩ (sb_234_80 x1 x2 x3 x4 S_29)
    · refine q_Sim.steps vc_234 2 (pc' := 80) (lv' := [(4, .inl 4), (0, .inr (.inr (11, 0, 0))), (1, .inl x1), (2, .inl x2), (3, .inl x3)]) (st' := []) (V' := q_V S_29) rfl ?_
      exact q_Sim.sub2 (lv' := [(0, .inr (.inr (11, 0, 0))), (1, .inl x1), (2, .inl x2), (3, .inl x3), (4, .inl 4)]) [0, 1, 2, 3, 4] rfl (by decide) ⟨rfl, rfl, rfl, rfl, rfl, trivial⟩ (sb_234_80 x1 x2 x3 4 S_29)
def b_234_39 (x1 : Int32) (x2 : Int32) (x3 : Int32) (x4 : Int32) (S : QS) : Option ((Int32) × QS) := if ¬ x4 = 0 then (b_234_62 x1 x2 x3 x4 S) else (q_bd (f_190 x1 10 S) (fun r_30 S_31 => q_bd (f_189 x2 0 r_30 S_31) (fun r_32 S_33 => if ¬ r_32 = 0 then (b_234_62 x1 x2 x3 x4 S_33) else (b_234_62 x1 x2 x3 2 S_33))))
theorem sb_234_39 (x1 : Int32) (x2 : Int32) (x3 : Int32) (x4 : Int32) (S : QS) : q_Sim 234 39 [(0, .inr (.inr (11, 0, 0))), (1, .inl x1), (2, .inl x2), (3, .inl x3), (4, .inl x4)] [] (q_V S) q_I (b_234_39 x1 x2 x3 x4 S) := by
  unfold b_234_39
  refine q_Sim.steps vc_234 1 (pc' := 41) (lv' := [(0, .inr (.inr (11, 0, 0))), (1, .inl x1), (2, .inl x2), (3, .inl x3), (4, .inl x4)]) (st' := [.inl x4]) (V' := q_V S) rfl ?_
  refine q_Sim.br vc_234 (c := ¬ x4 = 0) (t := 62) (f := 44) (lv' := [(0, .inr (.inr (11, 0, 0))), (1, .inl x1), (2, .inl x2), (3, .inl x3), (4, .inl x4)]) (st' := []) (V' := q_V S) rfl ?_ ?_
  · exact q_Sim.sub2 (lv' := [(0, .inr (.inr (11, 0, 0))), (1, .inl x1), (2, .inl x2), (3, .inl x3), (4, .inl x4)]) [0, 1, 2, 3, 4] rfl (by decide) ⟨rfl, rfl, rfl, rfl, rfl, trivial⟩ (sb_234_62 x1 x2 x3 x4 S)
  · refine q_Sim.steps vc_234 5 (pc' := 50) (lv' := [(0, .inr (.inr (11, 0, 0))), (1, .inl x1), (2, .inl x2), (3, .inl x3), (4, .inl x4)]) (st' := [.inl 10, .inl x1, .inr (.inr (11, 0, 0)), .inl 0, .inl x2]) (V' := q_V S) rfl ?_
    refine q_Sim.call vc_234 (as := [.inr (.inr (11, 0, 0)), .inl x1, .inl 10]) (pc' := 53) (lv' := [(0, .inr (.inr (11, 0, 0))), (1, .inl x1), (2, .inl x2), (3, .inl x3), (4, .inl x4)]) (st' := [.inl 0, .inl x2]) (S := S) rfl (rc_190 x1 10) (s_190 x1 10 S) (fun r_30 S_31 => ?_)
    refine q_Sim.call vc_234 (as := [.inl x2, .inl 0, .inl r_30]) (pc' := 56) (lv' := [(0, .inr (.inr (11, 0, 0))), (1, .inl x1), (2, .inl x2), (3, .inl x3), (4, .inl x4)]) (st' := []) (S := S_31) rfl (rc_189 x2 0 r_30) (s_189 x2 0 r_30 S_31) (fun r_32 S_33 => ?_)
    refine q_Sim.br vc_234 (c := ¬ r_32 = 0) (t := 62) (f := 59) (lv' := [(0, .inr (.inr (11, 0, 0))), (1, .inl x1), (2, .inl x2), (3, .inl x3), (4, .inl x4)]) (st' := []) (V' := q_V S_33) rfl ?_ ?_
    · exact q_Sim.sub2 (lv' := [(0, .inr (.inr (11, 0, 0))), (1, .inl x1), (2, .inl x2), (3, .inl x3), (4, .inl x4)]) [0, 1, 2, 3, 4] rfl (by decide) ⟨rfl, rfl, rfl, rfl, rfl, trivial⟩ (sb_234_62 x1 x2 x3 x4 S_33)
    · refine q_Sim.steps vc_234 2 (pc' := 62) (lv' := [(4, .inl 2), (0, .inr (.inr (11, 0, 0))), (1, .inl x1), (2, .inl x2), (3, .inl x3)]) (st' := []) (V' := q_V S_33) rfl ?_
      exact q_Sim.sub2 (lv' := [(0, .inr (.inr (11, 0, 0))), (1, .inl x1), (2, .inl x2), (3, .inl x3), (4, .inl 2)]) [0, 1, 2, 3, 4] rfl (by decide) ⟨rfl, rfl, rfl, rfl, rfl, trivial⟩ (sb_234_62 x1 x2 x3 2 S_33)
def b_234_35 (x1 : Int32) (x2 : Int32) (x3 : Int32) (S : QS) : Option ((Int32) × QS) := b_234_39 x1 x2 x3 6 S
theorem sb_234_35 (x1 : Int32) (x2 : Int32) (x3 : Int32) (S : QS) : q_Sim 234 35 [(0, .inr (.inr (11, 0, 0))), (1, .inl x1), (2, .inl x2), (3, .inl x3)] [] (q_V S) q_I (b_234_35 x1 x2 x3 S) := by
  unfold b_234_35
  refine q_Sim.steps vc_234 2 (pc' := 39) (lv' := [(4, .inl 6), (0, .inr (.inr (11, 0, 0))), (1, .inl x1), (2, .inl x2), (3, .inl x3)]) (st' := []) (V' := q_V S) rfl ?_
  exact q_Sim.sub2 (lv' := [(0, .inr (.inr (11, 0, 0))), (1, .inl x1), (2, .inl x2), (3, .inl x3), (4, .inl 6)]) [0, 1, 2, 3, 4] rfl (by decide) ⟨rfl, rfl, rfl, rfl, rfl, trivial⟩ (sb_234_39 x1 x2 x3 6 S)
def f_234 (x1 : Int32) (x2 : Int32) (x3 : Int32) (S : QS) : Option ((Int32) × QS) := q_bd (f_198 x1 S) (fun r_1 S_2 => q_bd (f_198 x3 S_2) (fun r_3 S_4 => q_bd (f_202 r_1 r_3 S_4) (fun r_5 S_6 => if ¬ r_5 = 0 then (b_234_39 x1 x2 x3 r_5 S_6) else (if x3 = x1 then (b_234_35 x1 x2 x3 S_6) else (q_bd (f_190 x3 10 S_6) (fun r_34 S_35 => if r_34 ≤ 0 then (b_234_39 x1 x2 x3 r_5 S_35) else (b_234_35 x1 x2 x3 S_35)))))))
theorem s_234 (x1 : Int32) (x2 : Int32) (x3 : Int32) (S : QS) : q_Sim 234 0 [(0, .inr (.inr (11, 0, 0))), (1, .inl x1), (2, .inl x2), (3, .inl x3)] [] (q_V S) q_I (f_234 x1 x2 x3 S) := by
  unfold f_234
  refine q_Sim.steps vc_234 2 (pc' := 2) (lv' := [(0, .inr (.inr (11, 0, 0))), (1, .inl x1), (2, .inl x2), (3, .inl x3)]) (st' := [.inl x1, .inr (.inr (11, 0, 0))]) (V' := q_V S) rfl ?_
  refine q_Sim.call vc_234 (as := [.inr (.inr (11, 0, 0)), .inl x1]) (pc' := 5) (lv' := [(0, .inr (.inr (11, 0, 0))), (1, .inl x1), (2, .inl x2), (3, .inl x3)]) (st' := []) (S := S) rfl (rc_198 x1) (s_198 x1 S) (fun r_1 S_2 => ?_)
  refine q_Sim.steps vc_234 2 (pc' := 7) (lv' := [(0, .inr (.inr (11, 0, 0))), (1, .inl x1), (2, .inl x2), (3, .inl x3)]) (st' := [.inl x3, .inr (.inr (11, 0, 0)), .inl r_1]) (V' := q_V S_2) rfl ?_
  refine q_Sim.call vc_234 (as := [.inr (.inr (11, 0, 0)), .inl x3]) (pc' := 10) (lv' := [(0, .inr (.inr (11, 0, 0))), (1, .inl x1), (2, .inl x2), (3, .inl x3)]) (st' := [.inl r_1]) (S := S_2) rfl (rc_198 x3) (s_198 x3 S_2) (fun r_3 S_4 => ?_)
  refine q_Sim.call vc_234 (as := [.inl r_1, .inl r_3]) (pc' := 13) (lv' := [(0, .inr (.inr (11, 0, 0))), (1, .inl x1), (2, .inl x2), (3, .inl x3)]) (st' := []) (S := S_4) rfl (rc_202 r_1 r_3) (s_202 r_1 r_3 S_4) (fun r_5 S_6 => ?_)
  refine q_Sim.steps vc_234 2 (pc' := 17) (lv' := [(4, .inl r_5), (0, .inr (.inr (11, 0, 0))), (1, .inl x1), (2, .inl x2), (3, .inl x3)]) (st' := [.inl r_5]) (V' := q_V S_6) rfl ?_
  refine q_Sim.br vc_234 (c := ¬ r_5 = 0) (t := 39) (f := 20) (lv' := [(4, .inl r_5), (0, .inr (.inr (11, 0, 0))), (1, .inl x1), (2, .inl x2), (3, .inl x3)]) (st' := []) (V' := q_V S_6) rfl ?_ ?_
  · exact q_Sim.sub2 (lv' := [(0, .inr (.inr (11, 0, 0))), (1, .inl x1), (2, .inl x2), (3, .inl x3), (4, .inl r_5)]) [0, 1, 2, 3, 4] rfl (by decide) ⟨rfl, rfl, rfl, rfl, rfl, trivial⟩ (sb_234_39 x1 x2 x3 r_5 S_6)
  · refine q_Sim.steps vc_234 2 (pc' := 22) (lv' := [(4, .inl r_5), (0, .inr (.inr (11, 0, 0))), (1, .inl x1), (2, .inl x2), (3, .inl x3)]) (st' := [.inl x1, .inl x3]) (V' := q_V S_6) rfl ?_
    refine q_Sim.br vc_234 (c := x3 = x1) (t := 35) (f := 25) (lv' := [(4, .inl r_5), (0, .inr (.inr (11, 0, 0))), (1, .inl x1), (2, .inl x2), (3, .inl x3)]) (st' := []) (V' := q_V S_6) rfl ?_ ?_
    · exact q_Sim.sub2 (lv' := [(0, .inr (.inr (11, 0, 0))), (1, .inl x1), (2, .inl x2), (3, .inl x3)]) [0, 1, 2, 3] rfl (by decide) ⟨rfl, rfl, rfl, rfl, trivial⟩ (sb_234_35 x1 x2 x3 S_6)
    · refine q_Sim.steps vc_234 3 (pc' := 29) (lv' := [(4, .inl r_5), (0, .inr (.inr (11, 0, 0))), (1, .inl x1), (2, .inl x2), (3, .inl x3)]) (st' := [.inl 10, .inl x3, .inr (.inr (11, 0, 0))]) (V' := q_V S_6) rfl ?_
      refine q_Sim.call vc_234 (as := [.inr (.inr (11, 0, 0)), .inl x3, .inl 10]) (pc' := 32) (lv' := [(4, .inl r_5), (0, .inr (.inr (11, 0, 0))), (1, .inl x1), (2, .inl x2), (3, .inl x3)]) (st' := []) (S := S_6) rfl (rc_190 x3 10) (s_190 x3 10 S_6) (fun r_34 S_35 => ?_)
      refine q_Sim.br vc_234 (c := r_34 ≤ 0) (t := 39) (f := 35) (lv' := [(4, .inl r_5), (0, .inr (.inr (11, 0, 0))), (1, .inl x1), (2, .inl x2), (3, .inl x3)]) (st' := []) (V' := q_V S_35) rfl ?_ ?_
      · exact q_Sim.sub2 (lv' := [(0, .inr (.inr (11, 0, 0))), (1, .inl x1), (2, .inl x2), (3, .inl x3), (4, .inl r_5)]) [0, 1, 2, 3, 4] rfl (by decide) ⟨rfl, rfl, rfl, rfl, rfl, trivial⟩ (sb_234_39 x1 x2 x3 r_5 S_35)
      · exact q_Sim.sub2 (lv' := [(0, .inr (.inr (11, 0, 0))), (1, .inl x1), (2, .inl x2), (3, .inl x3)]) [0, 1, 2, 3] rfl (by decide) ⟨rfl, rfl, rfl, rfl, trivial⟩ (sb_234_35 x1 x2 x3 S_35)
theorem vc_235 : v_code 235 = k_235 := rfl
theorem rc_235 (x1 : Int32) : v_rcv 235 [.inr (.inr (11, 0, 0)), .inl x1] = true := rfl
def b_235_9 : Nat → Int32 → Int32 → Int32 → QS → Option ((Int32) × QS)
  | 0, _, _, _, _ => none
  | n + 1, x1, x2, x3, S => if 8 ≤ x3 then (q_bd (f_193 x2 0 x1 S) (fun r_2 S_3 => q_bd (f_193 x2 2 (-1) S_3) (fun r_4 S_5 => q_bd (f_193 x2 3 (-1) S_5) (fun r_6 S_7 => q_bd (f_193 x2 5 (-1) S_7) (fun r_8 S_9 => q_bd (f_193 x2 7 (-1) S_9) (fun r_10 S_11 => q_ck (v_in 2 19520) (q_let (S_11.1 (40, 0, 0) (2 : Int32).toNatClampNeg) (fun y_12 => q_ck (v_in 2 19520) (q_let (q_set S_11 (40, 0, 0) (2 : Int32).toNatClampNeg (y_12 + 1)) (fun S_13 => some (x2, S_13))))))))))) else (q_bd (f_193 x2 x3 0 S) (fun r_14 S_15 => b_235_9 n x1 x2 (x3 + 1) S_15))
theorem sb_235_9 : ∀ (n : Nat) (x1 : Int32) (x2 : Int32) (x3 : Int32) (S : QS), q_Sim 235 9 [(0, .inr (.inr (11, 0, 0))), (1, .inl x1), (2, .inl x2), (3, .inl x3)] [] (q_V S) q_I (b_235_9 n x1 x2 x3 S)
  | 0, _, _, _, _ => q_Sim.none
  | n + 1, x1, x2, x3, S => by
    rw [b_235_9]
    refine q_Sim.steps vc_235 2 (pc' := 12) (lv' := [(0, .inr (.inr (11, 0, 0))), (1, .inl x1), (2, .inl x2), (3, .inl x3)]) (st' := [.inl 8, .inl x3]) (V' := q_V S) rfl ?_
    refine q_Sim.br vc_235 (c := 8 ≤ x3) (t := 28) (f := 15) (lv' := [(0, .inr (.inr (11, 0, 0))), (1, .inl x1), (2, .inl x2), (3, .inl x3)]) (st' := []) (V' := q_V S) rfl ?_ ?_
    · refine q_Sim.steps vc_235 4 (pc' := 32) (lv' := [(0, .inr (.inr (11, 0, 0))), (1, .inl x1), (2, .inl x2), (3, .inl x3)]) (st' := [.inl x1, .inl 0, .inl x2, .inr (.inr (11, 0, 0))]) (V' := q_V S) rfl ?_
      refine q_Sim.call vc_235 (as := [.inr (.inr (11, 0, 0)), .inl x2, .inl 0, .inl x1]) (pc' := 35) (lv' := [(0, .inr (.inr (11, 0, 0))), (1, .inl x1), (2, .inl x2), (3, .inl x3)]) (st' := []) (S := S) rfl (rc_193 x2 0 x1) (s_193 x2 0 x1 S) (fun r_2 S_3 => ?_)
      refine q_Sim.steps vc_235 4 (pc' := 39) (lv' := [(0, .inr (.inr (11, 0, 0))), (1, .inl x1), (2, .inl x2), (3, .inl x3)]) (st' := [.inl (-1), .inl 2, .inl x2, .inr (.inr (11, 0, 0))]) (V' := q_V S_3) rfl ?_
      refine q_Sim.call vc_235 (as := [.inr (.inr (11, 0, 0)), .inl x2, .inl 2, .inl (-1)]) (pc' := 42) (lv' := [(0, .inr (.inr (11, 0, 0))), (1, .inl x1), (2, .inl x2), (3, .inl x3)]) (st' := []) (S := S_3) rfl (rc_193 x2 2 (-1)) (s_193 x2 2 (-1) S_3) (fun r_4 S_5 => ?_)
      refine q_Sim.steps vc_235 4 (pc' := 46) (lv' := [(0, .inr (.inr (11, 0, 0))), (1, .inl x1), (2, .inl x2), (3, .inl x3)]) (st' := [.inl (-1), .inl 3, .inl x2, .inr (.inr (11, 0, 0))]) (V' := q_V S_5) rfl ?_
      refine q_Sim.call vc_235 (as := [.inr (.inr (11, 0, 0)), .inl x2, .inl 3, .inl (-1)]) (pc' := 49) (lv' := [(0, .inr (.inr (11, 0, 0))), (1, .inl x1), (2, .inl x2), (3, .inl x3)]) (st' := []) (S := S_5) rfl (rc_193 x2 3 (-1)) (s_193 x2 3 (-1) S_5) (fun r_6 S_7 => ?_)
      refine q_Sim.steps vc_235 4 (pc' := 53) (lv' := [(0, .inr (.inr (11, 0, 0))), (1, .inl x1), (2, .inl x2), (3, .inl x3)]) (st' := [.inl (-1), .inl 5, .inl x2, .inr (.inr (11, 0, 0))]) (V' := q_V S_7) rfl ?_
      refine q_Sim.call vc_235 (as := [.inr (.inr (11, 0, 0)), .inl x2, .inl 5, .inl (-1)]) (pc' := 56) (lv' := [(0, .inr (.inr (11, 0, 0))), (1, .inl x1), (2, .inl x2), (3, .inl x3)]) (st' := []) (S := S_7) rfl (rc_193 x2 5 (-1)) (s_193 x2 5 (-1) S_7) (fun r_8 S_9 => ?_)
      refine q_Sim.steps vc_235 4 (pc' := 61) (lv' := [(0, .inr (.inr (11, 0, 0))), (1, .inl x1), (2, .inl x2), (3, .inl x3)]) (st' := [.inl (-1), .inl 7, .inl x2, .inr (.inr (11, 0, 0))]) (V' := q_V S_9) rfl ?_
      refine q_Sim.call vc_235 (as := [.inr (.inr (11, 0, 0)), .inl x2, .inl 7, .inl (-1)]) (pc' := 64) (lv' := [(0, .inr (.inr (11, 0, 0))), (1, .inl x1), (2, .inl x2), (3, .inl x3)]) (st' := []) (S := S_9) rfl (rc_193 x2 7 (-1)) (s_193 x2 7 (-1) S_9) (fun r_10 S_11 => ?_)
      refine q_Sim.steps vc_235 4 (pc' := 70) (lv' := [(0, .inr (.inr (11, 0, 0))), (1, .inl x1), (2, .inl x2), (3, .inl x3)]) (st' := [.inl 2, .inr (.inr (40, 0, 0)), .inl 2, .inr (.inr (40, 0, 0))]) (V' := q_V S_11) rfl ?_
      refine q_Sim.ck vc_235 (c := v_in 2 19520) (pc' := 71) (lv' := [(0, .inr (.inr (11, 0, 0))), (1, .inl x1), (2, .inl x2), (3, .inl x3)]) (st' := [.inl (S_11.1 (40, 0, 0) (2 : Int32).toNatClampNeg), .inl 2, .inr (.inr (40, 0, 0))]) (V' := q_V S_11) rfl ?_
      refine q_Sim.letI (fun y_12 => ?_)
      refine q_Sim.steps vc_235 2 (pc' := 73) (lv' := [(0, .inr (.inr (11, 0, 0))), (1, .inl x1), (2, .inl x2), (3, .inl x3)]) (st' := [.inl (y_12 + 1), .inl 2, .inr (.inr (40, 0, 0))]) (V' := q_V S_11) rfl ?_
      refine q_Sim.ck vc_235 (c := v_in 2 19520) (pc' := 74) (lv' := [(0, .inr (.inr (11, 0, 0))), (1, .inl x1), (2, .inl x2), (3, .inl x3)]) (st' := []) (V' := q_V (q_set S_11 (40, 0, 0) (2 : Int32).toNatClampNeg (y_12 + 1))) rfl ?_
      refine q_Sim.letS (fun S_13 => ?_)
      refine q_Sim.steps vc_235 1 (pc' := 75) (lv' := [(0, .inr (.inr (11, 0, 0))), (1, .inl x1), (2, .inl x2), (3, .inl x3)]) (st' := [.inl x2]) (V' := q_V S_13) rfl ?_
      exact q_Sim.ret vc_235 rfl
    · refine q_Sim.steps vc_235 4 (pc' := 19) (lv' := [(0, .inr (.inr (11, 0, 0))), (1, .inl x1), (2, .inl x2), (3, .inl x3)]) (st' := [.inl 0, .inl x3, .inl x2, .inr (.inr (11, 0, 0))]) (V' := q_V S) rfl ?_
      refine q_Sim.call vc_235 (as := [.inr (.inr (11, 0, 0)), .inl x2, .inl x3, .inl 0]) (pc' := 22) (lv' := [(0, .inr (.inr (11, 0, 0))), (1, .inl x1), (2, .inl x2), (3, .inl x3)]) (st' := []) (S := S) rfl (rc_193 x2 x3 0) (s_193 x2 x3 0 S) (fun r_14 S_15 => ?_)
      refine q_Sim.steps vc_235 2 (pc' := 9) (lv' := [(3, .inl (x3 + 1)), (0, .inr (.inr (11, 0, 0))), (1, .inl x1), (2, .inl x2)]) (st' := []) (V' := q_V S_15) rfl ?_
      exact q_Sim.sub2 (lv' := [(0, .inr (.inr (11, 0, 0))), (1, .inl x1), (2, .inl x2), (3, .inl (x3 + 1))]) [0, 1, 2, 3] rfl (by decide) ⟨rfl, rfl, rfl, rfl, trivial⟩ (sb_235_9 n x1 x2 (x3 + 1) S_15)
def f_235 (x1 : Int32) (S : QS) : Option ((Int32) × QS) := q_ck (v_in 2 19520) (q_let (S.1 (40, 0, 0) (2 : Int32).toNatClampNeg) (fun y_1 => b_235_9 q_N x1 y_1 0 S))
theorem s_235 (x1 : Int32) (S : QS) : q_Sim 235 0 [(0, .inr (.inr (11, 0, 0))), (1, .inl x1)] [] (q_V S) q_I (f_235 x1 S) := by
  unfold f_235
  refine q_Sim.steps vc_235 3 (pc' := 5) (lv' := [(0, .inr (.inr (11, 0, 0))), (1, .inl x1)]) (st' := [.inl 2, .inr (.inr (40, 0, 0))]) (V' := q_V S) rfl ?_
  refine q_Sim.ck vc_235 (c := v_in 2 19520) (pc' := 6) (lv' := [(0, .inr (.inr (11, 0, 0))), (1, .inl x1)]) (st' := [.inl (S.1 (40, 0, 0) (2 : Int32).toNatClampNeg)]) (V' := q_V S) rfl ?_
  refine q_Sim.letI (fun y_1 => ?_)
  refine q_Sim.steps vc_235 3 (pc' := 9) (lv' := [(3, .inl 0), (2, .inl y_1), (0, .inr (.inr (11, 0, 0))), (1, .inl x1)]) (st' := []) (V' := q_V S) rfl ?_
  exact q_Sim.sub2 (lv' := [(0, .inr (.inr (11, 0, 0))), (1, .inl x1), (2, .inl y_1), (3, .inl 0)]) [0, 1, 2, 3] rfl (by decide) ⟨rfl, rfl, rfl, rfl, trivial⟩ (sb_235_9 q_N x1 y_1 0 S)
theorem vc_236 : v_code 236 = k_236 := rfl
theorem rc_236 (x1 : Int32) : v_rcv 236 [.inr (.inr (11, 0, 0)), .inl x1] = true := rfl
def b_236_21  (S : QS) : Option ((Int32) × QS) := q_bd (f_186 6 S) (fun r_3 S_4 => some (r_3, S_4))
theorem sb_236_21  (S : QS) : q_Sim 236 21 [(0, .inr (.inr (11, 0, 0)))] [] (q_V S) q_I (b_236_21  S) := by
  unfold b_236_21
  refine q_Sim.steps vc_236 2 (pc' := 24) (lv' := [(0, .inr (.inr (11, 0, 0)))]) (st' := [.inl 6, .inr (.inr (11, 0, 0))]) (V' := q_V S) rfl ?_
  refine q_Sim.call vc_236 (as := [.inr (.inr (11, 0, 0)), .inl 6]) (pc' := 27) (lv' := [(0, .inr (.inr (11, 0, 0)))]) (st' := []) (S := S) rfl (rc_186 6) (s_186 6 S) (fun r_3 S_4 => ?_)
  exact q_Sim.ret vc_236 rfl
def f_236 (x1 : Int32) (S : QS) : Option ((Int32) × QS) := q_bd (f_189 x1 0 3 S) (fun r_1 S_2 => if r_1 = 0 then (b_236_21  S_2) else (q_ck (v_in 2 19520) (q_let (S_2.1 (40, 0, 0) (2 : Int32).toNatClampNeg) (fun y_5 => if ¬ y_5 = 200 then (q_bd (f_188  S_2) (fun r_6 S_7 => q_bd (f_235 x1 S_7) (fun r_8 S_9 => q_bd (f_187 r_8 S_9) (fun r_10 S_11 => some (r_10, S_11))))) else (b_236_21  S_2)))))
theorem s_236 (x1 : Int32) (S : QS) : q_Sim 236 0 [(0, .inr (.inr (11, 0, 0))), (1, .inl x1)] [] (q_V S) q_I (f_236 x1 S) := by
  unfold f_236
  refine q_Sim.steps vc_236 3 (pc' := 3) (lv' := [(0, .inr (.inr (11, 0, 0))), (1, .inl x1)]) (st' := [.inl 3, .inl 0, .inl x1]) (V' := q_V S) rfl ?_
  refine q_Sim.call vc_236 (as := [.inl x1, .inl 0, .inl 3]) (pc' := 6) (lv' := [(0, .inr (.inr (11, 0, 0))), (1, .inl x1)]) (st' := []) (S := S) rfl (rc_189 x1 0 3) (s_189 x1 0 3 S) (fun r_1 S_2 => ?_)
  refine q_Sim.br vc_236 (c := r_1 = 0) (t := 21) (f := 9) (lv' := [(0, .inr (.inr (11, 0, 0))), (1, .inl x1)]) (st' := []) (V' := q_V S_2) rfl ?_ ?_
  · exact q_Sim.sub2 (lv' := [(0, .inr (.inr (11, 0, 0)))]) [0] rfl (by decide) ⟨rfl, trivial⟩ (sb_236_21  S_2)
  · refine q_Sim.steps vc_236 3 (pc' := 14) (lv' := [(0, .inr (.inr (11, 0, 0))), (1, .inl x1)]) (st' := [.inl 2, .inr (.inr (40, 0, 0))]) (V' := q_V S_2) rfl ?_
    refine q_Sim.ck vc_236 (c := v_in 2 19520) (pc' := 15) (lv' := [(0, .inr (.inr (11, 0, 0))), (1, .inl x1)]) (st' := [.inl (S_2.1 (40, 0, 0) (2 : Int32).toNatClampNeg)]) (V' := q_V S_2) rfl ?_
    refine q_Sim.letI (fun y_5 => ?_)
    refine q_Sim.steps vc_236 1 (pc' := 18) (lv' := [(0, .inr (.inr (11, 0, 0))), (1, .inl x1)]) (st' := [.inl 200, .inl y_5]) (V' := q_V S_2) rfl ?_
    refine q_Sim.br vc_236 (c := ¬ y_5 = 200) (t := 28) (f := 21) (lv' := [(0, .inr (.inr (11, 0, 0))), (1, .inl x1)]) (st' := []) (V' := q_V S_2) rfl ?_ ?_
    · refine q_Sim.steps vc_236 1 (pc' := 29) (lv' := [(0, .inr (.inr (11, 0, 0))), (1, .inl x1)]) (st' := [.inr (.inr (11, 0, 0))]) (V' := q_V S_2) rfl ?_
      refine q_Sim.call vc_236 (as := [.inr (.inr (11, 0, 0))]) (pc' := 32) (lv' := [(0, .inr (.inr (11, 0, 0))), (1, .inl x1)]) (st' := []) (S := S_2) rfl (rc_188 ) (s_188  S_2) (fun r_6 S_7 => ?_)
      refine q_Sim.steps vc_236 3 (pc' := 35) (lv' := [(0, .inr (.inr (11, 0, 0))), (1, .inl x1)]) (st' := [.inl x1, .inr (.inr (11, 0, 0)), .inr (.inr (11, 0, 0))]) (V' := q_V S_7) rfl ?_
      refine q_Sim.call vc_236 (as := [.inr (.inr (11, 0, 0)), .inl x1]) (pc' := 38) (lv' := [(0, .inr (.inr (11, 0, 0))), (1, .inl x1)]) (st' := [.inr (.inr (11, 0, 0))]) (S := S_7) rfl (rc_235 x1) (s_235 x1 S_7) (fun r_8 S_9 => ?_)
      refine q_Sim.call vc_236 (as := [.inr (.inr (11, 0, 0)), .inl r_8]) (pc' := 41) (lv' := [(0, .inr (.inr (11, 0, 0))), (1, .inl x1)]) (st' := []) (S := S_9) rfl (rc_187 r_8) (s_187 r_8 S_9) (fun r_10 S_11 => ?_)
      exact q_Sim.ret vc_236 rfl
    · exact q_Sim.sub2 (lv' := [(0, .inr (.inr (11, 0, 0)))]) [0] rfl (by decide) ⟨rfl, trivial⟩ (sb_236_21  S_2)
theorem vc_237 : v_code 237 = k_237 := rfl
theorem rc_237 (x1 : Int32) : v_rcv 237 [.inr (.inr (11, 0, 0)), .inl x1] = true := rfl
def b_237_147 (back_29 : Int32 → Int32 → Int32 → QS → Option ((Unit) × QS)) (back_38 : Int32 → Int32 → Int32 → Int32 → QS → Option ((Unit) × QS)) (x1 : Int32) (x2 : Int32) (x3 : Int32) (x4 : Int32) (S : QS) : Option ((Unit) × QS) := back_38 x1 x2 x3 (x4 + 1) S
theorem sb_237_147 (back_29 : Int32 → Int32 → Int32 → QS → Option ((Unit) × QS)) (hb_29 : ∀ (x1 : Int32) (x2 : Int32) (x3 : Int32) (S : QS), q_Sim 237 29 [(0, .inr (.inr (11, 0, 0))), (1, .inl x1), (2, .inl x2), (3, .inl x3)] [] (q_V S) q_U (back_29 x1 x2 x3 S)) (back_38 : Int32 → Int32 → Int32 → Int32 → QS → Option ((Unit) × QS)) (hb_38 : ∀ (x1 : Int32) (x2 : Int32) (x3 : Int32) (x4 : Int32) (S : QS), q_Sim 237 38 [(0, .inr (.inr (11, 0, 0))), (1, .inl x1), (2, .inl x2), (3, .inl x3), (4, .inl x4)] [] (q_V S) q_U (back_38 x1 x2 x3 x4 S)) (x1 : Int32) (x2 : Int32) (x3 : Int32) (x4 : Int32) (S : QS) : q_Sim 237 147 [(0, .inr (.inr (11, 0, 0))), (1, .inl x1), (2, .inl x2), (3, .inl x3), (4, .inl x4)] [] (q_V S) q_U (b_237_147 back_29 back_38 x1 x2 x3 x4 S) := by
  unfold b_237_147
  refine q_Sim.steps vc_237 2 (pc' := 38) (lv' := [(4, .inl (x4 + 1)), (0, .inr (.inr (11, 0, 0))), (1, .inl x1), (2, .inl x2), (3, .inl x3)]) (st' := []) (V' := q_V S) rfl ?_
  exact q_Sim.sub2 (lv' := [(0, .inr (.inr (11, 0, 0))), (1, .inl x1), (2, .inl x2), (3, .inl x3), (4, .inl (x4 + 1))]) [0, 1, 2, 3, 4] rfl (by decide) ⟨rfl, rfl, rfl, rfl, rfl, trivial⟩ (hb_38 x1 x2 x3 (x4 + 1) S)
def b_237_113 (back_29 : Int32 → Int32 → Int32 → QS → Option ((Unit) × QS)) (back_38 : Int32 → Int32 → Int32 → Int32 → QS → Option ((Unit) × QS)) (x1 : Int32) (x2 : Int32) (x3 : Int32) (x4 : Int32) (xs0 : Int32) (S : QS) : Option ((Unit) × QS) := q_ck (v_in x4 200) (q_let (S.1 (46, 0, 0) x4.toNatClampNeg) (fun y_6 => if xs0 ≤ y_6 then (b_237_147 back_29 back_38 x1 x2 x3 x4 S) else (if xs0 ≤ x1 then (q_ck (v_in x4 200) (q_let (q_set S (46, 0, 0) x4.toNatClampNeg xs0) (fun S_7 => b_237_147 back_29 back_38 x1 x2 1 x4 S_7))) else (b_237_147 back_29 back_38 x1 x2 x3 x4 S))))
theorem sb_237_113 (back_29 : Int32 → Int32 → Int32 → QS → Option ((Unit) × QS)) (hb_29 : ∀ (x1 : Int32) (x2 : Int32) (x3 : Int32) (S : QS), q_Sim 237 29 [(0, .inr (.inr (11, 0, 0))), (1, .inl x1), (2, .inl x2), (3, .inl x3)] [] (q_V S) q_U (back_29 x1 x2 x3 S)) (back_38 : Int32 → Int32 → Int32 → Int32 → QS → Option ((Unit) × QS)) (hb_38 : ∀ (x1 : Int32) (x2 : Int32) (x3 : Int32) (x4 : Int32) (S : QS), q_Sim 237 38 [(0, .inr (.inr (11, 0, 0))), (1, .inl x1), (2, .inl x2), (3, .inl x3), (4, .inl x4)] [] (q_V S) q_U (back_38 x1 x2 x3 x4 S)) (x1 : Int32) (x2 : Int32) (x3 : Int32) (x4 : Int32) (xs0 : Int32) (S : QS) : q_Sim 237 113 [(0, .inr (.inr (11, 0, 0))), (1, .inl x1), (2, .inl x2), (3, .inl x3), (4, .inl x4)] [.inl xs0] (q_V S) q_U (b_237_113 back_29 back_38 x1 x2 x3 x4 xs0 S) := by
  unfold b_237_113
  refine q_Sim.steps vc_237 5 (pc' := 123) (lv' := [(7, .inl xs0), (0, .inr (.inr (11, 0, 0))), (1, .inl x1), (2, .inl x2), (3, .inl x3), (4, .inl x4)]) (st' := [.inl x4, .inr (.inr (46, 0, 0)), .inl xs0]) (V' := q_V S) rfl ?_
  refine q_Sim.ck vc_237 (c := v_in x4 200) (pc' := 124) (lv' := [(7, .inl xs0), (0, .inr (.inr (11, 0, 0))), (1, .inl x1), (2, .inl x2), (3, .inl x3), (4, .inl x4)]) (st' := [.inl (S.1 (46, 0, 0) x4.toNatClampNeg), .inl xs0]) (V' := q_V S) rfl ?_
  refine q_Sim.letI (fun y_6 => ?_)
  refine q_Sim.br vc_237 (c := xs0 ≤ y_6) (t := 147) (f := 127) (lv' := [(7, .inl xs0), (0, .inr (.inr (11, 0, 0))), (1, .inl x1), (2, .inl x2), (3, .inl x3), (4, .inl x4)]) (st' := []) (V' := q_V S) rfl ?_ ?_
  · exact q_Sim.sub2 (lv' := [(0, .inr (.inr (11, 0, 0))), (1, .inl x1), (2, .inl x2), (3, .inl x3), (4, .inl x4)]) [0, 1, 2, 3, 4] rfl (by decide) ⟨rfl, rfl, rfl, rfl, rfl, trivial⟩ (sb_237_147 back_29 hb_29 back_38 hb_38 x1 x2 x3 x4 S)
  · refine q_Sim.steps vc_237 2 (pc' := 130) (lv' := [(7, .inl xs0), (0, .inr (.inr (11, 0, 0))), (1, .inl x1), (2, .inl x2), (3, .inl x3), (4, .inl x4)]) (st' := [.inl x1, .inl xs0]) (V' := q_V S) rfl ?_
    refine q_Sim.br vc_237 (c := xs0 ≤ x1) (t := 136) (f := 133) (lv' := [(7, .inl xs0), (0, .inr (.inr (11, 0, 0))), (1, .inl x1), (2, .inl x2), (3, .inl x3), (4, .inl x4)]) (st' := []) (V' := q_V S) rfl ?_ ?_
    · refine q_Sim.steps vc_237 4 (pc' := 144) (lv' := [(7, .inl xs0), (0, .inr (.inr (11, 0, 0))), (1, .inl x1), (2, .inl x2), (3, .inl x3), (4, .inl x4)]) (st' := [.inl xs0, .inl x4, .inr (.inr (46, 0, 0))]) (V' := q_V S) rfl ?_
      refine q_Sim.ck vc_237 (c := v_in x4 200) (pc' := 145) (lv' := [(7, .inl xs0), (0, .inr (.inr (11, 0, 0))), (1, .inl x1), (2, .inl x2), (3, .inl x3), (4, .inl x4)]) (st' := []) (V' := q_V (q_set S (46, 0, 0) x4.toNatClampNeg xs0)) rfl ?_
      refine q_Sim.letS (fun S_7 => ?_)
      refine q_Sim.steps vc_237 2 (pc' := 147) (lv' := [(3, .inl 1), (7, .inl xs0), (0, .inr (.inr (11, 0, 0))), (1, .inl x1), (2, .inl x2), (4, .inl x4)]) (st' := []) (V' := q_V S_7) rfl ?_
      exact q_Sim.sub2 (lv' := [(0, .inr (.inr (11, 0, 0))), (1, .inl x1), (2, .inl x2), (3, .inl 1), (4, .inl x4)]) [0, 1, 2, 3, 4] rfl (by decide) ⟨rfl, rfl, rfl, rfl, rfl, trivial⟩ (sb_237_147 back_29 hb_29 back_38 hb_38 x1 x2 1 x4 S_7)
    · refine q_Sim.steps vc_237 1 (pc' := 147) (lv' := [(7, .inl xs0), (0, .inr (.inr (11, 0, 0))), (1, .inl x1), (2, .inl x2), (3, .inl x3), (4, .inl x4)]) (st' := []) (V' := q_V S) rfl ?_
      exact q_Sim.sub2 (lv' := [(0, .inr (.inr (11, 0, 0))), (1, .inl x1), (2, .inl x2), (3, .inl x3), (4, .inl x4)]) [0, 1, 2, 3, 4] rfl (by decide) ⟨rfl, rfl, rfl, rfl, rfl, trivial⟩ (sb_237_147 back_29 hb_29 back_38 hb_38 x1 x2 x3 x4 S)
def b_237_111 (back_29 : Int32 → Int32 → Int32 → QS → Option ((Unit) × QS)) (back_38 : Int32 → Int32 → Int32 → Int32 → QS → Option ((Unit) × QS)) (x1 : Int32) (x2 : Int32) (x3 : Int32) (x4 : Int32) (x7 : Int32) (S : QS) : Option ((Unit) × QS) := b_237_113 back_29 back_38 x1 x2 x3 x4 x7 S
theorem sb_237_111 (back_29 : Int32 → Int32 → Int32 → QS → Option ((Unit) × QS)) (hb_29 : ∀ (x1 : Int32) (x2 : Int32) (x3 : Int32) (S : QS), q_Sim 237 29 [(0, .inr (.inr (11, 0, 0))), (1, .inl x1), (2, .inl x2), (3, .inl x3)] [] (q_V S) q_U (back_29 x1 x2 x3 S)) (back_38 : Int32 → Int32 → Int32 → Int32 → QS → Option ((Unit) × QS)) (hb_38 : ∀ (x1 : Int32) (x2 : Int32) (x3 : Int32) (x4 : Int32) (S : QS), q_Sim 237 38 [(0, .inr (.inr (11, 0, 0))), (1, .inl x1), (2, .inl x2), (3, .inl x3), (4, .inl x4)] [] (q_V S) q_U (back_38 x1 x2 x3 x4 S)) (x1 : Int32) (x2 : Int32) (x3 : Int32) (x4 : Int32) (x7 : Int32) (S : QS) : q_Sim 237 111 [(0, .inr (.inr (11, 0, 0))), (1, .inl x1), (2, .inl x2), (3, .inl x3), (4, .inl x4), (7, .inl x7)] [] (q_V S) q_U (b_237_111 back_29 back_38 x1 x2 x3 x4 x7 S) := by
  unfold b_237_111
  refine q_Sim.steps vc_237 1 (pc' := 113) (lv' := [(0, .inr (.inr (11, 0, 0))), (1, .inl x1), (2, .inl x2), (3, .inl x3), (4, .inl x4), (7, .inl x7)]) (st' := [.inl x7]) (V' := q_V S) rfl ?_
  exact q_Sim.sub2 (lv' := [(0, .inr (.inr (11, 0, 0))), (1, .inl x1), (2, .inl x2), (3, .inl x3), (4, .inl x4)]) [0, 1, 2, 3, 4] rfl (by decide) ⟨rfl, rfl, rfl, rfl, rfl, trivial⟩ (sb_237_113 back_29 hb_29 back_38 hb_38 x1 x2 x3 x4 x7 S)
def b_237_80 (back_29 : Int32 → Int32 → Int32 → QS → Option ((Unit) × QS)) (back_38 : Int32 → Int32 → Int32 → Int32 → QS → Option ((Unit) × QS)) (x1 : Int32) (x2 : Int32) (x3 : Int32) (x4 : Int32) (x6 : Int32) (xs0 : Int32) (S : QS) : Option ((Unit) × QS) := if x6 < 0 then (b_237_111 back_29 back_38 x1 x2 x3 x4 xs0 S) else (q_ck (v_in x6 200) (q_let (S.1 (46, 0, 0) x6.toNatClampNeg) (fun y_8 => if y_8 < xs0 then (b_237_111 back_29 back_38 x1 x2 x3 x4 xs0 S) else (q_ck (v_in x6 200) (q_let (S.1 (46, 0, 0) x6.toNatClampNeg) (fun y_9 => b_237_113 back_29 back_38 x1 x2 x3 x4 (y_9 + 1) S))))))
theorem sb_237_80 (back_29 : Int32 → Int32 → Int32 → QS → Option ((Unit) × QS)) (hb_29 : ∀ (x1 : Int32) (x2 : Int32) (x3 : Int32) (S : QS), q_Sim 237 29 [(0, .inr (.inr (11, 0, 0))), (1, .inl x1), (2, .inl x2), (3, .inl x3)] [] (q_V S) q_U (back_29 x1 x2 x3 S)) (back_38 : Int32 → Int32 → Int32 → Int32 → QS → Option ((Unit) × QS)) (hb_38 : ∀ (x1 : Int32) (x2 : Int32) (x3 : Int32) (x4 : Int32) (S : QS), q_Sim 237 38 [(0, .inr (.inr (11, 0, 0))), (1, .inl x1), (2, .inl x2), (3, .inl x3), (4, .inl x4)] [] (q_V S) q_U (back_38 x1 x2 x3 x4 S)) (x1 : Int32) (x2 : Int32) (x3 : Int32) (x4 : Int32) (x6 : Int32) (xs0 : Int32) (S : QS) : q_Sim 237 80 [(0, .inr (.inr (11, 0, 0))), (1, .inl x1), (2, .inl x2), (3, .inl x3), (4, .inl x4), (6, .inl x6)] [.inl xs0] (q_V S) q_U (b_237_80 back_29 back_38 x1 x2 x3 x4 x6 xs0 S) := by
  unfold b_237_80
  refine q_Sim.steps vc_237 2 (pc' := 84) (lv' := [(7, .inl xs0), (0, .inr (.inr (11, 0, 0))), (1, .inl x1), (2, .inl x2), (3, .inl x3), (4, .inl x4), (6, .inl x6)]) (st' := [.inl x6]) (V' := q_V S) rfl ?_
  refine q_Sim.br vc_237 (c := x6 < 0) (t := 111) (f := 87) (lv' := [(7, .inl xs0), (0, .inr (.inr (11, 0, 0))), (1, .inl x1), (2, .inl x2), (3, .inl x3), (4, .inl x4), (6, .inl x6)]) (st' := []) (V' := q_V S) rfl ?_ ?_
  · exact q_Sim.sub2 (lv' := [(0, .inr (.inr (11, 0, 0))), (1, .inl x1), (2, .inl x2), (3, .inl x3), (4, .inl x4), (7, .inl xs0)]) [0, 1, 2, 3, 4, 7] rfl (by decide) ⟨rfl, rfl, rfl, rfl, rfl, rfl, trivial⟩ (sb_237_111 back_29 hb_29 back_38 hb_38 x1 x2 x3 x4 xs0 S)
  · refine q_Sim.steps vc_237 3 (pc' := 93) (lv' := [(7, .inl xs0), (0, .inr (.inr (11, 0, 0))), (1, .inl x1), (2, .inl x2), (3, .inl x3), (4, .inl x4), (6, .inl x6)]) (st' := [.inl x6, .inr (.inr (46, 0, 0))]) (V' := q_V S) rfl ?_
    refine q_Sim.ck vc_237 (c := v_in x6 200) (pc' := 94) (lv' := [(7, .inl xs0), (0, .inr (.inr (11, 0, 0))), (1, .inl x1), (2, .inl x2), (3, .inl x3), (4, .inl x4), (6, .inl x6)]) (st' := [.inl (S.1 (46, 0, 0) x6.toNatClampNeg)]) (V' := q_V S) rfl ?_
    refine q_Sim.letI (fun y_8 => ?_)
    refine q_Sim.steps vc_237 1 (pc' := 96) (lv' := [(7, .inl xs0), (0, .inr (.inr (11, 0, 0))), (1, .inl x1), (2, .inl x2), (3, .inl x3), (4, .inl x4), (6, .inl x6)]) (st' := [.inl xs0, .inl y_8]) (V' := q_V S) rfl ?_
    refine q_Sim.br vc_237 (c := y_8 < xs0) (t := 111) (f := 99) (lv' := [(7, .inl xs0), (0, .inr (.inr (11, 0, 0))), (1, .inl x1), (2, .inl x2), (3, .inl x3), (4, .inl x4), (6, .inl x6)]) (st' := []) (V' := q_V S) rfl ?_ ?_
    · exact q_Sim.sub2 (lv' := [(0, .inr (.inr (11, 0, 0))), (1, .inl x1), (2, .inl x2), (3, .inl x3), (4, .inl x4), (7, .inl xs0)]) [0, 1, 2, 3, 4, 7] rfl (by decide) ⟨rfl, rfl, rfl, rfl, rfl, rfl, trivial⟩ (sb_237_111 back_29 hb_29 back_38 hb_38 x1 x2 x3 x4 xs0 S)
    · refine q_Sim.steps vc_237 3 (pc' := 105) (lv' := [(7, .inl xs0), (0, .inr (.inr (11, 0, 0))), (1, .inl x1), (2, .inl x2), (3, .inl x3), (4, .inl x4), (6, .inl x6)]) (st' := [.inl x6, .inr (.inr (46, 0, 0))]) (V' := q_V S) rfl ?_
      refine q_Sim.ck vc_237 (c := v_in x6 200) (pc' := 106) (lv' := [(7, .inl xs0), (0, .inr (.inr (11, 0, 0))), (1, .inl x1), (2, .inl x2), (3, .inl x3), (4, .inl x4), (6, .inl x6)]) (st' := [.inl (S.1 (46, 0, 0) x6.toNatClampNeg)]) (V' := q_V S) rfl ?_
      refine q_Sim.letI (fun y_9 => ?_)
      refine q_Sim.steps vc_237 3 (pc' := 113) (lv' := [(7, .inl xs0), (0, .inr (.inr (11, 0, 0))), (1, .inl x1), (2, .inl x2), (3, .inl x3), (4, .inl x4), (6, .inl x6)]) (st' := [.inl (y_9 + 1)]) (V' := q_V S) rfl ?_
      exact q_Sim.sub2 (lv' := [(0, .inr (.inr (11, 0, 0))), (1, .inl x1), (2, .inl x2), (3, .inl x3), (4, .inl x4)]) [0, 1, 2, 3, 4] rfl (by decide) ⟨rfl, rfl, rfl, rfl, rfl, trivial⟩ (sb_237_113 back_29 hb_29 back_38 hb_38 x1 x2 x3 x4 (y_9 + 1) S)
def b_237_38 (back_29 : Int32 → Int32 → Int32 → QS → Option ((Unit) × QS)) : Nat → Int32 → Int32 → Int32 → Int32 → QS → Option ((Unit) × QS)
  | 0, _, _, _, _, _ => none
  | n + 1, x1, x2, x3, x4, S => if x2 ≤ x4 then (back_29 x1 x2 x3 S) else (q_bd (f_192 x4 2 S) (fun r_2 S_3 => q_bd (f_192 x4 3 S_3) (fun r_4 S_5 => if r_2 < 0 then (b_237_80 back_29 (b_237_38 back_29 n) x1 x2 x3 x4 r_4 0 S_5) else (q_ck (v_in r_2 200) (q_let (S_5.1 (46, 0, 0) r_2.toNatClampNeg) (fun y_10 => b_237_80 back_29 (b_237_38 back_29 n) x1 x2 x3 x4 r_4 (y_10 + 1) S_5))))))
theorem sb_237_38 (back_29 : Int32 → Int32 → Int32 → QS → Option ((Unit) × QS)) (hb_29 : ∀ (x1 : Int32) (x2 : Int32) (x3 : Int32) (S : QS), q_Sim 237 29 [(0, .inr (.inr (11, 0, 0))), (1, .inl x1), (2, .inl x2), (3, .inl x3)] [] (q_V S) q_U (back_29 x1 x2 x3 S)) : ∀ (n : Nat) (x1 : Int32) (x2 : Int32) (x3 : Int32) (x4 : Int32) (S : QS), q_Sim 237 38 [(0, .inr (.inr (11, 0, 0))), (1, .inl x1), (2, .inl x2), (3, .inl x3), (4, .inl x4)] [] (q_V S) q_U (b_237_38 back_29 n x1 x2 x3 x4 S)
  | 0, _, _, _, _, _ => q_Sim.none
  | n + 1, x1, x2, x3, x4, S => by
    rw [b_237_38]
    refine q_Sim.steps vc_237 2 (pc' := 41) (lv' := [(0, .inr (.inr (11, 0, 0))), (1, .inl x1), (2, .inl x2), (3, .inl x3), (4, .inl x4)]) (st' := [.inl x2, .inl x4]) (V' := q_V S) rfl ?_
    refine q_Sim.br vc_237 (c := x2 ≤ x4) (t := 153) (f := 44) (lv' := [(0, .inr (.inr (11, 0, 0))), (1, .inl x1), (2, .inl x2), (3, .inl x3), (4, .inl x4)]) (st' := []) (V' := q_V S) rfl ?_ ?_
    · refine q_Sim.steps vc_237 1 (pc' := 29) (lv' := [(0, .inr (.inr (11, 0, 0))), (1, .inl x1), (2, .inl x2), (3, .inl x3), (4, .inl x4)]) (st' := []) (V' := q_V S) rfl ?_
      exact q_Sim.sub2 (lv' := [(0, .inr (.inr (11, 0, 0))), (1, .inl x1), (2, .inl x2), (3, .inl x3)]) [0, 1, 2, 3] rfl (by decide) ⟨rfl, rfl, rfl, rfl, trivial⟩ (hb_29 x1 x2 x3 S)
    · refine q_Sim.steps vc_237 3 (pc' := 48) (lv' := [(0, .inr (.inr (11, 0, 0))), (1, .inl x1), (2, .inl x2), (3, .inl x3), (4, .inl x4)]) (st' := [.inl 2, .inl x4, .inr (.inr (11, 0, 0))]) (V' := q_V S) rfl ?_
      refine q_Sim.call vc_237 (as := [.inr (.inr (11, 0, 0)), .inl x4, .inl 2]) (pc' := 51) (lv' := [(0, .inr (.inr (11, 0, 0))), (1, .inl x1), (2, .inl x2), (3, .inl x3), (4, .inl x4)]) (st' := []) (S := S) rfl (rc_192 x4 2) (s_192 x4 2 S) (fun r_2 S_3 => ?_)
      refine q_Sim.steps vc_237 4 (pc' := 57) (lv' := [(5, .inl r_2), (0, .inr (.inr (11, 0, 0))), (1, .inl x1), (2, .inl x2), (3, .inl x3), (4, .inl x4)]) (st' := [.inl 3, .inl x4, .inr (.inr (11, 0, 0))]) (V' := q_V S_3) rfl ?_
      refine q_Sim.call vc_237 (as := [.inr (.inr (11, 0, 0)), .inl x4, .inl 3]) (pc' := 60) (lv' := [(5, .inl r_2), (0, .inr (.inr (11, 0, 0))), (1, .inl x1), (2, .inl x2), (3, .inl x3), (4, .inl x4)]) (st' := []) (S := S_3) rfl (rc_192 x4 3) (s_192 x4 3 S_3) (fun r_4 S_5 => ?_)
      refine q_Sim.steps vc_237 2 (pc' := 64) (lv' := [(6, .inl r_4), (5, .inl r_2), (0, .inr (.inr (11, 0, 0))), (1, .inl x1), (2, .inl x2), (3, .inl x3), (4, .inl x4)]) (st' := [.inl r_2]) (V' := q_V S_5) rfl ?_
      refine q_Sim.br vc_237 (c := r_2 < 0) (t := 79) (f := 67) (lv' := [(6, .inl r_4), (5, .inl r_2), (0, .inr (.inr (11, 0, 0))), (1, .inl x1), (2, .inl x2), (3, .inl x3), (4, .inl x4)]) (st' := []) (V' := q_V S_5) rfl ?_ ?_
      · refine q_Sim.steps vc_237 1 (pc' := 80) (lv' := [(6, .inl r_4), (5, .inl r_2), (0, .inr (.inr (11, 0, 0))), (1, .inl x1), (2, .inl x2), (3, .inl x3), (4, .inl x4)]) (st' := [.inl 0]) (V' := q_V S_5) rfl ?_
        exact q_Sim.sub2 (lv' := [(0, .inr (.inr (11, 0, 0))), (1, .inl x1), (2, .inl x2), (3, .inl x3), (4, .inl x4), (6, .inl r_4)]) [0, 1, 2, 3, 4, 6] rfl (by decide) ⟨rfl, rfl, rfl, rfl, rfl, rfl, trivial⟩ (sb_237_80 back_29 hb_29 (b_237_38 back_29 n) (sb_237_38 back_29 hb_29 n) x1 x2 x3 x4 r_4 0 S_5)
      · refine q_Sim.steps vc_237 3 (pc' := 73) (lv' := [(6, .inl r_4), (5, .inl r_2), (0, .inr (.inr (11, 0, 0))), (1, .inl x1), (2, .inl x2), (3, .inl x3), (4, .inl x4)]) (st' := [.inl r_2, .inr (.inr (46, 0, 0))]) (V' := q_V S_5) rfl ?_
        refine q_Sim.ck vc_237 (c := v_in r_2 200) (pc' := 74) (lv' := [(6, .inl r_4), (5, .inl r_2), (0, .inr (.inr (11, 0, 0))), (1, .inl x1), (2, .inl x2), (3, .inl x3), (4, .inl x4)]) (st' := [.inl (S_5.1 (46, 0, 0) r_2.toNatClampNeg)]) (V' := q_V S_5) rfl ?_
        refine q_Sim.letI (fun y_10 => ?_)
        refine q_Sim.steps vc_237 3 (pc' := 80) (lv' := [(6, .inl r_4), (5, .inl r_2), (0, .inr (.inr (11, 0, 0))), (1, .inl x1), (2, .inl x2), (3, .inl x3), (4, .inl x4)]) (st' := [.inl (y_10 + 1)]) (V' := q_V S_5) rfl ?_
        exact q_Sim.sub2 (lv' := [(0, .inr (.inr (11, 0, 0))), (1, .inl x1), (2, .inl x2), (3, .inl x3), (4, .inl x4), (6, .inl r_4)]) [0, 1, 2, 3, 4, 6] rfl (by decide) ⟨rfl, rfl, rfl, rfl, rfl, rfl, trivial⟩ (sb_237_80 back_29 hb_29 (b_237_38 back_29 n) (sb_237_38 back_29 hb_29 n) x1 x2 x3 x4 r_4 (y_10 + 1) S_5)
def b_237_29 : Nat → Int32 → Int32 → Int32 → QS → Option ((Unit) × QS)
  | 0, _, _, _, _ => none
  | n + 1, x1, x2, x3, S => if x3 = 0 then (some ((), S)) else (b_237_38 (b_237_29 n) q_N x1 x2 0 0 S)
theorem sb_237_29 : ∀ (n : Nat) (x1 : Int32) (x2 : Int32) (x3 : Int32) (S : QS), q_Sim 237 29 [(0, .inr (.inr (11, 0, 0))), (1, .inl x1), (2, .inl x2), (3, .inl x3)] [] (q_V S) q_U (b_237_29 n x1 x2 x3 S)
  | 0, _, _, _, _ => q_Sim.none
  | n + 1, x1, x2, x3, S => by
    rw [b_237_29]
    refine q_Sim.steps vc_237 1 (pc' := 30) (lv' := [(0, .inr (.inr (11, 0, 0))), (1, .inl x1), (2, .inl x2), (3, .inl x3)]) (st' := [.inl x3]) (V' := q_V S) rfl ?_
    refine q_Sim.br vc_237 (c := x3 = 0) (t := 156) (f := 33) (lv' := [(0, .inr (.inr (11, 0, 0))), (1, .inl x1), (2, .inl x2), (3, .inl x3)]) (st' := []) (V' := q_V S) rfl ?_ ?_
    · exact q_Sim.ret vc_237 rfl
    · refine q_Sim.steps vc_237 4 (pc' := 38) (lv' := [(4, .inl 0), (3, .inl 0), (0, .inr (.inr (11, 0, 0))), (1, .inl x1), (2, .inl x2)]) (st' := []) (V' := q_V S) rfl ?_
      exact q_Sim.sub2 (lv' := [(0, .inr (.inr (11, 0, 0))), (1, .inl x1), (2, .inl x2), (3, .inl 0), (4, .inl 0)]) [0, 1, 2, 3, 4] rfl (by decide) ⟨rfl, rfl, rfl, rfl, rfl, trivial⟩ (sb_237_38 (b_237_29 n) (sb_237_29 n) q_N x1 x2 0 0 S)
def b_237_9 : Nat → Int32 → Int32 → Int32 → QS → Option ((Unit) × QS)
  | 0, _, _, _, _ => none
  | n + 1, x1, x2, x3, S => if x2 ≤ x3 then (b_237_29 q_N x1 x2 1 S) else (q_ck (v_in x3 200) (q_let (q_set S (46, 0, 0) x3.toNatClampNeg 0) (fun S_11 => b_237_9 n x1 x2 (x3 + 1) S_11)))
theorem sb_237_9 : ∀ (n : Nat) (x1 : Int32) (x2 : Int32) (x3 : Int32) (S : QS), q_Sim 237 9 [(0, .inr (.inr (11, 0, 0))), (1, .inl x1), (2, .inl x2), (3, .inl x3)] [] (q_V S) q_U (b_237_9 n x1 x2 x3 S)
  | 0, _, _, _, _ => q_Sim.none
  | n + 1, x1, x2, x3, S => by
    rw [b_237_9]
    refine q_Sim.steps vc_237 2 (pc' := 11) (lv' := [(0, .inr (.inr (11, 0, 0))), (1, .inl x1), (2, .inl x2), (3, .inl x3)]) (st' := [.inl x2, .inl x3]) (V' := q_V S) rfl ?_
    refine q_Sim.br vc_237 (c := x2 ≤ x3) (t := 27) (f := 14) (lv' := [(0, .inr (.inr (11, 0, 0))), (1, .inl x1), (2, .inl x2), (3, .inl x3)]) (st' := []) (V' := q_V S) rfl ?_ ?_
    · refine q_Sim.steps vc_237 2 (pc' := 29) (lv' := [(3, .inl 1), (0, .inr (.inr (11, 0, 0))), (1, .inl x1), (2, .inl x2)]) (st' := []) (V' := q_V S) rfl ?_
      exact q_Sim.sub2 (lv' := [(0, .inr (.inr (11, 0, 0))), (1, .inl x1), (2, .inl x2), (3, .inl 1)]) [0, 1, 2, 3] rfl (by decide) ⟨rfl, rfl, rfl, rfl, trivial⟩ (sb_237_29 q_N x1 x2 1 S)
    · refine q_Sim.steps vc_237 4 (pc' := 20) (lv' := [(0, .inr (.inr (11, 0, 0))), (1, .inl x1), (2, .inl x2), (3, .inl x3)]) (st' := [.inl 0, .inl x3, .inr (.inr (46, 0, 0))]) (V' := q_V S) rfl ?_
      refine q_Sim.ck vc_237 (c := v_in x3 200) (pc' := 21) (lv' := [(0, .inr (.inr (11, 0, 0))), (1, .inl x1), (2, .inl x2), (3, .inl x3)]) (st' := []) (V' := q_V (q_set S (46, 0, 0) x3.toNatClampNeg 0)) rfl ?_
      refine q_Sim.letS (fun S_11 => ?_)
      refine q_Sim.steps vc_237 2 (pc' := 9) (lv' := [(3, .inl (x3 + 1)), (0, .inr (.inr (11, 0, 0))), (1, .inl x1), (2, .inl x2)]) (st' := []) (V' := q_V S_11) rfl ?_
      exact q_Sim.sub2 (lv' := [(0, .inr (.inr (11, 0, 0))), (1, .inl x1), (2, .inl x2), (3, .inl (x3 + 1))]) [0, 1, 2, 3] rfl (by decide) ⟨rfl, rfl, rfl, rfl, trivial⟩ (sb_237_9 n x1 x2 (x3 + 1) S_11)
def f_237 (x1 : Int32) (S : QS) : Option ((Unit) × QS) := q_ck (v_in 2 19520) (q_let (S.1 (40, 0, 0) (2 : Int32).toNatClampNeg) (fun y_1 => b_237_9 q_N x1 y_1 0 S))
theorem s_237 (x1 : Int32) (S : QS) : q_Sim 237 0 [(0, .inr (.inr (11, 0, 0))), (1, .inl x1)] [] (q_V S) q_U (f_237 x1 S) := by
  unfold f_237
  refine q_Sim.steps vc_237 3 (pc' := 5) (lv' := [(0, .inr (.inr (11, 0, 0))), (1, .inl x1)]) (st' := [.inl 2, .inr (.inr (40, 0, 0))]) (V' := q_V S) rfl ?_
  refine q_Sim.ck vc_237 (c := v_in 2 19520) (pc' := 6) (lv' := [(0, .inr (.inr (11, 0, 0))), (1, .inl x1)]) (st' := [.inl (S.1 (40, 0, 0) (2 : Int32).toNatClampNeg)]) (V' := q_V S) rfl ?_
  refine q_Sim.letI (fun y_1 => ?_)
  refine q_Sim.steps vc_237 3 (pc' := 9) (lv' := [(3, .inl 0), (2, .inl y_1), (0, .inr (.inr (11, 0, 0))), (1, .inl x1)]) (st' := []) (V' := q_V S) rfl ?_
  exact q_Sim.sub2 (lv' := [(0, .inr (.inr (11, 0, 0))), (1, .inl x1), (2, .inl y_1), (3, .inl 0)]) [0, 1, 2, 3] rfl (by decide) ⟨rfl, rfl, rfl, rfl, trivial⟩ (sb_237_9 q_N x1 y_1 0 S)
theorem vc_238 : v_code 238 = k_238 := rfl
theorem rc_238 (x1 : Int32) : v_rcv 238 [.inr (.inr (11, 0, 0)), .inl x1] = true := rfl
def b_238_97 (back_14 : Int32 → QS → Option ((Unit) × QS)) (back_22 : Int32 → Int32 → QS → Option ((Unit) × QS)) (x2 : Int32) (x3 : Int32) (S : QS) : Option ((Unit) × QS) := back_22 x2 (x3 + 1) S
theorem sb_238_97 (back_14 : Int32 → QS → Option ((Unit) × QS)) (hb_14 : ∀ (x2 : Int32) (S : QS), q_Sim 238 14 [(0, .inr (.inr (11, 0, 0))), (2, .inl x2)] [] (q_V S) q_U (back_14 x2 S)) (back_22 : Int32 → Int32 → QS → Option ((Unit) × QS)) (hb_22 : ∀ (x2 : Int32) (x3 : Int32) (S : QS), q_Sim 238 22 [(0, .inr (.inr (11, 0, 0))), (2, .inl x2), (3, .inl x3)] [] (q_V S) q_U (back_22 x2 x3 S)) (x2 : Int32) (x3 : Int32) (S : QS) : q_Sim 238 97 [(0, .inr (.inr (11, 0, 0))), (2, .inl x2), (3, .inl x3)] [] (q_V S) q_U (b_238_97 back_14 back_22 x2 x3 S) := by
  unfold b_238_97
  refine q_Sim.steps vc_238 2 (pc' := 22) (lv' := [(3, .inl (x3 + 1)), (0, .inr (.inr (11, 0, 0))), (2, .inl x2)]) (st' := []) (V' := q_V S) rfl ?_
  exact q_Sim.sub2 (lv' := [(0, .inr (.inr (11, 0, 0))), (2, .inl x2), (3, .inl (x3 + 1))]) [0, 2, 3] rfl (by decide) ⟨rfl, rfl, rfl, trivial⟩ (hb_22 x2 (x3 + 1) S)
def b_238_91 (back_14 : Int32 → QS → Option ((Unit) × QS)) (back_22 : Int32 → Int32 → QS → Option ((Unit) × QS)) (back_47 : Int32 → Int32 → Int32 → QS → Option ((Unit) × QS)) (x2 : Int32) (x3 : Int32) (x4 : Int32) (S : QS) : Option ((Unit) × QS) := back_47 x2 x3 (x4 + 1) S
theorem sb_238_91 (back_14 : Int32 → QS → Option ((Unit) × QS)) (hb_14 : ∀ (x2 : Int32) (S : QS), q_Sim 238 14 [(0, .inr (.inr (11, 0, 0))), (2, .inl x2)] [] (q_V S) q_U (back_14 x2 S)) (back_22 : Int32 → Int32 → QS → Option ((Unit) × QS)) (hb_22 : ∀ (x2 : Int32) (x3 : Int32) (S : QS), q_Sim 238 22 [(0, .inr (.inr (11, 0, 0))), (2, .inl x2), (3, .inl x3)] [] (q_V S) q_U (back_22 x2 x3 S)) (back_47 : Int32 → Int32 → Int32 → QS → Option ((Unit) × QS)) (hb_47 : ∀ (x2 : Int32) (x3 : Int32) (x4 : Int32) (S : QS), q_Sim 238 47 [(0, .inr (.inr (11, 0, 0))), (2, .inl x2), (3, .inl x3), (4, .inl x4)] [] (q_V S) q_U (back_47 x2 x3 x4 S)) (x2 : Int32) (x3 : Int32) (x4 : Int32) (S : QS) : q_Sim 238 91 [(0, .inr (.inr (11, 0, 0))), (2, .inl x2), (3, .inl x3), (4, .inl x4)] [] (q_V S) q_U (b_238_91 back_14 back_22 back_47 x2 x3 x4 S) := by
  unfold b_238_91
  refine q_Sim.steps vc_238 2 (pc' := 47) (lv' := [(4, .inl (x4 + 1)), (0, .inr (.inr (11, 0, 0))), (2, .inl x2), (3, .inl x3)]) (st' := []) (V' := q_V S) rfl ?_
  exact q_Sim.sub2 (lv' := [(0, .inr (.inr (11, 0, 0))), (2, .inl x2), (3, .inl x3), (4, .inl (x4 + 1))]) [0, 2, 3, 4] rfl (by decide) ⟨rfl, rfl, rfl, rfl, trivial⟩ (hb_47 x2 x3 (x4 + 1) S)
def b_238_47 (back_14 : Int32 → QS → Option ((Unit) × QS)) (back_22 : Int32 → Int32 → QS → Option ((Unit) × QS)) : Nat → Int32 → Int32 → Int32 → QS → Option ((Unit) × QS)
  | 0, _, _, _, _ => none
  | n + 1, x2, x3, x4, S => if 3 < x4 then (b_238_97 back_14 back_22 x2 x3 S) else (q_bd (f_192 x3 x4 S) (fun r_4 S_5 => if r_4 < 0 then (b_238_91 back_14 back_22 (b_238_47 back_14 back_22 n) x2 x3 x4 S_5) else (q_ck (v_in r_4 200) (q_let (S_5.1 (48, 0, 0) r_4.toNatClampNeg) (fun y_6 => if ¬ y_6 = 1 then (q_ck (v_in r_4 200) (q_let (q_set S_5 (48, 0, 0) r_4.toNatClampNeg 1) (fun S_7 => b_238_91 back_14 back_22 (b_238_47 back_14 back_22 n) 1 x3 x4 S_7))) else (b_238_91 back_14 back_22 (b_238_47 back_14 back_22 n) x2 x3 x4 S_5))))))
theorem sb_238_47 (back_14 : Int32 → QS → Option ((Unit) × QS)) (hb_14 : ∀ (x2 : Int32) (S : QS), q_Sim 238 14 [(0, .inr (.inr (11, 0, 0))), (2, .inl x2)] [] (q_V S) q_U (back_14 x2 S)) (back_22 : Int32 → Int32 → QS → Option ((Unit) × QS)) (hb_22 : ∀ (x2 : Int32) (x3 : Int32) (S : QS), q_Sim 238 22 [(0, .inr (.inr (11, 0, 0))), (2, .inl x2), (3, .inl x3)] [] (q_V S) q_U (back_22 x2 x3 S)) : ∀ (n : Nat) (x2 : Int32) (x3 : Int32) (x4 : Int32) (S : QS), q_Sim 238 47 [(0, .inr (.inr (11, 0, 0))), (2, .inl x2), (3, .inl x3), (4, .inl x4)] [] (q_V S) q_U (b_238_47 back_14 back_22 n x2 x3 x4 S)
  | 0, _, _, _, _ => q_Sim.none
  | n + 1, x2, x3, x4, S => by
    rw [b_238_47]
    refine q_Sim.steps vc_238 2 (pc' := 50) (lv' := [(0, .inr (.inr (11, 0, 0))), (2, .inl x2), (3, .inl x3), (4, .inl x4)]) (st' := [.inl 3, .inl x4]) (V' := q_V S) rfl ?_
    refine q_Sim.br vc_238 (c := 3 < x4) (t := 97) (f := 53) (lv' := [(0, .inr (.inr (11, 0, 0))), (2, .inl x2), (3, .inl x3), (4, .inl x4)]) (st' := []) (V' := q_V S) rfl ?_ ?_
    · exact q_Sim.sub2 (lv' := [(0, .inr (.inr (11, 0, 0))), (2, .inl x2), (3, .inl x3)]) [0, 2, 3] rfl (by decide) ⟨rfl, rfl, rfl, trivial⟩ (sb_238_97 back_14 hb_14 back_22 hb_22 x2 x3 S)
    · refine q_Sim.steps vc_238 3 (pc' := 57) (lv' := [(0, .inr (.inr (11, 0, 0))), (2, .inl x2), (3, .inl x3), (4, .inl x4)]) (st' := [.inl x4, .inl x3, .inr (.inr (11, 0, 0))]) (V' := q_V S) rfl ?_
      refine q_Sim.call vc_238 (as := [.inr (.inr (11, 0, 0)), .inl x3, .inl x4]) (pc' := 60) (lv' := [(0, .inr (.inr (11, 0, 0))), (2, .inl x2), (3, .inl x3), (4, .inl x4)]) (st' := []) (S := S) rfl (rc_192 x3 x4) (s_192 x3 x4 S) (fun r_4 S_5 => ?_)
      refine q_Sim.steps vc_238 2 (pc' := 64) (lv' := [(5, .inl r_4), (0, .inr (.inr (11, 0, 0))), (2, .inl x2), (3, .inl x3), (4, .inl x4)]) (st' := [.inl r_4]) (V' := q_V S_5) rfl ?_
      refine q_Sim.br vc_238 (c := r_4 < 0) (t := 91) (f := 67) (lv' := [(5, .inl r_4), (0, .inr (.inr (11, 0, 0))), (2, .inl x2), (3, .inl x3), (4, .inl x4)]) (st' := []) (V' := q_V S_5) rfl ?_ ?_
      · exact q_Sim.sub2 (lv' := [(0, .inr (.inr (11, 0, 0))), (2, .inl x2), (3, .inl x3), (4, .inl x4)]) [0, 2, 3, 4] rfl (by decide) ⟨rfl, rfl, rfl, rfl, trivial⟩ (sb_238_91 back_14 hb_14 back_22 hb_22 (b_238_47 back_14 back_22 n) (sb_238_47 back_14 hb_14 back_22 hb_22 n) x2 x3 x4 S_5)
      · refine q_Sim.steps vc_238 3 (pc' := 73) (lv' := [(5, .inl r_4), (0, .inr (.inr (11, 0, 0))), (2, .inl x2), (3, .inl x3), (4, .inl x4)]) (st' := [.inl r_4, .inr (.inr (48, 0, 0))]) (V' := q_V S_5) rfl ?_
        refine q_Sim.ck vc_238 (c := v_in r_4 200) (pc' := 74) (lv' := [(5, .inl r_4), (0, .inr (.inr (11, 0, 0))), (2, .inl x2), (3, .inl x3), (4, .inl x4)]) (st' := [.inl (S_5.1 (48, 0, 0) r_4.toNatClampNeg)]) (V' := q_V S_5) rfl ?_
        refine q_Sim.letI (fun y_6 => ?_)
        refine q_Sim.steps vc_238 1 (pc' := 75) (lv' := [(5, .inl r_4), (0, .inr (.inr (11, 0, 0))), (2, .inl x2), (3, .inl x3), (4, .inl x4)]) (st' := [.inl 1, .inl y_6]) (V' := q_V S_5) rfl ?_
        refine q_Sim.br vc_238 (c := ¬ y_6 = 1) (t := 81) (f := 78) (lv' := [(5, .inl r_4), (0, .inr (.inr (11, 0, 0))), (2, .inl x2), (3, .inl x3), (4, .inl x4)]) (st' := []) (V' := q_V S_5) rfl ?_ ?_
        · refine q_Sim.steps vc_238 4 (pc' := 88) (lv' := [(5, .inl r_4), (0, .inr (.inr (11, 0, 0))), (2, .inl x2), (3, .inl x3), (4, .inl x4)]) (st' := [.inl 1, .inl r_4, .inr (.inr (48, 0, 0))]) (V' := q_V S_5) rfl ?_
          refine q_Sim.ck vc_238 (c := v_in r_4 200) (pc' := 89) (lv' := [(5, .inl r_4), (0, .inr (.inr (11, 0, 0))), (2, .inl x2), (3, .inl x3), (4, .inl x4)]) (st' := []) (V' := q_V (q_set S_5 (48, 0, 0) r_4.toNatClampNeg 1)) rfl ?_
          refine q_Sim.letS (fun S_7 => ?_)
          refine q_Sim.steps vc_238 2 (pc' := 91) (lv' := [(2, .inl 1), (5, .inl r_4), (0, .inr (.inr (11, 0, 0))), (3, .inl x3), (4, .inl x4)]) (st' := []) (V' := q_V S_7) rfl ?_
          exact q_Sim.sub2 (lv' := [(0, .inr (.inr (11, 0, 0))), (2, .inl 1), (3, .inl x3), (4, .inl x4)]) [0, 2, 3, 4] rfl (by decide) ⟨rfl, rfl, rfl, rfl, trivial⟩ (sb_238_91 back_14 hb_14 back_22 hb_22 (b_238_47 back_14 back_22 n) (sb_238_47 back_14 hb_14 back_22 hb_22 n) 1 x3 x4 S_7)
        · refine q_Sim.steps vc_238 1 (pc' := 91) (lv' := [(5, .inl r_4), (0, .inr (.inr (11, 0, 0))), (2, .inl x2), (3, .inl x3), (4, .inl x4)]) (st' := []) (V' := q_V S_5) rfl ?_
          exact q_Sim.sub2 (lv' := [(0, .inr (.inr (11, 0, 0))), (2, .inl x2), (3, .inl x3), (4, .inl x4)]) [0, 2, 3, 4] rfl (by decide) ⟨rfl, rfl, rfl, rfl, trivial⟩ (sb_238_91 back_14 hb_14 back_22 hb_22 (b_238_47 back_14 back_22 n) (sb_238_47 back_14 hb_14 back_22 hb_22 n) x2 x3 x4 S_5)
def b_238_22 (back_14 : Int32 → QS → Option ((Unit) × QS)) : Nat → Int32 → Int32 → QS → Option ((Unit) × QS)
  | 0, _, _, _ => none
  | n + 1, x2, x3, S => q_ck (v_in 2 19520) (q_let (S.1 (40, 0, 0) (2 : Int32).toNatClampNeg) (fun y_2 => if y_2 ≤ x3 then (back_14 x2 S) else (q_ck (v_in x3 200) (q_let (S.1 (48, 0, 0) x3.toNatClampNeg) (fun y_3 => if ¬ y_3 = 0 then (b_238_47 back_14 (b_238_22 back_14 n) q_N x2 x3 2 S) else (b_238_97 back_14 (b_238_22 back_14 n) x2 x3 S))))))
theorem sb_238_22 (back_14 : Int32 → QS → Option ((Unit) × QS)) (hb_14 : ∀ (x2 : Int32) (S : QS), q_Sim 238 14 [(0, .inr (.inr (11, 0, 0))), (2, .inl x2)] [] (q_V S) q_U (back_14 x2 S)) : ∀ (n : Nat) (x2 : Int32) (x3 : Int32) (S : QS), q_Sim 238 22 [(0, .inr (.inr (11, 0, 0))), (2, .inl x2), (3, .inl x3)] [] (q_V S) q_U (b_238_22 back_14 n x2 x3 S)
  | 0, _, _, _ => q_Sim.none
  | n + 1, x2, x3, S => by
    rw [b_238_22]
    refine q_Sim.steps vc_238 4 (pc' := 28) (lv' := [(0, .inr (.inr (11, 0, 0))), (2, .inl x2), (3, .inl x3)]) (st' := [.inl 2, .inr (.inr (40, 0, 0)), .inl x3]) (V' := q_V S) rfl ?_
    refine q_Sim.ck vc_238 (c := v_in 2 19520) (pc' := 29) (lv' := [(0, .inr (.inr (11, 0, 0))), (2, .inl x2), (3, .inl x3)]) (st' := [.inl (S.1 (40, 0, 0) (2 : Int32).toNatClampNeg), .inl x3]) (V' := q_V S) rfl ?_
    refine q_Sim.letI (fun y_2 => ?_)
    refine q_Sim.br vc_238 (c := y_2 ≤ x3) (t := 103) (f := 32) (lv' := [(0, .inr (.inr (11, 0, 0))), (2, .inl x2), (3, .inl x3)]) (st' := []) (V' := q_V S) rfl ?_ ?_
    · refine q_Sim.steps vc_238 1 (pc' := 14) (lv' := [(0, .inr (.inr (11, 0, 0))), (2, .inl x2), (3, .inl x3)]) (st' := []) (V' := q_V S) rfl ?_
      exact q_Sim.sub2 (lv' := [(0, .inr (.inr (11, 0, 0))), (2, .inl x2)]) [0, 2] rfl (by decide) ⟨rfl, rfl, trivial⟩ (hb_14 x2 S)
    · refine q_Sim.steps vc_238 3 (pc' := 37) (lv' := [(0, .inr (.inr (11, 0, 0))), (2, .inl x2), (3, .inl x3)]) (st' := [.inl x3, .inr (.inr (48, 0, 0))]) (V' := q_V S) rfl ?_
      refine q_Sim.ck vc_238 (c := v_in x3 200) (pc' := 38) (lv' := [(0, .inr (.inr (11, 0, 0))), (2, .inl x2), (3, .inl x3)]) (st' := [.inl (S.1 (48, 0, 0) x3.toNatClampNeg)]) (V' := q_V S) rfl ?_
      refine q_Sim.letI (fun y_3 => ?_)
      refine q_Sim.br vc_238 (c := ¬ y_3 = 0) (t := 44) (f := 41) (lv' := [(0, .inr (.inr (11, 0, 0))), (2, .inl x2), (3, .inl x3)]) (st' := []) (V' := q_V S) rfl ?_ ?_
      · refine q_Sim.steps vc_238 2 (pc' := 47) (lv' := [(4, .inl 2), (0, .inr (.inr (11, 0, 0))), (2, .inl x2), (3, .inl x3)]) (st' := []) (V' := q_V S) rfl ?_
        exact q_Sim.sub2 (lv' := [(0, .inr (.inr (11, 0, 0))), (2, .inl x2), (3, .inl x3), (4, .inl 2)]) [0, 2, 3, 4] rfl (by decide) ⟨rfl, rfl, rfl, rfl, trivial⟩ (sb_238_47 back_14 hb_14 (b_238_22 back_14 n) (sb_238_22 back_14 hb_14 n) q_N x2 x3 2 S)
      · refine q_Sim.steps vc_238 1 (pc' := 97) (lv' := [(0, .inr (.inr (11, 0, 0))), (2, .inl x2), (3, .inl x3)]) (st' := []) (V' := q_V S) rfl ?_
        exact q_Sim.sub2 (lv' := [(0, .inr (.inr (11, 0, 0))), (2, .inl x2), (3, .inl x3)]) [0, 2, 3] rfl (by decide) ⟨rfl, rfl, rfl, trivial⟩ (sb_238_97 back_14 hb_14 (b_238_22 back_14 n) (sb_238_22 back_14 hb_14 n) x2 x3 S)
def b_238_14 : Nat → Int32 → QS → Option ((Unit) × QS)
  | 0, _, _ => none
  | n + 1, x2, S => if x2 = 0 then (some ((), S)) else (b_238_22 (b_238_14 n) q_N 0 0 S)
theorem sb_238_14 : ∀ (n : Nat) (x2 : Int32) (S : QS), q_Sim 238 14 [(0, .inr (.inr (11, 0, 0))), (2, .inl x2)] [] (q_V S) q_U (b_238_14 n x2 S)
  | 0, _, _ => q_Sim.none
  | n + 1, x2, S => by
    rw [b_238_14]
    refine q_Sim.steps vc_238 1 (pc' := 15) (lv' := [(0, .inr (.inr (11, 0, 0))), (2, .inl x2)]) (st' := [.inl x2]) (V' := q_V S) rfl ?_
    refine q_Sim.br vc_238 (c := x2 = 0) (t := 106) (f := 18) (lv' := [(0, .inr (.inr (11, 0, 0))), (2, .inl x2)]) (st' := []) (V' := q_V S) rfl ?_ ?_
    · exact q_Sim.ret vc_238 rfl
    · refine q_Sim.steps vc_238 4 (pc' := 22) (lv' := [(3, .inl 0), (2, .inl 0), (0, .inr (.inr (11, 0, 0)))]) (st' := []) (V' := q_V S) rfl ?_
      exact q_Sim.sub2 (lv' := [(0, .inr (.inr (11, 0, 0))), (2, .inl 0), (3, .inl 0)]) [0, 2, 3] rfl (by decide) ⟨rfl, rfl, rfl, trivial⟩ (sb_238_22 (b_238_14 n) (sb_238_14 n) q_N 0 0 S)
def f_238 (x1 : Int32) (S : QS) : Option ((Unit) × QS) := if 0 ≤ x1 then (q_ck (v_in x1 200) (q_let (q_set S (48, 0, 0) x1.toNatClampNeg 1) (fun S_1 => b_238_14 q_N 1 S_1))) else (some ((), S))
theorem s_238 (x1 : Int32) (S : QS) : q_Sim 238 0 [(0, .inr (.inr (11, 0, 0))), (1, .inl x1)] [] (q_V S) q_U (f_238 x1 S) := by
  unfold f_238
  refine q_Sim.steps vc_238 1 (pc' := 1) (lv' := [(0, .inr (.inr (11, 0, 0))), (1, .inl x1)]) (st' := [.inl x1]) (V' := q_V S) rfl ?_
  refine q_Sim.br vc_238 (c := 0 ≤ x1) (t := 5) (f := 4) (lv' := [(0, .inr (.inr (11, 0, 0))), (1, .inl x1)]) (st' := []) (V' := q_V S) rfl ?_ ?_
  · refine q_Sim.steps vc_238 4 (pc' := 11) (lv' := [(0, .inr (.inr (11, 0, 0))), (1, .inl x1)]) (st' := [.inl 1, .inl x1, .inr (.inr (48, 0, 0))]) (V' := q_V S) rfl ?_
    refine q_Sim.ck vc_238 (c := v_in x1 200) (pc' := 12) (lv' := [(0, .inr (.inr (11, 0, 0))), (1, .inl x1)]) (st' := []) (V' := q_V (q_set S (48, 0, 0) x1.toNatClampNeg 1)) rfl ?_
    refine q_Sim.letS (fun S_1 => ?_)
    refine q_Sim.steps vc_238 2 (pc' := 14) (lv' := [(2, .inl 1), (0, .inr (.inr (11, 0, 0))), (1, .inl x1)]) (st' := []) (V' := q_V S_1) rfl ?_
    exact q_Sim.sub2 (lv' := [(0, .inr (.inr (11, 0, 0))), (2, .inl 1)]) [0, 2] rfl (by decide) ⟨rfl, rfl, trivial⟩ (sb_238_14 q_N 1 S_1)
  · exact q_Sim.ret vc_238 rfl
theorem vc_239 : v_code 239 = k_239 := rfl
theorem rc_239 (x1 : Int32) (x2 : Int32) : v_rcv 239 [.inr (.inr (11, 0, 0)), .inl x1, .inl x2] = true := rfl
def f_239 (x1 : Int32) (x2 : Int32) (S : QS) : Option ((Int32) × QS) := if ¬ x1 = (-1) then (q_bd (f_199 x1 S) (fun r_1 S_2 => if r_1 ≤ 0 then (if x2 = 0 then (q_bd (f_192 x1 0 S_2) (fun r_3 S_4 => if ¬ r_3 = 3 then (some (3, S_4)) else (some (0, S_4)))) else (q_bd (f_204 x1 S_2) (fun r_5 S_6 => if r_5 = 0 then (some (3, S_6)) else (some (0, S_6))))) else (some (r_1, S_2)))) else (some (0, S))
theorem s_239 (x1 : Int32) (x2 : Int32) (S : QS) : q_Sim 239 0 [(0, .inr (.inr (11, 0, 0))), (1, .inl x1), (2, .inl x2)] [] (q_V S) q_I (f_239 x1 x2 S) := by
  unfold f_239
  refine q_Sim.steps vc_239 2 (pc' := 2) (lv' := [(0, .inr (.inr (11, 0, 0))), (1, .inl x1), (2, .inl x2)]) (st' := [.inl (-1), .inl x1]) (V' := q_V S) rfl ?_
  refine q_Sim.br vc_239 (c := ¬ x1 = (-1)) (t := 7) (f := 5) (lv' := [(0, .inr (.inr (11, 0, 0))), (1, .inl x1), (2, .inl x2)]) (st' := []) (V' := q_V S) rfl ?_ ?_
  · refine q_Sim.steps vc_239 2 (pc' := 9) (lv' := [(0, .inr (.inr (11, 0, 0))), (1, .inl x1), (2, .inl x2)]) (st' := [.inl x1, .inr (.inr (11, 0, 0))]) (V' := q_V S) rfl ?_
    refine q_Sim.call vc_239 (as := [.inr (.inr (11, 0, 0)), .inl x1]) (pc' := 12) (lv' := [(0, .inr (.inr (11, 0, 0))), (1, .inl x1), (2, .inl x2)]) (st' := []) (S := S) rfl (rc_199 x1) (s_199 x1 S) (fun r_1 S_2 => ?_)
    refine q_Sim.steps vc_239 2 (pc' := 14) (lv' := [(3, .inl r_1), (0, .inr (.inr (11, 0, 0))), (1, .inl x1), (2, .inl x2)]) (st' := [.inl r_1]) (V' := q_V S_2) rfl ?_
    refine q_Sim.br vc_239 (c := r_1 ≤ 0) (t := 21) (f := 17) (lv' := [(3, .inl r_1), (0, .inr (.inr (11, 0, 0))), (1, .inl x1), (2, .inl x2)]) (st' := []) (V' := q_V S_2) rfl ?_ ?_
    · refine q_Sim.steps vc_239 1 (pc' := 22) (lv' := [(3, .inl r_1), (0, .inr (.inr (11, 0, 0))), (1, .inl x1), (2, .inl x2)]) (st' := [.inl x2]) (V' := q_V S_2) rfl ?_
      refine q_Sim.br vc_239 (c := x2 = 0) (t := 41) (f := 25) (lv' := [(3, .inl r_1), (0, .inr (.inr (11, 0, 0))), (1, .inl x1), (2, .inl x2)]) (st' := []) (V' := q_V S_2) rfl ?_ ?_
      · refine q_Sim.steps vc_239 3 (pc' := 44) (lv' := [(3, .inl r_1), (0, .inr (.inr (11, 0, 0))), (1, .inl x1), (2, .inl x2)]) (st' := [.inl 0, .inl x1, .inr (.inr (11, 0, 0))]) (V' := q_V S_2) rfl ?_
        refine q_Sim.call vc_239 (as := [.inr (.inr (11, 0, 0)), .inl x1, .inl 0]) (pc' := 47) (lv' := [(3, .inl r_1), (0, .inr (.inr (11, 0, 0))), (1, .inl x1), (2, .inl x2)]) (st' := []) (S := S_2) rfl (rc_192 x1 0) (s_192 x1 0 S_2) (fun r_3 S_4 => ?_)
        refine q_Sim.steps vc_239 1 (pc' := 48) (lv' := [(3, .inl r_1), (0, .inr (.inr (11, 0, 0))), (1, .inl x1), (2, .inl x2)]) (st' := [.inl 3, .inl r_3]) (V' := q_V S_4) rfl ?_
        refine q_Sim.br vc_239 (c := ¬ r_3 = 3) (t := 55) (f := 51) (lv' := [(3, .inl r_1), (0, .inr (.inr (11, 0, 0))), (1, .inl x1), (2, .inl x2)]) (st' := []) (V' := q_V S_4) rfl ?_ ?_
        · refine q_Sim.steps vc_239 1 (pc' := 56) (lv' := [(3, .inl r_1), (0, .inr (.inr (11, 0, 0))), (1, .inl x1), (2, .inl x2)]) (st' := [.inl 3]) (V' := q_V S_4) rfl ?_
          exact q_Sim.ret vc_239 rfl
        · refine q_Sim.steps vc_239 2 (pc' := 56) (lv' := [(3, .inl r_1), (0, .inr (.inr (11, 0, 0))), (1, .inl x1), (2, .inl x2)]) (st' := [.inl 0]) (V' := q_V S_4) rfl ?_
          exact q_Sim.ret vc_239 rfl
      · refine q_Sim.steps vc_239 2 (pc' := 27) (lv' := [(3, .inl r_1), (0, .inr (.inr (11, 0, 0))), (1, .inl x1), (2, .inl x2)]) (st' := [.inl x1, .inr (.inr (11, 0, 0))]) (V' := q_V S_2) rfl ?_
        refine q_Sim.call vc_239 (as := [.inr (.inr (11, 0, 0)), .inl x1]) (pc' := 30) (lv' := [(3, .inl r_1), (0, .inr (.inr (11, 0, 0))), (1, .inl x1), (2, .inl x2)]) (st' := []) (S := S_2) rfl (rc_204 x1) (s_204 x1 S_2) (fun r_5 S_6 => ?_)
        refine q_Sim.br vc_239 (c := r_5 = 0) (t := 37) (f := 33) (lv' := [(3, .inl r_1), (0, .inr (.inr (11, 0, 0))), (1, .inl x1), (2, .inl x2)]) (st' := []) (V' := q_V S_6) rfl ?_ ?_
        · refine q_Sim.steps vc_239 2 (pc' := 56) (lv' := [(3, .inl r_1), (0, .inr (.inr (11, 0, 0))), (1, .inl x1), (2, .inl x2)]) (st' := [.inl 3]) (V' := q_V S_6) rfl ?_
          exact q_Sim.ret vc_239 rfl
        · refine q_Sim.steps vc_239 2 (pc' := 56) (lv' := [(3, .inl r_1), (0, .inr (.inr (11, 0, 0))), (1, .inl x1), (2, .inl x2)]) (st' := [.inl 0]) (V' := q_V S_6) rfl ?_
          exact q_Sim.ret vc_239 rfl
    · refine q_Sim.steps vc_239 2 (pc' := 56) (lv' := [(3, .inl r_1), (0, .inr (.inr (11, 0, 0))), (1, .inl x1), (2, .inl x2)]) (st' := [.inl r_1]) (V' := q_V S_2) rfl ?_
      exact q_Sim.ret vc_239 rfl
  · refine q_Sim.steps vc_239 1 (pc' := 6) (lv' := [(0, .inr (.inr (11, 0, 0))), (1, .inl x1), (2, .inl x2)]) (st' := [.inl 0]) (V' := q_V S) rfl ?_
    exact q_Sim.ret vc_239 rfl
theorem vc_240 : v_code 240 = k_240 := rfl
theorem rc_240 (x1 : Int32) (x2 : Int32) (x3 : Int32) : v_rcv 240 [.inr (.inr (11, 0, 0)), .inl x1, .inl x2, .inl x3] = true := rfl
def b_240_187 (back_154 : Int32 → Int32 → Int32 → Int32 → Int32 → Int32 → Int32 → QS → Option ((Int32) × QS)) (x1 : Int32) (x2 : Int32) (x3 : Int32) (x5 : Int32) (x6 : Int32) (x8 : Int32) (xs0 : Int32) (S : QS) : Option ((Int32) × QS) := back_154 x1 x2 x3 x5 x6 xs0 (x8 + 1) S
theorem sb_240_187 (back_154 : Int32 → Int32 → Int32 → Int32 → Int32 → Int32 → Int32 → QS → Option ((Int32) × QS)) (hb_154 : ∀ (x1 : Int32) (x2 : Int32) (x3 : Int32) (x5 : Int32) (x6 : Int32) (x7 : Int32) (x8 : Int32) (S : QS), q_Sim 240 154 [(0, .inr (.inr (11, 0, 0))), (1, .inl x1), (2, .inl x2), (3, .inl x3), (5, .inl x5), (6, .inl x6), (7, .inl x7), (8, .inl x8)] [] (q_V S) q_I (back_154 x1 x2 x3 x5 x6 x7 x8 S)) (x1 : Int32) (x2 : Int32) (x3 : Int32) (x5 : Int32) (x6 : Int32) (x8 : Int32) (xs0 : Int32) (S : QS) : q_Sim 240 187 [(0, .inr (.inr (11, 0, 0))), (1, .inl x1), (2, .inl x2), (3, .inl x3), (5, .inl x5), (6, .inl x6), (8, .inl x8)] [.inl xs0] (q_V S) q_I (b_240_187 back_154 x1 x2 x3 x5 x6 x8 xs0 S) := by
  unfold b_240_187
  refine q_Sim.steps vc_240 3 (pc' := 154) (lv' := [(8, .inl (x8 + 1)), (7, .inl xs0), (0, .inr (.inr (11, 0, 0))), (1, .inl x1), (2, .inl x2), (3, .inl x3), (5, .inl x5), (6, .inl x6)]) (st' := []) (V' := q_V S) rfl ?_
  exact q_Sim.sub2 (lv' := [(0, .inr (.inr (11, 0, 0))), (1, .inl x1), (2, .inl x2), (3, .inl x3), (5, .inl x5), (6, .inl x6), (7, .inl xs0), (8, .inl (x8 + 1))]) [0, 1, 2, 3, 5, 6, 7, 8] rfl (by decide) ⟨rfl, rfl, rfl, rfl, rfl, rfl, rfl, rfl, trivial⟩ (hb_154 x1 x2 x3 x5 x6 xs0 (x8 + 1) S)
def b_240_182 (back_154 : Int32 → Int32 → Int32 → Int32 → Int32 → Int32 → Int32 → QS → Option ((Int32) × QS)) (x1 : Int32) (x2 : Int32) (x3 : Int32) (x5 : Int32) (x6 : Int32) (x8 : Int32) (S : QS) : Option ((Int32) × QS) := b_240_187 back_154 x1 x2 x3 x5 x6 x8 1 S
theorem sb_240_182 (back_154 : Int32 → Int32 → Int32 → Int32 → Int32 → Int32 → Int32 → QS → Option ((Int32) × QS)) (hb_154 : ∀ (x1 : Int32) (x2 : Int32) (x3 : Int32) (x5 : Int32) (x6 : Int32) (x7 : Int32) (x8 : Int32) (S : QS), q_Sim 240 154 [(0, .inr (.inr (11, 0, 0))), (1, .inl x1), (2, .inl x2), (3, .inl x3), (5, .inl x5), (6, .inl x6), (7, .inl x7), (8, .inl x8)] [] (q_V S) q_I (back_154 x1 x2 x3 x5 x6 x7 x8 S)) (x1 : Int32) (x2 : Int32) (x3 : Int32) (x5 : Int32) (x6 : Int32) (x8 : Int32) (S : QS) : q_Sim 240 182 [(0, .inr (.inr (11, 0, 0))), (1, .inl x1), (2, .inl x2), (3, .inl x3), (5, .inl x5), (6, .inl x6), (8, .inl x8)] [] (q_V S) q_I (b_240_182 back_154 x1 x2 x3 x5 x6 x8 S) := by
  unfold b_240_182
  refine q_Sim.steps vc_240 2 (pc' := 187) (lv' := [(0, .inr (.inr (11, 0, 0))), (1, .inl x1), (2, .inl x2), (3, .inl x3), (5, .inl x5), (6, .inl x6), (8, .inl x8)]) (st' := [.inl 1]) (V' := q_V S) rfl ?_
  exact q_Sim.sub2 (lv' := [(0, .inr (.inr (11, 0, 0))), (1, .inl x1), (2, .inl x2), (3, .inl x3), (5, .inl x5), (6, .inl x6), (8, .inl x8)]) [0, 1, 2, 3, 5, 6, 8] rfl (by decide) ⟨rfl, rfl, rfl, rfl, rfl, rfl, rfl, trivial⟩ (sb_240_187 back_154 hb_154 x1 x2 x3 x5 x6 x8 1 S)
def b_240_154 : Nat → Int32 → Int32 → Int32 → Int32 → Int32 → Int32 → Int32 → QS → Option ((Int32) × QS)
  | 0, _, _, _, _, _, _, _, _ => none
  | n + 1, x1, x2, x3, x5, x6, x7, x8, S => q_ck (v_in 2 19520) (q_let (S.1 (40, 0, 0) (2 : Int32).toNatClampNeg) (fun y_26 => if y_26 ≤ x8 then (q_bd (f_193 x1 2 x5 S) (fun r_27 S_28 => q_bd (f_193 x1 3 x6 S_28) (fun r_29 S_30 => if x7 = 0 then (q_bd (f_188  S_30) (fun r_31 S_32 => q_bd (f_193 x1 2 x2 S_32) (fun r_33 S_34 => q_bd (f_193 x1 3 x3 S_34) (fun r_35 S_36 => q_ck (v_in x1 200) (q_let (S_36.1 (46, 0, 0) x1.toNatClampNeg) (fun y_37 => q_bd (f_187 y_37 S_36) (fun r_38 S_39 => some (r_38, S_39)))))))) else (q_bd (f_186 6 S_30) (fun r_40 S_41 => some (r_40, S_41)))))) else (if ¬ x7 = 0 then (b_240_182 (b_240_154 n) x1 x2 x3 x5 x6 x8 S) else (q_ck (v_in x8 200) (q_let (S.1 (46, 0, 0) x8.toNatClampNeg) (fun y_42 => if y_42 ≤ 15 then (b_240_187 (b_240_154 n) x1 x2 x3 x5 x6 x8 0 S) else (b_240_182 (b_240_154 n) x1 x2 x3 x5 x6 x8 S)))))))
theorem sb_240_154 : ∀ (n : Nat) (x1 : Int32) (x2 : Int32) (x3 : Int32) (x5 : Int32) (x6 : Int32) (x7 : Int32) (x8 : Int32) (S : QS), q_Sim 240 154 [(0, .inr (.inr (11, 0, 0))), (1, .inl x1), (2, .inl x2), (3, .inl x3), (5, .inl x5), (6, .inl x6), (7, .inl x7), (8, .inl x8)] [] (q_V S) q_I (b_240_154 n x1 x2 x3 x5 x6 x7 x8 S)
  | 0, _, _, _, _, _, _, _, _ => q_Sim.none
  | n + 1, x1, x2, x3, x5, x6, x7, x8, S => by
    rw [b_240_154]
    refine q_Sim.steps vc_240 4 (pc' := 161) (lv' := [(0, .inr (.inr (11, 0, 0))), (1, .inl x1), (2, .inl x2), (3, .inl x3), (5, .inl x5), (6, .inl x6), (7, .inl x7), (8, .inl x8)]) (st' := [.inl 2, .inr (.inr (40, 0, 0)), .inl x8]) (V' := q_V S) rfl ?_
    refine q_Sim.ck vc_240 (c := v_in 2 19520) (pc' := 162) (lv' := [(0, .inr (.inr (11, 0, 0))), (1, .inl x1), (2, .inl x2), (3, .inl x3), (5, .inl x5), (6, .inl x6), (7, .inl x7), (8, .inl x8)]) (st' := [.inl (S.1 (40, 0, 0) (2 : Int32).toNatClampNeg), .inl x8]) (V' := q_V S) rfl ?_
    refine q_Sim.letI (fun y_26 => ?_)
    refine q_Sim.br vc_240 (c := y_26 ≤ x8) (t := 195) (f := 165) (lv' := [(0, .inr (.inr (11, 0, 0))), (1, .inl x1), (2, .inl x2), (3, .inl x3), (5, .inl x5), (6, .inl x6), (7, .inl x7), (8, .inl x8)]) (st' := []) (V' := q_V S) rfl ?_ ?_
    · refine q_Sim.steps vc_240 4 (pc' := 200) (lv' := [(0, .inr (.inr (11, 0, 0))), (1, .inl x1), (2, .inl x2), (3, .inl x3), (5, .inl x5), (6, .inl x6), (7, .inl x7), (8, .inl x8)]) (st' := [.inl x5, .inl 2, .inl x1, .inr (.inr (11, 0, 0))]) (V' := q_V S) rfl ?_
      refine q_Sim.call vc_240 (as := [.inr (.inr (11, 0, 0)), .inl x1, .inl 2, .inl x5]) (pc' := 203) (lv' := [(0, .inr (.inr (11, 0, 0))), (1, .inl x1), (2, .inl x2), (3, .inl x3), (5, .inl x5), (6, .inl x6), (7, .inl x7), (8, .inl x8)]) (st' := []) (S := S) rfl (rc_193 x1 2 x5) (s_193 x1 2 x5 S) (fun r_27 S_28 => ?_)
      refine q_Sim.steps vc_240 4 (pc' := 208) (lv' := [(0, .inr (.inr (11, 0, 0))), (1, .inl x1), (2, .inl x2), (3, .inl x3), (5, .inl x5), (6, .inl x6), (7, .inl x7), (8, .inl x8)]) (st' := [.inl x6, .inl 3, .inl x1, .inr (.inr (11, 0, 0))]) (V' := q_V S_28) rfl ?_
      refine q_Sim.call vc_240 (as := [.inr (.inr (11, 0, 0)), .inl x1, .inl 3, .inl x6]) (pc' := 211) (lv' := [(0, .inr (.inr (11, 0, 0))), (1, .inl x1), (2, .inl x2), (3, .inl x3), (5, .inl x5), (6, .inl x6), (7, .inl x7), (8, .inl x8)]) (st' := []) (S := S_28) rfl (rc_193 x1 3 x6) (s_193 x1 3 x6 S_28) (fun r_29 S_30 => ?_)
      refine q_Sim.steps vc_240 1 (pc' := 213) (lv' := [(0, .inr (.inr (11, 0, 0))), (1, .inl x1), (2, .inl x2), (3, .inl x3), (5, .inl x5), (6, .inl x6), (7, .inl x7), (8, .inl x8)]) (st' := [.inl x7]) (V' := q_V S_30) rfl ?_
      refine q_Sim.br vc_240 (c := x7 = 0) (t := 223) (f := 216) (lv' := [(0, .inr (.inr (11, 0, 0))), (1, .inl x1), (2, .inl x2), (3, .inl x3), (5, .inl x5), (6, .inl x6), (7, .inl x7), (8, .inl x8)]) (st' := []) (V' := q_V S_30) rfl ?_ ?_
      · refine q_Sim.steps vc_240 1 (pc' := 224) (lv' := [(0, .inr (.inr (11, 0, 0))), (1, .inl x1), (2, .inl x2), (3, .inl x3), (5, .inl x5), (6, .inl x6), (7, .inl x7), (8, .inl x8)]) (st' := [.inr (.inr (11, 0, 0))]) (V' := q_V S_30) rfl ?_
        refine q_Sim.call vc_240 (as := [.inr (.inr (11, 0, 0))]) (pc' := 227) (lv' := [(0, .inr (.inr (11, 0, 0))), (1, .inl x1), (2, .inl x2), (3, .inl x3), (5, .inl x5), (6, .inl x6), (7, .inl x7), (8, .inl x8)]) (st' := []) (S := S_30) rfl (rc_188 ) (s_188  S_30) (fun r_31 S_32 => ?_)
        refine q_Sim.steps vc_240 4 (pc' := 231) (lv' := [(0, .inr (.inr (11, 0, 0))), (1, .inl x1), (2, .inl x2), (3, .inl x3), (5, .inl x5), (6, .inl x6), (7, .inl x7), (8, .inl x8)]) (st' := [.inl x2, .inl 2, .inl x1, .inr (.inr (11, 0, 0))]) (V' := q_V S_32) rfl ?_
        refine q_Sim.call vc_240 (as := [.inr (.inr (11, 0, 0)), .inl x1, .inl 2, .inl x2]) (pc' := 234) (lv' := [(0, .inr (.inr (11, 0, 0))), (1, .inl x1), (2, .inl x2), (3, .inl x3), (5, .inl x5), (6, .inl x6), (7, .inl x7), (8, .inl x8)]) (st' := []) (S := S_32) rfl (rc_193 x1 2 x2) (s_193 x1 2 x2 S_32) (fun r_33 S_34 => ?_)
        refine q_Sim.steps vc_240 4 (pc' := 238) (lv' := [(0, .inr (.inr (11, 0, 0))), (1, .inl x1), (2, .inl x2), (3, .inl x3), (5, .inl x5), (6, .inl x6), (7, .inl x7), (8, .inl x8)]) (st' := [.inl x3, .inl 3, .inl x1, .inr (.inr (11, 0, 0))]) (V' := q_V S_34) rfl ?_
        refine q_Sim.call vc_240 (as := [.inr (.inr (11, 0, 0)), .inl x1, .inl 3, .inl x3]) (pc' := 241) (lv' := [(0, .inr (.inr (11, 0, 0))), (1, .inl x1), (2, .inl x2), (3, .inl x3), (5, .inl x5), (6, .inl x6), (7, .inl x7), (8, .inl x8)]) (st' := []) (S := S_34) rfl (rc_193 x1 3 x3) (s_193 x1 3 x3 S_34) (fun r_35 S_36 => ?_)
        refine q_Sim.steps vc_240 4 (pc' := 247) (lv' := [(0, .inr (.inr (11, 0, 0))), (1, .inl x1), (2, .inl x2), (3, .inl x3), (5, .inl x5), (6, .inl x6), (7, .inl x7), (8, .inl x8)]) (st' := [.inl x1, .inr (.inr (46, 0, 0)), .inr (.inr (11, 0, 0))]) (V' := q_V S_36) rfl ?_
        refine q_Sim.ck vc_240 (c := v_in x1 200) (pc' := 248) (lv' := [(0, .inr (.inr (11, 0, 0))), (1, .inl x1), (2, .inl x2), (3, .inl x3), (5, .inl x5), (6, .inl x6), (7, .inl x7), (8, .inl x8)]) (st' := [.inl (S_36.1 (46, 0, 0) x1.toNatClampNeg), .inr (.inr (11, 0, 0))]) (V' := q_V S_36) rfl ?_
        refine q_Sim.letI (fun y_37 => ?_)
        refine q_Sim.call vc_240 (as := [.inr (.inr (11, 0, 0)), .inl y_37]) (pc' := 251) (lv' := [(0, .inr (.inr (11, 0, 0))), (1, .inl x1), (2, .inl x2), (3, .inl x3), (5, .inl x5), (6, .inl x6), (7, .inl x7), (8, .inl x8)]) (st' := []) (S := S_36) rfl (rc_187 y_37) (s_187 y_37 S_36) (fun r_38 S_39 => ?_)
        exact q_Sim.ret vc_240 rfl
      · refine q_Sim.steps vc_240 2 (pc' := 219) (lv' := [(0, .inr (.inr (11, 0, 0))), (1, .inl x1), (2, .inl x2), (3, .inl x3), (5, .inl x5), (6, .inl x6), (7, .inl x7), (8, .inl x8)]) (st' := [.inl 6, .inr (.inr (11, 0, 0))]) (V' := q_V S_30) rfl ?_
        refine q_Sim.call vc_240 (as := [.inr (.inr (11, 0, 0)), .inl 6]) (pc' := 222) (lv' := [(0, .inr (.inr (11, 0, 0))), (1, .inl x1), (2, .inl x2), (3, .inl x3), (5, .inl x5), (6, .inl x6), (7, .inl x7), (8, .inl x8)]) (st' := []) (S := S_30) rfl (rc_186 6) (s_186 6 S_30) (fun r_40 S_41 => ?_)
        exact q_Sim.ret vc_240 rfl
    · refine q_Sim.steps vc_240 1 (pc' := 167) (lv' := [(0, .inr (.inr (11, 0, 0))), (1, .inl x1), (2, .inl x2), (3, .inl x3), (5, .inl x5), (6, .inl x6), (7, .inl x7), (8, .inl x8)]) (st' := [.inl x7]) (V' := q_V S) rfl ?_
      refine q_Sim.br vc_240 (c := ¬ x7 = 0) (t := 182) (f := 170) (lv' := [(0, .inr (.inr (11, 0, 0))), (1, .inl x1), (2, .inl x2), (3, .inl x3), (5, .inl x5), (6, .inl x6), (7, .inl x7), (8, .inl x8)]) (st' := []) (V' := q_V S) rfl ?_ ?_
      · exact q_Sim.sub2 (lv' := [(0, .inr (.inr (11, 0, 0))), (1, .inl x1), (2, .inl x2), (3, .inl x3), (5, .inl x5), (6, .inl x6), (8, .inl x8)]) [0, 1, 2, 3, 5, 6, 8] rfl (by decide) ⟨rfl, rfl, rfl, rfl, rfl, rfl, rfl, trivial⟩ (sb_240_182 (b_240_154 n) (sb_240_154 n) x1 x2 x3 x5 x6 x8 S)
      · refine q_Sim.steps vc_240 3 (pc' := 176) (lv' := [(0, .inr (.inr (11, 0, 0))), (1, .inl x1), (2, .inl x2), (3, .inl x3), (5, .inl x5), (6, .inl x6), (7, .inl x7), (8, .inl x8)]) (st' := [.inl x8, .inr (.inr (46, 0, 0))]) (V' := q_V S) rfl ?_
        refine q_Sim.ck vc_240 (c := v_in x8 200) (pc' := 177) (lv' := [(0, .inr (.inr (11, 0, 0))), (1, .inl x1), (2, .inl x2), (3, .inl x3), (5, .inl x5), (6, .inl x6), (7, .inl x7), (8, .inl x8)]) (st' := [.inl (S.1 (46, 0, 0) x8.toNatClampNeg)]) (V' := q_V S) rfl ?_
        refine q_Sim.letI (fun y_42 => ?_)
        refine q_Sim.steps vc_240 1 (pc' := 179) (lv' := [(0, .inr (.inr (11, 0, 0))), (1, .inl x1), (2, .inl x2), (3, .inl x3), (5, .inl x5), (6, .inl x6), (7, .inl x7), (8, .inl x8)]) (st' := [.inl 15, .inl y_42]) (V' := q_V S) rfl ?_
        refine q_Sim.br vc_240 (c := y_42 ≤ 15) (t := 186) (f := 182) (lv' := [(0, .inr (.inr (11, 0, 0))), (1, .inl x1), (2, .inl x2), (3, .inl x3), (5, .inl x5), (6, .inl x6), (7, .inl x7), (8, .inl x8)]) (st' := []) (V' := q_V S) rfl ?_ ?_
        · refine q_Sim.steps vc_240 1 (pc' := 187) (lv' := [(0, .inr (.inr (11, 0, 0))), (1, .inl x1), (2, .inl x2), (3, .inl x3), (5, .inl x5), (6, .inl x6), (7, .inl x7), (8, .inl x8)]) (st' := [.inl 0]) (V' := q_V S) rfl ?_
          exact q_Sim.sub2 (lv' := [(0, .inr (.inr (11, 0, 0))), (1, .inl x1), (2, .inl x2), (3, .inl x3), (5, .inl x5), (6, .inl x6), (8, .inl x8)]) [0, 1, 2, 3, 5, 6, 8] rfl (by decide) ⟨rfl, rfl, rfl, rfl, rfl, rfl, rfl, trivial⟩ (sb_240_187 (b_240_154 n) (sb_240_154 n) x1 x2 x3 x5 x6 x8 0 S)
        · exact q_Sim.sub2 (lv' := [(0, .inr (.inr (11, 0, 0))), (1, .inl x1), (2, .inl x2), (3, .inl x3), (5, .inl x5), (6, .inl x6), (8, .inl x8)]) [0, 1, 2, 3, 5, 6, 8] rfl (by decide) ⟨rfl, rfl, rfl, rfl, rfl, rfl, rfl, trivial⟩ (sb_240_182 (b_240_154 n) (sb_240_154 n) x1 x2 x3 x5 x6 x8 S)
def b_240_63 : Nat → Int32 → Int32 → Int32 → Int32 → QS → Option ((Int32) × QS)
  | 0, _, _, _, _, _ => none
  | n + 1, x1, x2, x3, x5, S => if 200 ≤ x5 then (q_bd (f_238 x2 S) (fun r_11 S_12 => q_bd (f_238 x3 S_12) (fun r_13 S_14 => q_ck (v_in x1 200) (q_let (S_14.1 (48, 0, 0) x1.toNatClampNeg) (fun y_15 => if ¬ y_15 = 1 then (q_bd (f_192 x1 2 S_14) (fun r_16 S_17 => q_bd (f_192 x1 3 S_17) (fun r_18 S_19 => q_bd (f_193 x1 2 x2 S_19) (fun r_20 S_21 => q_bd (f_193 x1 3 x3 S_21) (fun r_22 S_23 => q_bd (f_237 16 S_23) (fun r_24 S_25 => b_240_154 q_N x1 x2 x3 r_16 r_18 0 0 S_25)))))) else (q_bd (f_186 7 S_14) (fun r_43 S_44 => some (r_43, S_44)))))))) else (q_ck (v_in x5 200) (q_let (q_set S (48, 0, 0) x5.toNatClampNeg 0) (fun S_45 => b_240_63 n x1 x2 x3 (x5 + 1) S_45)))
theorem sb_240_63 : ∀ (n : Nat) (x1 : Int32) (x2 : Int32) (x3 : Int32) (x5 : Int32) (S : QS), q_Sim 240 63 [(0, .inr (.inr (11, 0, 0))), (1, .inl x1), (2, .inl x2), (3, .inl x3), (5, .inl x5)] [] (q_V S) q_I (b_240_63 n x1 x2 x3 x5 S)
  | 0, _, _, _, _, _ => q_Sim.none
  | n + 1, x1, x2, x3, x5, S => by
    rw [b_240_63]
    refine q_Sim.steps vc_240 2 (pc' := 68) (lv' := [(0, .inr (.inr (11, 0, 0))), (1, .inl x1), (2, .inl x2), (3, .inl x3), (5, .inl x5)]) (st' := [.inl 200, .inl x5]) (V' := q_V S) rfl ?_
    refine q_Sim.br vc_240 (c := 200 ≤ x5) (t := 85) (f := 71) (lv' := [(0, .inr (.inr (11, 0, 0))), (1, .inl x1), (2, .inl x2), (3, .inl x3), (5, .inl x5)]) (st' := []) (V' := q_V S) rfl ?_ ?_
    · refine q_Sim.steps vc_240 2 (pc' := 87) (lv' := [(0, .inr (.inr (11, 0, 0))), (1, .inl x1), (2, .inl x2), (3, .inl x3), (5, .inl x5)]) (st' := [.inl x2, .inr (.inr (11, 0, 0))]) (V' := q_V S) rfl ?_
      refine q_Sim.call vc_240 (as := [.inr (.inr (11, 0, 0)), .inl x2]) (pc' := 90) (lv' := [(0, .inr (.inr (11, 0, 0))), (1, .inl x1), (2, .inl x2), (3, .inl x3), (5, .inl x5)]) (st' := []) (S := S) rfl (rc_238 x2) (s_238 x2 S) (fun r_11 S_12 => ?_)
      refine q_Sim.steps vc_240 2 (pc' := 92) (lv' := [(0, .inr (.inr (11, 0, 0))), (1, .inl x1), (2, .inl x2), (3, .inl x3), (5, .inl x5)]) (st' := [.inl x3, .inr (.inr (11, 0, 0))]) (V' := q_V S_12) rfl ?_
      refine q_Sim.call vc_240 (as := [.inr (.inr (11, 0, 0)), .inl x3]) (pc' := 95) (lv' := [(0, .inr (.inr (11, 0, 0))), (1, .inl x1), (2, .inl x2), (3, .inl x3), (5, .inl x5)]) (st' := []) (S := S_12) rfl (rc_238 x3) (s_238 x3 S_12) (fun r_13 S_14 => ?_)
      refine q_Sim.steps vc_240 3 (pc' := 100) (lv' := [(0, .inr (.inr (11, 0, 0))), (1, .inl x1), (2, .inl x2), (3, .inl x3), (5, .inl x5)]) (st' := [.inl x1, .inr (.inr (48, 0, 0))]) (V' := q_V S_14) rfl ?_
      refine q_Sim.ck vc_240 (c := v_in x1 200) (pc' := 101) (lv' := [(0, .inr (.inr (11, 0, 0))), (1, .inl x1), (2, .inl x2), (3, .inl x3), (5, .inl x5)]) (st' := [.inl (S_14.1 (48, 0, 0) x1.toNatClampNeg)]) (V' := q_V S_14) rfl ?_
      refine q_Sim.letI (fun y_15 => ?_)
      refine q_Sim.steps vc_240 1 (pc' := 102) (lv' := [(0, .inr (.inr (11, 0, 0))), (1, .inl x1), (2, .inl x2), (3, .inl x3), (5, .inl x5)]) (st' := [.inl 1, .inl y_15]) (V' := q_V S_14) rfl ?_
      refine q_Sim.br vc_240 (c := ¬ y_15 = 1) (t := 112) (f := 105) (lv' := [(0, .inr (.inr (11, 0, 0))), (1, .inl x1), (2, .inl x2), (3, .inl x3), (5, .inl x5)]) (st' := []) (V' := q_V S_14) rfl ?_ ?_
      · refine q_Sim.steps vc_240 3 (pc' := 115) (lv' := [(0, .inr (.inr (11, 0, 0))), (1, .inl x1), (2, .inl x2), (3, .inl x3), (5, .inl x5)]) (st' := [.inl 2, .inl x1, .inr (.inr (11, 0, 0))]) (V' := q_V S_14) rfl ?_
        refine q_Sim.call vc_240 (as := [.inr (.inr (11, 0, 0)), .inl x1, .inl 2]) (pc' := 118) (lv' := [(0, .inr (.inr (11, 0, 0))), (1, .inl x1), (2, .inl x2), (3, .inl x3), (5, .inl x5)]) (st' := []) (S := S_14) rfl (rc_192 x1 2) (s_192 x1 2 S_14) (fun r_16 S_17 => ?_)
        refine q_Sim.steps vc_240 4 (pc' := 123) (lv' := [(5, .inl r_16), (0, .inr (.inr (11, 0, 0))), (1, .inl x1), (2, .inl x2), (3, .inl x3)]) (st' := [.inl 3, .inl x1, .inr (.inr (11, 0, 0))]) (V' := q_V S_17) rfl ?_
        refine q_Sim.call vc_240 (as := [.inr (.inr (11, 0, 0)), .inl x1, .inl 3]) (pc' := 126) (lv' := [(5, .inl r_16), (0, .inr (.inr (11, 0, 0))), (1, .inl x1), (2, .inl x2), (3, .inl x3)]) (st' := []) (S := S_17) rfl (rc_192 x1 3) (s_192 x1 3 S_17) (fun r_18 S_19 => ?_)
        refine q_Sim.steps vc_240 5 (pc' := 132) (lv' := [(6, .inl r_18), (5, .inl r_16), (0, .inr (.inr (11, 0, 0))), (1, .inl x1), (2, .inl x2), (3, .inl x3)]) (st' := [.inl x2, .inl 2, .inl x1, .inr (.inr (11, 0, 0))]) (V' := q_V S_19) rfl ?_
        refine q_Sim.call vc_240 (as := [.inr (.inr (11, 0, 0)), .inl x1, .inl 2, .inl x2]) (pc' := 135) (lv' := [(6, .inl r_18), (5, .inl r_16), (0, .inr (.inr (11, 0, 0))), (1, .inl x1), (2, .inl x2), (3, .inl x3)]) (st' := []) (S := S_19) rfl (rc_193 x1 2 x2) (s_193 x1 2 x2 S_19) (fun r_20 S_21 => ?_)
        refine q_Sim.steps vc_240 4 (pc' := 139) (lv' := [(6, .inl r_18), (5, .inl r_16), (0, .inr (.inr (11, 0, 0))), (1, .inl x1), (2, .inl x2), (3, .inl x3)]) (st' := [.inl x3, .inl 3, .inl x1, .inr (.inr (11, 0, 0))]) (V' := q_V S_21) rfl ?_
        refine q_Sim.call vc_240 (as := [.inr (.inr (11, 0, 0)), .inl x1, .inl 3, .inl x3]) (pc' := 142) (lv' := [(6, .inl r_18), (5, .inl r_16), (0, .inr (.inr (11, 0, 0))), (1, .inl x1), (2, .inl x2), (3, .inl x3)]) (st' := []) (S := S_21) rfl (rc_193 x1 3 x3) (s_193 x1 3 x3 S_21) (fun r_22 S_23 => ?_)
        refine q_Sim.steps vc_240 2 (pc' := 145) (lv' := [(6, .inl r_18), (5, .inl r_16), (0, .inr (.inr (11, 0, 0))), (1, .inl x1), (2, .inl x2), (3, .inl x3)]) (st' := [.inl 16, .inr (.inr (11, 0, 0))]) (V' := q_V S_23) rfl ?_
        refine q_Sim.call vc_240 (as := [.inr (.inr (11, 0, 0)), .inl 16]) (pc' := 148) (lv' := [(6, .inl r_18), (5, .inl r_16), (0, .inr (.inr (11, 0, 0))), (1, .inl x1), (2, .inl x2), (3, .inl x3)]) (st' := []) (S := S_23) rfl (rc_237 16) (s_237 16 S_23) (fun r_24 S_25 => ?_)
        refine q_Sim.steps vc_240 4 (pc' := 154) (lv' := [(8, .inl 0), (7, .inl 0), (6, .inl r_18), (5, .inl r_16), (0, .inr (.inr (11, 0, 0))), (1, .inl x1), (2, .inl x2), (3, .inl x3)]) (st' := []) (V' := q_V S_25) rfl ?_
        exact q_Sim.sub2 (lv' := [(0, .inr (.inr (11, 0, 0))), (1, .inl x1), (2, .inl x2), (3, .inl x3), (5, .inl r_16), (6, .inl r_18), (7, .inl 0), (8, .inl 0)]) [0, 1, 2, 3, 5, 6, 7, 8] rfl (by decide) ⟨rfl, rfl, rfl, rfl, rfl, rfl, rfl, rfl, trivial⟩ (sb_240_154 q_N x1 x2 x3 r_16 r_18 0 0 S_25)
      · refine q_Sim.steps vc_240 2 (pc' := 108) (lv' := [(0, .inr (.inr (11, 0, 0))), (1, .inl x1), (2, .inl x2), (3, .inl x3), (5, .inl x5)]) (st' := [.inl 7, .inr (.inr (11, 0, 0))]) (V' := q_V S_14) rfl ?_
        refine q_Sim.call vc_240 (as := [.inr (.inr (11, 0, 0)), .inl 7]) (pc' := 111) (lv' := [(0, .inr (.inr (11, 0, 0))), (1, .inl x1), (2, .inl x2), (3, .inl x3), (5, .inl x5)]) (st' := []) (S := S_14) rfl (rc_186 7) (s_186 7 S_14) (fun r_43 S_44 => ?_)
        exact q_Sim.ret vc_240 rfl
    · refine q_Sim.steps vc_240 4 (pc' := 78) (lv' := [(0, .inr (.inr (11, 0, 0))), (1, .inl x1), (2, .inl x2), (3, .inl x3), (5, .inl x5)]) (st' := [.inl 0, .inl x5, .inr (.inr (48, 0, 0))]) (V' := q_V S) rfl ?_
      refine q_Sim.ck vc_240 (c := v_in x5 200) (pc' := 79) (lv' := [(0, .inr (.inr (11, 0, 0))), (1, .inl x1), (2, .inl x2), (3, .inl x3), (5, .inl x5)]) (st' := []) (V' := q_V (q_set S (48, 0, 0) x5.toNatClampNeg 0)) rfl ?_
      refine q_Sim.letS (fun S_45 => ?_)
      refine q_Sim.steps vc_240 2 (pc' := 63) (lv' := [(5, .inl (x5 + 1)), (0, .inr (.inr (11, 0, 0))), (1, .inl x1), (2, .inl x2), (3, .inl x3)]) (st' := []) (V' := q_V S_45) rfl ?_
      exact q_Sim.sub2 (lv' := [(0, .inr (.inr (11, 0, 0))), (1, .inl x1), (2, .inl x2), (3, .inl x3), (5, .inl (x5 + 1))]) [0, 1, 2, 3, 5] rfl (by decide) ⟨rfl, rfl, rfl, rfl, rfl, trivial⟩ (sb_240_63 n x1 x2 x3 (x5 + 1) S_45)
def b_240_48 (x1 : Int32) (x2 : Int32) (x3 : Int32) (x4 : Int32) (S : QS) : Option ((Int32) × QS) := if x4 ≤ 0 then (b_240_63 q_N x1 x2 x3 0 S) else (q_bd (f_186 x4 S) (fun r_46 S_47 => some (r_46, S_47)))
theorem sb_240_48 (x1 : Int32) (x2 : Int32) (x3 : Int32) (x4 : Int32) (S : QS) : q_Sim 240 48 [(0, .inr (.inr (11, 0, 0))), (1, .inl x1), (2, .inl x2), (3, .inl x3), (4, .inl x4)] [] (q_V S) q_I (b_240_48 x1 x2 x3 x4 S) := by
  unfold b_240_48
  refine q_Sim.steps vc_240 1 (pc' := 50) (lv' := [(0, .inr (.inr (11, 0, 0))), (1, .inl x1), (2, .inl x2), (3, .inl x3), (4, .inl x4)]) (st' := [.inl x4]) (V' := q_V S) rfl ?_
  refine q_Sim.br vc_240 (c := x4 ≤ 0) (t := 60) (f := 53) (lv' := [(0, .inr (.inr (11, 0, 0))), (1, .inl x1), (2, .inl x2), (3, .inl x3), (4, .inl x4)]) (st' := []) (V' := q_V S) rfl ?_ ?_
  · refine q_Sim.steps vc_240 2 (pc' := 63) (lv' := [(5, .inl 0), (0, .inr (.inr (11, 0, 0))), (1, .inl x1), (2, .inl x2), (3, .inl x3), (4, .inl x4)]) (st' := []) (V' := q_V S) rfl ?_
    exact q_Sim.sub2 (lv' := [(0, .inr (.inr (11, 0, 0))), (1, .inl x1), (2, .inl x2), (3, .inl x3), (5, .inl 0)]) [0, 1, 2, 3, 5] rfl (by decide) ⟨rfl, rfl, rfl, rfl, rfl, trivial⟩ (sb_240_63 q_N x1 x2 x3 0 S)
  · refine q_Sim.steps vc_240 2 (pc' := 56) (lv' := [(0, .inr (.inr (11, 0, 0))), (1, .inl x1), (2, .inl x2), (3, .inl x3), (4, .inl x4)]) (st' := [.inl x4, .inr (.inr (11, 0, 0))]) (V' := q_V S) rfl ?_
    refine q_Sim.call vc_240 (as := [.inr (.inr (11, 0, 0)), .inl x4]) (pc' := 59) (lv' := [(0, .inr (.inr (11, 0, 0))), (1, .inl x1), (2, .inl x2), (3, .inl x3), (4, .inl x4)]) (st' := []) (S := S) rfl (rc_186 x4) (s_186 x4 S) (fun r_46 S_47 => ?_)
    exact q_Sim.ret vc_240 rfl
def f_240 (x1 : Int32) (x2 : Int32) (x3 : Int32) (S : QS) : Option ((Int32) × QS) := q_bd (f_199 x1 S) (fun r_1 S_2 => q_bd (f_239 x2 1 S_2) (fun r_3 S_4 => q_bd (f_202 r_1 r_3 S_4) (fun r_5 S_6 => q_bd (f_239 x3 0 S_6) (fun r_7 S_8 => q_bd (f_202 r_5 r_7 S_8) (fun r_9 S_10 => if ¬ r_9 = 0 then (b_240_48 x1 x2 x3 r_9 S_10) else (q_bd (f_192 x1 0 S_10) (fun r_48 S_49 => if ¬ r_48 = 3 then (b_240_48 x1 x2 x3 r_9 S_49) else (if x3 < 0 then (b_240_48 x1 x2 x3 r_9 S_49) else (b_240_48 x1 x2 x3 6 S_49)))))))))
theorem s_240 (x1 : Int32) (x2 : Int32) (x3 : Int32) (S : QS) : q_Sim 240 0 [(0, .inr (.inr (11, 0, 0))), (1, .inl x1), (2, .inl x2), (3, .inl x3)] [] (q_V S) q_I (f_240 x1 x2 x3 S) := by
  unfold f_240
  refine q_Sim.steps vc_240 2 (pc' := 2) (lv' := [(0, .inr (.inr (11, 0, 0))), (1, .inl x1), (2, .inl x2), (3, .inl x3)]) (st' := [.inl x1, .inr (.inr (11, 0, 0))]) (V' := q_V S) rfl ?_
  refine q_Sim.call vc_240 (as := [.inr (.inr (11, 0, 0)), .inl x1]) (pc' := 5) (lv' := [(0, .inr (.inr (11, 0, 0))), (1, .inl x1), (2, .inl x2), (3, .inl x3)]) (st' := []) (S := S) rfl (rc_199 x1) (s_199 x1 S) (fun r_1 S_2 => ?_)
  refine q_Sim.steps vc_240 3 (pc' := 8) (lv' := [(0, .inr (.inr (11, 0, 0))), (1, .inl x1), (2, .inl x2), (3, .inl x3)]) (st' := [.inl 1, .inl x2, .inr (.inr (11, 0, 0)), .inl r_1]) (V' := q_V S_2) rfl ?_
  refine q_Sim.call vc_240 (as := [.inr (.inr (11, 0, 0)), .inl x2, .inl 1]) (pc' := 11) (lv' := [(0, .inr (.inr (11, 0, 0))), (1, .inl x1), (2, .inl x2), (3, .inl x3)]) (st' := [.inl r_1]) (S := S_2) rfl (rc_239 x2 1) (s_239 x2 1 S_2) (fun r_3 S_4 => ?_)
  refine q_Sim.call vc_240 (as := [.inl r_1, .inl r_3]) (pc' := 14) (lv' := [(0, .inr (.inr (11, 0, 0))), (1, .inl x1), (2, .inl x2), (3, .inl x3)]) (st' := []) (S := S_4) rfl (rc_202 r_1 r_3) (s_202 r_1 r_3 S_4) (fun r_5 S_6 => ?_)
  refine q_Sim.steps vc_240 3 (pc' := 17) (lv' := [(0, .inr (.inr (11, 0, 0))), (1, .inl x1), (2, .inl x2), (3, .inl x3)]) (st' := [.inl 0, .inl x3, .inr (.inr (11, 0, 0)), .inl r_5]) (V' := q_V S_6) rfl ?_
  refine q_Sim.call vc_240 (as := [.inr (.inr (11, 0, 0)), .inl x3, .inl 0]) (pc' := 20) (lv' := [(0, .inr (.inr (11, 0, 0))), (1, .inl x1), (2, .inl x2), (3, .inl x3)]) (st' := [.inl r_5]) (S := S_6) rfl (rc_239 x3 0) (s_239 x3 0 S_6) (fun r_7 S_8 => ?_)
  refine q_Sim.call vc_240 (as := [.inl r_5, .inl r_7]) (pc' := 23) (lv' := [(0, .inr (.inr (11, 0, 0))), (1, .inl x1), (2, .inl x2), (3, .inl x3)]) (st' := []) (S := S_8) rfl (rc_202 r_5 r_7) (s_202 r_5 r_7 S_8) (fun r_9 S_10 => ?_)
  refine q_Sim.steps vc_240 2 (pc' := 27) (lv' := [(4, .inl r_9), (0, .inr (.inr (11, 0, 0))), (1, .inl x1), (2, .inl x2), (3, .inl x3)]) (st' := [.inl r_9]) (V' := q_V S_10) rfl ?_
  refine q_Sim.br vc_240 (c := ¬ r_9 = 0) (t := 48) (f := 30) (lv' := [(4, .inl r_9), (0, .inr (.inr (11, 0, 0))), (1, .inl x1), (2, .inl x2), (3, .inl x3)]) (st' := []) (V' := q_V S_10) rfl ?_ ?_
  · exact q_Sim.sub2 (lv' := [(0, .inr (.inr (11, 0, 0))), (1, .inl x1), (2, .inl x2), (3, .inl x3), (4, .inl r_9)]) [0, 1, 2, 3, 4] rfl (by decide) ⟨rfl, rfl, rfl, rfl, rfl, trivial⟩ (sb_240_48 x1 x2 x3 r_9 S_10)
  · refine q_Sim.steps vc_240 3 (pc' := 33) (lv' := [(4, .inl r_9), (0, .inr (.inr (11, 0, 0))), (1, .inl x1), (2, .inl x2), (3, .inl x3)]) (st' := [.inl 0, .inl x1, .inr (.inr (11, 0, 0))]) (V' := q_V S_10) rfl ?_
    refine q_Sim.call vc_240 (as := [.inr (.inr (11, 0, 0)), .inl x1, .inl 0]) (pc' := 36) (lv' := [(4, .inl r_9), (0, .inr (.inr (11, 0, 0))), (1, .inl x1), (2, .inl x2), (3, .inl x3)]) (st' := []) (S := S_10) rfl (rc_192 x1 0) (s_192 x1 0 S_10) (fun r_48 S_49 => ?_)
    refine q_Sim.steps vc_240 1 (pc' := 37) (lv' := [(4, .inl r_9), (0, .inr (.inr (11, 0, 0))), (1, .inl x1), (2, .inl x2), (3, .inl x3)]) (st' := [.inl 3, .inl r_48]) (V' := q_V S_49) rfl ?_
    refine q_Sim.br vc_240 (c := ¬ r_48 = 3) (t := 48) (f := 40) (lv' := [(4, .inl r_9), (0, .inr (.inr (11, 0, 0))), (1, .inl x1), (2, .inl x2), (3, .inl x3)]) (st' := []) (V' := q_V S_49) rfl ?_ ?_
    · exact q_Sim.sub2 (lv' := [(0, .inr (.inr (11, 0, 0))), (1, .inl x1), (2, .inl x2), (3, .inl x3), (4, .inl r_9)]) [0, 1, 2, 3, 4] rfl (by decide) ⟨rfl, rfl, rfl, rfl, rfl, trivial⟩ (sb_240_48 x1 x2 x3 r_9 S_49)
    · refine q_Sim.steps vc_240 1 (pc' := 41) (lv' := [(4, .inl r_9), (0, .inr (.inr (11, 0, 0))), (1, .inl x1), (2, .inl x2), (3, .inl x3)]) (st' := [.inl x3]) (V' := q_V S_49) rfl ?_
      refine q_Sim.br vc_240 (c := x3 < 0) (t := 48) (f := 44) (lv' := [(4, .inl r_9), (0, .inr (.inr (11, 0, 0))), (1, .inl x1), (2, .inl x2), (3, .inl x3)]) (st' := []) (V' := q_V S_49) rfl ?_ ?_
      · exact q_Sim.sub2 (lv' := [(0, .inr (.inr (11, 0, 0))), (1, .inl x1), (2, .inl x2), (3, .inl x3), (4, .inl r_9)]) [0, 1, 2, 3, 4] rfl (by decide) ⟨rfl, rfl, rfl, rfl, rfl, trivial⟩ (sb_240_48 x1 x2 x3 r_9 S_49)
      · refine q_Sim.steps vc_240 2 (pc' := 48) (lv' := [(4, .inl 6), (0, .inr (.inr (11, 0, 0))), (1, .inl x1), (2, .inl x2), (3, .inl x3)]) (st' := []) (V' := q_V S_49) rfl ?_
        exact q_Sim.sub2 (lv' := [(0, .inr (.inr (11, 0, 0))), (1, .inl x1), (2, .inl x2), (3, .inl x3), (4, .inl 6)]) [0, 1, 2, 3, 4] rfl (by decide) ⟨rfl, rfl, rfl, rfl, rfl, trivial⟩ (sb_240_48 x1 x2 x3 6 S_49)
theorem vc_241 : v_code 241 = k_241 := rfl
theorem rc_241 (x1 : Int32) (x2 : Int32) : v_rcv 241 [.inr (.inr (11, 0, 0)), .inl x1, .inl x2] = true := rfl
def b_241_8  (S : QS) : Option ((Int32) × QS) := some (0, S)
theorem sb_241_8  (S : QS) : q_Sim 241 8 [] [] (q_V S) q_I (b_241_8  S) := by
  unfold b_241_8
  refine q_Sim.steps vc_241 2 (pc' := 24) (lv' := []) (st' := [.inl 0]) (V' := q_V S) rfl ?_
  exact q_Sim.ret vc_241 rfl
def f_241 (x1 : Int32) (x2 : Int32) (S : QS) : Option ((Int32) × QS) := if x1 < 0 then (b_241_8  S) else (if 0 ≤ x2 then (q_ck (v_in ((200 * x1) + x2) 40000) (q_let (S.1 (47, 0, 0) ((200 * x1) + x2).toNatClampNeg) (fun y_1 => some (y_1, S)))) else (b_241_8  S))
theorem s_241 (x1 : Int32) (x2 : Int32) (S : QS) : q_Sim 241 0 [(0, .inr (.inr (11, 0, 0))), (1, .inl x1), (2, .inl x2)] [] (q_V S) q_I (f_241 x1 x2 S) := by
  unfold f_241
  refine q_Sim.steps vc_241 1 (pc' := 1) (lv' := [(0, .inr (.inr (11, 0, 0))), (1, .inl x1), (2, .inl x2)]) (st' := [.inl x1]) (V' := q_V S) rfl ?_
  refine q_Sim.br vc_241 (c := x1 < 0) (t := 8) (f := 4) (lv' := [(0, .inr (.inr (11, 0, 0))), (1, .inl x1), (2, .inl x2)]) (st' := []) (V' := q_V S) rfl ?_ ?_
  · exact q_Sim.sub2 (lv' := []) [] rfl (by decide) trivial (sb_241_8  S)
  · refine q_Sim.steps vc_241 1 (pc' := 5) (lv' := [(0, .inr (.inr (11, 0, 0))), (1, .inl x1), (2, .inl x2)]) (st' := [.inl x2]) (V' := q_V S) rfl ?_
    refine q_Sim.br vc_241 (c := 0 ≤ x2) (t := 12) (f := 8) (lv' := [(0, .inr (.inr (11, 0, 0))), (1, .inl x1), (2, .inl x2)]) (st' := []) (V' := q_V S) rfl ?_ ?_
    · refine q_Sim.steps vc_241 7 (pc' := 23) (lv' := [(0, .inr (.inr (11, 0, 0))), (1, .inl x1), (2, .inl x2)]) (st' := [.inl ((200 * x1) + x2), .inr (.inr (47, 0, 0))]) (V' := q_V S) rfl ?_
      refine q_Sim.ck vc_241 (c := v_in ((200 * x1) + x2) 40000) (pc' := 24) (lv' := [(0, .inr (.inr (11, 0, 0))), (1, .inl x1), (2, .inl x2)]) (st' := [.inl (S.1 (47, 0, 0) ((200 * x1) + x2).toNatClampNeg)]) (V' := q_V S) rfl ?_
      refine q_Sim.letI (fun y_1 => ?_)
      exact q_Sim.ret vc_241 rfl
    · exact q_Sim.sub2 (lv' := []) [] rfl (by decide) trivial (sb_241_8  S)
theorem vc_242 : v_code 242 = k_242 := rfl
theorem rc_242  : v_rcv 242 [.inr (.inr (11, 0, 0))] = true := rfl
def b_242_171 (back_35 : Int32 → Int32 → QS → Option ((Unit) × QS)) (back_93 : Int32 → Int32 → Int32 → Int32 → QS → Option ((Unit) × QS)) (x1 : Int32) (x2 : Int32) (x3 : Int32) (x4 : Int32) (S : QS) : Option ((Unit) × QS) := back_93 x1 x2 x3 (x4 + 1) S
theorem sb_242_171 (back_35 : Int32 → Int32 → QS → Option ((Unit) × QS)) (hb_35 : ∀ (x1 : Int32) (x2 : Int32) (S : QS), q_Sim 242 35 [(0, .inr (.inr (11, 0, 0))), (1, .inl x1), (2, .inl x2)] [] (q_V S) q_U (back_35 x1 x2 S)) (back_93 : Int32 → Int32 → Int32 → Int32 → QS → Option ((Unit) × QS)) (hb_93 : ∀ (x1 : Int32) (x2 : Int32) (x3 : Int32) (x4 : Int32) (S : QS), q_Sim 242 93 [(0, .inr (.inr (11, 0, 0))), (1, .inl x1), (2, .inl x2), (3, .inl x3), (4, .inl x4)] [] (q_V S) q_U (back_93 x1 x2 x3 x4 S)) (x1 : Int32) (x2 : Int32) (x3 : Int32) (x4 : Int32) (S : QS) : q_Sim 242 171 [(0, .inr (.inr (11, 0, 0))), (1, .inl x1), (2, .inl x2), (3, .inl x3), (4, .inl x4)] [] (q_V S) q_U (b_242_171 back_35 back_93 x1 x2 x3 x4 S) := by
  unfold b_242_171
  refine q_Sim.steps vc_242 2 (pc' := 93) (lv' := [(4, .inl (x4 + 1)), (0, .inr (.inr (11, 0, 0))), (1, .inl x1), (2, .inl x2), (3, .inl x3)]) (st' := []) (V' := q_V S) rfl ?_
  exact q_Sim.sub2 (lv' := [(0, .inr (.inr (11, 0, 0))), (1, .inl x1), (2, .inl x2), (3, .inl x3), (4, .inl (x4 + 1))]) [0, 1, 2, 3, 4] rfl (by decide) ⟨rfl, rfl, rfl, rfl, rfl, trivial⟩ (hb_93 x1 x2 x3 (x4 + 1) S)
def b_242_93 (back_35 : Int32 → Int32 → QS → Option ((Unit) × QS)) : Nat → Int32 → Int32 → Int32 → Int32 → QS → Option ((Unit) × QS)
  | 0, _, _, _, _, _ => none
  | n + 1, x1, x2, x3, x4, S => if x1 ≤ x4 then (q_ck (v_in ((200 * x3) + x3) 40000) (q_let (q_set S (47, 0, 0) ((200 * x3) + x3).toNatClampNeg 1073741824) (fun S_4 => q_ck (v_in x3 200) (q_let (q_set S_4 (48, 0, 0) x3.toNatClampNeg 1) (fun S_5 => back_35 x1 (x2 + 1) S_5))))) else (q_ck (v_in x4 200) (q_let (S.1 (48, 0, 0) x4.toNatClampNeg) (fun y_6 => if ¬ y_6 = 0 then (q_bd (f_192 x3 2 S) (fun r_7 S_8 => q_bd (f_241 r_7 x4 S_8) (fun r_9 S_10 => q_bd (f_192 x3 3 S_10) (fun r_11 S_12 => q_bd (f_241 r_11 x4 S_12) (fun r_13 S_14 => q_let ((r_9 + r_13) / 2) (fun y_15 => q_ck (v_in ((200 * x3) + x4) 40000) (q_let (q_set S_14 (47, 0, 0) ((200 * x3) + x4).toNatClampNeg y_15) (fun S_16 => q_ck (v_in ((200 * x4) + x3) 40000) (q_let (q_set S_16 (47, 0, 0) ((200 * x4) + x3).toNatClampNeg y_15) (fun S_17 => b_242_171 back_35 (b_242_93 back_35 n) x1 x2 x3 x4 S_17)))))))))) else (b_242_171 back_35 (b_242_93 back_35 n) x1 x2 x3 x4 S))))
theorem sb_242_93 (back_35 : Int32 → Int32 → QS → Option ((Unit) × QS)) (hb_35 : ∀ (x1 : Int32) (x2 : Int32) (S : QS), q_Sim 242 35 [(0, .inr (.inr (11, 0, 0))), (1, .inl x1), (2, .inl x2)] [] (q_V S) q_U (back_35 x1 x2 S)) : ∀ (n : Nat) (x1 : Int32) (x2 : Int32) (x3 : Int32) (x4 : Int32) (S : QS), q_Sim 242 93 [(0, .inr (.inr (11, 0, 0))), (1, .inl x1), (2, .inl x2), (3, .inl x3), (4, .inl x4)] [] (q_V S) q_U (b_242_93 back_35 n x1 x2 x3 x4 S)
  | 0, _, _, _, _, _ => q_Sim.none
  | n + 1, x1, x2, x3, x4, S => by
    rw [b_242_93]
    refine q_Sim.steps vc_242 2 (pc' := 96) (lv' := [(0, .inr (.inr (11, 0, 0))), (1, .inl x1), (2, .inl x2), (3, .inl x3), (4, .inl x4)]) (st' := [.inl x1, .inl x4]) (V' := q_V S) rfl ?_
    refine q_Sim.br vc_242 (c := x1 ≤ x4) (t := 177) (f := 99) (lv' := [(0, .inr (.inr (11, 0, 0))), (1, .inl x1), (2, .inl x2), (3, .inl x3), (4, .inl x4)]) (st' := []) (V' := q_V S) rfl ?_ ?_
    · refine q_Sim.steps vc_242 8 (pc' := 190) (lv' := [(0, .inr (.inr (11, 0, 0))), (1, .inl x1), (2, .inl x2), (3, .inl x3), (4, .inl x4)]) (st' := [.inl 1073741824, .inl ((200 * x3) + x3), .inr (.inr (47, 0, 0))]) (V' := q_V S) rfl ?_
      refine q_Sim.ck vc_242 (c := v_in ((200 * x3) + x3) 40000) (pc' := 191) (lv' := [(0, .inr (.inr (11, 0, 0))), (1, .inl x1), (2, .inl x2), (3, .inl x3), (4, .inl x4)]) (st' := []) (V' := q_V (q_set S (47, 0, 0) ((200 * x3) + x3).toNatClampNeg 1073741824)) rfl ?_
      refine q_Sim.letS (fun S_4 => ?_)
      refine q_Sim.steps vc_242 4 (pc' := 197) (lv' := [(0, .inr (.inr (11, 0, 0))), (1, .inl x1), (2, .inl x2), (3, .inl x3), (4, .inl x4)]) (st' := [.inl 1, .inl x3, .inr (.inr (48, 0, 0))]) (V' := q_V S_4) rfl ?_
      refine q_Sim.ck vc_242 (c := v_in x3 200) (pc' := 198) (lv' := [(0, .inr (.inr (11, 0, 0))), (1, .inl x1), (2, .inl x2), (3, .inl x3), (4, .inl x4)]) (st' := []) (V' := q_V (q_set S_4 (48, 0, 0) x3.toNatClampNeg 1)) rfl ?_
      refine q_Sim.letS (fun S_5 => ?_)
      refine q_Sim.steps vc_242 2 (pc' := 35) (lv' := [(2, .inl (x2 + 1)), (0, .inr (.inr (11, 0, 0))), (1, .inl x1), (3, .inl x3), (4, .inl x4)]) (st' := []) (V' := q_V S_5) rfl ?_
      exact q_Sim.sub2 (lv' := [(0, .inr (.inr (11, 0, 0))), (1, .inl x1), (2, .inl (x2 + 1))]) [0, 1, 2] rfl (by decide) ⟨rfl, rfl, rfl, trivial⟩ (hb_35 x1 (x2 + 1) S_5)
    · refine q_Sim.steps vc_242 3 (pc' := 105) (lv' := [(0, .inr (.inr (11, 0, 0))), (1, .inl x1), (2, .inl x2), (3, .inl x3), (4, .inl x4)]) (st' := [.inl x4, .inr (.inr (48, 0, 0))]) (V' := q_V S) rfl ?_
      refine q_Sim.ck vc_242 (c := v_in x4 200) (pc' := 106) (lv' := [(0, .inr (.inr (11, 0, 0))), (1, .inl x1), (2, .inl x2), (3, .inl x3), (4, .inl x4)]) (st' := [.inl (S.1 (48, 0, 0) x4.toNatClampNeg)]) (V' := q_V S) rfl ?_
      refine q_Sim.letI (fun y_6 => ?_)
      refine q_Sim.br vc_242 (c := ¬ y_6 = 0) (t := 112) (f := 109) (lv' := [(0, .inr (.inr (11, 0, 0))), (1, .inl x1), (2, .inl x2), (3, .inl x3), (4, .inl x4)]) (st' := []) (V' := q_V S) rfl ?_ ?_
      · refine q_Sim.steps vc_242 4 (pc' := 116) (lv' := [(0, .inr (.inr (11, 0, 0))), (1, .inl x1), (2, .inl x2), (3, .inl x3), (4, .inl x4)]) (st' := [.inl 2, .inl x3, .inr (.inr (11, 0, 0)), .inr (.inr (11, 0, 0))]) (V' := q_V S) rfl ?_
        refine q_Sim.call vc_242 (as := [.inr (.inr (11, 0, 0)), .inl x3, .inl 2]) (pc' := 119) (lv' := [(0, .inr (.inr (11, 0, 0))), (1, .inl x1), (2, .inl x2), (3, .inl x3), (4, .inl x4)]) (st' := [.inr (.inr (11, 0, 0))]) (S := S) rfl (rc_192 x3 2) (s_192 x3 2 S) (fun r_7 S_8 => ?_)
        refine q_Sim.steps vc_242 1 (pc' := 121) (lv' := [(0, .inr (.inr (11, 0, 0))), (1, .inl x1), (2, .inl x2), (3, .inl x3), (4, .inl x4)]) (st' := [.inl x4, .inl r_7, .inr (.inr (11, 0, 0))]) (V' := q_V S_8) rfl ?_
        refine q_Sim.call vc_242 (as := [.inr (.inr (11, 0, 0)), .inl r_7, .inl x4]) (pc' := 124) (lv' := [(0, .inr (.inr (11, 0, 0))), (1, .inl x1), (2, .inl x2), (3, .inl x3), (4, .inl x4)]) (st' := []) (S := S_8) rfl (rc_241 r_7 x4) (s_241 r_7 x4 S_8) (fun r_9 S_10 => ?_)
        refine q_Sim.steps vc_242 4 (pc' := 128) (lv' := [(0, .inr (.inr (11, 0, 0))), (1, .inl x1), (2, .inl x2), (3, .inl x3), (4, .inl x4)]) (st' := [.inl 3, .inl x3, .inr (.inr (11, 0, 0)), .inr (.inr (11, 0, 0)), .inl r_9]) (V' := q_V S_10) rfl ?_
        refine q_Sim.call vc_242 (as := [.inr (.inr (11, 0, 0)), .inl x3, .inl 3]) (pc' := 131) (lv' := [(0, .inr (.inr (11, 0, 0))), (1, .inl x1), (2, .inl x2), (3, .inl x3), (4, .inl x4)]) (st' := [.inr (.inr (11, 0, 0)), .inl r_9]) (S := S_10) rfl (rc_192 x3 3) (s_192 x3 3 S_10) (fun r_11 S_12 => ?_)
        refine q_Sim.steps vc_242 1 (pc' := 133) (lv' := [(0, .inr (.inr (11, 0, 0))), (1, .inl x1), (2, .inl x2), (3, .inl x3), (4, .inl x4)]) (st' := [.inl x4, .inl r_11, .inr (.inr (11, 0, 0)), .inl r_9]) (V' := q_V S_12) rfl ?_
        refine q_Sim.call vc_242 (as := [.inr (.inr (11, 0, 0)), .inl r_11, .inl x4]) (pc' := 136) (lv' := [(0, .inr (.inr (11, 0, 0))), (1, .inl x1), (2, .inl x2), (3, .inl x3), (4, .inl x4)]) (st' := [.inl r_9]) (S := S_12) rfl (rc_241 r_11 x4) (s_241 r_11 x4 S_12) (fun r_13 S_14 => ?_)
        refine q_Sim.steps vc_242 2 (pc' := 138) (lv' := [(0, .inr (.inr (11, 0, 0))), (1, .inl x1), (2, .inl x2), (3, .inl x3), (4, .inl x4)]) (st' := [.inl 2, .inl (r_9 + r_13)]) (V' := q_V S_14) rfl ?_
        refine q_Sim.okd vc_242 (c := decide (¬ (2 : Int32) = 0)) (pc' := 139) (lv' := [(0, .inr (.inr (11, 0, 0))), (1, .inl x1), (2, .inl x2), (3, .inl x3), (4, .inl x4)]) (st' := [.inl ((r_9 + r_13) / 2)]) (V' := q_V S_14) rfl (by decide) ?_
        refine q_Sim.letI (fun y_15 => ?_)
        refine q_Sim.steps vc_242 9 (pc' := 155) (lv' := [(5, .inl y_15), (0, .inr (.inr (11, 0, 0))), (1, .inl x1), (2, .inl x2), (3, .inl x3), (4, .inl x4)]) (st' := [.inl y_15, .inl ((200 * x3) + x4), .inr (.inr (47, 0, 0))]) (V' := q_V S_14) rfl ?_
        refine q_Sim.ck vc_242 (c := v_in ((200 * x3) + x4) 40000) (pc' := 156) (lv' := [(5, .inl y_15), (0, .inr (.inr (11, 0, 0))), (1, .inl x1), (2, .inl x2), (3, .inl x3), (4, .inl x4)]) (st' := []) (V' := q_V (q_set S_14 (47, 0, 0) ((200 * x3) + x4).toNatClampNeg y_15)) rfl ?_
        refine q_Sim.letS (fun S_16 => ?_)
        refine q_Sim.steps vc_242 8 (pc' := 170) (lv' := [(5, .inl y_15), (0, .inr (.inr (11, 0, 0))), (1, .inl x1), (2, .inl x2), (3, .inl x3), (4, .inl x4)]) (st' := [.inl y_15, .inl ((200 * x4) + x3), .inr (.inr (47, 0, 0))]) (V' := q_V S_16) rfl ?_
        refine q_Sim.ck vc_242 (c := v_in ((200 * x4) + x3) 40000) (pc' := 171) (lv' := [(5, .inl y_15), (0, .inr (.inr (11, 0, 0))), (1, .inl x1), (2, .inl x2), (3, .inl x3), (4, .inl x4)]) (st' := []) (V' := q_V (q_set S_16 (47, 0, 0) ((200 * x4) + x3).toNatClampNeg y_15)) rfl ?_
        refine q_Sim.letS (fun S_17 => ?_)
        exact q_Sim.sub2 (lv' := [(0, .inr (.inr (11, 0, 0))), (1, .inl x1), (2, .inl x2), (3, .inl x3), (4, .inl x4)]) [0, 1, 2, 3, 4] rfl (by decide) ⟨rfl, rfl, rfl, rfl, rfl, trivial⟩ (sb_242_171 back_35 hb_35 (b_242_93 back_35 n) (sb_242_93 back_35 hb_35 n) x1 x2 x3 x4 S_17)
      · refine q_Sim.steps vc_242 1 (pc' := 171) (lv' := [(0, .inr (.inr (11, 0, 0))), (1, .inl x1), (2, .inl x2), (3, .inl x3), (4, .inl x4)]) (st' := []) (V' := q_V S) rfl ?_
        exact q_Sim.sub2 (lv' := [(0, .inr (.inr (11, 0, 0))), (1, .inl x1), (2, .inl x2), (3, .inl x3), (4, .inl x4)]) [0, 1, 2, 3, 4] rfl (by decide) ⟨rfl, rfl, rfl, rfl, rfl, trivial⟩ (sb_242_171 back_35 hb_35 (b_242_93 back_35 n) (sb_242_93 back_35 hb_35 n) x1 x2 x3 x4 S)
def b_242_84 (back_35 : Int32 → Int32 → QS → Option ((Unit) × QS)) (back_45 : Int32 → Int32 → Int32 → Int32 → QS → Option ((Unit) × QS)) (x1 : Int32) (x2 : Int32) (x3 : Int32) (x4 : Int32) (S : QS) : Option ((Unit) × QS) := back_45 x1 x2 x3 (x4 + 1) S
theorem sb_242_84 (back_35 : Int32 → Int32 → QS → Option ((Unit) × QS)) (hb_35 : ∀ (x1 : Int32) (x2 : Int32) (S : QS), q_Sim 242 35 [(0, .inr (.inr (11, 0, 0))), (1, .inl x1), (2, .inl x2)] [] (q_V S) q_U (back_35 x1 x2 S)) (back_45 : Int32 → Int32 → Int32 → Int32 → QS → Option ((Unit) × QS)) (hb_45 : ∀ (x1 : Int32) (x2 : Int32) (x3 : Int32) (x4 : Int32) (S : QS), q_Sim 242 45 [(0, .inr (.inr (11, 0, 0))), (1, .inl x1), (2, .inl x2), (3, .inl x3), (4, .inl x4)] [] (q_V S) q_U (back_45 x1 x2 x3 x4 S)) (x1 : Int32) (x2 : Int32) (x3 : Int32) (x4 : Int32) (S : QS) : q_Sim 242 84 [(0, .inr (.inr (11, 0, 0))), (1, .inl x1), (2, .inl x2), (3, .inl x3), (4, .inl x4)] [] (q_V S) q_U (b_242_84 back_35 back_45 x1 x2 x3 x4 S) := by
  unfold b_242_84
  refine q_Sim.steps vc_242 2 (pc' := 45) (lv' := [(4, .inl (x4 + 1)), (0, .inr (.inr (11, 0, 0))), (1, .inl x1), (2, .inl x2), (3, .inl x3)]) (st' := []) (V' := q_V S) rfl ?_
  exact q_Sim.sub2 (lv' := [(0, .inr (.inr (11, 0, 0))), (1, .inl x1), (2, .inl x2), (3, .inl x3), (4, .inl (x4 + 1))]) [0, 1, 2, 3, 4] rfl (by decide) ⟨rfl, rfl, rfl, rfl, rfl, trivial⟩ (hb_45 x1 x2 x3 (x4 + 1) S)
def b_242_81 (back_35 : Int32 → Int32 → QS → Option ((Unit) × QS)) (back_45 : Int32 → Int32 → Int32 → Int32 → QS → Option ((Unit) × QS)) (x1 : Int32) (x2 : Int32) (x4 : Int32) (S : QS) : Option ((Unit) × QS) := b_242_84 back_35 back_45 x1 x2 x4 x4 S
theorem sb_242_81 (back_35 : Int32 → Int32 → QS → Option ((Unit) × QS)) (hb_35 : ∀ (x1 : Int32) (x2 : Int32) (S : QS), q_Sim 242 35 [(0, .inr (.inr (11, 0, 0))), (1, .inl x1), (2, .inl x2)] [] (q_V S) q_U (back_35 x1 x2 S)) (back_45 : Int32 → Int32 → Int32 → Int32 → QS → Option ((Unit) × QS)) (hb_45 : ∀ (x1 : Int32) (x2 : Int32) (x3 : Int32) (x4 : Int32) (S : QS), q_Sim 242 45 [(0, .inr (.inr (11, 0, 0))), (1, .inl x1), (2, .inl x2), (3, .inl x3), (4, .inl x4)] [] (q_V S) q_U (back_45 x1 x2 x3 x4 S)) (x1 : Int32) (x2 : Int32) (x4 : Int32) (S : QS) : q_Sim 242 81 [(0, .inr (.inr (11, 0, 0))), (1, .inl x1), (2, .inl x2), (4, .inl x4)] [] (q_V S) q_U (b_242_81 back_35 back_45 x1 x2 x4 S) := by
  unfold b_242_81
  refine q_Sim.steps vc_242 2 (pc' := 84) (lv' := [(3, .inl x4), (0, .inr (.inr (11, 0, 0))), (1, .inl x1), (2, .inl x2), (4, .inl x4)]) (st' := []) (V' := q_V S) rfl ?_
  exact q_Sim.sub2 (lv' := [(0, .inr (.inr (11, 0, 0))), (1, .inl x1), (2, .inl x2), (3, .inl x4), (4, .inl x4)]) [0, 1, 2, 3, 4] rfl (by decide) ⟨rfl, rfl, rfl, rfl, rfl, trivial⟩ (sb_242_84 back_35 hb_35 back_45 hb_45 x1 x2 x4 x4 S)
def b_242_45 (back_35 : Int32 → Int32 → QS → Option ((Unit) × QS)) : Nat → Int32 → Int32 → Int32 → Int32 → QS → Option ((Unit) × QS)
  | 0, _, _, _, _, _ => none
  | n + 1, x1, x2, x3, x4, S => if x1 ≤ x4 then (b_242_93 back_35 q_N x1 x2 x3 0 S) else (q_ck (v_in x4 200) (q_let (S.1 (48, 0, 0) x4.toNatClampNeg) (fun y_18 => if ¬ y_18 = 0 then (b_242_84 back_35 (b_242_45 back_35 n) x1 x2 x3 x4 S) else (if x3 < 0 then (b_242_81 back_35 (b_242_45 back_35 n) x1 x2 x4 S) else (q_ck (v_in x4 200) (q_let (S.1 (46, 0, 0) x4.toNatClampNeg) (fun y_19 => q_ck (v_in x3 200) (q_let (S.1 (46, 0, 0) x3.toNatClampNeg) (fun y_20 => if y_20 ≤ y_19 then (b_242_84 back_35 (b_242_45 back_35 n) x1 x2 x3 x4 S) else (b_242_81 back_35 (b_242_45 back_35 n) x1 x2 x4 S))))))))))
theorem sb_242_45 (back_35 : Int32 → Int32 → QS → Option ((Unit) × QS)) (hb_35 : ∀ (x1 : Int32) (x2 : Int32) (S : QS), q_Sim 242 35 [(0, .inr (.inr (11, 0, 0))), (1, .inl x1), (2, .inl x2)] [] (q_V S) q_U (back_35 x1 x2 S)) : ∀ (n : Nat) (x1 : Int32) (x2 : Int32) (x3 : Int32) (x4 : Int32) (S : QS), q_Sim 242 45 [(0, .inr (.inr (11, 0, 0))), (1, .inl x1), (2, .inl x2), (3, .inl x3), (4, .inl x4)] [] (q_V S) q_U (b_242_45 back_35 n x1 x2 x3 x4 S)
  | 0, _, _, _, _, _ => q_Sim.none
  | n + 1, x1, x2, x3, x4, S => by
    rw [b_242_45]
    refine q_Sim.steps vc_242 2 (pc' := 48) (lv' := [(0, .inr (.inr (11, 0, 0))), (1, .inl x1), (2, .inl x2), (3, .inl x3), (4, .inl x4)]) (st' := [.inl x1, .inl x4]) (V' := q_V S) rfl ?_
    refine q_Sim.br vc_242 (c := x1 ≤ x4) (t := 90) (f := 51) (lv' := [(0, .inr (.inr (11, 0, 0))), (1, .inl x1), (2, .inl x2), (3, .inl x3), (4, .inl x4)]) (st' := []) (V' := q_V S) rfl ?_ ?_
    · refine q_Sim.steps vc_242 2 (pc' := 93) (lv' := [(4, .inl 0), (0, .inr (.inr (11, 0, 0))), (1, .inl x1), (2, .inl x2), (3, .inl x3)]) (st' := []) (V' := q_V S) rfl ?_
      exact q_Sim.sub2 (lv' := [(0, .inr (.inr (11, 0, 0))), (1, .inl x1), (2, .inl x2), (3, .inl x3), (4, .inl 0)]) [0, 1, 2, 3, 4] rfl (by decide) ⟨rfl, rfl, rfl, rfl, rfl, trivial⟩ (sb_242_93 back_35 hb_35 q_N x1 x2 x3 0 S)
    · refine q_Sim.steps vc_242 3 (pc' := 57) (lv' := [(0, .inr (.inr (11, 0, 0))), (1, .inl x1), (2, .inl x2), (3, .inl x3), (4, .inl x4)]) (st' := [.inl x4, .inr (.inr (48, 0, 0))]) (V' := q_V S) rfl ?_
      refine q_Sim.ck vc_242 (c := v_in x4 200) (pc' := 58) (lv' := [(0, .inr (.inr (11, 0, 0))), (1, .inl x1), (2, .inl x2), (3, .inl x3), (4, .inl x4)]) (st' := [.inl (S.1 (48, 0, 0) x4.toNatClampNeg)]) (V' := q_V S) rfl ?_
      refine q_Sim.letI (fun y_18 => ?_)
      refine q_Sim.br vc_242 (c := ¬ y_18 = 0) (t := 84) (f := 61) (lv' := [(0, .inr (.inr (11, 0, 0))), (1, .inl x1), (2, .inl x2), (3, .inl x3), (4, .inl x4)]) (st' := []) (V' := q_V S) rfl ?_ ?_
      · exact q_Sim.sub2 (lv' := [(0, .inr (.inr (11, 0, 0))), (1, .inl x1), (2, .inl x2), (3, .inl x3), (4, .inl x4)]) [0, 1, 2, 3, 4] rfl (by decide) ⟨rfl, rfl, rfl, rfl, rfl, trivial⟩ (sb_242_84 back_35 hb_35 (b_242_45 back_35 n) (sb_242_45 back_35 hb_35 n) x1 x2 x3 x4 S)
      · refine q_Sim.steps vc_242 1 (pc' := 62) (lv' := [(0, .inr (.inr (11, 0, 0))), (1, .inl x1), (2, .inl x2), (3, .inl x3), (4, .inl x4)]) (st' := [.inl x3]) (V' := q_V S) rfl ?_
        refine q_Sim.br vc_242 (c := x3 < 0) (t := 81) (f := 65) (lv' := [(0, .inr (.inr (11, 0, 0))), (1, .inl x1), (2, .inl x2), (3, .inl x3), (4, .inl x4)]) (st' := []) (V' := q_V S) rfl ?_ ?_
        · exact q_Sim.sub2 (lv' := [(0, .inr (.inr (11, 0, 0))), (1, .inl x1), (2, .inl x2), (4, .inl x4)]) [0, 1, 2, 4] rfl (by decide) ⟨rfl, rfl, rfl, rfl, trivial⟩ (sb_242_81 back_35 hb_35 (b_242_45 back_35 n) (sb_242_45 back_35 hb_35 n) x1 x2 x4 S)
        · refine q_Sim.steps vc_242 3 (pc' := 71) (lv' := [(0, .inr (.inr (11, 0, 0))), (1, .inl x1), (2, .inl x2), (3, .inl x3), (4, .inl x4)]) (st' := [.inl x4, .inr (.inr (46, 0, 0))]) (V' := q_V S) rfl ?_
          refine q_Sim.ck vc_242 (c := v_in x4 200) (pc' := 72) (lv' := [(0, .inr (.inr (11, 0, 0))), (1, .inl x1), (2, .inl x2), (3, .inl x3), (4, .inl x4)]) (st' := [.inl (S.1 (46, 0, 0) x4.toNatClampNeg)]) (V' := q_V S) rfl ?_
          refine q_Sim.letI (fun y_19 => ?_)
          refine q_Sim.steps vc_242 3 (pc' := 77) (lv' := [(0, .inr (.inr (11, 0, 0))), (1, .inl x1), (2, .inl x2), (3, .inl x3), (4, .inl x4)]) (st' := [.inl x3, .inr (.inr (46, 0, 0)), .inl y_19]) (V' := q_V S) rfl ?_
          refine q_Sim.ck vc_242 (c := v_in x3 200) (pc' := 78) (lv' := [(0, .inr (.inr (11, 0, 0))), (1, .inl x1), (2, .inl x2), (3, .inl x3), (4, .inl x4)]) (st' := [.inl (S.1 (46, 0, 0) x3.toNatClampNeg), .inl y_19]) (V' := q_V S) rfl ?_
          refine q_Sim.letI (fun y_20 => ?_)
          refine q_Sim.br vc_242 (c := y_20 ≤ y_19) (t := 84) (f := 81) (lv' := [(0, .inr (.inr (11, 0, 0))), (1, .inl x1), (2, .inl x2), (3, .inl x3), (4, .inl x4)]) (st' := []) (V' := q_V S) rfl ?_ ?_
          · exact q_Sim.sub2 (lv' := [(0, .inr (.inr (11, 0, 0))), (1, .inl x1), (2, .inl x2), (3, .inl x3), (4, .inl x4)]) [0, 1, 2, 3, 4] rfl (by decide) ⟨rfl, rfl, rfl, rfl, rfl, trivial⟩ (sb_242_84 back_35 hb_35 (b_242_45 back_35 n) (sb_242_45 back_35 hb_35 n) x1 x2 x3 x4 S)
          · exact q_Sim.sub2 (lv' := [(0, .inr (.inr (11, 0, 0))), (1, .inl x1), (2, .inl x2), (4, .inl x4)]) [0, 1, 2, 4] rfl (by decide) ⟨rfl, rfl, rfl, rfl, trivial⟩ (sb_242_81 back_35 hb_35 (b_242_45 back_35 n) (sb_242_45 back_35 hb_35 n) x1 x2 x4 S)
def b_242_35 : Nat → Int32 → Int32 → QS → Option ((Unit) × QS)
  | 0, _, _, _ => none
  | n + 1, x1, x2, S => if x1 ≤ x2 then (some ((), S)) else (b_242_45 (b_242_35 n) q_N x1 x2 (-1) 0 S)
theorem sb_242_35 : ∀ (n : Nat) (x1 : Int32) (x2 : Int32) (S : QS), q_Sim 242 35 [(0, .inr (.inr (11, 0, 0))), (1, .inl x1), (2, .inl x2)] [] (q_V S) q_U (b_242_35 n x1 x2 S)
  | 0, _, _, _ => q_Sim.none
  | n + 1, x1, x2, S => by
    rw [b_242_35]
    refine q_Sim.steps vc_242 2 (pc' := 37) (lv' := [(0, .inr (.inr (11, 0, 0))), (1, .inl x1), (2, .inl x2)]) (st' := [.inl x1, .inl x2]) (V' := q_V S) rfl ?_
    refine q_Sim.br vc_242 (c := x1 ≤ x2) (t := 204) (f := 40) (lv' := [(0, .inr (.inr (11, 0, 0))), (1, .inl x1), (2, .inl x2)]) (st' := []) (V' := q_V S) rfl ?_ ?_
    · exact q_Sim.ret vc_242 rfl
    · refine q_Sim.steps vc_242 4 (pc' := 45) (lv' := [(4, .inl 0), (3, .inl (-1)), (0, .inr (.inr (11, 0, 0))), (1, .inl x1), (2, .inl x2)]) (st' := []) (V' := q_V S) rfl ?_
      exact q_Sim.sub2 (lv' := [(0, .inr (.inr (11, 0, 0))), (1, .inl x1), (2, .inl x2), (3, .inl (-1)), (4, .inl 0)]) [0, 1, 2, 3, 4] rfl (by decide) ⟨rfl, rfl, rfl, rfl, rfl, trivial⟩ (sb_242_45 (b_242_35 n) (sb_242_35 n) q_N x1 x2 (-1) 0 S)
def b_242_15 : Nat → Int32 → Int32 → QS → Option ((Unit) × QS)
  | 0, _, _, _ => none
  | n + 1, x1, x2, S => if x1 ≤ x2 then (b_242_35 q_N x1 0 S) else (q_ck (v_in x2 200) (q_let (q_set S (48, 0, 0) x2.toNatClampNeg 0) (fun S_21 => b_242_15 n x1 (x2 + 1) S_21)))
theorem sb_242_15 : ∀ (n : Nat) (x1 : Int32) (x2 : Int32) (S : QS), q_Sim 242 15 [(0, .inr (.inr (11, 0, 0))), (1, .inl x1), (2, .inl x2)] [] (q_V S) q_U (b_242_15 n x1 x2 S)
  | 0, _, _, _ => q_Sim.none
  | n + 1, x1, x2, S => by
    rw [b_242_15]
    refine q_Sim.steps vc_242 2 (pc' := 17) (lv' := [(0, .inr (.inr (11, 0, 0))), (1, .inl x1), (2, .inl x2)]) (st' := [.inl x1, .inl x2]) (V' := q_V S) rfl ?_
    refine q_Sim.br vc_242 (c := x1 ≤ x2) (t := 33) (f := 20) (lv' := [(0, .inr (.inr (11, 0, 0))), (1, .inl x1), (2, .inl x2)]) (st' := []) (V' := q_V S) rfl ?_ ?_
    · refine q_Sim.steps vc_242 2 (pc' := 35) (lv' := [(2, .inl 0), (0, .inr (.inr (11, 0, 0))), (1, .inl x1)]) (st' := []) (V' := q_V S) rfl ?_
      exact q_Sim.sub2 (lv' := [(0, .inr (.inr (11, 0, 0))), (1, .inl x1), (2, .inl 0)]) [0, 1, 2] rfl (by decide) ⟨rfl, rfl, rfl, trivial⟩ (sb_242_35 q_N x1 0 S)
    · refine q_Sim.steps vc_242 4 (pc' := 26) (lv' := [(0, .inr (.inr (11, 0, 0))), (1, .inl x1), (2, .inl x2)]) (st' := [.inl 0, .inl x2, .inr (.inr (48, 0, 0))]) (V' := q_V S) rfl ?_
      refine q_Sim.ck vc_242 (c := v_in x2 200) (pc' := 27) (lv' := [(0, .inr (.inr (11, 0, 0))), (1, .inl x1), (2, .inl x2)]) (st' := []) (V' := q_V (q_set S (48, 0, 0) x2.toNatClampNeg 0)) rfl ?_
      refine q_Sim.letS (fun S_21 => ?_)
      refine q_Sim.steps vc_242 2 (pc' := 15) (lv' := [(2, .inl (x2 + 1)), (0, .inr (.inr (11, 0, 0))), (1, .inl x1)]) (st' := []) (V' := q_V S_21) rfl ?_
      exact q_Sim.sub2 (lv' := [(0, .inr (.inr (11, 0, 0))), (1, .inl x1), (2, .inl (x2 + 1))]) [0, 1, 2] rfl (by decide) ⟨rfl, rfl, rfl, trivial⟩ (sb_242_15 n x1 (x2 + 1) S_21)
def f_242  (S : QS) : Option ((Unit) × QS) := q_ck (v_in 2 19520) (q_let (S.1 (40, 0, 0) (2 : Int32).toNatClampNeg) (fun y_1 => q_bd (f_237 16 S) (fun r_2 S_3 => b_242_15 q_N y_1 0 S_3)))
theorem s_242  (S : QS) : q_Sim 242 0 [(0, .inr (.inr (11, 0, 0)))] [] (q_V S) q_U (f_242  S) := by
  unfold f_242
  refine q_Sim.steps vc_242 3 (pc' := 5) (lv' := [(0, .inr (.inr (11, 0, 0)))]) (st' := [.inl 2, .inr (.inr (40, 0, 0))]) (V' := q_V S) rfl ?_
  refine q_Sim.ck vc_242 (c := v_in 2 19520) (pc' := 6) (lv' := [(0, .inr (.inr (11, 0, 0)))]) (st' := [.inl (S.1 (40, 0, 0) (2 : Int32).toNatClampNeg)]) (V' := q_V S) rfl ?_
  refine q_Sim.letI (fun y_1 => ?_)
  refine q_Sim.steps vc_242 3 (pc' := 10) (lv' := [(1, .inl y_1), (0, .inr (.inr (11, 0, 0)))]) (st' := [.inl 16, .inr (.inr (11, 0, 0))]) (V' := q_V S) rfl ?_
  refine q_Sim.call vc_242 (as := [.inr (.inr (11, 0, 0)), .inl 16]) (pc' := 13) (lv' := [(1, .inl y_1), (0, .inr (.inr (11, 0, 0)))]) (st' := []) (S := S) rfl (rc_237 16) (s_237 16 S) (fun r_2 S_3 => ?_)
  refine q_Sim.steps vc_242 2 (pc' := 15) (lv' := [(2, .inl 0), (1, .inl y_1), (0, .inr (.inr (11, 0, 0)))]) (st' := []) (V' := q_V S_3) rfl ?_
  exact q_Sim.sub2 (lv' := [(0, .inr (.inr (11, 0, 0))), (1, .inl y_1), (2, .inl 0)]) [0, 1, 2] rfl (by decide) ⟨rfl, rfl, rfl, trivial⟩ (sb_242_15 q_N y_1 0 S_3)
theorem vc_243 : v_code 243 = k_243 := rfl
theorem rc_243 (x1 : Int32) (x2 : Int32) : v_rcv 243 [.inr (.inr (11, 0, 0)), .inl x1, .inl x2] = true := rfl
def f_243 (x1 : Int32) (x2 : Int32) (S : QS) : Option ((Int32) × QS) := q_bd (f_199 x1 S) (fun r_1 S_2 => q_bd (f_199 x2 S_2) (fun r_3 S_4 => q_bd (f_202 r_1 r_3 S_4) (fun r_5 S_6 => if r_5 ≤ 0 then (q_bd (f_242  S_6) (fun r_7 S_8 => q_bd (f_241 x1 x2 S_8) (fun r_9 S_10 => q_bd (f_187 r_9 S_10) (fun r_11 S_12 => some (r_11, S_12))))) else (q_bd (f_186 r_5 S_6) (fun r_13 S_14 => some (r_13, S_14))))))
theorem s_243 (x1 : Int32) (x2 : Int32) (S : QS) : q_Sim 243 0 [(0, .inr (.inr (11, 0, 0))), (1, .inl x1), (2, .inl x2)] [] (q_V S) q_I (f_243 x1 x2 S) := by
  unfold f_243
  refine q_Sim.steps vc_243 2 (pc' := 2) (lv' := [(0, .inr (.inr (11, 0, 0))), (1, .inl x1), (2, .inl x2)]) (st' := [.inl x1, .inr (.inr (11, 0, 0))]) (V' := q_V S) rfl ?_
  refine q_Sim.call vc_243 (as := [.inr (.inr (11, 0, 0)), .inl x1]) (pc' := 5) (lv' := [(0, .inr (.inr (11, 0, 0))), (1, .inl x1), (2, .inl x2)]) (st' := []) (S := S) rfl (rc_199 x1) (s_199 x1 S) (fun r_1 S_2 => ?_)
  refine q_Sim.steps vc_243 2 (pc' := 7) (lv' := [(0, .inr (.inr (11, 0, 0))), (1, .inl x1), (2, .inl x2)]) (st' := [.inl x2, .inr (.inr (11, 0, 0)), .inl r_1]) (V' := q_V S_2) rfl ?_
  refine q_Sim.call vc_243 (as := [.inr (.inr (11, 0, 0)), .inl x2]) (pc' := 10) (lv' := [(0, .inr (.inr (11, 0, 0))), (1, .inl x1), (2, .inl x2)]) (st' := [.inl r_1]) (S := S_2) rfl (rc_199 x2) (s_199 x2 S_2) (fun r_3 S_4 => ?_)
  refine q_Sim.call vc_243 (as := [.inl r_1, .inl r_3]) (pc' := 13) (lv' := [(0, .inr (.inr (11, 0, 0))), (1, .inl x1), (2, .inl x2)]) (st' := []) (S := S_4) rfl (rc_202 r_1 r_3) (s_202 r_1 r_3 S_4) (fun r_5 S_6 => ?_)
  refine q_Sim.steps vc_243 2 (pc' := 15) (lv' := [(3, .inl r_5), (0, .inr (.inr (11, 0, 0))), (1, .inl x1), (2, .inl x2)]) (st' := [.inl r_5]) (V' := q_V S_6) rfl ?_
  refine q_Sim.br vc_243 (c := r_5 ≤ 0) (t := 24) (f := 18) (lv' := [(3, .inl r_5), (0, .inr (.inr (11, 0, 0))), (1, .inl x1), (2, .inl x2)]) (st' := []) (V' := q_V S_6) rfl ?_ ?_
  · refine q_Sim.steps vc_243 1 (pc' := 25) (lv' := [(3, .inl r_5), (0, .inr (.inr (11, 0, 0))), (1, .inl x1), (2, .inl x2)]) (st' := [.inr (.inr (11, 0, 0))]) (V' := q_V S_6) rfl ?_
    refine q_Sim.call vc_243 (as := [.inr (.inr (11, 0, 0))]) (pc' := 28) (lv' := [(3, .inl r_5), (0, .inr (.inr (11, 0, 0))), (1, .inl x1), (2, .inl x2)]) (st' := []) (S := S_6) rfl (rc_242 ) (s_242  S_6) (fun r_7 S_8 => ?_)
    refine q_Sim.steps vc_243 4 (pc' := 32) (lv' := [(3, .inl r_5), (0, .inr (.inr (11, 0, 0))), (1, .inl x1), (2, .inl x2)]) (st' := [.inl x2, .inl x1, .inr (.inr (11, 0, 0)), .inr (.inr (11, 0, 0))]) (V' := q_V S_8) rfl ?_
    refine q_Sim.call vc_243 (as := [.inr (.inr (11, 0, 0)), .inl x1, .inl x2]) (pc' := 35) (lv' := [(3, .inl r_5), (0, .inr (.inr (11, 0, 0))), (1, .inl x1), (2, .inl x2)]) (st' := [.inr (.inr (11, 0, 0))]) (S := S_8) rfl (rc_241 x1 x2) (s_241 x1 x2 S_8) (fun r_9 S_10 => ?_)
    refine q_Sim.call vc_243 (as := [.inr (.inr (11, 0, 0)), .inl r_9]) (pc' := 38) (lv' := [(3, .inl r_5), (0, .inr (.inr (11, 0, 0))), (1, .inl x1), (2, .inl x2)]) (st' := []) (S := S_10) rfl (rc_187 r_9) (s_187 r_9 S_10) (fun r_11 S_12 => ?_)
    exact q_Sim.ret vc_243 rfl
  · refine q_Sim.steps vc_243 2 (pc' := 20) (lv' := [(3, .inl r_5), (0, .inr (.inr (11, 0, 0))), (1, .inl x1), (2, .inl x2)]) (st' := [.inl r_5, .inr (.inr (11, 0, 0))]) (V' := q_V S_6) rfl ?_
    refine q_Sim.call vc_243 (as := [.inr (.inr (11, 0, 0)), .inl r_5]) (pc' := 23) (lv' := [(3, .inl r_5), (0, .inr (.inr (11, 0, 0))), (1, .inl x1), (2, .inl x2)]) (st' := []) (S := S_6) rfl (rc_186 r_5) (s_186 r_5 S_6) (fun r_13 S_14 => ?_)
    exact q_Sim.ret vc_243 rfl
theorem vc_244 : v_code 244 = k_244 := rfl
theorem rc_244 (x1 : Int32) : v_rcv 244 [.inr (.inr (11, 0, 0)), .inl x1] = true := rfl
def b_244_29 (back_4 : Int32 → Int32 → Int32 → QS → Option ((Int32) × QS)) (x1 : Int32) (x3 : Int32) (xs0 : Int32) (S : QS) : Option ((Int32) × QS) := back_4 x1 xs0 (x3 + 1) S
theorem sb_244_29 (back_4 : Int32 → Int32 → Int32 → QS → Option ((Int32) × QS)) (hb_4 : ∀ (x1 : Int32) (x2 : Int32) (x3 : Int32) (S : QS), q_Sim 244 4 [(0, .inr (.inr (11, 0, 0))), (1, .inl x1), (2, .inl x2), (3, .inl x3)] [] (q_V S) q_I (back_4 x1 x2 x3 S)) (x1 : Int32) (x3 : Int32) (xs0 : Int32) (S : QS) : q_Sim 244 29 [(0, .inr (.inr (11, 0, 0))), (1, .inl x1), (3, .inl x3)] [.inl xs0] (q_V S) q_I (b_244_29 back_4 x1 x3 xs0 S) := by
  unfold b_244_29
  refine q_Sim.steps vc_244 3 (pc' := 4) (lv' := [(3, .inl (x3 + 1)), (2, .inl xs0), (0, .inr (.inr (11, 0, 0))), (1, .inl x1)]) (st' := []) (V' := q_V S) rfl ?_
  exact q_Sim.sub2 (lv' := [(0, .inr (.inr (11, 0, 0))), (1, .inl x1), (2, .inl xs0), (3, .inl (x3 + 1))]) [0, 1, 2, 3] rfl (by decide) ⟨rfl, rfl, rfl, rfl, trivial⟩ (hb_4 x1 xs0 (x3 + 1) S)
def b_244_4 : Nat → Int32 → Int32 → Int32 → QS → Option ((Int32) × QS)
  | 0, _, _, _, _ => none
  | n + 1, x1, x2, x3, S => q_ck (v_in 0 19520) (q_let (S.1 (40, 0, 0) (0 : Int32).toNatClampNeg) (fun y_1 => if y_1 ≤ x3 then (some (x2, S)) else (q_bd (f_190 x3 3 S) (fun r_2 S_3 => if ¬ r_2 = x1 then (b_244_29 (b_244_4 n) x1 x3 x2 S_3) else (b_244_29 (b_244_4 n) x1 x3 x3 S_3)))))
theorem sb_244_4 : ∀ (n : Nat) (x1 : Int32) (x2 : Int32) (x3 : Int32) (S : QS), q_Sim 244 4 [(0, .inr (.inr (11, 0, 0))), (1, .inl x1), (2, .inl x2), (3, .inl x3)] [] (q_V S) q_I (b_244_4 n x1 x2 x3 S)
  | 0, _, _, _, _ => q_Sim.none
  | n + 1, x1, x2, x3, S => by
    rw [b_244_4]
    refine q_Sim.steps vc_244 4 (pc' := 10) (lv' := [(0, .inr (.inr (11, 0, 0))), (1, .inl x1), (2, .inl x2), (3, .inl x3)]) (st' := [.inl 0, .inr (.inr (40, 0, 0)), .inl x3]) (V' := q_V S) rfl ?_
    refine q_Sim.ck vc_244 (c := v_in 0 19520) (pc' := 11) (lv' := [(0, .inr (.inr (11, 0, 0))), (1, .inl x1), (2, .inl x2), (3, .inl x3)]) (st' := [.inl (S.1 (40, 0, 0) (0 : Int32).toNatClampNeg), .inl x3]) (V' := q_V S) rfl ?_
    refine q_Sim.letI (fun y_1 => ?_)
    refine q_Sim.br vc_244 (c := y_1 ≤ x3) (t := 36) (f := 14) (lv' := [(0, .inr (.inr (11, 0, 0))), (1, .inl x1), (2, .inl x2), (3, .inl x3)]) (st' := []) (V' := q_V S) rfl ?_ ?_
    · refine q_Sim.steps vc_244 1 (pc' := 37) (lv' := [(0, .inr (.inr (11, 0, 0))), (1, .inl x1), (2, .inl x2), (3, .inl x3)]) (st' := [.inl x2]) (V' := q_V S) rfl ?_
      exact q_Sim.ret vc_244 rfl
    · refine q_Sim.steps vc_244 3 (pc' := 17) (lv' := [(0, .inr (.inr (11, 0, 0))), (1, .inl x1), (2, .inl x2), (3, .inl x3)]) (st' := [.inl 3, .inl x3, .inr (.inr (11, 0, 0))]) (V' := q_V S) rfl ?_
      refine q_Sim.call vc_244 (as := [.inr (.inr (11, 0, 0)), .inl x3, .inl 3]) (pc' := 20) (lv' := [(0, .inr (.inr (11, 0, 0))), (1, .inl x1), (2, .inl x2), (3, .inl x3)]) (st' := []) (S := S) rfl (rc_190 x3 3) (s_190 x3 3 S) (fun r_2 S_3 => ?_)
      refine q_Sim.steps vc_244 1 (pc' := 21) (lv' := [(0, .inr (.inr (11, 0, 0))), (1, .inl x1), (2, .inl x2), (3, .inl x3)]) (st' := [.inl x1, .inl r_2]) (V' := q_V S_3) rfl ?_
      refine q_Sim.br vc_244 (c := ¬ r_2 = x1) (t := 28) (f := 24) (lv' := [(0, .inr (.inr (11, 0, 0))), (1, .inl x1), (2, .inl x2), (3, .inl x3)]) (st' := []) (V' := q_V S_3) rfl ?_ ?_
      · refine q_Sim.steps vc_244 1 (pc' := 29) (lv' := [(0, .inr (.inr (11, 0, 0))), (1, .inl x1), (2, .inl x2), (3, .inl x3)]) (st' := [.inl x2]) (V' := q_V S_3) rfl ?_
        exact q_Sim.sub2 (lv' := [(0, .inr (.inr (11, 0, 0))), (1, .inl x1), (3, .inl x3)]) [0, 1, 3] rfl (by decide) ⟨rfl, rfl, rfl, trivial⟩ (sb_244_29 (b_244_4 n) (sb_244_4 n) x1 x3 x2 S_3)
      · refine q_Sim.steps vc_244 2 (pc' := 29) (lv' := [(0, .inr (.inr (11, 0, 0))), (1, .inl x1), (2, .inl x2), (3, .inl x3)]) (st' := [.inl x3]) (V' := q_V S_3) rfl ?_
        exact q_Sim.sub2 (lv' := [(0, .inr (.inr (11, 0, 0))), (1, .inl x1), (3, .inl x3)]) [0, 1, 3] rfl (by decide) ⟨rfl, rfl, rfl, trivial⟩ (sb_244_29 (b_244_4 n) (sb_244_4 n) x1 x3 x3 S_3)
def f_244 (x1 : Int32) (S : QS) : Option ((Int32) × QS) := b_244_4 q_N x1 (-1) 0 S
theorem s_244 (x1 : Int32) (S : QS) : q_Sim 244 0 [(0, .inr (.inr (11, 0, 0))), (1, .inl x1)] [] (q_V S) q_I (f_244 x1 S) := by
  unfold f_244
  refine q_Sim.steps vc_244 4 (pc' := 4) (lv' := [(3, .inl 0), (2, .inl (-1)), (0, .inr (.inr (11, 0, 0))), (1, .inl x1)]) (st' := []) (V' := q_V S) rfl ?_
  exact q_Sim.sub2 (lv' := [(0, .inr (.inr (11, 0, 0))), (1, .inl x1), (2, .inl (-1)), (3, .inl 0)]) [0, 1, 2, 3] rfl (by decide) ⟨rfl, rfl, rfl, rfl, trivial⟩ (sb_244_4 q_N x1 (-1) 0 S)
theorem vc_245 : v_code 245 = k_245 := rfl
theorem rc_245 (x1 : Int32) : v_rcv 245 [.inr (.inr (11, 0, 0)), .inl x1] = true := rfl
def b_245_30 (back_4 : Int32 → Int32 → Int32 → QS → Option ((Int32) × QS)) (x1 : Int32) (x3 : Int32) (xs0 : Int32) (S : QS) : Option ((Int32) × QS) := back_4 x1 xs0 (x3 + 1) S
theorem sb_245_30 (back_4 : Int32 → Int32 → Int32 → QS → Option ((Int32) × QS)) (hb_4 : ∀ (x1 : Int32) (x2 : Int32) (x3 : Int32) (S : QS), q_Sim 245 4 [(0, .inr (.inr (11, 0, 0))), (1, .inl x1), (2, .inl x2), (3, .inl x3)] [] (q_V S) q_I (back_4 x1 x2 x3 S)) (x1 : Int32) (x3 : Int32) (xs0 : Int32) (S : QS) : q_Sim 245 30 [(0, .inr (.inr (11, 0, 0))), (1, .inl x1), (3, .inl x3)] [.inl xs0] (q_V S) q_I (b_245_30 back_4 x1 x3 xs0 S) := by
  unfold b_245_30
  refine q_Sim.steps vc_245 3 (pc' := 4) (lv' := [(3, .inl (x3 + 1)), (2, .inl xs0), (0, .inr (.inr (11, 0, 0))), (1, .inl x1)]) (st' := []) (V' := q_V S) rfl ?_
  exact q_Sim.sub2 (lv' := [(0, .inr (.inr (11, 0, 0))), (1, .inl x1), (2, .inl xs0), (3, .inl (x3 + 1))]) [0, 1, 2, 3] rfl (by decide) ⟨rfl, rfl, rfl, rfl, trivial⟩ (hb_4 x1 xs0 (x3 + 1) S)
def b_245_4 : Nat → Int32 → Int32 → Int32 → QS → Option ((Int32) × QS)
  | 0, _, _, _, _ => none
  | n + 1, x1, x2, x3, S => q_ck (v_in 2 19520) (q_let (S.1 (40, 0, 0) (2 : Int32).toNatClampNeg) (fun y_1 => if y_1 ≤ x3 then (some (x2, S)) else (q_bd (f_192 x3 7 S) (fun r_2 S_3 => if ¬ r_2 = x1 then (b_245_30 (b_245_4 n) x1 x3 x2 S_3) else (b_245_30 (b_245_4 n) x1 x3 x3 S_3)))))
theorem sb_245_4 : ∀ (n : Nat) (x1 : Int32) (x2 : Int32) (x3 : Int32) (S : QS), q_Sim 245 4 [(0, .inr (.inr (11, 0, 0))), (1, .inl x1), (2, .inl x2), (3, .inl x3)] [] (q_V S) q_I (b_245_4 n x1 x2 x3 S)
  | 0, _, _, _, _ => q_Sim.none
  | n + 1, x1, x2, x3, S => by
    rw [b_245_4]
    refine q_Sim.steps vc_245 4 (pc' := 10) (lv' := [(0, .inr (.inr (11, 0, 0))), (1, .inl x1), (2, .inl x2), (3, .inl x3)]) (st' := [.inl 2, .inr (.inr (40, 0, 0)), .inl x3]) (V' := q_V S) rfl ?_
    refine q_Sim.ck vc_245 (c := v_in 2 19520) (pc' := 11) (lv' := [(0, .inr (.inr (11, 0, 0))), (1, .inl x1), (2, .inl x2), (3, .inl x3)]) (st' := [.inl (S.1 (40, 0, 0) (2 : Int32).toNatClampNeg), .inl x3]) (V' := q_V S) rfl ?_
    refine q_Sim.letI (fun y_1 => ?_)
    refine q_Sim.br vc_245 (c := y_1 ≤ x3) (t := 37) (f := 14) (lv' := [(0, .inr (.inr (11, 0, 0))), (1, .inl x1), (2, .inl x2), (3, .inl x3)]) (st' := []) (V' := q_V S) rfl ?_ ?_
    · refine q_Sim.steps vc_245 1 (pc' := 38) (lv' := [(0, .inr (.inr (11, 0, 0))), (1, .inl x1), (2, .inl x2), (3, .inl x3)]) (st' := [.inl x2]) (V' := q_V S) rfl ?_
      exact q_Sim.ret vc_245 rfl
    · refine q_Sim.steps vc_245 3 (pc' := 18) (lv' := [(0, .inr (.inr (11, 0, 0))), (1, .inl x1), (2, .inl x2), (3, .inl x3)]) (st' := [.inl 7, .inl x3, .inr (.inr (11, 0, 0))]) (V' := q_V S) rfl ?_
      refine q_Sim.call vc_245 (as := [.inr (.inr (11, 0, 0)), .inl x3, .inl 7]) (pc' := 21) (lv' := [(0, .inr (.inr (11, 0, 0))), (1, .inl x1), (2, .inl x2), (3, .inl x3)]) (st' := []) (S := S) rfl (rc_192 x3 7) (s_192 x3 7 S) (fun r_2 S_3 => ?_)
      refine q_Sim.steps vc_245 1 (pc' := 22) (lv' := [(0, .inr (.inr (11, 0, 0))), (1, .inl x1), (2, .inl x2), (3, .inl x3)]) (st' := [.inl x1, .inl r_2]) (V' := q_V S_3) rfl ?_
      refine q_Sim.br vc_245 (c := ¬ r_2 = x1) (t := 29) (f := 25) (lv' := [(0, .inr (.inr (11, 0, 0))), (1, .inl x1), (2, .inl x2), (3, .inl x3)]) (st' := []) (V' := q_V S_3) rfl ?_ ?_
      · refine q_Sim.steps vc_245 1 (pc' := 30) (lv' := [(0, .inr (.inr (11, 0, 0))), (1, .inl x1), (2, .inl x2), (3, .inl x3)]) (st' := [.inl x2]) (V' := q_V S_3) rfl ?_
        exact q_Sim.sub2 (lv' := [(0, .inr (.inr (11, 0, 0))), (1, .inl x1), (3, .inl x3)]) [0, 1, 3] rfl (by decide) ⟨rfl, rfl, rfl, trivial⟩ (sb_245_30 (b_245_4 n) (sb_245_4 n) x1 x3 x2 S_3)
      · refine q_Sim.steps vc_245 2 (pc' := 30) (lv' := [(0, .inr (.inr (11, 0, 0))), (1, .inl x1), (2, .inl x2), (3, .inl x3)]) (st' := [.inl x3]) (V' := q_V S_3) rfl ?_
        exact q_Sim.sub2 (lv' := [(0, .inr (.inr (11, 0, 0))), (1, .inl x1), (3, .inl x3)]) [0, 1, 3] rfl (by decide) ⟨rfl, rfl, rfl, trivial⟩ (sb_245_30 (b_245_4 n) (sb_245_4 n) x1 x3 x3 S_3)
def f_245 (x1 : Int32) (S : QS) : Option ((Int32) × QS) := b_245_4 q_N x1 (-1) 0 S
theorem s_245 (x1 : Int32) (S : QS) : q_Sim 245 0 [(0, .inr (.inr (11, 0, 0))), (1, .inl x1)] [] (q_V S) q_I (f_245 x1 S) := by
  unfold f_245
  refine q_Sim.steps vc_245 4 (pc' := 4) (lv' := [(3, .inl 0), (2, .inl (-1)), (0, .inr (.inr (11, 0, 0))), (1, .inl x1)]) (st' := []) (V' := q_V S) rfl ?_
  exact q_Sim.sub2 (lv' := [(0, .inr (.inr (11, 0, 0))), (1, .inl x1), (2, .inl (-1)), (3, .inl 0)]) [0, 1, 2, 3] rfl (by decide) ⟨rfl, rfl, rfl, rfl, trivial⟩ (sb_245_4 q_N x1 (-1) 0 S)
