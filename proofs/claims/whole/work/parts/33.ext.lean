/-! ===== the code as functions, by program ===== -/
theorem vc_115 : v_code 115 = k_115 := rfl
theorem rc_115 (i0 : Nat) : v_rcv 115 [.inr (.inr (9, i0, 0)), .inr (.inr (1, 0, 0))] = true := rfl
def b_115_37 : Nat → Nat → Int32 → QS → Option ((Unit) × QS)
  | 0, _, _, _ => none
  | n + 1, i0, x2, S => if (S.1 (9, i0, 0) 5) ≤ x2 then (some ((), S)) else (q_bd (f_91 i0 x2 S) (fun r_2 S_3 => q_bd (f_116 i0 r_2.1 r_2.2 S_3) (fun r_4 S_5 => q_bd (f_117 i0 r_2.1 r_2.2 S_5) (fun r_6 S_7 => q_bd (f_118 i0 r_2.1 r_2.2 r_6 S_7) (fun r_8 S_9 => q_bd (f_119 i0 r_2.1 r_2.2 S_9) (fun r_10 S_11 => q_let (q_set S_11 (4, r_2.1, r_2.2) 2 ((S_11.1 (4, r_2.1, r_2.2) 2) - ((S_11.1 (4, r_2.1, r_2.2) 2) / 40))) (fun S_12 => b_115_37 n i0 (x2 + 1) S_12)))))))
theorem sb_115_37 : ∀ (n : Nat) (i0 : Nat) (x2 : Int32) (S : QS), q_Sim 115 37 [(0, .inr (.inr (9, i0, 0))), (1, .inr (.inr (1, 0, 0))), (2, .inl x2)] [] (q_V S) q_U (b_115_37 n i0 x2 S)
  | 0, _, _, _ => q_Sim.none
  | n + 1, i0, x2, S => by
    rw [b_115_37]
    refine q_Sim.steps vc_115 3 (pc' := 42) (lv' := [(0, .inr (.inr (9, i0, 0))), (1, .inr (.inr (1, 0, 0))), (2, .inl x2)]) (st' := [.inl (S.1 (9, i0, 0) 5), .inl x2]) (V' := q_V S) rfl ?_
    refine q_Sim.br vc_115 (c := (S.1 (9, i0, 0) 5) ≤ x2) (t := 94) (f := 45) (lv' := [(0, .inr (.inr (9, i0, 0))), (1, .inr (.inr (1, 0, 0))), (2, .inl x2)]) (st' := []) (V' := q_V S) rfl ?_ ?_
    · exact q_Sim.ret vc_115 rfl
    · refine q_Sim.steps vc_115 2 (pc' := 47) (lv' := [(0, .inr (.inr (9, i0, 0))), (1, .inr (.inr (1, 0, 0))), (2, .inl x2)]) (st' := [.inl x2, .inr (.inr (9, i0, 0))]) (V' := q_V S) rfl ?_
      refine q_Sim.call vc_115 (as := [.inr (.inr (9, i0, 0)), .inl x2]) (pc' := 50) (lv' := [(0, .inr (.inr (9, i0, 0))), (1, .inr (.inr (1, 0, 0))), (2, .inl x2)]) (st' := []) (S := S) rfl (rc_91 i0 x2) (s_91 i0 x2 S) (fun r_2 S_3 => ?_)
      refine q_Sim.steps vc_115 3 (pc' := 53) (lv' := [(3, .inr (.inr (4, r_2.1, r_2.2))), (0, .inr (.inr (9, i0, 0))), (1, .inr (.inr (1, 0, 0))), (2, .inl x2)]) (st' := [.inr (.inr (4, r_2.1, r_2.2)), .inr (.inr (9, i0, 0))]) (V' := q_V S_3) rfl ?_
      refine q_Sim.call vc_115 (as := [.inr (.inr (9, i0, 0)), .inr (.inr (4, r_2.1, r_2.2))]) (pc' := 56) (lv' := [(3, .inr (.inr (4, r_2.1, r_2.2))), (0, .inr (.inr (9, i0, 0))), (1, .inr (.inr (1, 0, 0))), (2, .inl x2)]) (st' := []) (S := S_3) rfl (rc_116 i0 r_2.1 r_2.2) (s_116 i0 r_2.1 r_2.2 S_3) (fun r_4 S_5 => ?_)
      refine q_Sim.steps vc_115 5 (pc' := 61) (lv' := [(3, .inr (.inr (4, r_2.1, r_2.2))), (0, .inr (.inr (9, i0, 0))), (1, .inr (.inr (1, 0, 0))), (2, .inl x2)]) (st' := [.inr (.inr (1, 0, 0)), .inr (.inr (4, r_2.1, r_2.2)), .inr (.inr (9, i0, 0)), .inr (.inr (4, r_2.1, r_2.2)), .inr (.inr (9, i0, 0))]) (V' := q_V S_5) rfl ?_
      refine q_Sim.call vc_115 (as := [.inr (.inr (9, i0, 0)), .inr (.inr (4, r_2.1, r_2.2)), .inr (.inr (1, 0, 0))]) (pc' := 64) (lv' := [(3, .inr (.inr (4, r_2.1, r_2.2))), (0, .inr (.inr (9, i0, 0))), (1, .inr (.inr (1, 0, 0))), (2, .inl x2)]) (st' := [.inr (.inr (4, r_2.1, r_2.2)), .inr (.inr (9, i0, 0))]) (S := S_5) rfl (rc_117 i0 r_2.1 r_2.2) (s_117 i0 r_2.1 r_2.2 S_5) (fun r_6 S_7 => ?_)
      refine q_Sim.call vc_115 (as := [.inr (.inr (9, i0, 0)), .inr (.inr (4, r_2.1, r_2.2)), .inl r_6]) (pc' := 67) (lv' := [(3, .inr (.inr (4, r_2.1, r_2.2))), (0, .inr (.inr (9, i0, 0))), (1, .inr (.inr (1, 0, 0))), (2, .inl x2)]) (st' := []) (S := S_7) rfl (rc_118 i0 r_2.1 r_2.2 r_6) (s_118 i0 r_2.1 r_2.2 r_6 S_7) (fun r_8 S_9 => ?_)
      refine q_Sim.steps vc_115 2 (pc' := 69) (lv' := [(3, .inr (.inr (4, r_2.1, r_2.2))), (0, .inr (.inr (9, i0, 0))), (1, .inr (.inr (1, 0, 0))), (2, .inl x2)]) (st' := [.inr (.inr (4, r_2.1, r_2.2)), .inr (.inr (9, i0, 0))]) (V' := q_V S_9) rfl ?_
      refine q_Sim.call vc_115 (as := [.inr (.inr (9, i0, 0)), .inr (.inr (4, r_2.1, r_2.2))]) (pc' := 72) (lv' := [(3, .inr (.inr (4, r_2.1, r_2.2))), (0, .inr (.inr (9, i0, 0))), (1, .inr (.inr (1, 0, 0))), (2, .inl x2)]) (st' := []) (S := S_9) rfl (rc_119 i0 r_2.1 r_2.2) (s_119 i0 r_2.1 r_2.2 S_9) (fun r_10 S_11 => ?_)
      refine q_Sim.steps vc_115 6 (pc' := 83) (lv' := [(3, .inr (.inr (4, r_2.1, r_2.2))), (0, .inr (.inr (9, i0, 0))), (1, .inr (.inr (1, 0, 0))), (2, .inl x2)]) (st' := [.inl 40, .inl (S_11.1 (4, r_2.1, r_2.2) 2), .inl (S_11.1 (4, r_2.1, r_2.2) 2), .inr (.inr (4, r_2.1, r_2.2))]) (V' := q_V S_11) rfl ?_
      refine q_Sim.okd vc_115 (c := decide (¬ (40 : Int32) = 0)) (pc' := 84) (lv' := [(3, .inr (.inr (4, r_2.1, r_2.2))), (0, .inr (.inr (9, i0, 0))), (1, .inr (.inr (1, 0, 0))), (2, .inl x2)]) (st' := [.inl ((S_11.1 (4, r_2.1, r_2.2) 2) / 40), .inl (S_11.1 (4, r_2.1, r_2.2) 2), .inr (.inr (4, r_2.1, r_2.2))]) (V' := q_V S_11) rfl (by decide) ?_
      refine q_Sim.steps vc_115 1 (pc' := 85) (lv' := [(3, .inr (.inr (4, r_2.1, r_2.2))), (0, .inr (.inr (9, i0, 0))), (1, .inr (.inr (1, 0, 0))), (2, .inl x2)]) (st' := [.inl ((S_11.1 (4, r_2.1, r_2.2) 2) - ((S_11.1 (4, r_2.1, r_2.2) 2) / 40)), .inr (.inr (4, r_2.1, r_2.2))]) (V' := q_V S_11) rfl ?_
      refine q_Sim.steps vc_115 1 (pc' := 88) (lv' := [(3, .inr (.inr (4, r_2.1, r_2.2))), (0, .inr (.inr (9, i0, 0))), (1, .inr (.inr (1, 0, 0))), (2, .inl x2)]) (st' := []) (V' := q_V (q_set S_11 (4, r_2.1, r_2.2) 2 ((S_11.1 (4, r_2.1, r_2.2) 2) - ((S_11.1 (4, r_2.1, r_2.2) 2) / 40)))) rfl ?_
      refine q_Sim.letS (fun S_12 => ?_)
      refine q_Sim.steps vc_115 2 (pc' := 37) (lv' := [(2, .inl (x2 + 1)), (3, .inr (.inr (4, r_2.1, r_2.2))), (0, .inr (.inr (9, i0, 0))), (1, .inr (.inr (1, 0, 0)))]) (st' := []) (V' := q_V S_12) rfl ?_
      exact q_Sim.sub2 (lv' := [(0, .inr (.inr (9, i0, 0))), (1, .inr (.inr (1, 0, 0))), (2, .inl (x2 + 1))]) [0, 1, 2] rfl (by decide) ⟨rfl, rfl, rfl, trivial⟩ (sb_115_37 n i0 (x2 + 1) S_12)
def b_115_12 : Nat → Nat → Int32 → QS → Option ((Unit) × QS)
  | 0, _, _, _ => none
  | n + 1, i0, x2, S => if (S.1 (9, i0, 0) 7) ≤ x2 then (b_115_37 q_N i0 0 S) else (q_bd (f_93 i0 x2 S) (fun r_13 S_14 => q_bd (f_10 r_13.1 r_13.2 S_14) (fun r_15 S_16 => b_115_12 n i0 (x2 + 1) S_16)))
theorem sb_115_12 : ∀ (n : Nat) (i0 : Nat) (x2 : Int32) (S : QS), q_Sim 115 12 [(0, .inr (.inr (9, i0, 0))), (1, .inr (.inr (1, 0, 0))), (2, .inl x2)] [] (q_V S) q_U (b_115_12 n i0 x2 S)
  | 0, _, _, _ => q_Sim.none
  | n + 1, i0, x2, S => by
    rw [b_115_12]
    refine q_Sim.steps vc_115 3 (pc' := 17) (lv' := [(0, .inr (.inr (9, i0, 0))), (1, .inr (.inr (1, 0, 0))), (2, .inl x2)]) (st' := [.inl (S.1 (9, i0, 0) 7), .inl x2]) (V' := q_V S) rfl ?_
    refine q_Sim.br vc_115 (c := (S.1 (9, i0, 0) 7) ≤ x2) (t := 35) (f := 20) (lv' := [(0, .inr (.inr (9, i0, 0))), (1, .inr (.inr (1, 0, 0))), (2, .inl x2)]) (st' := []) (V' := q_V S) rfl ?_ ?_
    · refine q_Sim.steps vc_115 2 (pc' := 37) (lv' := [(2, .inl 0), (0, .inr (.inr (9, i0, 0))), (1, .inr (.inr (1, 0, 0)))]) (st' := []) (V' := q_V S) rfl ?_
      exact q_Sim.sub2 (lv' := [(0, .inr (.inr (9, i0, 0))), (1, .inr (.inr (1, 0, 0))), (2, .inl 0)]) [0, 1, 2] rfl (by decide) ⟨rfl, rfl, rfl, trivial⟩ (sb_115_37 q_N i0 0 S)
    · refine q_Sim.steps vc_115 3 (pc' := 23) (lv' := [(0, .inr (.inr (9, i0, 0))), (1, .inr (.inr (1, 0, 0))), (2, .inl x2)]) (st' := [.inl x2, .inr (.inr (9, i0, 0)), .inr (.inr (1, 0, 0))]) (V' := q_V S) rfl ?_
      refine q_Sim.call vc_115 (as := [.inr (.inr (9, i0, 0)), .inl x2]) (pc' := 26) (lv' := [(0, .inr (.inr (9, i0, 0))), (1, .inr (.inr (1, 0, 0))), (2, .inl x2)]) (st' := [.inr (.inr (1, 0, 0))]) (S := S) rfl (rc_93 i0 x2) (s_93 i0 x2 S) (fun r_13 S_14 => ?_)
      refine q_Sim.call vc_115 (as := [.inr (.inr (1, 0, 0)), .inr (.inr (8, r_13.1, r_13.2))]) (pc' := 29) (lv' := [(0, .inr (.inr (9, i0, 0))), (1, .inr (.inr (1, 0, 0))), (2, .inl x2)]) (st' := []) (S := S_14) rfl (rc_10 r_13.1 r_13.2) (s_10 r_13.1 r_13.2 S_14) (fun r_15 S_16 => ?_)
      refine q_Sim.steps vc_115 2 (pc' := 12) (lv' := [(2, .inl (x2 + 1)), (0, .inr (.inr (9, i0, 0))), (1, .inr (.inr (1, 0, 0)))]) (st' := []) (V' := q_V S_16) rfl ?_
      exact q_Sim.sub2 (lv' := [(0, .inr (.inr (9, i0, 0))), (1, .inr (.inr (1, 0, 0))), (2, .inl (x2 + 1))]) [0, 1, 2] rfl (by decide) ⟨rfl, rfl, rfl, trivial⟩ (sb_115_12 n i0 (x2 + 1) S_16)
def f_115 (i0 : Nat) (S : QS) : Option ((Unit) × QS) := q_let (q_set S (9, i0, 0) 8 ((S.1 (9, i0, 0) 8) + 1)) (fun S_1 => b_115_12 q_N i0 0 S_1)
theorem s_115 (i0 : Nat) (S : QS) : q_Sim 115 0 [(0, .inr (.inr (9, i0, 0))), (1, .inr (.inr (1, 0, 0)))] [] (q_V S) q_U (f_115 i0 S) := by
  unfold f_115
  refine q_Sim.steps vc_115 5 (pc' := 7) (lv' := [(0, .inr (.inr (9, i0, 0))), (1, .inr (.inr (1, 0, 0)))]) (st' := [.inl ((S.1 (9, i0, 0) 8) + 1), .inr (.inr (9, i0, 0))]) (V' := q_V S) rfl ?_
  refine q_Sim.steps vc_115 1 (pc' := 10) (lv' := [(0, .inr (.inr (9, i0, 0))), (1, .inr (.inr (1, 0, 0)))]) (st' := []) (V' := q_V (q_set S (9, i0, 0) 8 ((S.1 (9, i0, 0) 8) + 1))) rfl ?_
  refine q_Sim.letS (fun S_1 => ?_)
  refine q_Sim.steps vc_115 2 (pc' := 12) (lv' := [(2, .inl 0), (0, .inr (.inr (9, i0, 0))), (1, .inr (.inr (1, 0, 0)))]) (st' := []) (V' := q_V S_1) rfl ?_
  exact q_Sim.sub2 (lv' := [(0, .inr (.inr (9, i0, 0))), (1, .inr (.inr (1, 0, 0))), (2, .inl 0)]) [0, 1, 2] rfl (by decide) ⟨rfl, rfl, rfl, trivial⟩ (sb_115_12 q_N i0 0 S_1)
theorem vc_120 : v_code 120 = k_120 := rfl
theorem rc_120 (i0 : Nat) (x1 : Int32) : v_rcv 120 [.inr (.inr (9, i0, 0)), .inl x1] = true := rfl
def b_120_136 : Nat → Nat → Int32 → Int32 → QS → Option ((Int32) × QS)
  | 0, _, _, _, _ => none
  | n + 1, i0, x2, x3, S => if 5 ≤ x3 then (some ((x2 * 31) + (S.1 (2, i0, 0) 3), S)) else (q_bd (f_107 i0 x3 S) (fun r_5 S_6 => q_let ((x2 * 31) + r_5) (fun y_7 => b_120_136 n i0 y_7 (x3 + 1) S_6)))
theorem sb_120_136 : ∀ (n : Nat) (i0 : Nat) (x2 : Int32) (x3 : Int32) (S : QS), q_Sim 120 136 [(0, .inr (.inr (9, i0, 0))), (2, .inl x2), (3, .inl x3)] [] (q_V S) q_I (b_120_136 n i0 x2 x3 S)
  | 0, _, _, _, _ => q_Sim.none
  | n + 1, i0, x2, x3, S => by
    rw [b_120_136]
    refine q_Sim.steps vc_120 2 (pc' := 138) (lv' := [(0, .inr (.inr (9, i0, 0))), (2, .inl x2), (3, .inl x3)]) (st' := [.inl 5, .inl x3]) (V' := q_V S) rfl ?_
    refine q_Sim.br vc_120 (c := 5 ≤ x3) (t := 158) (f := 141) (lv' := [(0, .inr (.inr (9, i0, 0))), (2, .inl x2), (3, .inl x3)]) (st' := []) (V' := q_V S) rfl ?_ ?_
    · refine q_Sim.steps vc_120 7 (pc' := 170) (lv' := [(0, .inr (.inr (9, i0, 0))), (2, .inl x2), (3, .inl x3)]) (st' := [.inl ((x2 * 31) + (S.1 (2, i0, 0) 3))]) (V' := q_V S) rfl ?_
      exact q_Sim.ret vc_120 rfl
    · refine q_Sim.steps vc_120 5 (pc' := 147) (lv' := [(0, .inr (.inr (9, i0, 0))), (2, .inl x2), (3, .inl x3)]) (st' := [.inl x3, .inr (.inr (9, i0, 0)), .inl (x2 * 31)]) (V' := q_V S) rfl ?_
      refine q_Sim.call vc_120 (as := [.inr (.inr (9, i0, 0)), .inl x3]) (pc' := 150) (lv' := [(0, .inr (.inr (9, i0, 0))), (2, .inl x2), (3, .inl x3)]) (st' := [.inl (x2 * 31)]) (S := S) rfl (rc_107 i0 x3) (s_107 i0 x3 S) (fun r_5 S_6 => ?_)
      refine q_Sim.steps vc_120 1 (pc' := 151) (lv' := [(0, .inr (.inr (9, i0, 0))), (2, .inl x2), (3, .inl x3)]) (st' := [.inl ((x2 * 31) + r_5)]) (V' := q_V S_6) rfl ?_
      refine q_Sim.letI (fun y_7 => ?_)
      refine q_Sim.steps vc_120 3 (pc' := 136) (lv' := [(3, .inl (x3 + 1)), (2, .inl y_7), (0, .inr (.inr (9, i0, 0)))]) (st' := []) (V' := q_V S_6) rfl ?_
      exact q_Sim.sub2 (lv' := [(0, .inr (.inr (9, i0, 0))), (2, .inl y_7), (3, .inl (x3 + 1))]) [0, 2, 3] rfl (by decide) ⟨rfl, rfl, rfl, trivial⟩ (sb_120_136 n i0 y_7 (x3 + 1) S_6)
def b_120_84 : Nat → Nat → Int32 → Int32 → QS → Option ((Int32) × QS)
  | 0, _, _, _, _ => none
  | n + 1, i0, x2, x3, S => if (S.1 (9, i0, 0) 7) ≤ x3 then (q_let ((x2 * 31) + (S.1 (9, i0, 0) 8)) (fun y_4 => b_120_136 q_N i0 y_4 0 S)) else (q_bd (f_93 i0 x3 S) (fun r_8 S_9 => q_bd (f_93 i0 x3 S_9) (fun r_10 S_11 => q_let ((((x2 * 31) + (S_9.1 (8, r_8.1, r_8.2) 0)) * 31) + (S_11.1 (8, r_10.1, r_10.2) 1)) (fun y_12 => b_120_84 n i0 y_12 (x3 + 1) S_11))))
theorem sb_120_84 : ∀ (n : Nat) (i0 : Nat) (x2 : Int32) (x3 : Int32) (S : QS), q_Sim 120 84 [(0, .inr (.inr (9, i0, 0))), (2, .inl x2), (3, .inl x3)] [] (q_V S) q_I (b_120_84 n i0 x2 x3 S)
  | 0, _, _, _, _ => q_Sim.none
  | n + 1, i0, x2, x3, S => by
    rw [b_120_84]
    refine q_Sim.steps vc_120 3 (pc' := 89) (lv' := [(0, .inr (.inr (9, i0, 0))), (2, .inl x2), (3, .inl x3)]) (st' := [.inl (S.1 (9, i0, 0) 7), .inl x3]) (V' := q_V S) rfl ?_
    refine q_Sim.br vc_120 (c := (S.1 (9, i0, 0) 7) ≤ x3) (t := 124) (f := 92) (lv' := [(0, .inr (.inr (9, i0, 0))), (2, .inl x2), (3, .inl x3)]) (st' := []) (V' := q_V S) rfl ?_ ?_
    · refine q_Sim.steps vc_120 6 (pc' := 133) (lv' := [(0, .inr (.inr (9, i0, 0))), (2, .inl x2), (3, .inl x3)]) (st' := [.inl ((x2 * 31) + (S.1 (9, i0, 0) 8))]) (V' := q_V S) rfl ?_
      refine q_Sim.letI (fun y_4 => ?_)
      refine q_Sim.steps vc_120 3 (pc' := 136) (lv' := [(3, .inl 0), (2, .inl y_4), (0, .inr (.inr (9, i0, 0)))]) (st' := []) (V' := q_V S) rfl ?_
      exact q_Sim.sub2 (lv' := [(0, .inr (.inr (9, i0, 0))), (2, .inl y_4), (3, .inl 0)]) [0, 2, 3] rfl (by decide) ⟨rfl, rfl, rfl, trivial⟩ (sb_120_136 q_N i0 y_4 0 S)
    · refine q_Sim.steps vc_120 5 (pc' := 98) (lv' := [(0, .inr (.inr (9, i0, 0))), (2, .inl x2), (3, .inl x3)]) (st' := [.inl x3, .inr (.inr (9, i0, 0)), .inl (x2 * 31)]) (V' := q_V S) rfl ?_
      refine q_Sim.call vc_120 (as := [.inr (.inr (9, i0, 0)), .inl x3]) (pc' := 101) (lv' := [(0, .inr (.inr (9, i0, 0))), (2, .inl x2), (3, .inl x3)]) (st' := [.inl (x2 * 31)]) (S := S) rfl (rc_93 i0 x3) (s_93 i0 x3 S) (fun r_8 S_9 => ?_)
      refine q_Sim.steps vc_120 6 (pc' := 110) (lv' := [(0, .inr (.inr (9, i0, 0))), (2, .inl x2), (3, .inl x3)]) (st' := [.inl x3, .inr (.inr (9, i0, 0)), .inl (((x2 * 31) + (S_9.1 (8, r_8.1, r_8.2) 0)) * 31)]) (V' := q_V S_9) rfl ?_
      refine q_Sim.call vc_120 (as := [.inr (.inr (9, i0, 0)), .inl x3]) (pc' := 113) (lv' := [(0, .inr (.inr (9, i0, 0))), (2, .inl x2), (3, .inl x3)]) (st' := [.inl (((x2 * 31) + (S_9.1 (8, r_8.1, r_8.2) 0)) * 31)]) (S := S_9) rfl (rc_93 i0 x3) (s_93 i0 x3 S_9) (fun r_10 S_11 => ?_)
      refine q_Sim.steps vc_120 2 (pc' := 117) (lv' := [(0, .inr (.inr (9, i0, 0))), (2, .inl x2), (3, .inl x3)]) (st' := [.inl ((((x2 * 31) + (S_9.1 (8, r_8.1, r_8.2) 0)) * 31) + (S_11.1 (8, r_10.1, r_10.2) 1))]) (V' := q_V S_11) rfl ?_
      refine q_Sim.letI (fun y_12 => ?_)
      refine q_Sim.steps vc_120 3 (pc' := 84) (lv' := [(3, .inl (x3 + 1)), (2, .inl y_12), (0, .inr (.inr (9, i0, 0)))]) (st' := []) (V' := q_V S_11) rfl ?_
      exact q_Sim.sub2 (lv' := [(0, .inr (.inr (9, i0, 0))), (2, .inl y_12), (3, .inl (x3 + 1))]) [0, 2, 3] rfl (by decide) ⟨rfl, rfl, rfl, trivial⟩ (sb_120_84 n i0 y_12 (x3 + 1) S_11)
def b_120_48 : Nat → Nat → Int32 → Int32 → QS → Option ((Int32) × QS)
  | 0, _, _, _, _ => none
  | n + 1, i0, x2, x3, S => if (S.1 (9, i0, 0) 6) ≤ x3 then (q_let ((x2 * 31) + (S.1 (9, i0, 0) 7)) (fun y_3 => b_120_84 q_N i0 y_3 0 S)) else (q_bd (f_92 i0 x3 S) (fun r_13 S_14 => q_bd (f_41 r_13.1 r_13.2 x2 S_14) (fun r_15 S_16 => b_120_48 n i0 r_15 (x3 + 1) S_16)))
theorem sb_120_48 : ∀ (n : Nat) (i0 : Nat) (x2 : Int32) (x3 : Int32) (S : QS), q_Sim 120 48 [(0, .inr (.inr (9, i0, 0))), (2, .inl x2), (3, .inl x3)] [] (q_V S) q_I (b_120_48 n i0 x2 x3 S)
  | 0, _, _, _, _ => q_Sim.none
  | n + 1, i0, x2, x3, S => by
    rw [b_120_48]
    refine q_Sim.steps vc_120 3 (pc' := 53) (lv' := [(0, .inr (.inr (9, i0, 0))), (2, .inl x2), (3, .inl x3)]) (st' := [.inl (S.1 (9, i0, 0) 6), .inl x3]) (V' := q_V S) rfl ?_
    refine q_Sim.br vc_120 (c := (S.1 (9, i0, 0) 6) ≤ x3) (t := 72) (f := 56) (lv' := [(0, .inr (.inr (9, i0, 0))), (2, .inl x2), (3, .inl x3)]) (st' := []) (V' := q_V S) rfl ?_ ?_
    · refine q_Sim.steps vc_120 6 (pc' := 81) (lv' := [(0, .inr (.inr (9, i0, 0))), (2, .inl x2), (3, .inl x3)]) (st' := [.inl ((x2 * 31) + (S.1 (9, i0, 0) 7))]) (V' := q_V S) rfl ?_
      refine q_Sim.letI (fun y_3 => ?_)
      refine q_Sim.steps vc_120 3 (pc' := 84) (lv' := [(3, .inl 0), (2, .inl y_3), (0, .inr (.inr (9, i0, 0)))]) (st' := []) (V' := q_V S) rfl ?_
      exact q_Sim.sub2 (lv' := [(0, .inr (.inr (9, i0, 0))), (2, .inl y_3), (3, .inl 0)]) [0, 2, 3] rfl (by decide) ⟨rfl, rfl, rfl, trivial⟩ (sb_120_84 q_N i0 y_3 0 S)
    · refine q_Sim.steps vc_120 2 (pc' := 58) (lv' := [(0, .inr (.inr (9, i0, 0))), (2, .inl x2), (3, .inl x3)]) (st' := [.inl x3, .inr (.inr (9, i0, 0))]) (V' := q_V S) rfl ?_
      refine q_Sim.call vc_120 (as := [.inr (.inr (9, i0, 0)), .inl x3]) (pc' := 61) (lv' := [(0, .inr (.inr (9, i0, 0))), (2, .inl x2), (3, .inl x3)]) (st' := []) (S := S) rfl (rc_92 i0 x3) (s_92 i0 x3 S) (fun r_13 S_14 => ?_)
      refine q_Sim.steps vc_120 1 (pc' := 62) (lv' := [(0, .inr (.inr (9, i0, 0))), (2, .inl x2), (3, .inl x3)]) (st' := [.inl x2, .inr (.inr (3, r_13.1, r_13.2))]) (V' := q_V S_14) rfl ?_
      refine q_Sim.call vc_120 (as := [.inr (.inr (3, r_13.1, r_13.2)), .inl x2]) (pc' := 65) (lv' := [(0, .inr (.inr (9, i0, 0))), (2, .inl x2), (3, .inl x3)]) (st' := []) (S := S_14) rfl (rc_41 r_13.1 r_13.2 x2) (s_41 r_13.1 r_13.2 x2 S_14) (fun r_15 S_16 => ?_)
      refine q_Sim.steps vc_120 3 (pc' := 48) (lv' := [(3, .inl (x3 + 1)), (2, .inl r_15), (0, .inr (.inr (9, i0, 0)))]) (st' := []) (V' := q_V S_16) rfl ?_
      exact q_Sim.sub2 (lv' := [(0, .inr (.inr (9, i0, 0))), (2, .inl r_15), (3, .inl (x3 + 1))]) [0, 2, 3] rfl (by decide) ⟨rfl, rfl, rfl, trivial⟩ (sb_120_48 n i0 r_15 (x3 + 1) S_16)
def b_120_12 : Nat → Nat → Int32 → Int32 → QS → Option ((Int32) × QS)
  | 0, _, _, _, _ => none
  | n + 1, i0, x2, x3, S => if (S.1 (9, i0, 0) 5) ≤ x3 then (q_let ((x2 * 31) + (S.1 (9, i0, 0) 6)) (fun y_2 => b_120_48 q_N i0 y_2 0 S)) else (q_bd (f_91 i0 x3 S) (fun r_17 S_18 => q_bd (f_56 r_17.1 r_17.2 x2 S_18) (fun r_19 S_20 => b_120_12 n i0 r_19 (x3 + 1) S_20)))
theorem sb_120_12 : ∀ (n : Nat) (i0 : Nat) (x2 : Int32) (x3 : Int32) (S : QS), q_Sim 120 12 [(0, .inr (.inr (9, i0, 0))), (2, .inl x2), (3, .inl x3)] [] (q_V S) q_I (b_120_12 n i0 x2 x3 S)
  | 0, _, _, _, _ => q_Sim.none
  | n + 1, i0, x2, x3, S => by
    rw [b_120_12]
    refine q_Sim.steps vc_120 3 (pc' := 17) (lv' := [(0, .inr (.inr (9, i0, 0))), (2, .inl x2), (3, .inl x3)]) (st' := [.inl (S.1 (9, i0, 0) 5), .inl x3]) (V' := q_V S) rfl ?_
    refine q_Sim.br vc_120 (c := (S.1 (9, i0, 0) 5) ≤ x3) (t := 36) (f := 20) (lv' := [(0, .inr (.inr (9, i0, 0))), (2, .inl x2), (3, .inl x3)]) (st' := []) (V' := q_V S) rfl ?_ ?_
    · refine q_Sim.steps vc_120 6 (pc' := 45) (lv' := [(0, .inr (.inr (9, i0, 0))), (2, .inl x2), (3, .inl x3)]) (st' := [.inl ((x2 * 31) + (S.1 (9, i0, 0) 6))]) (V' := q_V S) rfl ?_
      refine q_Sim.letI (fun y_2 => ?_)
      refine q_Sim.steps vc_120 3 (pc' := 48) (lv' := [(3, .inl 0), (2, .inl y_2), (0, .inr (.inr (9, i0, 0)))]) (st' := []) (V' := q_V S) rfl ?_
      exact q_Sim.sub2 (lv' := [(0, .inr (.inr (9, i0, 0))), (2, .inl y_2), (3, .inl 0)]) [0, 2, 3] rfl (by decide) ⟨rfl, rfl, rfl, trivial⟩ (sb_120_48 q_N i0 y_2 0 S)
    · refine q_Sim.steps vc_120 2 (pc' := 22) (lv' := [(0, .inr (.inr (9, i0, 0))), (2, .inl x2), (3, .inl x3)]) (st' := [.inl x3, .inr (.inr (9, i0, 0))]) (V' := q_V S) rfl ?_
      refine q_Sim.call vc_120 (as := [.inr (.inr (9, i0, 0)), .inl x3]) (pc' := 25) (lv' := [(0, .inr (.inr (9, i0, 0))), (2, .inl x2), (3, .inl x3)]) (st' := []) (S := S) rfl (rc_91 i0 x3) (s_91 i0 x3 S) (fun r_17 S_18 => ?_)
      refine q_Sim.steps vc_120 1 (pc' := 26) (lv' := [(0, .inr (.inr (9, i0, 0))), (2, .inl x2), (3, .inl x3)]) (st' := [.inl x2, .inr (.inr (4, r_17.1, r_17.2))]) (V' := q_V S_18) rfl ?_
      refine q_Sim.call vc_120 (as := [.inr (.inr (4, r_17.1, r_17.2)), .inl x2]) (pc' := 29) (lv' := [(0, .inr (.inr (9, i0, 0))), (2, .inl x2), (3, .inl x3)]) (st' := []) (S := S_18) rfl (rc_56 r_17.1 r_17.2 x2) (s_56 r_17.1 r_17.2 x2 S_18) (fun r_19 S_20 => ?_)
      refine q_Sim.steps vc_120 3 (pc' := 12) (lv' := [(3, .inl (x3 + 1)), (2, .inl r_19), (0, .inr (.inr (9, i0, 0)))]) (st' := []) (V' := q_V S_20) rfl ?_
      exact q_Sim.sub2 (lv' := [(0, .inr (.inr (9, i0, 0))), (2, .inl r_19), (3, .inl (x3 + 1))]) [0, 2, 3] rfl (by decide) ⟨rfl, rfl, rfl, trivial⟩ (sb_120_12 n i0 r_19 (x3 + 1) S_20)
def f_120 (i0 : Nat) (x1 : Int32) (S : QS) : Option ((Int32) × QS) := q_let ((x1 * 31) + (S.1 (9, i0, 0) 5)) (fun y_1 => b_120_12 q_N i0 y_1 0 S)
theorem s_120 (i0 : Nat) (x1 : Int32) (S : QS) : q_Sim 120 0 [(0, .inr (.inr (9, i0, 0))), (1, .inl x1)] [] (q_V S) q_I (f_120 i0 x1 S) := by
  unfold f_120
  refine q_Sim.steps vc_120 6 (pc' := 9) (lv' := [(0, .inr (.inr (9, i0, 0))), (1, .inl x1)]) (st' := [.inl ((x1 * 31) + (S.1 (9, i0, 0) 5))]) (V' := q_V S) rfl ?_
  refine q_Sim.letI (fun y_1 => ?_)
  refine q_Sim.steps vc_120 3 (pc' := 12) (lv' := [(3, .inl 0), (2, .inl y_1), (0, .inr (.inr (9, i0, 0))), (1, .inl x1)]) (st' := []) (V' := q_V S) rfl ?_
  exact q_Sim.sub2 (lv' := [(0, .inr (.inr (9, i0, 0))), (2, .inl y_1), (3, .inl 0)]) [0, 2, 3] rfl (by decide) ⟨rfl, rfl, rfl, trivial⟩ (sb_120_12 q_N i0 y_1 0 S)
theorem vc_170 : v_code 170 = k_170 := rfl
theorem rc_170 (x1 : Int32) : v_rcv 170 [.inr (.inr (10, 0, 0)), .inl x1] = true := rfl
def f_170 (x1 : Int32) (S : QS) : Option ((Int32) × QS) := q_let (q_set S (10, 0, 0) 3 x1) (fun S_1 => some ((-1), S_1))
theorem s_170 (x1 : Int32) (S : QS) : q_Sim 170 0 [(0, .inr (.inr (10, 0, 0))), (1, .inl x1)] [] (q_V S) q_I (f_170 x1 S) := by
  unfold f_170
  refine q_Sim.steps vc_170 2 (pc' := 2) (lv' := [(0, .inr (.inr (10, 0, 0))), (1, .inl x1)]) (st' := [.inl x1, .inr (.inr (10, 0, 0))]) (V' := q_V S) rfl ?_
  refine q_Sim.steps vc_170 1 (pc' := 5) (lv' := [(0, .inr (.inr (10, 0, 0))), (1, .inl x1)]) (st' := []) (V' := q_V (q_set S (10, 0, 0) 3 x1)) rfl ?_
  refine q_Sim.letS (fun S_1 => ?_)
  refine q_Sim.steps vc_170 1 (pc' := 6) (lv' := [(0, .inr (.inr (10, 0, 0))), (1, .inl x1)]) (st' := [.inl (-1)]) (V' := q_V S_1) rfl ?_
  exact q_Sim.ret vc_170 rfl
theorem vc_171 : v_code 171 = k_171 := rfl
theorem rc_171  : v_rcv 171 [.inr (.inr (10, 0, 0))] = true := rfl
def f_171  (S : QS) : Option ((Unit) × QS) := q_bd (f_90 S.2.2.1.2.1 S.2.2.1.1 S) (fun r_1 S_2 => q_let (q_set S_2 (10, 0, 0) 2 1) (fun S_3 => some ((), S_3)))
theorem s_171  (S : QS) : q_Sim 171 0 [(0, .inr (.inr (10, 0, 0)))] [] (q_V S) q_U (f_171  S) := by
  unfold f_171
  refine q_Sim.steps vc_171 4 (pc' := 8) (lv' := [(0, .inr (.inr (10, 0, 0)))]) (st' := [.inr (.inr (9, S.2.2.1.1, 0)), .inr (.inr (9, S.2.2.1.2.1, 0))]) (V' := q_V S) rfl ?_
  refine q_Sim.call vc_171 (as := [.inr (.inr (9, S.2.2.1.2.1, 0)), .inr (.inr (9, S.2.2.1.1, 0))]) (pc' := 11) (lv' := [(0, .inr (.inr (10, 0, 0)))]) (st' := []) (S := S) rfl (rc_90 S.2.2.1.2.1 S.2.2.1.1) (s_90 S.2.2.1.2.1 S.2.2.1.1 S) (fun r_1 S_2 => ?_)
  refine q_Sim.steps vc_171 2 (pc' := 13) (lv' := [(0, .inr (.inr (10, 0, 0)))]) (st' := [.inl 1, .inr (.inr (10, 0, 0))]) (V' := q_V S_2) rfl ?_
  refine q_Sim.steps vc_171 1 (pc' := 16) (lv' := [(0, .inr (.inr (10, 0, 0)))]) (st' := []) (V' := q_V (q_set S_2 (10, 0, 0) 2 1)) rfl ?_
  refine q_Sim.letS (fun S_3 => ?_)
  exact q_Sim.ret vc_171 rfl
theorem vc_169 : v_code 169 = k_169 := rfl
theorem rc_169 (x1 : Int32) : v_rcv 169 [.inr (.inr (10, 0, 0)), .inl x1] = true := rfl
def f_169 (x1 : Int32) (S : QS) : Option ((Int32) × QS) := q_let (q_set S (10, 0, 0) 3 0) (fun S_1 => some (x1, S_1))
theorem s_169 (x1 : Int32) (S : QS) : q_Sim 169 0 [(0, .inr (.inr (10, 0, 0))), (1, .inl x1)] [] (q_V S) q_I (f_169 x1 S) := by
  unfold f_169
  refine q_Sim.steps vc_169 2 (pc' := 2) (lv' := [(0, .inr (.inr (10, 0, 0))), (1, .inl x1)]) (st' := [.inl 0, .inr (.inr (10, 0, 0))]) (V' := q_V S) rfl ?_
  refine q_Sim.steps vc_169 1 (pc' := 5) (lv' := [(0, .inr (.inr (10, 0, 0))), (1, .inl x1)]) (st' := []) (V' := q_V (q_set S (10, 0, 0) 3 0)) rfl ?_
  refine q_Sim.letS (fun S_1 => ?_)
  refine q_Sim.steps vc_169 1 (pc' := 6) (lv' := [(0, .inr (.inr (10, 0, 0))), (1, .inl x1)]) (st' := [.inl x1]) (V' := q_V S_1) rfl ?_
  exact q_Sim.ret vc_169 rfl
theorem vc_122 : v_code 122 = k_122 := rfl
theorem rc_122 (x1 : Int32) : v_rcv 122 [.inr (.inr (10, 0, 0)), .inl x1] = true := rfl
def b_122_23  (S : QS) : Option ((Int32) × QS) := q_bd (f_170 6 S) (fun r_1 S_2 => some (r_1, S_2))
theorem sb_122_23  (S : QS) : q_Sim 122 23 [(0, .inr (.inr (10, 0, 0)))] [] (q_V S) q_I (b_122_23  S) := by
  unfold b_122_23
  refine q_Sim.steps vc_122 2 (pc' := 26) (lv' := [(0, .inr (.inr (10, 0, 0)))]) (st' := [.inl 6, .inr (.inr (10, 0, 0))]) (V' := q_V S) rfl ?_
  refine q_Sim.call vc_122 (as := [.inr (.inr (10, 0, 0)), .inl 6]) (pc' := 29) (lv' := [(0, .inr (.inr (10, 0, 0)))]) (st' := []) (S := S) rfl (rc_170 6) (s_170 6 S) (fun r_1 S_2 => ?_)
  exact q_Sim.ret vc_122 rfl
def f_122 (x1 : Int32) (S : QS) : Option ((Int32) × QS) := if x1 < 0 then (b_122_23  S) else (if 20000 < x1 then (b_122_23  S) else (if (S.1 (9, S.2.2.1.1, 0) 5) < 40 then (q_bd (f_171  S) (fun r_3 S_4 => q_bd (f_94 S_4.2.2.1.1 x1 S_4) (fun r_5 S_6 => q_bd (f_169 r_5 S_6) (fun r_7 S_8 => some (r_7, S_8))))) else (b_122_23  S)))
theorem s_122 (x1 : Int32) (S : QS) : q_Sim 122 0 [(0, .inr (.inr (10, 0, 0))), (1, .inl x1)] [] (q_V S) q_I (f_122 x1 S) := by
  unfold f_122
  refine q_Sim.steps vc_122 1 (pc' := 1) (lv' := [(0, .inr (.inr (10, 0, 0))), (1, .inl x1)]) (st' := [.inl x1]) (V' := q_V S) rfl ?_
  refine q_Sim.br vc_122 (c := x1 < 0) (t := 23) (f := 4) (lv' := [(0, .inr (.inr (10, 0, 0))), (1, .inl x1)]) (st' := []) (V' := q_V S) rfl ?_ ?_
  · exact q_Sim.sub2 (lv' := [(0, .inr (.inr (10, 0, 0)))]) [0] rfl (by decide) ⟨rfl, trivial⟩ (sb_122_23  S)
  · refine q_Sim.steps vc_122 2 (pc' := 8) (lv' := [(0, .inr (.inr (10, 0, 0))), (1, .inl x1)]) (st' := [.inl 20000, .inl x1]) (V' := q_V S) rfl ?_
    refine q_Sim.br vc_122 (c := 20000 < x1) (t := 23) (f := 11) (lv' := [(0, .inr (.inr (10, 0, 0))), (1, .inl x1)]) (st' := []) (V' := q_V S) rfl ?_ ?_
    · exact q_Sim.sub2 (lv' := [(0, .inr (.inr (10, 0, 0)))]) [0] rfl (by decide) ⟨rfl, trivial⟩ (sb_122_23  S)
    · refine q_Sim.steps vc_122 4 (pc' := 20) (lv' := [(0, .inr (.inr (10, 0, 0))), (1, .inl x1)]) (st' := [.inl 40, .inl (S.1 (9, S.2.2.1.1, 0) 5)]) (V' := q_V S) rfl ?_
      refine q_Sim.br vc_122 (c := (S.1 (9, S.2.2.1.1, 0) 5) < 40) (t := 30) (f := 23) (lv' := [(0, .inr (.inr (10, 0, 0))), (1, .inl x1)]) (st' := []) (V' := q_V S) rfl ?_ ?_
      · refine q_Sim.steps vc_122 1 (pc' := 31) (lv' := [(0, .inr (.inr (10, 0, 0))), (1, .inl x1)]) (st' := [.inr (.inr (10, 0, 0))]) (V' := q_V S) rfl ?_
        refine q_Sim.call vc_122 (as := [.inr (.inr (10, 0, 0))]) (pc' := 34) (lv' := [(0, .inr (.inr (10, 0, 0))), (1, .inl x1)]) (st' := []) (S := S) rfl (rc_171 ) (s_171  S) (fun r_3 S_4 => ?_)
        refine q_Sim.steps vc_122 4 (pc' := 40) (lv' := [(0, .inr (.inr (10, 0, 0))), (1, .inl x1)]) (st' := [.inl x1, .inr (.inr (9, S_4.2.2.1.1, 0)), .inr (.inr (10, 0, 0))]) (V' := q_V S_4) rfl ?_
        refine q_Sim.call vc_122 (as := [.inr (.inr (9, S_4.2.2.1.1, 0)), .inl x1]) (pc' := 43) (lv' := [(0, .inr (.inr (10, 0, 0))), (1, .inl x1)]) (st' := [.inr (.inr (10, 0, 0))]) (S := S_4) rfl (rc_94 S_4.2.2.1.1 x1) (s_94 S_4.2.2.1.1 x1 S_4) (fun r_5 S_6 => ?_)
        refine q_Sim.call vc_122 (as := [.inr (.inr (10, 0, 0)), .inl r_5]) (pc' := 46) (lv' := [(0, .inr (.inr (10, 0, 0))), (1, .inl x1)]) (st' := []) (S := S_6) rfl (rc_169 r_5) (s_169 r_5 S_6) (fun r_7 S_8 => ?_)
        exact q_Sim.ret vc_122 rfl
      · exact q_Sim.sub2 (lv' := [(0, .inr (.inr (10, 0, 0)))]) [0] rfl (by decide) ⟨rfl, trivial⟩ (sb_122_23  S)
theorem vc_172 : v_code 172 = k_172 := rfl
theorem rc_172 (x1 : Int32) : v_rcv 172 [.inr (.inr (10, 0, 0)), .inl x1] = true := rfl
def f_172 (x1 : Int32) (S : QS) : Option ((Int32) × QS) := if x1 < 0 then (some (2, S)) else (if x1 < 40 then (if (S.1 (9, S.2.2.1.1, 0) 5) ≤ x1 then (some (1, S)) else (some (0, S))) else (some (2, S)))
theorem s_172 (x1 : Int32) (S : QS) : q_Sim 172 0 [(0, .inr (.inr (10, 0, 0))), (1, .inl x1)] [] (q_V S) q_I (f_172 x1 S) := by
  unfold f_172
  refine q_Sim.steps vc_172 1 (pc' := 1) (lv' := [(0, .inr (.inr (10, 0, 0))), (1, .inl x1)]) (st' := [.inl x1]) (V' := q_V S) rfl ?_
  refine q_Sim.br vc_172 (c := x1 < 0) (t := 10) (f := 4) (lv' := [(0, .inr (.inr (10, 0, 0))), (1, .inl x1)]) (st' := []) (V' := q_V S) rfl ?_ ?_
  · refine q_Sim.steps vc_172 1 (pc' := 11) (lv' := [(0, .inr (.inr (10, 0, 0))), (1, .inl x1)]) (st' := [.inl 2]) (V' := q_V S) rfl ?_
    exact q_Sim.ret vc_172 rfl
  · refine q_Sim.steps vc_172 2 (pc' := 7) (lv' := [(0, .inr (.inr (10, 0, 0))), (1, .inl x1)]) (st' := [.inl 40, .inl x1]) (V' := q_V S) rfl ?_
    refine q_Sim.br vc_172 (c := x1 < 40) (t := 12) (f := 10) (lv' := [(0, .inr (.inr (10, 0, 0))), (1, .inl x1)]) (st' := []) (V' := q_V S) rfl ?_ ?_
    · refine q_Sim.steps vc_172 4 (pc' := 20) (lv' := [(0, .inr (.inr (10, 0, 0))), (1, .inl x1)]) (st' := [.inl (S.1 (9, S.2.2.1.1, 0) 5), .inl x1]) (V' := q_V S) rfl ?_
      refine q_Sim.br vc_172 (c := (S.1 (9, S.2.2.1.1, 0) 5) ≤ x1) (t := 27) (f := 23) (lv' := [(0, .inr (.inr (10, 0, 0))), (1, .inl x1)]) (st' := []) (V' := q_V S) rfl ?_ ?_
      · refine q_Sim.steps vc_172 1 (pc' := 28) (lv' := [(0, .inr (.inr (10, 0, 0))), (1, .inl x1)]) (st' := [.inl 1]) (V' := q_V S) rfl ?_
        exact q_Sim.ret vc_172 rfl
      · refine q_Sim.steps vc_172 2 (pc' := 28) (lv' := [(0, .inr (.inr (10, 0, 0))), (1, .inl x1)]) (st' := [.inl 0]) (V' := q_V S) rfl ?_
        exact q_Sim.ret vc_172 rfl
    · refine q_Sim.steps vc_172 1 (pc' := 11) (lv' := [(0, .inr (.inr (10, 0, 0))), (1, .inl x1)]) (st' := [.inl 2]) (V' := q_V S) rfl ?_
      exact q_Sim.ret vc_172 rfl
theorem vc_123 : v_code 123 = k_123 := rfl
theorem rc_123 (x1 : Int32) : v_rcv 123 [.inr (.inr (10, 0, 0)), .inl x1] = true := rfl
def f_123 (x1 : Int32) (S : QS) : Option ((Int32) × QS) := q_bd (f_172 x1 S) (fun r_1 S_2 => if r_1 = 0 then (q_bd (f_91 S_2.2.2.1.1 x1 S_2) (fun r_3 S_4 => if (S_4.1 (4, r_3.1, r_3.2) 1) < 8 then (q_bd (f_171  S_4) (fun r_5 S_6 => q_bd (f_46 r_3.1 r_3.2 S_6) (fun r_7 S_8 => q_bd (f_169 r_7 S_8) (fun r_9 S_10 => some (r_9, S_10))))) else (q_bd (f_170 6 S_4) (fun r_11 S_12 => some (r_11, S_12))))) else (q_bd (f_170 r_1 S_2) (fun r_13 S_14 => some (r_13, S_14))))
theorem s_123 (x1 : Int32) (S : QS) : q_Sim 123 0 [(0, .inr (.inr (10, 0, 0))), (1, .inl x1)] [] (q_V S) q_I (f_123 x1 S) := by
  unfold f_123
  refine q_Sim.steps vc_123 2 (pc' := 2) (lv' := [(0, .inr (.inr (10, 0, 0))), (1, .inl x1)]) (st' := [.inl x1, .inr (.inr (10, 0, 0))]) (V' := q_V S) rfl ?_
  refine q_Sim.call vc_123 (as := [.inr (.inr (10, 0, 0)), .inl x1]) (pc' := 5) (lv' := [(0, .inr (.inr (10, 0, 0))), (1, .inl x1)]) (st' := []) (S := S) rfl (rc_172 x1) (s_172 x1 S) (fun r_1 S_2 => ?_)
  refine q_Sim.steps vc_123 2 (pc' := 7) (lv' := [(2, .inl r_1), (0, .inr (.inr (10, 0, 0))), (1, .inl x1)]) (st' := [.inl r_1]) (V' := q_V S_2) rfl ?_
  refine q_Sim.br vc_123 (c := r_1 = 0) (t := 16) (f := 10) (lv' := [(2, .inl r_1), (0, .inr (.inr (10, 0, 0))), (1, .inl x1)]) (st' := []) (V' := q_V S_2) rfl ?_ ?_
  · refine q_Sim.steps vc_123 3 (pc' := 21) (lv' := [(2, .inl r_1), (0, .inr (.inr (10, 0, 0))), (1, .inl x1)]) (st' := [.inl x1, .inr (.inr (9, S_2.2.2.1.1, 0))]) (V' := q_V S_2) rfl ?_
    refine q_Sim.call vc_123 (as := [.inr (.inr (9, S_2.2.2.1.1, 0)), .inl x1]) (pc' := 24) (lv' := [(2, .inl r_1), (0, .inr (.inr (10, 0, 0))), (1, .inl x1)]) (st' := []) (S := S_2) rfl (rc_91 S_2.2.2.1.1 x1) (s_91 S_2.2.2.1.1 x1 S_2) (fun r_3 S_4 => ?_)
    refine q_Sim.steps vc_123 4 (pc' := 31) (lv' := [(3, .inr (.inr (4, r_3.1, r_3.2))), (2, .inl r_1), (0, .inr (.inr (10, 0, 0))), (1, .inl x1)]) (st' := [.inl 8, .inl (S_4.1 (4, r_3.1, r_3.2) 1)]) (V' := q_V S_4) rfl ?_
    refine q_Sim.br vc_123 (c := (S_4.1 (4, r_3.1, r_3.2) 1) < 8) (t := 41) (f := 34) (lv' := [(3, .inr (.inr (4, r_3.1, r_3.2))), (2, .inl r_1), (0, .inr (.inr (10, 0, 0))), (1, .inl x1)]) (st' := []) (V' := q_V S_4) rfl ?_ ?_
    · refine q_Sim.steps vc_123 1 (pc' := 42) (lv' := [(3, .inr (.inr (4, r_3.1, r_3.2))), (2, .inl r_1), (0, .inr (.inr (10, 0, 0))), (1, .inl x1)]) (st' := [.inr (.inr (10, 0, 0))]) (V' := q_V S_4) rfl ?_
      refine q_Sim.call vc_123 (as := [.inr (.inr (10, 0, 0))]) (pc' := 45) (lv' := [(3, .inr (.inr (4, r_3.1, r_3.2))), (2, .inl r_1), (0, .inr (.inr (10, 0, 0))), (1, .inl x1)]) (st' := []) (S := S_4) rfl (rc_171 ) (s_171  S_4) (fun r_5 S_6 => ?_)
      refine q_Sim.steps vc_123 2 (pc' := 47) (lv' := [(3, .inr (.inr (4, r_3.1, r_3.2))), (2, .inl r_1), (0, .inr (.inr (10, 0, 0))), (1, .inl x1)]) (st' := [.inr (.inr (4, r_3.1, r_3.2)), .inr (.inr (10, 0, 0))]) (V' := q_V S_6) rfl ?_
      refine q_Sim.call vc_123 (as := [.inr (.inr (4, r_3.1, r_3.2))]) (pc' := 50) (lv' := [(3, .inr (.inr (4, r_3.1, r_3.2))), (2, .inl r_1), (0, .inr (.inr (10, 0, 0))), (1, .inl x1)]) (st' := [.inr (.inr (10, 0, 0))]) (S := S_6) rfl (rc_46 r_3.1 r_3.2) (s_46 r_3.1 r_3.2 S_6) (fun r_7 S_8 => ?_)
      refine q_Sim.call vc_123 (as := [.inr (.inr (10, 0, 0)), .inl r_7]) (pc' := 53) (lv' := [(3, .inr (.inr (4, r_3.1, r_3.2))), (2, .inl r_1), (0, .inr (.inr (10, 0, 0))), (1, .inl x1)]) (st' := []) (S := S_8) rfl (rc_169 r_7) (s_169 r_7 S_8) (fun r_9 S_10 => ?_)
      exact q_Sim.ret vc_123 rfl
    · refine q_Sim.steps vc_123 2 (pc' := 37) (lv' := [(3, .inr (.inr (4, r_3.1, r_3.2))), (2, .inl r_1), (0, .inr (.inr (10, 0, 0))), (1, .inl x1)]) (st' := [.inl 6, .inr (.inr (10, 0, 0))]) (V' := q_V S_4) rfl ?_
      refine q_Sim.call vc_123 (as := [.inr (.inr (10, 0, 0)), .inl 6]) (pc' := 40) (lv' := [(3, .inr (.inr (4, r_3.1, r_3.2))), (2, .inl r_1), (0, .inr (.inr (10, 0, 0))), (1, .inl x1)]) (st' := []) (S := S_4) rfl (rc_170 6) (s_170 6 S_4) (fun r_11 S_12 => ?_)
      exact q_Sim.ret vc_123 rfl
  · refine q_Sim.steps vc_123 2 (pc' := 12) (lv' := [(2, .inl r_1), (0, .inr (.inr (10, 0, 0))), (1, .inl x1)]) (st' := [.inl r_1, .inr (.inr (10, 0, 0))]) (V' := q_V S_2) rfl ?_
    refine q_Sim.call vc_123 (as := [.inr (.inr (10, 0, 0)), .inl r_1]) (pc' := 15) (lv' := [(2, .inl r_1), (0, .inr (.inr (10, 0, 0))), (1, .inl x1)]) (st' := []) (S := S_2) rfl (rc_170 r_1) (s_170 r_1 S_2) (fun r_13 S_14 => ?_)
    exact q_Sim.ret vc_123 rfl
theorem vc_175 : v_code 175 = k_175 := rfl
theorem rc_175 (x1 : Int32) : v_rcv 175 [.inr (.inr (10, 0, 0)), .inl x1] = true := rfl
def f_175 (x1 : Int32) (S : QS) : Option ((Int32) × QS) := if x1 < 0 then (some (2, S)) else (if x1 < 3840 then (q_bd (f_97 S.2.2.1.1 x1 S) (fun r_1 S_2 => if r_1 = 0 then (some (1, S_2)) else (some (0, S_2)))) else (some (2, S)))
theorem s_175 (x1 : Int32) (S : QS) : q_Sim 175 0 [(0, .inr (.inr (10, 0, 0))), (1, .inl x1)] [] (q_V S) q_I (f_175 x1 S) := by
  unfold f_175
  refine q_Sim.steps vc_175 1 (pc' := 1) (lv' := [(0, .inr (.inr (10, 0, 0))), (1, .inl x1)]) (st' := [.inl x1]) (V' := q_V S) rfl ?_
  refine q_Sim.br vc_175 (c := x1 < 0) (t := 11) (f := 4) (lv' := [(0, .inr (.inr (10, 0, 0))), (1, .inl x1)]) (st' := []) (V' := q_V S) rfl ?_ ?_
  · refine q_Sim.steps vc_175 1 (pc' := 12) (lv' := [(0, .inr (.inr (10, 0, 0))), (1, .inl x1)]) (st' := [.inl 2]) (V' := q_V S) rfl ?_
    exact q_Sim.ret vc_175 rfl
  · refine q_Sim.steps vc_175 2 (pc' := 8) (lv' := [(0, .inr (.inr (10, 0, 0))), (1, .inl x1)]) (st' := [.inl 3840, .inl x1]) (V' := q_V S) rfl ?_
    refine q_Sim.br vc_175 (c := x1 < 3840) (t := 13) (f := 11) (lv' := [(0, .inr (.inr (10, 0, 0))), (1, .inl x1)]) (st' := []) (V' := q_V S) rfl ?_ ?_
    · refine q_Sim.steps vc_175 3 (pc' := 18) (lv' := [(0, .inr (.inr (10, 0, 0))), (1, .inl x1)]) (st' := [.inl x1, .inr (.inr (9, S.2.2.1.1, 0))]) (V' := q_V S) rfl ?_
      refine q_Sim.call vc_175 (as := [.inr (.inr (9, S.2.2.1.1, 0)), .inl x1]) (pc' := 21) (lv' := [(0, .inr (.inr (10, 0, 0))), (1, .inl x1)]) (st' := []) (S := S) rfl (rc_97 S.2.2.1.1 x1) (s_97 S.2.2.1.1 x1 S) (fun r_1 S_2 => ?_)
      refine q_Sim.br vc_175 (c := r_1 = 0) (t := 28) (f := 24) (lv' := [(0, .inr (.inr (10, 0, 0))), (1, .inl x1)]) (st' := []) (V' := q_V S_2) rfl ?_ ?_
      · refine q_Sim.steps vc_175 1 (pc' := 29) (lv' := [(0, .inr (.inr (10, 0, 0))), (1, .inl x1)]) (st' := [.inl 1]) (V' := q_V S_2) rfl ?_
        exact q_Sim.ret vc_175 rfl
      · refine q_Sim.steps vc_175 2 (pc' := 29) (lv' := [(0, .inr (.inr (10, 0, 0))), (1, .inl x1)]) (st' := [.inl 0]) (V' := q_V S_2) rfl ?_
        exact q_Sim.ret vc_175 rfl
    · refine q_Sim.steps vc_175 1 (pc' := 12) (lv' := [(0, .inr (.inr (10, 0, 0))), (1, .inl x1)]) (st' := [.inl 2]) (V' := q_V S) rfl ?_
      exact q_Sim.ret vc_175 rfl
theorem vc_124 : v_code 124 = k_124 := rfl
theorem rc_124 (x1 : Int32) (x2 : Int32) : v_rcv 124 [.inr (.inr (10, 0, 0)), .inl x1, .inl x2] = true := rfl
def b_124_47  (S : QS) : Option ((Int32) × QS) := q_bd (f_170 6 S) (fun r_3 S_4 => some (r_3, S_4))
theorem sb_124_47  (S : QS) : q_Sim 124 47 [(0, .inr (.inr (10, 0, 0)))] [] (q_V S) q_I (b_124_47  S) := by
  unfold b_124_47
  refine q_Sim.steps vc_124 2 (pc' := 50) (lv' := [(0, .inr (.inr (10, 0, 0)))]) (st' := [.inl 6, .inr (.inr (10, 0, 0))]) (V' := q_V S) rfl ?_
  refine q_Sim.call vc_124 (as := [.inr (.inr (10, 0, 0)), .inl 6]) (pc' := 53) (lv' := [(0, .inr (.inr (10, 0, 0)))]) (st' := []) (S := S) rfl (rc_170 6) (s_170 6 S) (fun r_3 S_4 => ?_)
  exact q_Sim.ret vc_124 rfl
def f_124 (x1 : Int32) (x2 : Int32) (S : QS) : Option ((Int32) × QS) := q_bd (f_175 x1 S) (fun r_1 S_2 => if r_1 = 0 then (if 64 < x2 then (b_124_47  S_2) else (if 200 ≤ (S_2.1 (9, S_2.2.2.1.1, 0) 6) then (b_124_47  S_2) else (q_bd (f_98 S_2.2.2.1.1 x1 S_2) (fun r_5 S_6 => if r_5 = (-1) then (if 0 ≤ x2 then (q_bd (f_171  S_6) (fun r_7 S_8 => q_bd (f_95 S_8.2.2.1.1 x1 x2 S_8) (fun r_9 S_10 => q_bd (f_169 r_9 S_10) (fun r_11 S_12 => some (r_11, S_12))))) else (q_bd (f_170 5 S_6) (fun r_13 S_14 => some (r_13, S_14)))) else (b_124_47  S_6))))) else (q_bd (f_170 r_1 S_2) (fun r_15 S_16 => some (r_15, S_16))))
theorem s_124 (x1 : Int32) (x2 : Int32) (S : QS) : q_Sim 124 0 [(0, .inr (.inr (10, 0, 0))), (1, .inl x1), (2, .inl x2)] [] (q_V S) q_I (f_124 x1 x2 S) := by
  unfold f_124
  refine q_Sim.steps vc_124 2 (pc' := 2) (lv' := [(0, .inr (.inr (10, 0, 0))), (1, .inl x1), (2, .inl x2)]) (st' := [.inl x1, .inr (.inr (10, 0, 0))]) (V' := q_V S) rfl ?_
  refine q_Sim.call vc_124 (as := [.inr (.inr (10, 0, 0)), .inl x1]) (pc' := 5) (lv' := [(0, .inr (.inr (10, 0, 0))), (1, .inl x1), (2, .inl x2)]) (st' := []) (S := S) rfl (rc_175 x1) (s_175 x1 S) (fun r_1 S_2 => ?_)
  refine q_Sim.steps vc_124 2 (pc' := 7) (lv' := [(3, .inl r_1), (0, .inr (.inr (10, 0, 0))), (1, .inl x1), (2, .inl x2)]) (st' := [.inl r_1]) (V' := q_V S_2) rfl ?_
  refine q_Sim.br vc_124 (c := r_1 = 0) (t := 16) (f := 10) (lv' := [(3, .inl r_1), (0, .inr (.inr (10, 0, 0))), (1, .inl x1), (2, .inl x2)]) (st' := []) (V' := q_V S_2) rfl ?_ ?_
  · refine q_Sim.steps vc_124 2 (pc' := 19) (lv' := [(3, .inl r_1), (0, .inr (.inr (10, 0, 0))), (1, .inl x1), (2, .inl x2)]) (st' := [.inl 64, .inl x2]) (V' := q_V S_2) rfl ?_
    refine q_Sim.br vc_124 (c := 64 < x2) (t := 47) (f := 22) (lv' := [(3, .inl r_1), (0, .inr (.inr (10, 0, 0))), (1, .inl x1), (2, .inl x2)]) (st' := []) (V' := q_V S_2) rfl ?_ ?_
    · exact q_Sim.sub2 (lv' := [(0, .inr (.inr (10, 0, 0)))]) [0] rfl (by decide) ⟨rfl, trivial⟩ (sb_124_47  S_2)
    · refine q_Sim.steps vc_124 4 (pc' := 32) (lv' := [(3, .inl r_1), (0, .inr (.inr (10, 0, 0))), (1, .inl x1), (2, .inl x2)]) (st' := [.inl 200, .inl (S_2.1 (9, S_2.2.2.1.1, 0) 6)]) (V' := q_V S_2) rfl ?_
      refine q_Sim.br vc_124 (c := 200 ≤ (S_2.1 (9, S_2.2.2.1.1, 0) 6)) (t := 47) (f := 35) (lv' := [(3, .inl r_1), (0, .inr (.inr (10, 0, 0))), (1, .inl x1), (2, .inl x2)]) (st' := []) (V' := q_V S_2) rfl ?_ ?_
      · exact q_Sim.sub2 (lv' := [(0, .inr (.inr (10, 0, 0)))]) [0] rfl (by decide) ⟨rfl, trivial⟩ (sb_124_47  S_2)
      · refine q_Sim.steps vc_124 3 (pc' := 40) (lv' := [(3, .inl r_1), (0, .inr (.inr (10, 0, 0))), (1, .inl x1), (2, .inl x2)]) (st' := [.inl x1, .inr (.inr (9, S_2.2.2.1.1, 0))]) (V' := q_V S_2) rfl ?_
        refine q_Sim.call vc_124 (as := [.inr (.inr (9, S_2.2.2.1.1, 0)), .inl x1]) (pc' := 43) (lv' := [(3, .inl r_1), (0, .inr (.inr (10, 0, 0))), (1, .inl x1), (2, .inl x2)]) (st' := []) (S := S_2) rfl (rc_98 S_2.2.2.1.1 x1) (s_98 S_2.2.2.1.1 x1 S_2) (fun r_5 S_6 => ?_)
        refine q_Sim.steps vc_124 1 (pc' := 44) (lv' := [(3, .inl r_1), (0, .inr (.inr (10, 0, 0))), (1, .inl x1), (2, .inl x2)]) (st' := [.inl (-1), .inl r_5]) (V' := q_V S_6) rfl ?_
        refine q_Sim.br vc_124 (c := r_5 = (-1)) (t := 54) (f := 47) (lv' := [(3, .inl r_1), (0, .inr (.inr (10, 0, 0))), (1, .inl x1), (2, .inl x2)]) (st' := []) (V' := q_V S_6) rfl ?_ ?_
        · refine q_Sim.steps vc_124 1 (pc' := 55) (lv' := [(3, .inl r_1), (0, .inr (.inr (10, 0, 0))), (1, .inl x1), (2, .inl x2)]) (st' := [.inl x2]) (V' := q_V S_6) rfl ?_
          refine q_Sim.br vc_124 (c := 0 ≤ x2) (t := 64) (f := 58) (lv' := [(3, .inl r_1), (0, .inr (.inr (10, 0, 0))), (1, .inl x1), (2, .inl x2)]) (st' := []) (V' := q_V S_6) rfl ?_ ?_
          · refine q_Sim.steps vc_124 1 (pc' := 65) (lv' := [(3, .inl r_1), (0, .inr (.inr (10, 0, 0))), (1, .inl x1), (2, .inl x2)]) (st' := [.inr (.inr (10, 0, 0))]) (V' := q_V S_6) rfl ?_
            refine q_Sim.call vc_124 (as := [.inr (.inr (10, 0, 0))]) (pc' := 68) (lv' := [(3, .inl r_1), (0, .inr (.inr (10, 0, 0))), (1, .inl x1), (2, .inl x2)]) (st' := []) (S := S_6) rfl (rc_171 ) (s_171  S_6) (fun r_7 S_8 => ?_)
            refine q_Sim.steps vc_124 5 (pc' := 75) (lv' := [(3, .inl r_1), (0, .inr (.inr (10, 0, 0))), (1, .inl x1), (2, .inl x2)]) (st' := [.inl x2, .inl x1, .inr (.inr (9, S_8.2.2.1.1, 0)), .inr (.inr (10, 0, 0))]) (V' := q_V S_8) rfl ?_
            refine q_Sim.call vc_124 (as := [.inr (.inr (9, S_8.2.2.1.1, 0)), .inl x1, .inl x2]) (pc' := 78) (lv' := [(3, .inl r_1), (0, .inr (.inr (10, 0, 0))), (1, .inl x1), (2, .inl x2)]) (st' := [.inr (.inr (10, 0, 0))]) (S := S_8) rfl (rc_95 S_8.2.2.1.1 x1 x2) (s_95 S_8.2.2.1.1 x1 x2 S_8) (fun r_9 S_10 => ?_)
            refine q_Sim.call vc_124 (as := [.inr (.inr (10, 0, 0)), .inl r_9]) (pc' := 81) (lv' := [(3, .inl r_1), (0, .inr (.inr (10, 0, 0))), (1, .inl x1), (2, .inl x2)]) (st' := []) (S := S_10) rfl (rc_169 r_9) (s_169 r_9 S_10) (fun r_11 S_12 => ?_)
            exact q_Sim.ret vc_124 rfl
          · refine q_Sim.steps vc_124 2 (pc' := 60) (lv' := [(3, .inl r_1), (0, .inr (.inr (10, 0, 0))), (1, .inl x1), (2, .inl x2)]) (st' := [.inl 5, .inr (.inr (10, 0, 0))]) (V' := q_V S_6) rfl ?_
            refine q_Sim.call vc_124 (as := [.inr (.inr (10, 0, 0)), .inl 5]) (pc' := 63) (lv' := [(3, .inl r_1), (0, .inr (.inr (10, 0, 0))), (1, .inl x1), (2, .inl x2)]) (st' := []) (S := S_6) rfl (rc_170 5) (s_170 5 S_6) (fun r_13 S_14 => ?_)
            exact q_Sim.ret vc_124 rfl
        · exact q_Sim.sub2 (lv' := [(0, .inr (.inr (10, 0, 0)))]) [0] rfl (by decide) ⟨rfl, trivial⟩ (sb_124_47  S_6)
  · refine q_Sim.steps vc_124 2 (pc' := 12) (lv' := [(3, .inl r_1), (0, .inr (.inr (10, 0, 0))), (1, .inl x1), (2, .inl x2)]) (st' := [.inl r_1, .inr (.inr (10, 0, 0))]) (V' := q_V S_2) rfl ?_
    refine q_Sim.call vc_124 (as := [.inr (.inr (10, 0, 0)), .inl r_1]) (pc' := 15) (lv' := [(3, .inl r_1), (0, .inr (.inr (10, 0, 0))), (1, .inl x1), (2, .inl x2)]) (st' := []) (S := S_2) rfl (rc_170 r_1) (s_170 r_1 S_2) (fun r_15 S_16 => ?_)
    exact q_Sim.ret vc_124 rfl
theorem vc_176 : v_code 176 = k_176 := rfl
theorem rc_176 (x1 : Int32) : v_rcv 176 [.inr (.inr (10, 0, 0)), .inl x1] = true := rfl
def f_176 (x1 : Int32) (S : QS) : Option ((Int32) × QS) := q_bd (f_175 x1 S) (fun r_1 S_2 => if r_1 = 0 then (q_bd (f_98 S_2.2.2.1.1 x1 S_2) (fun r_3 S_4 => if ¬ r_3 = (-1) then (some (0, S_4)) else (some (1, S_4)))) else (some (r_1, S_2)))
theorem s_176 (x1 : Int32) (S : QS) : q_Sim 176 0 [(0, .inr (.inr (10, 0, 0))), (1, .inl x1)] [] (q_V S) q_I (f_176 x1 S) := by
  unfold f_176
  refine q_Sim.steps vc_176 2 (pc' := 2) (lv' := [(0, .inr (.inr (10, 0, 0))), (1, .inl x1)]) (st' := [.inl x1, .inr (.inr (10, 0, 0))]) (V' := q_V S) rfl ?_
  refine q_Sim.call vc_176 (as := [.inr (.inr (10, 0, 0)), .inl x1]) (pc' := 5) (lv' := [(0, .inr (.inr (10, 0, 0))), (1, .inl x1)]) (st' := []) (S := S) rfl (rc_175 x1) (s_175 x1 S) (fun r_1 S_2 => ?_)
  refine q_Sim.steps vc_176 2 (pc' := 7) (lv' := [(2, .inl r_1), (0, .inr (.inr (10, 0, 0))), (1, .inl x1)]) (st' := [.inl r_1]) (V' := q_V S_2) rfl ?_
  refine q_Sim.br vc_176 (c := r_1 = 0) (t := 12) (f := 10) (lv' := [(2, .inl r_1), (0, .inr (.inr (10, 0, 0))), (1, .inl x1)]) (st' := []) (V' := q_V S_2) rfl ?_ ?_
  · refine q_Sim.steps vc_176 3 (pc' := 17) (lv' := [(2, .inl r_1), (0, .inr (.inr (10, 0, 0))), (1, .inl x1)]) (st' := [.inl x1, .inr (.inr (9, S_2.2.2.1.1, 0))]) (V' := q_V S_2) rfl ?_
    refine q_Sim.call vc_176 (as := [.inr (.inr (9, S_2.2.2.1.1, 0)), .inl x1]) (pc' := 20) (lv' := [(2, .inl r_1), (0, .inr (.inr (10, 0, 0))), (1, .inl x1)]) (st' := []) (S := S_2) rfl (rc_98 S_2.2.2.1.1 x1) (s_98 S_2.2.2.1.1 x1 S_2) (fun r_3 S_4 => ?_)
    refine q_Sim.steps vc_176 1 (pc' := 21) (lv' := [(2, .inl r_1), (0, .inr (.inr (10, 0, 0))), (1, .inl x1)]) (st' := [.inl (-1), .inl r_3]) (V' := q_V S_4) rfl ?_
    refine q_Sim.br vc_176 (c := ¬ r_3 = (-1)) (t := 28) (f := 24) (lv' := [(2, .inl r_1), (0, .inr (.inr (10, 0, 0))), (1, .inl x1)]) (st' := []) (V' := q_V S_4) rfl ?_ ?_
    · refine q_Sim.steps vc_176 1 (pc' := 29) (lv' := [(2, .inl r_1), (0, .inr (.inr (10, 0, 0))), (1, .inl x1)]) (st' := [.inl 0]) (V' := q_V S_4) rfl ?_
      exact q_Sim.ret vc_176 rfl
    · refine q_Sim.steps vc_176 2 (pc' := 29) (lv' := [(2, .inl r_1), (0, .inr (.inr (10, 0, 0))), (1, .inl x1)]) (st' := [.inl 1]) (V' := q_V S_4) rfl ?_
      exact q_Sim.ret vc_176 rfl
  · refine q_Sim.steps vc_176 1 (pc' := 11) (lv' := [(2, .inl r_1), (0, .inr (.inr (10, 0, 0))), (1, .inl x1)]) (st' := [.inl r_1]) (V' := q_V S_2) rfl ?_
    exact q_Sim.ret vc_176 rfl
theorem vc_125 : v_code 125 = k_125 := rfl
theorem rc_125 (x1 : Int32) : v_rcv 125 [.inr (.inr (10, 0, 0)), .inl x1] = true := rfl
def f_125 (x1 : Int32) (S : QS) : Option ((Int32) × QS) := q_bd (f_176 x1 S) (fun r_1 S_2 => if r_1 = 0 then (q_bd (f_101 S_2.2.2.1.1 S_2) (fun r_3 S_4 => if ¬ r_3 = (-1) then (q_bd (f_171  S_4) (fun r_5 S_6 => q_bd (f_98 S_6.2.2.1.1 x1 S_6) (fun r_7 S_8 => q_ck (v_in r_3 24) (q_let (q_set S_8 (39, S_6.2.2.1.1, 0) r_3.toNatClampNeg r_7) (fun S_9 => q_bd (f_99 S_9.2.2.1.1 x1 (-1) S_9) (fun r_10 S_11 => q_bd (f_169 r_3 S_11) (fun r_12 S_13 => some (r_12, S_13)))))))) else (q_bd (f_170 6 S_4) (fun r_14 S_15 => some (r_14, S_15))))) else (q_bd (f_170 r_1 S_2) (fun r_16 S_17 => some (r_16, S_17))))
theorem s_125 (x1 : Int32) (S : QS) : q_Sim 125 0 [(0, .inr (.inr (10, 0, 0))), (1, .inl x1)] [] (q_V S) q_I (f_125 x1 S) := by
  unfold f_125
  refine q_Sim.steps vc_125 2 (pc' := 2) (lv' := [(0, .inr (.inr (10, 0, 0))), (1, .inl x1)]) (st' := [.inl x1, .inr (.inr (10, 0, 0))]) (V' := q_V S) rfl ?_
  refine q_Sim.call vc_125 (as := [.inr (.inr (10, 0, 0)), .inl x1]) (pc' := 5) (lv' := [(0, .inr (.inr (10, 0, 0))), (1, .inl x1)]) (st' := []) (S := S) rfl (rc_176 x1) (s_176 x1 S) (fun r_1 S_2 => ?_)
  refine q_Sim.steps vc_125 2 (pc' := 7) (lv' := [(2, .inl r_1), (0, .inr (.inr (10, 0, 0))), (1, .inl x1)]) (st' := [.inl r_1]) (V' := q_V S_2) rfl ?_
  refine q_Sim.br vc_125 (c := r_1 = 0) (t := 16) (f := 10) (lv' := [(2, .inl r_1), (0, .inr (.inr (10, 0, 0))), (1, .inl x1)]) (st' := []) (V' := q_V S_2) rfl ?_ ?_
  · refine q_Sim.steps vc_125 2 (pc' := 20) (lv' := [(2, .inl r_1), (0, .inr (.inr (10, 0, 0))), (1, .inl x1)]) (st' := [.inr (.inr (9, S_2.2.2.1.1, 0))]) (V' := q_V S_2) rfl ?_
    refine q_Sim.call vc_125 (as := [.inr (.inr (9, S_2.2.2.1.1, 0))]) (pc' := 23) (lv' := [(2, .inl r_1), (0, .inr (.inr (10, 0, 0))), (1, .inl x1)]) (st' := []) (S := S_2) rfl (rc_101 S_2.2.2.1.1) (s_101 S_2.2.2.1.1 S_2) (fun r_3 S_4 => ?_)
    refine q_Sim.steps vc_125 3 (pc' := 26) (lv' := [(3, .inl r_3), (2, .inl r_1), (0, .inr (.inr (10, 0, 0))), (1, .inl x1)]) (st' := [.inl (-1), .inl r_3]) (V' := q_V S_4) rfl ?_
    refine q_Sim.br vc_125 (c := ¬ r_3 = (-1)) (t := 36) (f := 29) (lv' := [(3, .inl r_3), (2, .inl r_1), (0, .inr (.inr (10, 0, 0))), (1, .inl x1)]) (st' := []) (V' := q_V S_4) rfl ?_ ?_
    · refine q_Sim.steps vc_125 1 (pc' := 37) (lv' := [(3, .inl r_3), (2, .inl r_1), (0, .inr (.inr (10, 0, 0))), (1, .inl x1)]) (st' := [.inr (.inr (10, 0, 0))]) (V' := q_V S_4) rfl ?_
      refine q_Sim.call vc_125 (as := [.inr (.inr (10, 0, 0))]) (pc' := 40) (lv' := [(3, .inl r_3), (2, .inl r_1), (0, .inr (.inr (10, 0, 0))), (1, .inl x1)]) (st' := []) (S := S_4) rfl (rc_171 ) (s_171  S_4) (fun r_5 S_6 => ?_)
      refine q_Sim.steps vc_125 7 (pc' := 53) (lv' := [(3, .inl r_3), (2, .inl r_1), (0, .inr (.inr (10, 0, 0))), (1, .inl x1)]) (st' := [.inl x1, .inr (.inr (9, S_6.2.2.1.1, 0)), .inl r_3, .inr (.inr (39, S_6.2.2.1.1, 0))]) (V' := q_V S_6) rfl ?_
      refine q_Sim.call vc_125 (as := [.inr (.inr (9, S_6.2.2.1.1, 0)), .inl x1]) (pc' := 56) (lv' := [(3, .inl r_3), (2, .inl r_1), (0, .inr (.inr (10, 0, 0))), (1, .inl x1)]) (st' := [.inl r_3, .inr (.inr (39, S_6.2.2.1.1, 0))]) (S := S_6) rfl (rc_98 S_6.2.2.1.1 x1) (s_98 S_6.2.2.1.1 x1 S_6) (fun r_7 S_8 => ?_)
      refine q_Sim.ck vc_125 (c := v_in r_3 24) (pc' := 57) (lv' := [(3, .inl r_3), (2, .inl r_1), (0, .inr (.inr (10, 0, 0))), (1, .inl x1)]) (st' := []) (V' := q_V (q_set S_8 (39, S_6.2.2.1.1, 0) r_3.toNatClampNeg r_7)) rfl ?_
      refine q_Sim.letS (fun S_9 => ?_)
      refine q_Sim.steps vc_125 4 (pc' := 63) (lv' := [(3, .inl r_3), (2, .inl r_1), (0, .inr (.inr (10, 0, 0))), (1, .inl x1)]) (st' := [.inl (-1), .inl x1, .inr (.inr (9, S_9.2.2.1.1, 0))]) (V' := q_V S_9) rfl ?_
      refine q_Sim.call vc_125 (as := [.inr (.inr (9, S_9.2.2.1.1, 0)), .inl x1, .inl (-1)]) (pc' := 66) (lv' := [(3, .inl r_3), (2, .inl r_1), (0, .inr (.inr (10, 0, 0))), (1, .inl x1)]) (st' := []) (S := S_9) rfl (rc_99 S_9.2.2.1.1 x1 (-1)) (s_99 S_9.2.2.1.1 x1 (-1) S_9) (fun r_10 S_11 => ?_)
      refine q_Sim.steps vc_125 2 (pc' := 68) (lv' := [(3, .inl r_3), (2, .inl r_1), (0, .inr (.inr (10, 0, 0))), (1, .inl x1)]) (st' := [.inl r_3, .inr (.inr (10, 0, 0))]) (V' := q_V S_11) rfl ?_
      refine q_Sim.call vc_125 (as := [.inr (.inr (10, 0, 0)), .inl r_3]) (pc' := 71) (lv' := [(3, .inl r_3), (2, .inl r_1), (0, .inr (.inr (10, 0, 0))), (1, .inl x1)]) (st' := []) (S := S_11) rfl (rc_169 r_3) (s_169 r_3 S_11) (fun r_12 S_13 => ?_)
      exact q_Sim.ret vc_125 rfl
    · refine q_Sim.steps vc_125 2 (pc' := 32) (lv' := [(3, .inl r_3), (2, .inl r_1), (0, .inr (.inr (10, 0, 0))), (1, .inl x1)]) (st' := [.inl 6, .inr (.inr (10, 0, 0))]) (V' := q_V S_4) rfl ?_
      refine q_Sim.call vc_125 (as := [.inr (.inr (10, 0, 0)), .inl 6]) (pc' := 35) (lv' := [(3, .inl r_3), (2, .inl r_1), (0, .inr (.inr (10, 0, 0))), (1, .inl x1)]) (st' := []) (S := S_4) rfl (rc_170 6) (s_170 6 S_4) (fun r_14 S_15 => ?_)
      exact q_Sim.ret vc_125 rfl
  · refine q_Sim.steps vc_125 2 (pc' := 12) (lv' := [(2, .inl r_1), (0, .inr (.inr (10, 0, 0))), (1, .inl x1)]) (st' := [.inl r_1, .inr (.inr (10, 0, 0))]) (V' := q_V S_2) rfl ?_
    refine q_Sim.call vc_125 (as := [.inr (.inr (10, 0, 0)), .inl r_1]) (pc' := 15) (lv' := [(2, .inl r_1), (0, .inr (.inr (10, 0, 0))), (1, .inl x1)]) (st' := []) (S := S_2) rfl (rc_170 r_1) (s_170 r_1 S_2) (fun r_16 S_17 => ?_)
    exact q_Sim.ret vc_125 rfl
theorem vc_126 : v_code 126 = k_126 := rfl
theorem rc_126 (x1 : Int32) (x2 : Int32) : v_rcv 126 [.inr (.inr (10, 0, 0)), .inl x1, .inl x2] = true := rfl
def b_126_10  (S : QS) : Option ((Int32) × QS) := q_bd (f_170 2 S) (fun r_1 S_2 => some (r_1, S_2))
theorem sb_126_10  (S : QS) : q_Sim 126 10 [(0, .inr (.inr (10, 0, 0)))] [] (q_V S) q_I (b_126_10  S) := by
  unfold b_126_10
  refine q_Sim.steps vc_126 2 (pc' := 12) (lv' := [(0, .inr (.inr (10, 0, 0)))]) (st' := [.inl 2, .inr (.inr (10, 0, 0))]) (V' := q_V S) rfl ?_
  refine q_Sim.call vc_126 (as := [.inr (.inr (10, 0, 0)), .inl 2]) (pc' := 15) (lv' := [(0, .inr (.inr (10, 0, 0)))]) (st' := []) (S := S) rfl (rc_170 2) (s_170 2 S) (fun r_1 S_2 => ?_)
  exact q_Sim.ret vc_126 rfl
def f_126 (x1 : Int32) (x2 : Int32) (S : QS) : Option ((Int32) × QS) := if x1 < 0 then (b_126_10  S) else (if x1 < 24 then (q_ck (v_in x1 24) (q_let (S.1 (39, S.2.2.1.1, 0) x1.toNatClampNeg) (fun y_3 => if ¬ y_3 = (-1) then (q_bd (f_175 x2 S) (fun r_4 S_5 => if r_4 = 0 then (q_bd (f_98 S_5.2.2.1.1 x2 S_5) (fun r_6 S_7 => if r_6 = (-1) then (q_bd (f_171  S_7) (fun r_8 S_9 => q_ck (v_in x1 24) (q_let (S_9.1 (39, S_9.2.2.1.1, 0) x1.toNatClampNeg) (fun y_10 => q_bd (f_99 S_9.2.2.1.1 x2 y_10 S_9) (fun r_11 S_12 => q_ck (v_in x1 24) (q_let (q_set S_12 (39, S_12.2.2.1.1, 0) x1.toNatClampNeg (-1)) (fun S_13 => q_bd (f_169 1 S_13) (fun r_14 S_15 => some (r_14, S_15))))))))) else (q_bd (f_170 6 S_7) (fun r_16 S_17 => some (r_16, S_17))))) else (q_bd (f_170 r_4 S_5) (fun r_18 S_19 => some (r_18, S_19))))) else (q_bd (f_170 1 S) (fun r_20 S_21 => some (r_20, S_21)))))) else (b_126_10  S))
theorem s_126 (x1 : Int32) (x2 : Int32) (S : QS) : q_Sim 126 0 [(0, .inr (.inr (10, 0, 0))), (1, .inl x1), (2, .inl x2)] [] (q_V S) q_I (f_126 x1 x2 S) := by
  unfold f_126
  refine q_Sim.steps vc_126 1 (pc' := 1) (lv' := [(0, .inr (.inr (10, 0, 0))), (1, .inl x1), (2, .inl x2)]) (st' := [.inl x1]) (V' := q_V S) rfl ?_
  refine q_Sim.br vc_126 (c := x1 < 0) (t := 10) (f := 4) (lv' := [(0, .inr (.inr (10, 0, 0))), (1, .inl x1), (2, .inl x2)]) (st' := []) (V' := q_V S) rfl ?_ ?_
  · exact q_Sim.sub2 (lv' := [(0, .inr (.inr (10, 0, 0)))]) [0] rfl (by decide) ⟨rfl, trivial⟩ (sb_126_10  S)
  · refine q_Sim.steps vc_126 2 (pc' := 7) (lv' := [(0, .inr (.inr (10, 0, 0))), (1, .inl x1), (2, .inl x2)]) (st' := [.inl 24, .inl x1]) (V' := q_V S) rfl ?_
    refine q_Sim.br vc_126 (c := x1 < 24) (t := 16) (f := 10) (lv' := [(0, .inr (.inr (10, 0, 0))), (1, .inl x1), (2, .inl x2)]) (st' := []) (V' := q_V S) rfl ?_ ?_
    · refine q_Sim.steps vc_126 4 (pc' := 24) (lv' := [(0, .inr (.inr (10, 0, 0))), (1, .inl x1), (2, .inl x2)]) (st' := [.inl x1, .inr (.inr (39, S.2.2.1.1, 0))]) (V' := q_V S) rfl ?_
      refine q_Sim.ck vc_126 (c := v_in x1 24) (pc' := 25) (lv' := [(0, .inr (.inr (10, 0, 0))), (1, .inl x1), (2, .inl x2)]) (st' := [.inl (S.1 (39, S.2.2.1.1, 0) x1.toNatClampNeg)]) (V' := q_V S) rfl ?_
      refine q_Sim.letI (fun y_3 => ?_)
      refine q_Sim.steps vc_126 1 (pc' := 26) (lv' := [(0, .inr (.inr (10, 0, 0))), (1, .inl x1), (2, .inl x2)]) (st' := [.inl (-1), .inl y_3]) (V' := q_V S) rfl ?_
      refine q_Sim.br vc_126 (c := ¬ y_3 = (-1)) (t := 35) (f := 29) (lv' := [(0, .inr (.inr (10, 0, 0))), (1, .inl x1), (2, .inl x2)]) (st' := []) (V' := q_V S) rfl ?_ ?_
      · refine q_Sim.steps vc_126 2 (pc' := 37) (lv' := [(0, .inr (.inr (10, 0, 0))), (1, .inl x1), (2, .inl x2)]) (st' := [.inl x2, .inr (.inr (10, 0, 0))]) (V' := q_V S) rfl ?_
        refine q_Sim.call vc_126 (as := [.inr (.inr (10, 0, 0)), .inl x2]) (pc' := 40) (lv' := [(0, .inr (.inr (10, 0, 0))), (1, .inl x1), (2, .inl x2)]) (st' := []) (S := S) rfl (rc_175 x2) (s_175 x2 S) (fun r_4 S_5 => ?_)
        refine q_Sim.steps vc_126 2 (pc' := 42) (lv' := [(3, .inl r_4), (0, .inr (.inr (10, 0, 0))), (1, .inl x1), (2, .inl x2)]) (st' := [.inl r_4]) (V' := q_V S_5) rfl ?_
        refine q_Sim.br vc_126 (c := r_4 = 0) (t := 51) (f := 45) (lv' := [(3, .inl r_4), (0, .inr (.inr (10, 0, 0))), (1, .inl x1), (2, .inl x2)]) (st' := []) (V' := q_V S_5) rfl ?_ ?_
        · refine q_Sim.steps vc_126 3 (pc' := 56) (lv' := [(3, .inl r_4), (0, .inr (.inr (10, 0, 0))), (1, .inl x1), (2, .inl x2)]) (st' := [.inl x2, .inr (.inr (9, S_5.2.2.1.1, 0))]) (V' := q_V S_5) rfl ?_
          refine q_Sim.call vc_126 (as := [.inr (.inr (9, S_5.2.2.1.1, 0)), .inl x2]) (pc' := 59) (lv' := [(3, .inl r_4), (0, .inr (.inr (10, 0, 0))), (1, .inl x1), (2, .inl x2)]) (st' := []) (S := S_5) rfl (rc_98 S_5.2.2.1.1 x2) (s_98 S_5.2.2.1.1 x2 S_5) (fun r_6 S_7 => ?_)
          refine q_Sim.steps vc_126 1 (pc' := 60) (lv' := [(3, .inl r_4), (0, .inr (.inr (10, 0, 0))), (1, .inl x1), (2, .inl x2)]) (st' := [.inl (-1), .inl r_6]) (V' := q_V S_7) rfl ?_
          refine q_Sim.br vc_126 (c := r_6 = (-1)) (t := 70) (f := 63) (lv' := [(3, .inl r_4), (0, .inr (.inr (10, 0, 0))), (1, .inl x1), (2, .inl x2)]) (st' := []) (V' := q_V S_7) rfl ?_ ?_
          · refine q_Sim.steps vc_126 1 (pc' := 71) (lv' := [(3, .inl r_4), (0, .inr (.inr (10, 0, 0))), (1, .inl x1), (2, .inl x2)]) (st' := [.inr (.inr (10, 0, 0))]) (V' := q_V S_7) rfl ?_
            refine q_Sim.call vc_126 (as := [.inr (.inr (10, 0, 0))]) (pc' := 74) (lv' := [(3, .inl r_4), (0, .inr (.inr (10, 0, 0))), (1, .inl x1), (2, .inl x2)]) (st' := []) (S := S_7) rfl (rc_171 ) (s_171  S_7) (fun r_8 S_9 => ?_)
            refine q_Sim.steps vc_126 7 (pc' := 87) (lv' := [(3, .inl r_4), (0, .inr (.inr (10, 0, 0))), (1, .inl x1), (2, .inl x2)]) (st' := [.inl x1, .inr (.inr (39, S_9.2.2.1.1, 0)), .inl x2, .inr (.inr (9, S_9.2.2.1.1, 0))]) (V' := q_V S_9) rfl ?_
            refine q_Sim.ck vc_126 (c := v_in x1 24) (pc' := 88) (lv' := [(3, .inl r_4), (0, .inr (.inr (10, 0, 0))), (1, .inl x1), (2, .inl x2)]) (st' := [.inl (S_9.1 (39, S_9.2.2.1.1, 0) x1.toNatClampNeg), .inl x2, .inr (.inr (9, S_9.2.2.1.1, 0))]) (V' := q_V S_9) rfl ?_
            refine q_Sim.letI (fun y_10 => ?_)
            refine q_Sim.call vc_126 (as := [.inr (.inr (9, S_9.2.2.1.1, 0)), .inl x2, .inl y_10]) (pc' := 91) (lv' := [(3, .inl r_4), (0, .inr (.inr (10, 0, 0))), (1, .inl x1), (2, .inl x2)]) (st' := []) (S := S_9) rfl (rc_99 S_9.2.2.1.1 x2 y_10) (s_99 S_9.2.2.1.1 x2 y_10 S_9) (fun r_11 S_12 => ?_)
            refine q_Sim.steps vc_126 5 (pc' := 100) (lv' := [(3, .inl r_4), (0, .inr (.inr (10, 0, 0))), (1, .inl x1), (2, .inl x2)]) (st' := [.inl (-1), .inl x1, .inr (.inr (39, S_12.2.2.1.1, 0))]) (V' := q_V S_12) rfl ?_
            refine q_Sim.ck vc_126 (c := v_in x1 24) (pc' := 101) (lv' := [(3, .inl r_4), (0, .inr (.inr (10, 0, 0))), (1, .inl x1), (2, .inl x2)]) (st' := []) (V' := q_V (q_set S_12 (39, S_12.2.2.1.1, 0) x1.toNatClampNeg (-1))) rfl ?_
            refine q_Sim.letS (fun S_13 => ?_)
            refine q_Sim.steps vc_126 2 (pc' := 103) (lv' := [(3, .inl r_4), (0, .inr (.inr (10, 0, 0))), (1, .inl x1), (2, .inl x2)]) (st' := [.inl 1, .inr (.inr (10, 0, 0))]) (V' := q_V S_13) rfl ?_
            refine q_Sim.call vc_126 (as := [.inr (.inr (10, 0, 0)), .inl 1]) (pc' := 106) (lv' := [(3, .inl r_4), (0, .inr (.inr (10, 0, 0))), (1, .inl x1), (2, .inl x2)]) (st' := []) (S := S_13) rfl (rc_169 1) (s_169 1 S_13) (fun r_14 S_15 => ?_)
            exact q_Sim.ret vc_126 rfl
          · refine q_Sim.steps vc_126 2 (pc' := 66) (lv' := [(3, .inl r_4), (0, .inr (.inr (10, 0, 0))), (1, .inl x1), (2, .inl x2)]) (st' := [.inl 6, .inr (.inr (10, 0, 0))]) (V' := q_V S_7) rfl ?_
            refine q_Sim.call vc_126 (as := [.inr (.inr (10, 0, 0)), .inl 6]) (pc' := 69) (lv' := [(3, .inl r_4), (0, .inr (.inr (10, 0, 0))), (1, .inl x1), (2, .inl x2)]) (st' := []) (S := S_7) rfl (rc_170 6) (s_170 6 S_7) (fun r_16 S_17 => ?_)
            exact q_Sim.ret vc_126 rfl
        · refine q_Sim.steps vc_126 2 (pc' := 47) (lv' := [(3, .inl r_4), (0, .inr (.inr (10, 0, 0))), (1, .inl x1), (2, .inl x2)]) (st' := [.inl r_4, .inr (.inr (10, 0, 0))]) (V' := q_V S_5) rfl ?_
          refine q_Sim.call vc_126 (as := [.inr (.inr (10, 0, 0)), .inl r_4]) (pc' := 50) (lv' := [(3, .inl r_4), (0, .inr (.inr (10, 0, 0))), (1, .inl x1), (2, .inl x2)]) (st' := []) (S := S_5) rfl (rc_170 r_4) (s_170 r_4 S_5) (fun r_18 S_19 => ?_)
          exact q_Sim.ret vc_126 rfl
      · refine q_Sim.steps vc_126 2 (pc' := 31) (lv' := [(0, .inr (.inr (10, 0, 0))), (1, .inl x1), (2, .inl x2)]) (st' := [.inl 1, .inr (.inr (10, 0, 0))]) (V' := q_V S) rfl ?_
        refine q_Sim.call vc_126 (as := [.inr (.inr (10, 0, 0)), .inl 1]) (pc' := 34) (lv' := [(0, .inr (.inr (10, 0, 0))), (1, .inl x1), (2, .inl x2)]) (st' := []) (S := S) rfl (rc_170 1) (s_170 1 S) (fun r_20 S_21 => ?_)
        exact q_Sim.ret vc_126 rfl
    · exact q_Sim.sub2 (lv' := [(0, .inr (.inr (10, 0, 0)))]) [0] rfl (by decide) ⟨rfl, trivial⟩ (sb_126_10  S)
theorem vc_127 : v_code 127 = k_127 := rfl
theorem rc_127 (x1 : Int32) : v_rcv 127 [.inr (.inr (10, 0, 0)), .inl x1] = true := rfl
def f_127 (x1 : Int32) (S : QS) : Option ((Int32) × QS) := q_bd (f_176 x1 S) (fun r_1 S_2 => if r_1 = 0 then (q_bd (f_98 S_2.2.2.1.1 x1 S_2) (fun r_3 S_4 => q_bd (f_169 r_3 S_4) (fun r_5 S_6 => some (r_5, S_6)))) else (q_bd (f_170 r_1 S_2) (fun r_7 S_8 => some (r_7, S_8))))
theorem s_127 (x1 : Int32) (S : QS) : q_Sim 127 0 [(0, .inr (.inr (10, 0, 0))), (1, .inl x1)] [] (q_V S) q_I (f_127 x1 S) := by
  unfold f_127
  refine q_Sim.steps vc_127 2 (pc' := 2) (lv' := [(0, .inr (.inr (10, 0, 0))), (1, .inl x1)]) (st' := [.inl x1, .inr (.inr (10, 0, 0))]) (V' := q_V S) rfl ?_
  refine q_Sim.call vc_127 (as := [.inr (.inr (10, 0, 0)), .inl x1]) (pc' := 5) (lv' := [(0, .inr (.inr (10, 0, 0))), (1, .inl x1)]) (st' := []) (S := S) rfl (rc_176 x1) (s_176 x1 S) (fun r_1 S_2 => ?_)
  refine q_Sim.steps vc_127 2 (pc' := 7) (lv' := [(2, .inl r_1), (0, .inr (.inr (10, 0, 0))), (1, .inl x1)]) (st' := [.inl r_1]) (V' := q_V S_2) rfl ?_
  refine q_Sim.br vc_127 (c := r_1 = 0) (t := 16) (f := 10) (lv' := [(2, .inl r_1), (0, .inr (.inr (10, 0, 0))), (1, .inl x1)]) (st' := []) (V' := q_V S_2) rfl ?_ ?_
  · refine q_Sim.steps vc_127 4 (pc' := 22) (lv' := [(2, .inl r_1), (0, .inr (.inr (10, 0, 0))), (1, .inl x1)]) (st' := [.inl x1, .inr (.inr (9, S_2.2.2.1.1, 0)), .inr (.inr (10, 0, 0))]) (V' := q_V S_2) rfl ?_
    refine q_Sim.call vc_127 (as := [.inr (.inr (9, S_2.2.2.1.1, 0)), .inl x1]) (pc' := 25) (lv' := [(2, .inl r_1), (0, .inr (.inr (10, 0, 0))), (1, .inl x1)]) (st' := [.inr (.inr (10, 0, 0))]) (S := S_2) rfl (rc_98 S_2.2.2.1.1 x1) (s_98 S_2.2.2.1.1 x1 S_2) (fun r_3 S_4 => ?_)
    refine q_Sim.call vc_127 (as := [.inr (.inr (10, 0, 0)), .inl r_3]) (pc' := 28) (lv' := [(2, .inl r_1), (0, .inr (.inr (10, 0, 0))), (1, .inl x1)]) (st' := []) (S := S_4) rfl (rc_169 r_3) (s_169 r_3 S_4) (fun r_5 S_6 => ?_)
    exact q_Sim.ret vc_127 rfl
  · refine q_Sim.steps vc_127 2 (pc' := 12) (lv' := [(2, .inl r_1), (0, .inr (.inr (10, 0, 0))), (1, .inl x1)]) (st' := [.inl r_1, .inr (.inr (10, 0, 0))]) (V' := q_V S_2) rfl ?_
    refine q_Sim.call vc_127 (as := [.inr (.inr (10, 0, 0)), .inl r_1]) (pc' := 15) (lv' := [(2, .inl r_1), (0, .inr (.inr (10, 0, 0))), (1, .inl x1)]) (st' := []) (S := S_2) rfl (rc_170 r_1) (s_170 r_1 S_2) (fun r_7 S_8 => ?_)
    exact q_Sim.ret vc_127 rfl
theorem vc_128 : v_code 128 = k_128 := rfl
theorem rc_128 (x1 : Int32) : v_rcv 128 [.inr (.inr (10, 0, 0)), .inl x1] = true := rfl
def b_128_11  (S : QS) : Option ((Int32) × QS) := q_bd (f_170 2 S) (fun r_1 S_2 => some (r_1, S_2))
theorem sb_128_11  (S : QS) : q_Sim 128 11 [(0, .inr (.inr (10, 0, 0)))] [] (q_V S) q_I (b_128_11  S) := by
  unfold b_128_11
  refine q_Sim.steps vc_128 2 (pc' := 13) (lv' := [(0, .inr (.inr (10, 0, 0)))]) (st' := [.inl 2, .inr (.inr (10, 0, 0))]) (V' := q_V S) rfl ?_
  refine q_Sim.call vc_128 (as := [.inr (.inr (10, 0, 0)), .inl 2]) (pc' := 16) (lv' := [(0, .inr (.inr (10, 0, 0)))]) (st' := []) (S := S) rfl (rc_170 2) (s_170 2 S) (fun r_1 S_2 => ?_)
  exact q_Sim.ret vc_128 rfl
def b_128_64 (xs1 : Int32) (S : QS) : Option ((Int32) × QS) := q_bd (f_169 xs1 S) (fun r_7 S_8 => some (r_7, S_8))
theorem sb_128_64 (xs1 : Int32) (S : QS) : q_Sim 128 64 [] [.inl xs1, .inr (.inr (10, 0, 0))] (q_V S) q_I (b_128_64 xs1 S) := by
  unfold b_128_64
  refine q_Sim.call vc_128 (as := [.inr (.inr (10, 0, 0)), .inl xs1]) (pc' := 67) (lv' := []) (st' := []) (S := S) rfl (rc_169 xs1) (s_169 xs1 S) (fun r_7 S_8 => ?_)
  exact q_Sim.ret vc_128 rfl
def f_128 (x1 : Int32) (S : QS) : Option ((Int32) × QS) := if x1 < 0 then (b_128_11  S) else (if x1 < 200 then (if x1 < (S.1 (9, S.2.2.1.1, 0) 6) then (q_bd (f_102 S.2.2.1.1 x1 S) (fun r_3 S_4 => if r_3 = (-1) then (q_bd (f_103 S_4.2.2.1.1 x1 S_4) (fun r_5 S_6 => b_128_64 r_5 S_6)) else (b_128_64 ((-2) - r_3) S_4))) else (q_bd (f_170 1 S) (fun r_9 S_10 => some (r_9, S_10)))) else (b_128_11  S))
theorem s_128 (x1 : Int32) (S : QS) : q_Sim 128 0 [(0, .inr (.inr (10, 0, 0))), (1, .inl x1)] [] (q_V S) q_I (f_128 x1 S) := by
  unfold f_128
  refine q_Sim.steps vc_128 1 (pc' := 1) (lv' := [(0, .inr (.inr (10, 0, 0))), (1, .inl x1)]) (st' := [.inl x1]) (V' := q_V S) rfl ?_
  refine q_Sim.br vc_128 (c := x1 < 0) (t := 11) (f := 4) (lv' := [(0, .inr (.inr (10, 0, 0))), (1, .inl x1)]) (st' := []) (V' := q_V S) rfl ?_ ?_
  · exact q_Sim.sub2 (lv' := [(0, .inr (.inr (10, 0, 0)))]) [0] rfl (by decide) ⟨rfl, trivial⟩ (sb_128_11  S)
  · refine q_Sim.steps vc_128 2 (pc' := 8) (lv' := [(0, .inr (.inr (10, 0, 0))), (1, .inl x1)]) (st' := [.inl 200, .inl x1]) (V' := q_V S) rfl ?_
    refine q_Sim.br vc_128 (c := x1 < 200) (t := 17) (f := 11) (lv' := [(0, .inr (.inr (10, 0, 0))), (1, .inl x1)]) (st' := []) (V' := q_V S) rfl ?_ ?_
    · refine q_Sim.steps vc_128 4 (pc' := 25) (lv' := [(0, .inr (.inr (10, 0, 0))), (1, .inl x1)]) (st' := [.inl (S.1 (9, S.2.2.1.1, 0) 6), .inl x1]) (V' := q_V S) rfl ?_
      refine q_Sim.br vc_128 (c := x1 < (S.1 (9, S.2.2.1.1, 0) 6)) (t := 34) (f := 28) (lv' := [(0, .inr (.inr (10, 0, 0))), (1, .inl x1)]) (st' := []) (V' := q_V S) rfl ?_ ?_
      · refine q_Sim.steps vc_128 3 (pc' := 39) (lv' := [(0, .inr (.inr (10, 0, 0))), (1, .inl x1)]) (st' := [.inl x1, .inr (.inr (9, S.2.2.1.1, 0))]) (V' := q_V S) rfl ?_
        refine q_Sim.call vc_128 (as := [.inr (.inr (9, S.2.2.1.1, 0)), .inl x1]) (pc' := 42) (lv' := [(0, .inr (.inr (10, 0, 0))), (1, .inl x1)]) (st' := []) (S := S) rfl (rc_102 S.2.2.1.1 x1) (s_102 S.2.2.1.1 x1 S) (fun r_3 S_4 => ?_)
        refine q_Sim.steps vc_128 4 (pc' := 46) (lv' := [(2, .inl r_3), (0, .inr (.inr (10, 0, 0))), (1, .inl x1)]) (st' := [.inl (-1), .inl r_3, .inr (.inr (10, 0, 0))]) (V' := q_V S_4) rfl ?_
        refine q_Sim.br vc_128 (c := r_3 = (-1)) (t := 56) (f := 49) (lv' := [(2, .inl r_3), (0, .inr (.inr (10, 0, 0))), (1, .inl x1)]) (st' := [.inr (.inr (10, 0, 0))]) (V' := q_V S_4) rfl ?_ ?_
        · refine q_Sim.steps vc_128 3 (pc' := 61) (lv' := [(2, .inl r_3), (0, .inr (.inr (10, 0, 0))), (1, .inl x1)]) (st' := [.inl x1, .inr (.inr (9, S_4.2.2.1.1, 0)), .inr (.inr (10, 0, 0))]) (V' := q_V S_4) rfl ?_
          refine q_Sim.call vc_128 (as := [.inr (.inr (9, S_4.2.2.1.1, 0)), .inl x1]) (pc' := 64) (lv' := [(2, .inl r_3), (0, .inr (.inr (10, 0, 0))), (1, .inl x1)]) (st' := [.inr (.inr (10, 0, 0))]) (S := S_4) rfl (rc_103 S_4.2.2.1.1 x1) (s_103 S_4.2.2.1.1 x1 S_4) (fun r_5 S_6 => ?_)
          exact q_Sim.sub2 (lv' := []) [] rfl (by decide) trivial (sb_128_64 r_5 S_6)
        · refine q_Sim.steps vc_128 4 (pc' := 64) (lv' := [(2, .inl r_3), (0, .inr (.inr (10, 0, 0))), (1, .inl x1)]) (st' := [.inl ((-2) - r_3), .inr (.inr (10, 0, 0))]) (V' := q_V S_4) rfl ?_
          exact q_Sim.sub2 (lv' := []) [] rfl (by decide) trivial (sb_128_64 ((-2) - r_3) S_4)
      · refine q_Sim.steps vc_128 2 (pc' := 30) (lv' := [(0, .inr (.inr (10, 0, 0))), (1, .inl x1)]) (st' := [.inl 1, .inr (.inr (10, 0, 0))]) (V' := q_V S) rfl ?_
        refine q_Sim.call vc_128 (as := [.inr (.inr (10, 0, 0)), .inl 1]) (pc' := 33) (lv' := [(0, .inr (.inr (10, 0, 0))), (1, .inl x1)]) (st' := []) (S := S) rfl (rc_170 1) (s_170 1 S) (fun r_9 S_10 => ?_)
        exact q_Sim.ret vc_128 rfl
    · exact q_Sim.sub2 (lv' := [(0, .inr (.inr (10, 0, 0)))]) [0] rfl (by decide) ⟨rfl, trivial⟩ (sb_128_11  S)
theorem vc_177 : v_code 177 = k_177 := rfl
theorem rc_177 (x1 : Int32) (x2 : Int32) : v_rcv 177 [.inr (.inr (10, 0, 0)), .inl x1, .inl x2] = true := rfl
def b_177_31  (S : QS) : Option ((Int32) × QS) := some (2, S)
theorem sb_177_31  (S : QS) : q_Sim 177 31 [] [] (q_V S) q_I (b_177_31  S) := by
  unfold b_177_31
  refine q_Sim.steps vc_177 2 (pc' := 36) (lv' := []) (st' := [.inl 2]) (V' := q_V S) rfl ?_
  exact q_Sim.ret vc_177 rfl
def f_177 (x1 : Int32) (x2 : Int32) (S : QS) : Option ((Int32) × QS) := q_bd (f_176 x1 S) (fun r_1 S_2 => if r_1 = 0 then (if x2 < 0 then (b_177_31  S_2) else (q_bd (f_100 S_2.2.2.1.1 x1 S_2) (fun r_3 S_4 => if x2 < (S_4.1 (3, r_3.1, r_3.2) 1) then (some (0, S_4)) else (b_177_31  S_4)))) else (some (r_1, S_2)))
theorem s_177 (x1 : Int32) (x2 : Int32) (S : QS) : q_Sim 177 0 [(0, .inr (.inr (10, 0, 0))), (1, .inl x1), (2, .inl x2)] [] (q_V S) q_I (f_177 x1 x2 S) := by
  unfold f_177
  refine q_Sim.steps vc_177 2 (pc' := 2) (lv' := [(0, .inr (.inr (10, 0, 0))), (1, .inl x1), (2, .inl x2)]) (st' := [.inl x1, .inr (.inr (10, 0, 0))]) (V' := q_V S) rfl ?_
  refine q_Sim.call vc_177 (as := [.inr (.inr (10, 0, 0)), .inl x1]) (pc' := 5) (lv' := [(0, .inr (.inr (10, 0, 0))), (1, .inl x1), (2, .inl x2)]) (st' := []) (S := S) rfl (rc_176 x1) (s_176 x1 S) (fun r_1 S_2 => ?_)
  refine q_Sim.steps vc_177 2 (pc' := 7) (lv' := [(3, .inl r_1), (0, .inr (.inr (10, 0, 0))), (1, .inl x1), (2, .inl x2)]) (st' := [.inl r_1]) (V' := q_V S_2) rfl ?_
  refine q_Sim.br vc_177 (c := r_1 = 0) (t := 12) (f := 10) (lv' := [(3, .inl r_1), (0, .inr (.inr (10, 0, 0))), (1, .inl x1), (2, .inl x2)]) (st' := []) (V' := q_V S_2) rfl ?_ ?_
  · refine q_Sim.steps vc_177 1 (pc' := 13) (lv' := [(3, .inl r_1), (0, .inr (.inr (10, 0, 0))), (1, .inl x1), (2, .inl x2)]) (st' := [.inl x2]) (V' := q_V S_2) rfl ?_
    refine q_Sim.br vc_177 (c := x2 < 0) (t := 31) (f := 16) (lv' := [(3, .inl r_1), (0, .inr (.inr (10, 0, 0))), (1, .inl x1), (2, .inl x2)]) (st' := []) (V' := q_V S_2) rfl ?_ ?_
    · exact q_Sim.sub2 (lv' := []) [] rfl (by decide) trivial (sb_177_31  S_2)
    · refine q_Sim.steps vc_177 4 (pc' := 22) (lv' := [(3, .inl r_1), (0, .inr (.inr (10, 0, 0))), (1, .inl x1), (2, .inl x2)]) (st' := [.inl x1, .inr (.inr (9, S_2.2.2.1.1, 0)), .inl x2]) (V' := q_V S_2) rfl ?_
      refine q_Sim.call vc_177 (as := [.inr (.inr (9, S_2.2.2.1.1, 0)), .inl x1]) (pc' := 25) (lv' := [(3, .inl r_1), (0, .inr (.inr (10, 0, 0))), (1, .inl x1), (2, .inl x2)]) (st' := [.inl x2]) (S := S_2) rfl (rc_100 S_2.2.2.1.1 x1) (s_100 S_2.2.2.1.1 x1 S_2) (fun r_3 S_4 => ?_)
      refine q_Sim.steps vc_177 1 (pc' := 28) (lv' := [(3, .inl r_1), (0, .inr (.inr (10, 0, 0))), (1, .inl x1), (2, .inl x2)]) (st' := [.inl (S_4.1 (3, r_3.1, r_3.2) 1), .inl x2]) (V' := q_V S_4) rfl ?_
      refine q_Sim.br vc_177 (c := x2 < (S_4.1 (3, r_3.1, r_3.2) 1)) (t := 35) (f := 31) (lv' := [(3, .inl r_1), (0, .inr (.inr (10, 0, 0))), (1, .inl x1), (2, .inl x2)]) (st' := []) (V' := q_V S_4) rfl ?_ ?_
      · refine q_Sim.steps vc_177 1 (pc' := 36) (lv' := [(3, .inl r_1), (0, .inr (.inr (10, 0, 0))), (1, .inl x1), (2, .inl x2)]) (st' := [.inl 0]) (V' := q_V S_4) rfl ?_
        exact q_Sim.ret vc_177 rfl
      · exact q_Sim.sub2 (lv' := []) [] rfl (by decide) trivial (sb_177_31  S_4)
  · refine q_Sim.steps vc_177 1 (pc' := 11) (lv' := [(3, .inl r_1), (0, .inr (.inr (10, 0, 0))), (1, .inl x1), (2, .inl x2)]) (st' := [.inl r_1]) (V' := q_V S_2) rfl ?_
    exact q_Sim.ret vc_177 rfl
theorem vc_129 : v_code 129 = k_129 := rfl
theorem rc_129 (x1 : Int32) (x2 : Int32) : v_rcv 129 [.inr (.inr (10, 0, 0)), .inl x1, .inl x2] = true := rfl
def f_129 (x1 : Int32) (x2 : Int32) (S : QS) : Option ((Int32) × QS) := q_bd (f_177 x1 x2 S) (fun r_1 S_2 => if r_1 = 0 then (q_bd (f_100 S_2.2.2.1.1 x1 S_2) (fun r_3 S_4 => q_ck (v_in x2 64) (q_let (S_4.1 (24, r_3.1, r_3.2) x2.toNatClampNeg) (fun y_5 => q_bd (f_169 y_5 S_4) (fun r_6 S_7 => some (r_6, S_7)))))) else (q_bd (f_170 r_1 S_2) (fun r_8 S_9 => some (r_8, S_9))))
theorem s_129 (x1 : Int32) (x2 : Int32) (S : QS) : q_Sim 129 0 [(0, .inr (.inr (10, 0, 0))), (1, .inl x1), (2, .inl x2)] [] (q_V S) q_I (f_129 x1 x2 S) := by
  unfold f_129
  refine q_Sim.steps vc_129 3 (pc' := 3) (lv' := [(0, .inr (.inr (10, 0, 0))), (1, .inl x1), (2, .inl x2)]) (st' := [.inl x2, .inl x1, .inr (.inr (10, 0, 0))]) (V' := q_V S) rfl ?_
  refine q_Sim.call vc_129 (as := [.inr (.inr (10, 0, 0)), .inl x1, .inl x2]) (pc' := 6) (lv' := [(0, .inr (.inr (10, 0, 0))), (1, .inl x1), (2, .inl x2)]) (st' := []) (S := S) rfl (rc_177 x1 x2) (s_177 x1 x2 S) (fun r_1 S_2 => ?_)
  refine q_Sim.steps vc_129 2 (pc' := 8) (lv' := [(3, .inl r_1), (0, .inr (.inr (10, 0, 0))), (1, .inl x1), (2, .inl x2)]) (st' := [.inl r_1]) (V' := q_V S_2) rfl ?_
  refine q_Sim.br vc_129 (c := r_1 = 0) (t := 17) (f := 11) (lv' := [(3, .inl r_1), (0, .inr (.inr (10, 0, 0))), (1, .inl x1), (2, .inl x2)]) (st' := []) (V' := q_V S_2) rfl ?_ ?_
  · refine q_Sim.steps vc_129 4 (pc' := 23) (lv' := [(3, .inl r_1), (0, .inr (.inr (10, 0, 0))), (1, .inl x1), (2, .inl x2)]) (st' := [.inl x1, .inr (.inr (9, S_2.2.2.1.1, 0)), .inr (.inr (10, 0, 0))]) (V' := q_V S_2) rfl ?_
    refine q_Sim.call vc_129 (as := [.inr (.inr (9, S_2.2.2.1.1, 0)), .inl x1]) (pc' := 26) (lv' := [(3, .inl r_1), (0, .inr (.inr (10, 0, 0))), (1, .inl x1), (2, .inl x2)]) (st' := [.inr (.inr (10, 0, 0))]) (S := S_2) rfl (rc_100 S_2.2.2.1.1 x1) (s_100 S_2.2.2.1.1 x1 S_2) (fun r_3 S_4 => ?_)
    refine q_Sim.steps vc_129 2 (pc' := 30) (lv' := [(3, .inl r_1), (0, .inr (.inr (10, 0, 0))), (1, .inl x1), (2, .inl x2)]) (st' := [.inl x2, .inr (.inr (24, r_3.1, r_3.2)), .inr (.inr (10, 0, 0))]) (V' := q_V S_4) rfl ?_
    refine q_Sim.ck vc_129 (c := v_in x2 64) (pc' := 31) (lv' := [(3, .inl r_1), (0, .inr (.inr (10, 0, 0))), (1, .inl x1), (2, .inl x2)]) (st' := [.inl (S_4.1 (24, r_3.1, r_3.2) x2.toNatClampNeg), .inr (.inr (10, 0, 0))]) (V' := q_V S_4) rfl ?_
    refine q_Sim.letI (fun y_5 => ?_)
    refine q_Sim.call vc_129 (as := [.inr (.inr (10, 0, 0)), .inl y_5]) (pc' := 34) (lv' := [(3, .inl r_1), (0, .inr (.inr (10, 0, 0))), (1, .inl x1), (2, .inl x2)]) (st' := []) (S := S_4) rfl (rc_169 y_5) (s_169 y_5 S_4) (fun r_6 S_7 => ?_)
    exact q_Sim.ret vc_129 rfl
  · refine q_Sim.steps vc_129 2 (pc' := 13) (lv' := [(3, .inl r_1), (0, .inr (.inr (10, 0, 0))), (1, .inl x1), (2, .inl x2)]) (st' := [.inl r_1, .inr (.inr (10, 0, 0))]) (V' := q_V S_2) rfl ?_
    refine q_Sim.call vc_129 (as := [.inr (.inr (10, 0, 0)), .inl r_1]) (pc' := 16) (lv' := [(3, .inl r_1), (0, .inr (.inr (10, 0, 0))), (1, .inl x1), (2, .inl x2)]) (st' := []) (S := S_2) rfl (rc_170 r_1) (s_170 r_1 S_2) (fun r_8 S_9 => ?_)
    exact q_Sim.ret vc_129 rfl
theorem vc_130 : v_code 130 = k_130 := rfl
theorem rc_130 (x1 : Int32) (x2 : Int32) (x3 : Int32) : v_rcv 130 [.inr (.inr (10, 0, 0)), .inl x1, .inl x2, .inl x3] = true := rfl
def b_130_52 (x1 : Int32) (x2 : Int32) (x3 : Int32) (S : QS) : Option ((Int32) × QS) := q_bd (f_171  S) (fun r_3 S_4 => q_bd (f_100 S_4.2.2.1.1 x1 S_4) (fun r_5 S_6 => q_ck (v_in x2 64) (q_let (S_6.1 (24, r_5.1, r_5.2) x2.toNatClampNeg) (fun y_7 => q_bd (f_180 y_7 S_6) (fun r_8 S_9 => q_let (q_set S_9 (9, S_6.2.2.1.1, 0) 11 ((S_6.1 (9, S_6.2.2.1.1, 0) 11) + r_8)) (fun S_10 => q_ck (v_in x2 64) (q_let (q_set S_10 (24, r_5.1, r_5.2) x2.toNatClampNeg x3) (fun S_11 => q_bd (f_169 y_7 S_11) (fun r_12 S_13 => some (r_12, S_13))))))))))
theorem sb_130_52 (x1 : Int32) (x2 : Int32) (x3 : Int32) (S : QS) : q_Sim 130 52 [(0, .inr (.inr (10, 0, 0))), (1, .inl x1), (2, .inl x2), (3, .inl x3)] [] (q_V S) q_I (b_130_52 x1 x2 x3 S) := by
  unfold b_130_52
  refine q_Sim.steps vc_130 1 (pc' := 53) (lv' := [(0, .inr (.inr (10, 0, 0))), (1, .inl x1), (2, .inl x2), (3, .inl x3)]) (st' := [.inr (.inr (10, 0, 0))]) (V' := q_V S) rfl ?_
  refine q_Sim.call vc_130 (as := [.inr (.inr (10, 0, 0))]) (pc' := 56) (lv' := [(0, .inr (.inr (10, 0, 0))), (1, .inl x1), (2, .inl x2), (3, .inl x3)]) (st' := []) (S := S) rfl (rc_171 ) (s_171  S) (fun r_3 S_4 => ?_)
  refine q_Sim.steps vc_130 3 (pc' := 61) (lv' := [(0, .inr (.inr (10, 0, 0))), (1, .inl x1), (2, .inl x2), (3, .inl x3)]) (st' := [.inl x1, .inr (.inr (9, S_4.2.2.1.1, 0))]) (V' := q_V S_4) rfl ?_
  refine q_Sim.call vc_130 (as := [.inr (.inr (9, S_4.2.2.1.1, 0)), .inl x1]) (pc' := 64) (lv' := [(0, .inr (.inr (10, 0, 0))), (1, .inl x1), (2, .inl x2), (3, .inl x3)]) (st' := []) (S := S_4) rfl (rc_100 S_4.2.2.1.1 x1) (s_100 S_4.2.2.1.1 x1 S_4) (fun r_5 S_6 => ?_)
  refine q_Sim.steps vc_130 4 (pc' := 72) (lv' := [(5, .inr (.inr (3, r_5.1, r_5.2))), (0, .inr (.inr (10, 0, 0))), (1, .inl x1), (2, .inl x2), (3, .inl x3)]) (st' := [.inl x2, .inr (.inr (24, r_5.1, r_5.2))]) (V' := q_V S_6) rfl ?_
  refine q_Sim.ck vc_130 (c := v_in x2 64) (pc' := 73) (lv' := [(5, .inr (.inr (3, r_5.1, r_5.2))), (0, .inr (.inr (10, 0, 0))), (1, .inl x1), (2, .inl x2), (3, .inl x3)]) (st' := [.inl (S_6.1 (24, r_5.1, r_5.2) x2.toNatClampNeg)]) (V' := q_V S_6) rfl ?_
  refine q_Sim.letI (fun y_7 => ?_)
  refine q_Sim.steps vc_130 6 (pc' := 85) (lv' := [(6, .inl y_7), (5, .inr (.inr (3, r_5.1, r_5.2))), (0, .inr (.inr (10, 0, 0))), (1, .inl x1), (2, .inl x2), (3, .inl x3)]) (st' := [.inl y_7, .inl (S_6.1 (9, S_6.2.2.1.1, 0) 11), .inr (.inr (9, S_6.2.2.1.1, 0))]) (V' := q_V S_6) rfl ?_
  refine q_Sim.call vc_130 (as := [.inl y_7]) (pc' := 88) (lv' := [(6, .inl y_7), (5, .inr (.inr (3, r_5.1, r_5.2))), (0, .inr (.inr (10, 0, 0))), (1, .inl x1), (2, .inl x2), (3, .inl x3)]) (st' := [.inl (S_6.1 (9, S_6.2.2.1.1, 0) 11), .inr (.inr (9, S_6.2.2.1.1, 0))]) (S := S_6) rfl (rc_180 y_7) (s_180 y_7 S_6) (fun r_8 S_9 => ?_)
  refine q_Sim.steps vc_130 1 (pc' := 89) (lv' := [(6, .inl y_7), (5, .inr (.inr (3, r_5.1, r_5.2))), (0, .inr (.inr (10, 0, 0))), (1, .inl x1), (2, .inl x2), (3, .inl x3)]) (st' := [.inl ((S_6.1 (9, S_6.2.2.1.1, 0) 11) + r_8), .inr (.inr (9, S_6.2.2.1.1, 0))]) (V' := q_V S_9) rfl ?_
  refine q_Sim.steps vc_130 1 (pc' := 92) (lv' := [(6, .inl y_7), (5, .inr (.inr (3, r_5.1, r_5.2))), (0, .inr (.inr (10, 0, 0))), (1, .inl x1), (2, .inl x2), (3, .inl x3)]) (st' := []) (V' := q_V (q_set S_9 (9, S_6.2.2.1.1, 0) 11 ((S_6.1 (9, S_6.2.2.1.1, 0) 11) + r_8))) rfl ?_
  refine q_Sim.letS (fun S_10 => ?_)
  refine q_Sim.steps vc_130 4 (pc' := 99) (lv' := [(6, .inl y_7), (5, .inr (.inr (3, r_5.1, r_5.2))), (0, .inr (.inr (10, 0, 0))), (1, .inl x1), (2, .inl x2), (3, .inl x3)]) (st' := [.inl x3, .inl x2, .inr (.inr (24, r_5.1, r_5.2))]) (V' := q_V S_10) rfl ?_
  refine q_Sim.ck vc_130 (c := v_in x2 64) (pc' := 100) (lv' := [(6, .inl y_7), (5, .inr (.inr (3, r_5.1, r_5.2))), (0, .inr (.inr (10, 0, 0))), (1, .inl x1), (2, .inl x2), (3, .inl x3)]) (st' := []) (V' := q_V (q_set S_10 (24, r_5.1, r_5.2) x2.toNatClampNeg x3)) rfl ?_
  refine q_Sim.letS (fun S_11 => ?_)
  refine q_Sim.steps vc_130 2 (pc' := 103) (lv' := [(6, .inl y_7), (5, .inr (.inr (3, r_5.1, r_5.2))), (0, .inr (.inr (10, 0, 0))), (1, .inl x1), (2, .inl x2), (3, .inl x3)]) (st' := [.inl y_7, .inr (.inr (10, 0, 0))]) (V' := q_V S_11) rfl ?_
  refine q_Sim.call vc_130 (as := [.inr (.inr (10, 0, 0)), .inl y_7]) (pc' := 106) (lv' := [(6, .inl y_7), (5, .inr (.inr (3, r_5.1, r_5.2))), (0, .inr (.inr (10, 0, 0))), (1, .inl x1), (2, .inl x2), (3, .inl x3)]) (st' := []) (S := S_11) rfl (rc_169 y_7) (s_169 y_7 S_11) (fun r_12 S_13 => ?_)
  exact q_Sim.ret vc_130 rfl
def f_130 (x1 : Int32) (x2 : Int32) (x3 : Int32) (S : QS) : Option ((Int32) × QS) := q_bd (f_177 x1 x2 S) (fun r_1 S_2 => if r_1 = 0 then (if x3 = 0 then (b_130_52 x1 x2 x3 S_2) else (if x3 = 200 then (b_130_52 x1 x2 x3 S_2) else (if x3 = 300 then (b_130_52 x1 x2 x3 S_2) else (if x3 = 400 then (b_130_52 x1 x2 x3 S_2) else (q_bd (f_170 6 S_2) (fun r_14 S_15 => some (r_14, S_15))))))) else (q_bd (f_170 r_1 S_2) (fun r_16 S_17 => some (r_16, S_17))))
theorem s_130 (x1 : Int32) (x2 : Int32) (x3 : Int32) (S : QS) : q_Sim 130 0 [(0, .inr (.inr (10, 0, 0))), (1, .inl x1), (2, .inl x2), (3, .inl x3)] [] (q_V S) q_I (f_130 x1 x2 x3 S) := by
  unfold f_130
  refine q_Sim.steps vc_130 3 (pc' := 3) (lv' := [(0, .inr (.inr (10, 0, 0))), (1, .inl x1), (2, .inl x2), (3, .inl x3)]) (st' := [.inl x2, .inl x1, .inr (.inr (10, 0, 0))]) (V' := q_V S) rfl ?_
  refine q_Sim.call vc_130 (as := [.inr (.inr (10, 0, 0)), .inl x1, .inl x2]) (pc' := 6) (lv' := [(0, .inr (.inr (10, 0, 0))), (1, .inl x1), (2, .inl x2), (3, .inl x3)]) (st' := []) (S := S) rfl (rc_177 x1 x2) (s_177 x1 x2 S) (fun r_1 S_2 => ?_)
  refine q_Sim.steps vc_130 2 (pc' := 10) (lv' := [(4, .inl r_1), (0, .inr (.inr (10, 0, 0))), (1, .inl x1), (2, .inl x2), (3, .inl x3)]) (st' := [.inl r_1]) (V' := q_V S_2) rfl ?_
  refine q_Sim.br vc_130 (c := r_1 = 0) (t := 20) (f := 13) (lv' := [(4, .inl r_1), (0, .inr (.inr (10, 0, 0))), (1, .inl x1), (2, .inl x2), (3, .inl x3)]) (st' := []) (V' := q_V S_2) rfl ?_ ?_
  · refine q_Sim.steps vc_130 1 (pc' := 21) (lv' := [(4, .inl r_1), (0, .inr (.inr (10, 0, 0))), (1, .inl x1), (2, .inl x2), (3, .inl x3)]) (st' := [.inl x3]) (V' := q_V S_2) rfl ?_
    refine q_Sim.br vc_130 (c := x3 = 0) (t := 52) (f := 24) (lv' := [(4, .inl r_1), (0, .inr (.inr (10, 0, 0))), (1, .inl x1), (2, .inl x2), (3, .inl x3)]) (st' := []) (V' := q_V S_2) rfl ?_ ?_
    · exact q_Sim.sub2 (lv' := [(0, .inr (.inr (10, 0, 0))), (1, .inl x1), (2, .inl x2), (3, .inl x3)]) [0, 1, 2, 3] rfl (by decide) ⟨rfl, rfl, rfl, rfl, trivial⟩ (sb_130_52 x1 x2 x3 S_2)
    · refine q_Sim.steps vc_130 2 (pc' := 28) (lv' := [(4, .inl r_1), (0, .inr (.inr (10, 0, 0))), (1, .inl x1), (2, .inl x2), (3, .inl x3)]) (st' := [.inl 200, .inl x3]) (V' := q_V S_2) rfl ?_
      refine q_Sim.br vc_130 (c := x3 = 200) (t := 52) (f := 31) (lv' := [(4, .inl r_1), (0, .inr (.inr (10, 0, 0))), (1, .inl x1), (2, .inl x2), (3, .inl x3)]) (st' := []) (V' := q_V S_2) rfl ?_ ?_
      · exact q_Sim.sub2 (lv' := [(0, .inr (.inr (10, 0, 0))), (1, .inl x1), (2, .inl x2), (3, .inl x3)]) [0, 1, 2, 3] rfl (by decide) ⟨rfl, rfl, rfl, rfl, trivial⟩ (sb_130_52 x1 x2 x3 S_2)
      · refine q_Sim.steps vc_130 2 (pc' := 35) (lv' := [(4, .inl r_1), (0, .inr (.inr (10, 0, 0))), (1, .inl x1), (2, .inl x2), (3, .inl x3)]) (st' := [.inl 300, .inl x3]) (V' := q_V S_2) rfl ?_
        refine q_Sim.br vc_130 (c := x3 = 300) (t := 52) (f := 38) (lv' := [(4, .inl r_1), (0, .inr (.inr (10, 0, 0))), (1, .inl x1), (2, .inl x2), (3, .inl x3)]) (st' := []) (V' := q_V S_2) rfl ?_ ?_
        · exact q_Sim.sub2 (lv' := [(0, .inr (.inr (10, 0, 0))), (1, .inl x1), (2, .inl x2), (3, .inl x3)]) [0, 1, 2, 3] rfl (by decide) ⟨rfl, rfl, rfl, rfl, trivial⟩ (sb_130_52 x1 x2 x3 S_2)
        · refine q_Sim.steps vc_130 2 (pc' := 42) (lv' := [(4, .inl r_1), (0, .inr (.inr (10, 0, 0))), (1, .inl x1), (2, .inl x2), (3, .inl x3)]) (st' := [.inl 400, .inl x3]) (V' := q_V S_2) rfl ?_
          refine q_Sim.br vc_130 (c := x3 = 400) (t := 52) (f := 45) (lv' := [(4, .inl r_1), (0, .inr (.inr (10, 0, 0))), (1, .inl x1), (2, .inl x2), (3, .inl x3)]) (st' := []) (V' := q_V S_2) rfl ?_ ?_
          · exact q_Sim.sub2 (lv' := [(0, .inr (.inr (10, 0, 0))), (1, .inl x1), (2, .inl x2), (3, .inl x3)]) [0, 1, 2, 3] rfl (by decide) ⟨rfl, rfl, rfl, rfl, trivial⟩ (sb_130_52 x1 x2 x3 S_2)
          · refine q_Sim.steps vc_130 2 (pc' := 48) (lv' := [(4, .inl r_1), (0, .inr (.inr (10, 0, 0))), (1, .inl x1), (2, .inl x2), (3, .inl x3)]) (st' := [.inl 6, .inr (.inr (10, 0, 0))]) (V' := q_V S_2) rfl ?_
            refine q_Sim.call vc_130 (as := [.inr (.inr (10, 0, 0)), .inl 6]) (pc' := 51) (lv' := [(4, .inl r_1), (0, .inr (.inr (10, 0, 0))), (1, .inl x1), (2, .inl x2), (3, .inl x3)]) (st' := []) (S := S_2) rfl (rc_170 6) (s_170 6 S_2) (fun r_14 S_15 => ?_)
            exact q_Sim.ret vc_130 rfl
  · refine q_Sim.steps vc_130 2 (pc' := 16) (lv' := [(4, .inl r_1), (0, .inr (.inr (10, 0, 0))), (1, .inl x1), (2, .inl x2), (3, .inl x3)]) (st' := [.inl r_1, .inr (.inr (10, 0, 0))]) (V' := q_V S_2) rfl ?_
    refine q_Sim.call vc_130 (as := [.inr (.inr (10, 0, 0)), .inl r_1]) (pc' := 19) (lv' := [(4, .inl r_1), (0, .inr (.inr (10, 0, 0))), (1, .inl x1), (2, .inl x2), (3, .inl x3)]) (st' := []) (S := S_2) rfl (rc_170 r_1) (s_170 r_1 S_2) (fun r_16 S_17 => ?_)
    exact q_Sim.ret vc_130 rfl
theorem vc_131 : v_code 131 = k_131 := rfl
theorem rc_131 (x1 : Int32) (x2 : Int32) : v_rcv 131 [.inr (.inr (10, 0, 0)), .inl x1, .inl x2] = true := rfl
def b_131_11  (S : QS) : Option ((Int32) × QS) := q_bd (f_170 2 S) (fun r_1 S_2 => some (r_1, S_2))
theorem sb_131_11  (S : QS) : q_Sim 131 11 [(0, .inr (.inr (10, 0, 0)))] [] (q_V S) q_I (b_131_11  S) := by
  unfold b_131_11
  refine q_Sim.steps vc_131 2 (pc' := 13) (lv' := [(0, .inr (.inr (10, 0, 0)))]) (st' := [.inl 2, .inr (.inr (10, 0, 0))]) (V' := q_V S) rfl ?_
  refine q_Sim.call vc_131 (as := [.inr (.inr (10, 0, 0)), .inl 2]) (pc' := 16) (lv' := [(0, .inr (.inr (10, 0, 0)))]) (st' := []) (S := S) rfl (rc_170 2) (s_170 2 S) (fun r_1 S_2 => ?_)
  exact q_Sim.ret vc_131 rfl
def f_131 (x1 : Int32) (x2 : Int32) (S : QS) : Option ((Int32) × QS) := if x2 < 0 then (b_131_11  S) else (if x2 < 3840 then (q_bd (f_104 S.2.2.1.1 x1 x2 S) (fun r_3 S_4 => q_bd (f_169 r_3 S_4) (fun r_5 S_6 => some (r_5, S_6)))) else (b_131_11  S))
theorem s_131 (x1 : Int32) (x2 : Int32) (S : QS) : q_Sim 131 0 [(0, .inr (.inr (10, 0, 0))), (1, .inl x1), (2, .inl x2)] [] (q_V S) q_I (f_131 x1 x2 S) := by
  unfold f_131
  refine q_Sim.steps vc_131 1 (pc' := 1) (lv' := [(0, .inr (.inr (10, 0, 0))), (1, .inl x1), (2, .inl x2)]) (st' := [.inl x2]) (V' := q_V S) rfl ?_
  refine q_Sim.br vc_131 (c := x2 < 0) (t := 11) (f := 4) (lv' := [(0, .inr (.inr (10, 0, 0))), (1, .inl x1), (2, .inl x2)]) (st' := []) (V' := q_V S) rfl ?_ ?_
  · exact q_Sim.sub2 (lv' := [(0, .inr (.inr (10, 0, 0)))]) [0] rfl (by decide) ⟨rfl, trivial⟩ (sb_131_11  S)
  · refine q_Sim.steps vc_131 2 (pc' := 8) (lv' := [(0, .inr (.inr (10, 0, 0))), (1, .inl x1), (2, .inl x2)]) (st' := [.inl 3840, .inl x2]) (V' := q_V S) rfl ?_
    refine q_Sim.br vc_131 (c := x2 < 3840) (t := 17) (f := 11) (lv' := [(0, .inr (.inr (10, 0, 0))), (1, .inl x1), (2, .inl x2)]) (st' := []) (V' := q_V S) rfl ?_ ?_
    · refine q_Sim.steps vc_131 5 (pc' := 24) (lv' := [(0, .inr (.inr (10, 0, 0))), (1, .inl x1), (2, .inl x2)]) (st' := [.inl x2, .inl x1, .inr (.inr (9, S.2.2.1.1, 0)), .inr (.inr (10, 0, 0))]) (V' := q_V S) rfl ?_
      refine q_Sim.call vc_131 (as := [.inr (.inr (9, S.2.2.1.1, 0)), .inl x1, .inl x2]) (pc' := 27) (lv' := [(0, .inr (.inr (10, 0, 0))), (1, .inl x1), (2, .inl x2)]) (st' := [.inr (.inr (10, 0, 0))]) (S := S) rfl (rc_104 S.2.2.1.1 x1 x2) (s_104 S.2.2.1.1 x1 x2 S) (fun r_3 S_4 => ?_)
      refine q_Sim.call vc_131 (as := [.inr (.inr (10, 0, 0)), .inl r_3]) (pc' := 30) (lv' := [(0, .inr (.inr (10, 0, 0))), (1, .inl x1), (2, .inl x2)]) (st' := []) (S := S_4) rfl (rc_169 r_3) (s_169 r_3 S_4) (fun r_5 S_6 => ?_)
      exact q_Sim.ret vc_131 rfl
    · exact q_Sim.sub2 (lv' := [(0, .inr (.inr (10, 0, 0)))]) [0] rfl (by decide) ⟨rfl, trivial⟩ (sb_131_11  S)
theorem vc_132 : v_code 132 = k_132 := rfl
theorem rc_132 (x1 : Int32) : v_rcv 132 [.inr (.inr (10, 0, 0)), .inl x1] = true := rfl
def b_132_44 (xs1 : Int32) (S : QS) : Option ((Int32) × QS) := q_bd (f_169 xs1 S) (fun r_7 S_8 => some (r_7, S_8))
theorem sb_132_44 (xs1 : Int32) (S : QS) : q_Sim 132 44 [] [.inl xs1, .inr (.inr (10, 0, 0))] (q_V S) q_I (b_132_44 xs1 S) := by
  unfold b_132_44
  refine q_Sim.call vc_132 (as := [.inr (.inr (10, 0, 0)), .inl xs1]) (pc' := 47) (lv' := []) (st' := []) (S := S) rfl (rc_169 xs1) (s_169 xs1 S) (fun r_7 S_8 => ?_)
  exact q_Sim.ret vc_132 rfl
def f_132 (x1 : Int32) (S : QS) : Option ((Int32) × QS) := q_bd (f_172 x1 S) (fun r_1 S_2 => if r_1 = 0 then (q_bd (f_91 S_2.2.2.1.1 x1 S_2) (fun r_3 S_4 => q_bd (f_53 r_3.1 r_3.2 S_4) (fun r_5 S_6 => if ¬ r_5 = (-1) then (b_132_44 ((x1 * 96) + r_5) S_6) else (b_132_44 (-1) S_6)))) else (q_bd (f_170 r_1 S_2) (fun r_9 S_10 => some (r_9, S_10))))
theorem s_132 (x1 : Int32) (S : QS) : q_Sim 132 0 [(0, .inr (.inr (10, 0, 0))), (1, .inl x1)] [] (q_V S) q_I (f_132 x1 S) := by
  unfold f_132
  refine q_Sim.steps vc_132 2 (pc' := 2) (lv' := [(0, .inr (.inr (10, 0, 0))), (1, .inl x1)]) (st' := [.inl x1, .inr (.inr (10, 0, 0))]) (V' := q_V S) rfl ?_
  refine q_Sim.call vc_132 (as := [.inr (.inr (10, 0, 0)), .inl x1]) (pc' := 5) (lv' := [(0, .inr (.inr (10, 0, 0))), (1, .inl x1)]) (st' := []) (S := S) rfl (rc_172 x1) (s_172 x1 S) (fun r_1 S_2 => ?_)
  refine q_Sim.steps vc_132 2 (pc' := 7) (lv' := [(2, .inl r_1), (0, .inr (.inr (10, 0, 0))), (1, .inl x1)]) (st' := [.inl r_1]) (V' := q_V S_2) rfl ?_
  refine q_Sim.br vc_132 (c := r_1 = 0) (t := 16) (f := 10) (lv' := [(2, .inl r_1), (0, .inr (.inr (10, 0, 0))), (1, .inl x1)]) (st' := []) (V' := q_V S_2) rfl ?_ ?_
  · refine q_Sim.steps vc_132 3 (pc' := 21) (lv' := [(2, .inl r_1), (0, .inr (.inr (10, 0, 0))), (1, .inl x1)]) (st' := [.inl x1, .inr (.inr (9, S_2.2.2.1.1, 0))]) (V' := q_V S_2) rfl ?_
    refine q_Sim.call vc_132 (as := [.inr (.inr (9, S_2.2.2.1.1, 0)), .inl x1]) (pc' := 24) (lv' := [(2, .inl r_1), (0, .inr (.inr (10, 0, 0))), (1, .inl x1)]) (st' := []) (S := S_2) rfl (rc_91 S_2.2.2.1.1 x1) (s_91 S_2.2.2.1.1 x1 S_2) (fun r_3 S_4 => ?_)
    refine q_Sim.call vc_132 (as := [.inr (.inr (4, r_3.1, r_3.2))]) (pc' := 27) (lv' := [(2, .inl r_1), (0, .inr (.inr (10, 0, 0))), (1, .inl x1)]) (st' := []) (S := S_4) rfl (rc_53 r_3.1 r_3.2) (s_53 r_3.1 r_3.2 S_4) (fun r_5 S_6 => ?_)
    refine q_Sim.steps vc_132 4 (pc' := 31) (lv' := [(3, .inl r_5), (2, .inl r_1), (0, .inr (.inr (10, 0, 0))), (1, .inl x1)]) (st' := [.inl (-1), .inl r_5, .inr (.inr (10, 0, 0))]) (V' := q_V S_6) rfl ?_
    refine q_Sim.br vc_132 (c := ¬ r_5 = (-1)) (t := 38) (f := 34) (lv' := [(3, .inl r_5), (2, .inl r_1), (0, .inr (.inr (10, 0, 0))), (1, .inl x1)]) (st' := [.inr (.inr (10, 0, 0))]) (V' := q_V S_6) rfl ?_ ?_
    · refine q_Sim.steps vc_132 5 (pc' := 44) (lv' := [(3, .inl r_5), (2, .inl r_1), (0, .inr (.inr (10, 0, 0))), (1, .inl x1)]) (st' := [.inl ((x1 * 96) + r_5), .inr (.inr (10, 0, 0))]) (V' := q_V S_6) rfl ?_
      exact q_Sim.sub2 (lv' := []) [] rfl (by decide) trivial (sb_132_44 ((x1 * 96) + r_5) S_6)
    · refine q_Sim.steps vc_132 2 (pc' := 44) (lv' := [(3, .inl r_5), (2, .inl r_1), (0, .inr (.inr (10, 0, 0))), (1, .inl x1)]) (st' := [.inl (-1), .inr (.inr (10, 0, 0))]) (V' := q_V S_6) rfl ?_
      exact q_Sim.sub2 (lv' := []) [] rfl (by decide) trivial (sb_132_44 (-1) S_6)
  · refine q_Sim.steps vc_132 2 (pc' := 12) (lv' := [(2, .inl r_1), (0, .inr (.inr (10, 0, 0))), (1, .inl x1)]) (st' := [.inl r_1, .inr (.inr (10, 0, 0))]) (V' := q_V S_2) rfl ?_
    refine q_Sim.call vc_132 (as := [.inr (.inr (10, 0, 0)), .inl r_1]) (pc' := 15) (lv' := [(2, .inl r_1), (0, .inr (.inr (10, 0, 0))), (1, .inl x1)]) (st' := []) (S := S_2) rfl (rc_170 r_1) (s_170 r_1 S_2) (fun r_9 S_10 => ?_)
    exact q_Sim.ret vc_132 rfl
theorem vc_133 : v_code 133 = k_133 := rfl
theorem rc_133 (x1 : Int32) (x2 : Int32) : v_rcv 133 [.inr (.inr (10, 0, 0)), .inl x1, .inl x2] = true := rfl
def b_133_26  (S : QS) : Option ((Int32) × QS) := q_bd (f_170 6 S) (fun r_3 S_4 => some (r_3, S_4))
theorem sb_133_26  (S : QS) : q_Sim 133 26 [(0, .inr (.inr (10, 0, 0)))] [] (q_V S) q_I (b_133_26  S) := by
  unfold b_133_26
  refine q_Sim.steps vc_133 2 (pc' := 29) (lv' := [(0, .inr (.inr (10, 0, 0)))]) (st' := [.inl 6, .inr (.inr (10, 0, 0))]) (V' := q_V S) rfl ?_
  refine q_Sim.call vc_133 (as := [.inr (.inr (10, 0, 0)), .inl 6]) (pc' := 32) (lv' := [(0, .inr (.inr (10, 0, 0)))]) (st' := []) (S := S) rfl (rc_170 6) (s_170 6 S) (fun r_3 S_4 => ?_)
  exact q_Sim.ret vc_133 rfl
def b_133_69 (xs1 : Int32) (S : QS) : Option ((Int32) × QS) := q_bd (f_169 xs1 S) (fun r_9 S_10 => some (r_9, S_10))
theorem sb_133_69 (xs1 : Int32) (S : QS) : q_Sim 133 69 [] [.inl xs1, .inr (.inr (10, 0, 0))] (q_V S) q_I (b_133_69 xs1 S) := by
  unfold b_133_69
  refine q_Sim.call vc_133 (as := [.inr (.inr (10, 0, 0)), .inl xs1]) (pc' := 72) (lv' := []) (st' := []) (S := S) rfl (rc_169 xs1) (s_169 xs1 S) (fun r_9 S_10 => ?_)
  exact q_Sim.ret vc_133 rfl
def f_133 (x1 : Int32) (x2 : Int32) (S : QS) : Option ((Int32) × QS) := q_bd (f_172 x1 S) (fun r_1 S_2 => if r_1 = 0 then (if x2 < 0 then (b_133_26  S_2) else (if x2 ≤ 11 then (q_bd (f_91 S_2.2.2.1.1 x1 S_2) (fun r_5 S_6 => if 6 ≤ x2 then (q_bd (f_109 S_6.2.2.1.1 r_5.1 r_5.2 x2 S_6) (fun r_7 S_8 => b_133_69 r_7 S_8)) else (q_bd (f_55 r_5.1 r_5.2 x2 S_6) (fun r_11 S_12 => b_133_69 r_11 S_12)))) else (b_133_26  S_2))) else (q_bd (f_170 r_1 S_2) (fun r_13 S_14 => some (r_13, S_14))))
theorem s_133 (x1 : Int32) (x2 : Int32) (S : QS) : q_Sim 133 0 [(0, .inr (.inr (10, 0, 0))), (1, .inl x1), (2, .inl x2)] [] (q_V S) q_I (f_133 x1 x2 S) := by
  unfold f_133
  refine q_Sim.steps vc_133 2 (pc' := 2) (lv' := [(0, .inr (.inr (10, 0, 0))), (1, .inl x1), (2, .inl x2)]) (st' := [.inl x1, .inr (.inr (10, 0, 0))]) (V' := q_V S) rfl ?_
  refine q_Sim.call vc_133 (as := [.inr (.inr (10, 0, 0)), .inl x1]) (pc' := 5) (lv' := [(0, .inr (.inr (10, 0, 0))), (1, .inl x1), (2, .inl x2)]) (st' := []) (S := S) rfl (rc_172 x1) (s_172 x1 S) (fun r_1 S_2 => ?_)
  refine q_Sim.steps vc_133 2 (pc' := 7) (lv' := [(3, .inl r_1), (0, .inr (.inr (10, 0, 0))), (1, .inl x1), (2, .inl x2)]) (st' := [.inl r_1]) (V' := q_V S_2) rfl ?_
  refine q_Sim.br vc_133 (c := r_1 = 0) (t := 16) (f := 10) (lv' := [(3, .inl r_1), (0, .inr (.inr (10, 0, 0))), (1, .inl x1), (2, .inl x2)]) (st' := []) (V' := q_V S_2) rfl ?_ ?_
  · refine q_Sim.steps vc_133 1 (pc' := 17) (lv' := [(3, .inl r_1), (0, .inr (.inr (10, 0, 0))), (1, .inl x1), (2, .inl x2)]) (st' := [.inl x2]) (V' := q_V S_2) rfl ?_
    refine q_Sim.br vc_133 (c := x2 < 0) (t := 26) (f := 20) (lv' := [(3, .inl r_1), (0, .inr (.inr (10, 0, 0))), (1, .inl x1), (2, .inl x2)]) (st' := []) (V' := q_V S_2) rfl ?_ ?_
    · exact q_Sim.sub2 (lv' := [(0, .inr (.inr (10, 0, 0)))]) [0] rfl (by decide) ⟨rfl, trivial⟩ (sb_133_26  S_2)
    · refine q_Sim.steps vc_133 2 (pc' := 23) (lv' := [(3, .inl r_1), (0, .inr (.inr (10, 0, 0))), (1, .inl x1), (2, .inl x2)]) (st' := [.inl 11, .inl x2]) (V' := q_V S_2) rfl ?_
      refine q_Sim.br vc_133 (c := x2 ≤ 11) (t := 33) (f := 26) (lv' := [(3, .inl r_1), (0, .inr (.inr (10, 0, 0))), (1, .inl x1), (2, .inl x2)]) (st' := []) (V' := q_V S_2) rfl ?_ ?_
      · refine q_Sim.steps vc_133 3 (pc' := 38) (lv' := [(3, .inl r_1), (0, .inr (.inr (10, 0, 0))), (1, .inl x1), (2, .inl x2)]) (st' := [.inl x1, .inr (.inr (9, S_2.2.2.1.1, 0))]) (V' := q_V S_2) rfl ?_
        refine q_Sim.call vc_133 (as := [.inr (.inr (9, S_2.2.2.1.1, 0)), .inl x1]) (pc' := 41) (lv' := [(3, .inl r_1), (0, .inr (.inr (10, 0, 0))), (1, .inl x1), (2, .inl x2)]) (st' := []) (S := S_2) rfl (rc_91 S_2.2.2.1.1 x1) (s_91 S_2.2.2.1.1 x1 S_2) (fun r_5 S_6 => ?_)
        refine q_Sim.steps vc_133 4 (pc' := 47) (lv' := [(4, .inr (.inr (4, r_5.1, r_5.2))), (3, .inl r_1), (0, .inr (.inr (10, 0, 0))), (1, .inl x1), (2, .inl x2)]) (st' := [.inl 6, .inl x2, .inr (.inr (10, 0, 0))]) (V' := q_V S_6) rfl ?_
        refine q_Sim.br vc_133 (c := 6 ≤ x2) (t := 59) (f := 50) (lv' := [(4, .inr (.inr (4, r_5.1, r_5.2))), (3, .inl r_1), (0, .inr (.inr (10, 0, 0))), (1, .inl x1), (2, .inl x2)]) (st' := [.inr (.inr (10, 0, 0))]) (V' := q_V S_6) rfl ?_ ?_
        · refine q_Sim.steps vc_133 4 (pc' := 66) (lv' := [(4, .inr (.inr (4, r_5.1, r_5.2))), (3, .inl r_1), (0, .inr (.inr (10, 0, 0))), (1, .inl x1), (2, .inl x2)]) (st' := [.inl x2, .inr (.inr (4, r_5.1, r_5.2)), .inr (.inr (9, S_6.2.2.1.1, 0)), .inr (.inr (10, 0, 0))]) (V' := q_V S_6) rfl ?_
          refine q_Sim.call vc_133 (as := [.inr (.inr (9, S_6.2.2.1.1, 0)), .inr (.inr (4, r_5.1, r_5.2)), .inl x2]) (pc' := 69) (lv' := [(4, .inr (.inr (4, r_5.1, r_5.2))), (3, .inl r_1), (0, .inr (.inr (10, 0, 0))), (1, .inl x1), (2, .inl x2)]) (st' := [.inr (.inr (10, 0, 0))]) (S := S_6) rfl (rc_109 S_6.2.2.1.1 r_5.1 r_5.2 x2) (s_109 S_6.2.2.1.1 r_5.1 r_5.2 x2 S_6) (fun r_7 S_8 => ?_)
          exact q_Sim.sub2 (lv' := []) [] rfl (by decide) trivial (sb_133_69 r_7 S_8)
        · refine q_Sim.steps vc_133 2 (pc' := 53) (lv' := [(4, .inr (.inr (4, r_5.1, r_5.2))), (3, .inl r_1), (0, .inr (.inr (10, 0, 0))), (1, .inl x1), (2, .inl x2)]) (st' := [.inl x2, .inr (.inr (4, r_5.1, r_5.2)), .inr (.inr (10, 0, 0))]) (V' := q_V S_6) rfl ?_
          refine q_Sim.call vc_133 (as := [.inr (.inr (4, r_5.1, r_5.2)), .inl x2]) (pc' := 56) (lv' := [(4, .inr (.inr (4, r_5.1, r_5.2))), (3, .inl r_1), (0, .inr (.inr (10, 0, 0))), (1, .inl x1), (2, .inl x2)]) (st' := [.inr (.inr (10, 0, 0))]) (S := S_6) rfl (rc_55 r_5.1 r_5.2 x2) (s_55 r_5.1 r_5.2 x2 S_6) (fun r_11 S_12 => ?_)
          refine q_Sim.steps vc_133 1 (pc' := 69) (lv' := [(4, .inr (.inr (4, r_5.1, r_5.2))), (3, .inl r_1), (0, .inr (.inr (10, 0, 0))), (1, .inl x1), (2, .inl x2)]) (st' := [.inl r_11, .inr (.inr (10, 0, 0))]) (V' := q_V S_12) rfl ?_
          exact q_Sim.sub2 (lv' := []) [] rfl (by decide) trivial (sb_133_69 r_11 S_12)
      · exact q_Sim.sub2 (lv' := [(0, .inr (.inr (10, 0, 0)))]) [0] rfl (by decide) ⟨rfl, trivial⟩ (sb_133_26  S_2)
  · refine q_Sim.steps vc_133 2 (pc' := 12) (lv' := [(3, .inl r_1), (0, .inr (.inr (10, 0, 0))), (1, .inl x1), (2, .inl x2)]) (st' := [.inl r_1, .inr (.inr (10, 0, 0))]) (V' := q_V S_2) rfl ?_
    refine q_Sim.call vc_133 (as := [.inr (.inr (10, 0, 0)), .inl r_1]) (pc' := 15) (lv' := [(3, .inl r_1), (0, .inr (.inr (10, 0, 0))), (1, .inl x1), (2, .inl x2)]) (st' := []) (S := S_2) rfl (rc_170 r_1) (s_170 r_1 S_2) (fun r_13 S_14 => ?_)
    exact q_Sim.ret vc_133 rfl
theorem vc_134 : v_code 134 = k_134 := rfl
theorem rc_134 (x1 : Int32) (x2 : Int32) : v_rcv 134 [.inr (.inr (10, 0, 0)), .inl x1, .inl x2] = true := rfl
def b_134_27  (S : QS) : Option ((Int32) × QS) := q_bd (f_170 6 S) (fun r_3 S_4 => some (r_3, S_4))
theorem sb_134_27  (S : QS) : q_Sim 134 27 [(0, .inr (.inr (10, 0, 0)))] [] (q_V S) q_I (b_134_27  S) := by
  unfold b_134_27
  refine q_Sim.steps vc_134 2 (pc' := 30) (lv' := [(0, .inr (.inr (10, 0, 0)))]) (st' := [.inl 6, .inr (.inr (10, 0, 0))]) (V' := q_V S) rfl ?_
  refine q_Sim.call vc_134 (as := [.inr (.inr (10, 0, 0)), .inl 6]) (pc' := 33) (lv' := [(0, .inr (.inr (10, 0, 0)))]) (st' := []) (S := S) rfl (rc_170 6) (s_170 6 S) (fun r_3 S_4 => ?_)
  exact q_Sim.ret vc_134 rfl
def f_134 (x1 : Int32) (x2 : Int32) (S : QS) : Option ((Int32) × QS) := q_bd (f_172 x1 S) (fun r_1 S_2 => if r_1 = 0 then (if x2 < 0 then (b_134_27  S_2) else (if x2 ≤ 10000 then (q_bd (f_171  S_2) (fun r_5 S_6 => q_bd (f_91 S_6.2.2.1.1 x1 S_6) (fun r_7 S_8 => q_bd (f_106 S_6.2.2.1.1 r_7.1 r_7.2 x2 S_8) (fun r_9 S_10 => q_let (q_set S_10 (9, S_10.2.2.1.1, 0) 12 ((S_10.1 (9, S_10.2.2.1.1, 0) 12) + x2)) (fun S_11 => q_let (q_set S_11 (9, S_11.2.2.1.1, 0) 11 ((S_11.1 (9, S_11.2.2.1.1, 0) 11) + (x2 - r_9))) (fun S_12 => q_bd (f_169 r_9 S_12) (fun r_13 S_14 => some (r_13, S_14)))))))) else (b_134_27  S_2))) else (q_bd (f_170 r_1 S_2) (fun r_15 S_16 => some (r_15, S_16))))
theorem s_134 (x1 : Int32) (x2 : Int32) (S : QS) : q_Sim 134 0 [(0, .inr (.inr (10, 0, 0))), (1, .inl x1), (2, .inl x2)] [] (q_V S) q_I (f_134 x1 x2 S) := by
  unfold f_134
  refine q_Sim.steps vc_134 2 (pc' := 2) (lv' := [(0, .inr (.inr (10, 0, 0))), (1, .inl x1), (2, .inl x2)]) (st' := [.inl x1, .inr (.inr (10, 0, 0))]) (V' := q_V S) rfl ?_
  refine q_Sim.call vc_134 (as := [.inr (.inr (10, 0, 0)), .inl x1]) (pc' := 5) (lv' := [(0, .inr (.inr (10, 0, 0))), (1, .inl x1), (2, .inl x2)]) (st' := []) (S := S) rfl (rc_172 x1) (s_172 x1 S) (fun r_1 S_2 => ?_)
  refine q_Sim.steps vc_134 2 (pc' := 7) (lv' := [(3, .inl r_1), (0, .inr (.inr (10, 0, 0))), (1, .inl x1), (2, .inl x2)]) (st' := [.inl r_1]) (V' := q_V S_2) rfl ?_
  refine q_Sim.br vc_134 (c := r_1 = 0) (t := 16) (f := 10) (lv' := [(3, .inl r_1), (0, .inr (.inr (10, 0, 0))), (1, .inl x1), (2, .inl x2)]) (st' := []) (V' := q_V S_2) rfl ?_ ?_
  · refine q_Sim.steps vc_134 1 (pc' := 17) (lv' := [(3, .inl r_1), (0, .inr (.inr (10, 0, 0))), (1, .inl x1), (2, .inl x2)]) (st' := [.inl x2]) (V' := q_V S_2) rfl ?_
    refine q_Sim.br vc_134 (c := x2 < 0) (t := 27) (f := 20) (lv' := [(3, .inl r_1), (0, .inr (.inr (10, 0, 0))), (1, .inl x1), (2, .inl x2)]) (st' := []) (V' := q_V S_2) rfl ?_ ?_
    · exact q_Sim.sub2 (lv' := [(0, .inr (.inr (10, 0, 0)))]) [0] rfl (by decide) ⟨rfl, trivial⟩ (sb_134_27  S_2)
    · refine q_Sim.steps vc_134 2 (pc' := 24) (lv' := [(3, .inl r_1), (0, .inr (.inr (10, 0, 0))), (1, .inl x1), (2, .inl x2)]) (st' := [.inl 10000, .inl x2]) (V' := q_V S_2) rfl ?_
      refine q_Sim.br vc_134 (c := x2 ≤ 10000) (t := 34) (f := 27) (lv' := [(3, .inl r_1), (0, .inr (.inr (10, 0, 0))), (1, .inl x1), (2, .inl x2)]) (st' := []) (V' := q_V S_2) rfl ?_ ?_
      · refine q_Sim.steps vc_134 1 (pc' := 35) (lv' := [(3, .inl r_1), (0, .inr (.inr (10, 0, 0))), (1, .inl x1), (2, .inl x2)]) (st' := [.inr (.inr (10, 0, 0))]) (V' := q_V S_2) rfl ?_
        refine q_Sim.call vc_134 (as := [.inr (.inr (10, 0, 0))]) (pc' := 38) (lv' := [(3, .inl r_1), (0, .inr (.inr (10, 0, 0))), (1, .inl x1), (2, .inl x2)]) (st' := []) (S := S_2) rfl (rc_171 ) (s_171  S_2) (fun r_5 S_6 => ?_)
        refine q_Sim.steps vc_134 5 (pc' := 47) (lv' := [(3, .inl r_1), (0, .inr (.inr (10, 0, 0))), (1, .inl x1), (2, .inl x2)]) (st' := [.inl x1, .inr (.inr (9, S_6.2.2.1.1, 0)), .inr (.inr (9, S_6.2.2.1.1, 0))]) (V' := q_V S_6) rfl ?_
        refine q_Sim.call vc_134 (as := [.inr (.inr (9, S_6.2.2.1.1, 0)), .inl x1]) (pc' := 50) (lv' := [(3, .inl r_1), (0, .inr (.inr (10, 0, 0))), (1, .inl x1), (2, .inl x2)]) (st' := [.inr (.inr (9, S_6.2.2.1.1, 0))]) (S := S_6) rfl (rc_91 S_6.2.2.1.1 x1) (s_91 S_6.2.2.1.1 x1 S_6) (fun r_7 S_8 => ?_)
        refine q_Sim.steps vc_134 1 (pc' := 51) (lv' := [(3, .inl r_1), (0, .inr (.inr (10, 0, 0))), (1, .inl x1), (2, .inl x2)]) (st' := [.inl x2, .inr (.inr (4, r_7.1, r_7.2)), .inr (.inr (9, S_6.2.2.1.1, 0))]) (V' := q_V S_8) rfl ?_
        refine q_Sim.call vc_134 (as := [.inr (.inr (9, S_6.2.2.1.1, 0)), .inr (.inr (4, r_7.1, r_7.2)), .inl x2]) (pc' := 54) (lv' := [(3, .inl r_1), (0, .inr (.inr (10, 0, 0))), (1, .inl x1), (2, .inl x2)]) (st' := []) (S := S_8) rfl (rc_106 S_6.2.2.1.1 r_7.1 r_7.2 x2) (s_106 S_6.2.2.1.1 r_7.1 r_7.2 x2 S_8) (fun r_9 S_10 => ?_)
        refine q_Sim.steps vc_134 7 (pc' := 66) (lv' := [(4, .inl r_9), (3, .inl r_1), (0, .inr (.inr (10, 0, 0))), (1, .inl x1), (2, .inl x2)]) (st' := [.inl ((S_10.1 (9, S_10.2.2.1.1, 0) 12) + x2), .inr (.inr (9, S_10.2.2.1.1, 0))]) (V' := q_V S_10) rfl ?_
        refine q_Sim.steps vc_134 1 (pc' := 69) (lv' := [(4, .inl r_9), (3, .inl r_1), (0, .inr (.inr (10, 0, 0))), (1, .inl x1), (2, .inl x2)]) (st' := []) (V' := q_V (q_set S_10 (9, S_10.2.2.1.1, 0) 12 ((S_10.1 (9, S_10.2.2.1.1, 0) 12) + x2))) rfl ?_
        refine q_Sim.letS (fun S_11 => ?_)
        refine q_Sim.steps vc_134 8 (pc' := 82) (lv' := [(4, .inl r_9), (3, .inl r_1), (0, .inr (.inr (10, 0, 0))), (1, .inl x1), (2, .inl x2)]) (st' := [.inl ((S_11.1 (9, S_11.2.2.1.1, 0) 11) + (x2 - r_9)), .inr (.inr (9, S_11.2.2.1.1, 0))]) (V' := q_V S_11) rfl ?_
        refine q_Sim.steps vc_134 1 (pc' := 85) (lv' := [(4, .inl r_9), (3, .inl r_1), (0, .inr (.inr (10, 0, 0))), (1, .inl x1), (2, .inl x2)]) (st' := []) (V' := q_V (q_set S_11 (9, S_11.2.2.1.1, 0) 11 ((S_11.1 (9, S_11.2.2.1.1, 0) 11) + (x2 - r_9)))) rfl ?_
        refine q_Sim.letS (fun S_12 => ?_)
        refine q_Sim.steps vc_134 2 (pc' := 88) (lv' := [(4, .inl r_9), (3, .inl r_1), (0, .inr (.inr (10, 0, 0))), (1, .inl x1), (2, .inl x2)]) (st' := [.inl r_9, .inr (.inr (10, 0, 0))]) (V' := q_V S_12) rfl ?_
        refine q_Sim.call vc_134 (as := [.inr (.inr (10, 0, 0)), .inl r_9]) (pc' := 91) (lv' := [(4, .inl r_9), (3, .inl r_1), (0, .inr (.inr (10, 0, 0))), (1, .inl x1), (2, .inl x2)]) (st' := []) (S := S_12) rfl (rc_169 r_9) (s_169 r_9 S_12) (fun r_13 S_14 => ?_)
        exact q_Sim.ret vc_134 rfl
      · exact q_Sim.sub2 (lv' := [(0, .inr (.inr (10, 0, 0)))]) [0] rfl (by decide) ⟨rfl, trivial⟩ (sb_134_27  S_2)
  · refine q_Sim.steps vc_134 2 (pc' := 12) (lv' := [(3, .inl r_1), (0, .inr (.inr (10, 0, 0))), (1, .inl x1), (2, .inl x2)]) (st' := [.inl r_1, .inr (.inr (10, 0, 0))]) (V' := q_V S_2) rfl ?_
    refine q_Sim.call vc_134 (as := [.inr (.inr (10, 0, 0)), .inl r_1]) (pc' := 15) (lv' := [(3, .inl r_1), (0, .inr (.inr (10, 0, 0))), (1, .inl x1), (2, .inl x2)]) (st' := []) (S := S_2) rfl (rc_170 r_1) (s_170 r_1 S_2) (fun r_15 S_16 => ?_)
    exact q_Sim.ret vc_134 rfl
theorem vc_135 : v_code 135 = k_135 := rfl
theorem rc_135 (x1 : Int32) : v_rcv 135 [.inr (.inr (10, 0, 0)), .inl x1] = true := rfl
def f_135 (x1 : Int32) (S : QS) : Option ((Int32) × QS) := q_bd (f_176 x1 S) (fun r_1 S_2 => if r_1 = 0 then (if (S_2.1 (2, S_2.2.2.1.1, 0) 3) < 200 then (q_bd (f_171  S_2) (fun r_3 S_4 => q_bd (f_100 S_4.2.2.1.1 x1 S_4) (fun r_5 S_6 => q_bd (f_35 r_5.1 r_5.2 S_6) (fun r_7 S_8 => q_let (q_set S_8 (9, S_8.2.2.1.1, 0) 9 ((S_8.1 (9, S_8.2.2.1.1, 0) 9) + r_7)) (fun S_9 => q_bd (f_25 S_9.2.2.1.1 (S_9.1 (10, 0, 0) 5) x1 r_7 S_9) (fun r_10 S_11 => q_let (q_set S_11 (10, 0, 0) 5 ((S_11.1 (10, 0, 0) 5) + 1)) (fun S_12 => q_bd (f_169 r_7 S_12) (fun r_13 S_14 => some (r_13, S_14))))))))) else (q_bd (f_170 6 S_2) (fun r_15 S_16 => some (r_15, S_16)))) else (q_bd (f_170 r_1 S_2) (fun r_17 S_18 => some (r_17, S_18))))
theorem s_135 (x1 : Int32) (S : QS) : q_Sim 135 0 [(0, .inr (.inr (10, 0, 0))), (1, .inl x1)] [] (q_V S) q_I (f_135 x1 S) := by
  unfold f_135
  refine q_Sim.steps vc_135 2 (pc' := 2) (lv' := [(0, .inr (.inr (10, 0, 0))), (1, .inl x1)]) (st' := [.inl x1, .inr (.inr (10, 0, 0))]) (V' := q_V S) rfl ?_
  refine q_Sim.call vc_135 (as := [.inr (.inr (10, 0, 0)), .inl x1]) (pc' := 5) (lv' := [(0, .inr (.inr (10, 0, 0))), (1, .inl x1)]) (st' := []) (S := S) rfl (rc_176 x1) (s_176 x1 S) (fun r_1 S_2 => ?_)
  refine q_Sim.steps vc_135 2 (pc' := 7) (lv' := [(2, .inl r_1), (0, .inr (.inr (10, 0, 0))), (1, .inl x1)]) (st' := [.inl r_1]) (V' := q_V S_2) rfl ?_
  refine q_Sim.br vc_135 (c := r_1 = 0) (t := 16) (f := 10) (lv' := [(2, .inl r_1), (0, .inr (.inr (10, 0, 0))), (1, .inl x1)]) (st' := []) (V' := q_V S_2) rfl ?_ ?_
  · refine q_Sim.steps vc_135 5 (pc' := 29) (lv' := [(2, .inl r_1), (0, .inr (.inr (10, 0, 0))), (1, .inl x1)]) (st' := [.inl 200, .inl (S_2.1 (2, S_2.2.2.1.1, 0) 3)]) (V' := q_V S_2) rfl ?_
    refine q_Sim.br vc_135 (c := (S_2.1 (2, S_2.2.2.1.1, 0) 3) < 200) (t := 39) (f := 32) (lv' := [(2, .inl r_1), (0, .inr (.inr (10, 0, 0))), (1, .inl x1)]) (st' := []) (V' := q_V S_2) rfl ?_ ?_
    · refine q_Sim.steps vc_135 1 (pc' := 40) (lv' := [(2, .inl r_1), (0, .inr (.inr (10, 0, 0))), (1, .inl x1)]) (st' := [.inr (.inr (10, 0, 0))]) (V' := q_V S_2) rfl ?_
      refine q_Sim.call vc_135 (as := [.inr (.inr (10, 0, 0))]) (pc' := 43) (lv' := [(2, .inl r_1), (0, .inr (.inr (10, 0, 0))), (1, .inl x1)]) (st' := []) (S := S_2) rfl (rc_171 ) (s_171  S_2) (fun r_3 S_4 => ?_)
      refine q_Sim.steps vc_135 3 (pc' := 48) (lv' := [(2, .inl r_1), (0, .inr (.inr (10, 0, 0))), (1, .inl x1)]) (st' := [.inl x1, .inr (.inr (9, S_4.2.2.1.1, 0))]) (V' := q_V S_4) rfl ?_
      refine q_Sim.call vc_135 (as := [.inr (.inr (9, S_4.2.2.1.1, 0)), .inl x1]) (pc' := 51) (lv' := [(2, .inl r_1), (0, .inr (.inr (10, 0, 0))), (1, .inl x1)]) (st' := []) (S := S_4) rfl (rc_100 S_4.2.2.1.1 x1) (s_100 S_4.2.2.1.1 x1 S_4) (fun r_5 S_6 => ?_)
      refine q_Sim.call vc_135 (as := [.inr (.inr (3, r_5.1, r_5.2))]) (pc' := 54) (lv' := [(2, .inl r_1), (0, .inr (.inr (10, 0, 0))), (1, .inl x1)]) (st' := []) (S := S_6) rfl (rc_35 r_5.1 r_5.2) (s_35 r_5.1 r_5.2 S_6) (fun r_7 S_8 => ?_)
      refine q_Sim.steps vc_135 7 (pc' := 65) (lv' := [(3, .inl r_7), (2, .inl r_1), (0, .inr (.inr (10, 0, 0))), (1, .inl x1)]) (st' := [.inl ((S_8.1 (9, S_8.2.2.1.1, 0) 9) + r_7), .inr (.inr (9, S_8.2.2.1.1, 0))]) (V' := q_V S_8) rfl ?_
      refine q_Sim.steps vc_135 1 (pc' := 68) (lv' := [(3, .inl r_7), (2, .inl r_1), (0, .inr (.inr (10, 0, 0))), (1, .inl x1)]) (st' := []) (V' := q_V (q_set S_8 (9, S_8.2.2.1.1, 0) 9 ((S_8.1 (9, S_8.2.2.1.1, 0) 9) + r_7))) rfl ?_
      refine q_Sim.letS (fun S_9 => ?_)
      refine q_Sim.steps vc_135 7 (pc' := 81) (lv' := [(3, .inl r_7), (2, .inl r_1), (0, .inr (.inr (10, 0, 0))), (1, .inl x1)]) (st' := [.inl r_7, .inl x1, .inl (S_9.1 (10, 0, 0) 5), .inr (.inr (2, S_9.2.2.1.1, 0))]) (V' := q_V S_9) rfl ?_
      refine q_Sim.call vc_135 (as := [.inr (.inr (2, S_9.2.2.1.1, 0)), .inl (S_9.1 (10, 0, 0) 5), .inl x1, .inl r_7]) (pc' := 84) (lv' := [(3, .inl r_7), (2, .inl r_1), (0, .inr (.inr (10, 0, 0))), (1, .inl x1)]) (st' := []) (S := S_9) rfl (rc_25 S_9.2.2.1.1 (S_9.1 (10, 0, 0) 5) x1 r_7) (s_25 S_9.2.2.1.1 (S_9.1 (10, 0, 0) 5) x1 r_7 S_9) (fun r_10 S_11 => ?_)
      refine q_Sim.steps vc_135 5 (pc' := 91) (lv' := [(3, .inl r_7), (2, .inl r_1), (0, .inr (.inr (10, 0, 0))), (1, .inl x1)]) (st' := [.inl ((S_11.1 (10, 0, 0) 5) + 1), .inr (.inr (10, 0, 0))]) (V' := q_V S_11) rfl ?_
      refine q_Sim.steps vc_135 1 (pc' := 94) (lv' := [(3, .inl r_7), (2, .inl r_1), (0, .inr (.inr (10, 0, 0))), (1, .inl x1)]) (st' := []) (V' := q_V (q_set S_11 (10, 0, 0) 5 ((S_11.1 (10, 0, 0) 5) + 1))) rfl ?_
      refine q_Sim.letS (fun S_12 => ?_)
      refine q_Sim.steps vc_135 2 (pc' := 96) (lv' := [(3, .inl r_7), (2, .inl r_1), (0, .inr (.inr (10, 0, 0))), (1, .inl x1)]) (st' := [.inl r_7, .inr (.inr (10, 0, 0))]) (V' := q_V S_12) rfl ?_
      refine q_Sim.call vc_135 (as := [.inr (.inr (10, 0, 0)), .inl r_7]) (pc' := 99) (lv' := [(3, .inl r_7), (2, .inl r_1), (0, .inr (.inr (10, 0, 0))), (1, .inl x1)]) (st' := []) (S := S_12) rfl (rc_169 r_7) (s_169 r_7 S_12) (fun r_13 S_14 => ?_)
      exact q_Sim.ret vc_135 rfl
    · refine q_Sim.steps vc_135 2 (pc' := 35) (lv' := [(2, .inl r_1), (0, .inr (.inr (10, 0, 0))), (1, .inl x1)]) (st' := [.inl 6, .inr (.inr (10, 0, 0))]) (V' := q_V S_2) rfl ?_
      refine q_Sim.call vc_135 (as := [.inr (.inr (10, 0, 0)), .inl 6]) (pc' := 38) (lv' := [(2, .inl r_1), (0, .inr (.inr (10, 0, 0))), (1, .inl x1)]) (st' := []) (S := S_2) rfl (rc_170 6) (s_170 6 S_2) (fun r_15 S_16 => ?_)
      exact q_Sim.ret vc_135 rfl
  · refine q_Sim.steps vc_135 2 (pc' := 12) (lv' := [(2, .inl r_1), (0, .inr (.inr (10, 0, 0))), (1, .inl x1)]) (st' := [.inl r_1, .inr (.inr (10, 0, 0))]) (V' := q_V S_2) rfl ?_
    refine q_Sim.call vc_135 (as := [.inr (.inr (10, 0, 0)), .inl r_1]) (pc' := 15) (lv' := [(2, .inl r_1), (0, .inr (.inr (10, 0, 0))), (1, .inl x1)]) (st' := []) (S := S_2) rfl (rc_170 r_1) (s_170 r_1 S_2) (fun r_17 S_18 => ?_)
    exact q_Sim.ret vc_135 rfl
theorem vc_136 : v_code 136 = k_136 := rfl
theorem rc_136 (x1 : Int32) (x2 : Int32) : v_rcv 136 [.inr (.inr (10, 0, 0)), .inl x1, .inl x2] = true := rfl
def b_136_11  (S : QS) : Option ((Int32) × QS) := q_bd (f_170 2 S) (fun r_1 S_2 => some (r_1, S_2))
theorem sb_136_11  (S : QS) : q_Sim 136 11 [(0, .inr (.inr (10, 0, 0)))] [] (q_V S) q_I (b_136_11  S) := by
  unfold b_136_11
  refine q_Sim.steps vc_136 2 (pc' := 13) (lv' := [(0, .inr (.inr (10, 0, 0)))]) (st' := [.inl 2, .inr (.inr (10, 0, 0))]) (V' := q_V S) rfl ?_
  refine q_Sim.call vc_136 (as := [.inr (.inr (10, 0, 0)), .inl 2]) (pc' := 16) (lv' := [(0, .inr (.inr (10, 0, 0)))]) (st' := []) (S := S) rfl (rc_170 2) (s_170 2 S) (fun r_1 S_2 => ?_)
  exact q_Sim.ret vc_136 rfl
def b_136_46  (S : QS) : Option ((Int32) × QS) := q_bd (f_170 2 S) (fun r_3 S_4 => some (r_3, S_4))
theorem sb_136_46  (S : QS) : q_Sim 136 46 [(0, .inr (.inr (10, 0, 0)))] [] (q_V S) q_I (b_136_46  S) := by
  unfold b_136_46
  refine q_Sim.steps vc_136 2 (pc' := 48) (lv' := [(0, .inr (.inr (10, 0, 0)))]) (st' := [.inl 2, .inr (.inr (10, 0, 0))]) (V' := q_V S) rfl ?_
  refine q_Sim.call vc_136 (as := [.inr (.inr (10, 0, 0)), .inl 2]) (pc' := 51) (lv' := [(0, .inr (.inr (10, 0, 0)))]) (st' := []) (S := S) rfl (rc_170 2) (s_170 2 S) (fun r_3 S_4 => ?_)
  exact q_Sim.ret vc_136 rfl
def f_136 (x1 : Int32) (x2 : Int32) (S : QS) : Option ((Int32) × QS) := if x1 < 0 then (b_136_11  S) else (if x1 < 200 then (if x1 < (S.1 (2, S.2.2.1.1, 0) 3) then (if x2 < 0 then (b_136_46  S) else (if x2 ≤ 2 then (q_bd (f_26 S.2.2.1.1 x1 x2 S) (fun r_5 S_6 => q_bd (f_169 r_5 S_6) (fun r_7 S_8 => some (r_7, S_8)))) else (b_136_46  S))) else (q_bd (f_170 1 S) (fun r_9 S_10 => some (r_9, S_10)))) else (b_136_11  S))
theorem s_136 (x1 : Int32) (x2 : Int32) (S : QS) : q_Sim 136 0 [(0, .inr (.inr (10, 0, 0))), (1, .inl x1), (2, .inl x2)] [] (q_V S) q_I (f_136 x1 x2 S) := by
  unfold f_136
  refine q_Sim.steps vc_136 1 (pc' := 1) (lv' := [(0, .inr (.inr (10, 0, 0))), (1, .inl x1), (2, .inl x2)]) (st' := [.inl x1]) (V' := q_V S) rfl ?_
  refine q_Sim.br vc_136 (c := x1 < 0) (t := 11) (f := 4) (lv' := [(0, .inr (.inr (10, 0, 0))), (1, .inl x1), (2, .inl x2)]) (st' := []) (V' := q_V S) rfl ?_ ?_
  · exact q_Sim.sub2 (lv' := [(0, .inr (.inr (10, 0, 0)))]) [0] rfl (by decide) ⟨rfl, trivial⟩ (sb_136_11  S)
  · refine q_Sim.steps vc_136 2 (pc' := 8) (lv' := [(0, .inr (.inr (10, 0, 0))), (1, .inl x1), (2, .inl x2)]) (st' := [.inl 200, .inl x1]) (V' := q_V S) rfl ?_
    refine q_Sim.br vc_136 (c := x1 < 200) (t := 17) (f := 11) (lv' := [(0, .inr (.inr (10, 0, 0))), (1, .inl x1), (2, .inl x2)]) (st' := []) (V' := q_V S) rfl ?_ ?_
    · refine q_Sim.steps vc_136 5 (pc' := 28) (lv' := [(0, .inr (.inr (10, 0, 0))), (1, .inl x1), (2, .inl x2)]) (st' := [.inl (S.1 (2, S.2.2.1.1, 0) 3), .inl x1]) (V' := q_V S) rfl ?_
      refine q_Sim.br vc_136 (c := x1 < (S.1 (2, S.2.2.1.1, 0) 3)) (t := 37) (f := 31) (lv' := [(0, .inr (.inr (10, 0, 0))), (1, .inl x1), (2, .inl x2)]) (st' := []) (V' := q_V S) rfl ?_ ?_
      · refine q_Sim.steps vc_136 1 (pc' := 38) (lv' := [(0, .inr (.inr (10, 0, 0))), (1, .inl x1), (2, .inl x2)]) (st' := [.inl x2]) (V' := q_V S) rfl ?_
        refine q_Sim.br vc_136 (c := x2 < 0) (t := 46) (f := 41) (lv' := [(0, .inr (.inr (10, 0, 0))), (1, .inl x1), (2, .inl x2)]) (st' := []) (V' := q_V S) rfl ?_ ?_
        · exact q_Sim.sub2 (lv' := [(0, .inr (.inr (10, 0, 0)))]) [0] rfl (by decide) ⟨rfl, trivial⟩ (sb_136_46  S)
        · refine q_Sim.steps vc_136 2 (pc' := 43) (lv' := [(0, .inr (.inr (10, 0, 0))), (1, .inl x1), (2, .inl x2)]) (st' := [.inl 2, .inl x2]) (V' := q_V S) rfl ?_
          refine q_Sim.br vc_136 (c := x2 ≤ 2) (t := 52) (f := 46) (lv' := [(0, .inr (.inr (10, 0, 0))), (1, .inl x1), (2, .inl x2)]) (st' := []) (V' := q_V S) rfl ?_ ?_
          · refine q_Sim.steps vc_136 6 (pc' := 62) (lv' := [(0, .inr (.inr (10, 0, 0))), (1, .inl x1), (2, .inl x2)]) (st' := [.inl x2, .inl x1, .inr (.inr (2, S.2.2.1.1, 0)), .inr (.inr (10, 0, 0))]) (V' := q_V S) rfl ?_
            refine q_Sim.call vc_136 (as := [.inr (.inr (2, S.2.2.1.1, 0)), .inl x1, .inl x2]) (pc' := 65) (lv' := [(0, .inr (.inr (10, 0, 0))), (1, .inl x1), (2, .inl x2)]) (st' := [.inr (.inr (10, 0, 0))]) (S := S) rfl (rc_26 S.2.2.1.1 x1 x2) (s_26 S.2.2.1.1 x1 x2 S) (fun r_5 S_6 => ?_)
            refine q_Sim.call vc_136 (as := [.inr (.inr (10, 0, 0)), .inl r_5]) (pc' := 68) (lv' := [(0, .inr (.inr (10, 0, 0))), (1, .inl x1), (2, .inl x2)]) (st' := []) (S := S_6) rfl (rc_169 r_5) (s_169 r_5 S_6) (fun r_7 S_8 => ?_)
            exact q_Sim.ret vc_136 rfl
          · exact q_Sim.sub2 (lv' := [(0, .inr (.inr (10, 0, 0)))]) [0] rfl (by decide) ⟨rfl, trivial⟩ (sb_136_46  S)
      · refine q_Sim.steps vc_136 2 (pc' := 33) (lv' := [(0, .inr (.inr (10, 0, 0))), (1, .inl x1), (2, .inl x2)]) (st' := [.inl 1, .inr (.inr (10, 0, 0))]) (V' := q_V S) rfl ?_
        refine q_Sim.call vc_136 (as := [.inr (.inr (10, 0, 0)), .inl 1]) (pc' := 36) (lv' := [(0, .inr (.inr (10, 0, 0))), (1, .inl x1), (2, .inl x2)]) (st' := []) (S := S) rfl (rc_170 1) (s_170 1 S) (fun r_9 S_10 => ?_)
        exact q_Sim.ret vc_136 rfl
    · exact q_Sim.sub2 (lv' := [(0, .inr (.inr (10, 0, 0)))]) [0] rfl (by decide) ⟨rfl, trivial⟩ (sb_136_11  S)
theorem vc_137 : v_code 137 = k_137 := rfl
theorem rc_137 (x1 : Int32) : v_rcv 137 [.inr (.inr (10, 0, 0)), .inl x1] = true := rfl
def b_137_9  (S : QS) : Option ((Int32) × QS) := q_bd (f_170 6 S) (fun r_1 S_2 => some (r_1, S_2))
theorem sb_137_9  (S : QS) : q_Sim 137 9 [(0, .inr (.inr (10, 0, 0)))] [] (q_V S) q_I (b_137_9  S) := by
  unfold b_137_9
  refine q_Sim.steps vc_137 2 (pc' := 12) (lv' := [(0, .inr (.inr (10, 0, 0)))]) (st' := [.inl 6, .inr (.inr (10, 0, 0))]) (V' := q_V S) rfl ?_
  refine q_Sim.call vc_137 (as := [.inr (.inr (10, 0, 0)), .inl 6]) (pc' := 15) (lv' := [(0, .inr (.inr (10, 0, 0)))]) (st' := []) (S := S) rfl (rc_170 6) (s_170 6 S) (fun r_1 S_2 => ?_)
  exact q_Sim.ret vc_137 rfl
def f_137 (x1 : Int32) (S : QS) : Option ((Int32) × QS) := if x1 < 0 then (b_137_9  S) else (if x1 ≤ 4 then (q_bd (f_107 S.2.2.1.1 x1 S) (fun r_3 S_4 => q_bd (f_169 r_3 S_4) (fun r_5 S_6 => some (r_5, S_6)))) else (b_137_9  S))
theorem s_137 (x1 : Int32) (S : QS) : q_Sim 137 0 [(0, .inr (.inr (10, 0, 0))), (1, .inl x1)] [] (q_V S) q_I (f_137 x1 S) := by
  unfold f_137
  refine q_Sim.steps vc_137 1 (pc' := 1) (lv' := [(0, .inr (.inr (10, 0, 0))), (1, .inl x1)]) (st' := [.inl x1]) (V' := q_V S) rfl ?_
  refine q_Sim.br vc_137 (c := x1 < 0) (t := 9) (f := 4) (lv' := [(0, .inr (.inr (10, 0, 0))), (1, .inl x1)]) (st' := []) (V' := q_V S) rfl ?_ ?_
  · exact q_Sim.sub2 (lv' := [(0, .inr (.inr (10, 0, 0)))]) [0] rfl (by decide) ⟨rfl, trivial⟩ (sb_137_9  S)
  · refine q_Sim.steps vc_137 2 (pc' := 6) (lv' := [(0, .inr (.inr (10, 0, 0))), (1, .inl x1)]) (st' := [.inl 4, .inl x1]) (V' := q_V S) rfl ?_
    refine q_Sim.br vc_137 (c := x1 ≤ 4) (t := 16) (f := 9) (lv' := [(0, .inr (.inr (10, 0, 0))), (1, .inl x1)]) (st' := []) (V' := q_V S) rfl ?_ ?_
    · refine q_Sim.steps vc_137 4 (pc' := 22) (lv' := [(0, .inr (.inr (10, 0, 0))), (1, .inl x1)]) (st' := [.inl x1, .inr (.inr (9, S.2.2.1.1, 0)), .inr (.inr (10, 0, 0))]) (V' := q_V S) rfl ?_
      refine q_Sim.call vc_137 (as := [.inr (.inr (9, S.2.2.1.1, 0)), .inl x1]) (pc' := 25) (lv' := [(0, .inr (.inr (10, 0, 0))), (1, .inl x1)]) (st' := [.inr (.inr (10, 0, 0))]) (S := S) rfl (rc_107 S.2.2.1.1 x1) (s_107 S.2.2.1.1 x1 S) (fun r_3 S_4 => ?_)
      refine q_Sim.call vc_137 (as := [.inr (.inr (10, 0, 0)), .inl r_3]) (pc' := 28) (lv' := [(0, .inr (.inr (10, 0, 0))), (1, .inl x1)]) (st' := []) (S := S_4) rfl (rc_169 r_3) (s_169 r_3 S_4) (fun r_5 S_6 => ?_)
      exact q_Sim.ret vc_137 rfl
    · exact q_Sim.sub2 (lv' := [(0, .inr (.inr (10, 0, 0)))]) [0] rfl (by decide) ⟨rfl, trivial⟩ (sb_137_9  S)
theorem vc_178 : v_code 178 = k_178 := rfl
theorem rc_178 (x1 : Int32) (x2 : Int32) : v_rcv 178 [.inr (.inr (10, 0, 0)), .inl x1, .inl x2] = true := rfl
def b_178_16 (x1 : Int32) (x2 : Int32) (x3 : Int32) (S : QS) : Option ((Int32) × QS) := if x3 = 0 then (q_bd (f_100 S.2.2.1.1 x2 S) (fun r_3 S_4 => q_bd (f_100 S_4.2.2.1.1 x1 S_4) (fun r_5 S_6 => if (S_6.1 (3, r_5.1, r_5.2) 1) ≤ (S_4.1 (3, r_3.1, r_3.2) 1) then (some (0, S_6)) else (some (2, S_6))))) else (some (x3, S))
theorem sb_178_16 (x1 : Int32) (x2 : Int32) (x3 : Int32) (S : QS) : q_Sim 178 16 [(0, .inr (.inr (10, 0, 0))), (1, .inl x1), (2, .inl x2), (3, .inl x3)] [] (q_V S) q_I (b_178_16 x1 x2 x3 S) := by
  unfold b_178_16
  refine q_Sim.steps vc_178 1 (pc' := 17) (lv' := [(0, .inr (.inr (10, 0, 0))), (1, .inl x1), (2, .inl x2), (3, .inl x3)]) (st' := [.inl x3]) (V' := q_V S) rfl ?_
  refine q_Sim.br vc_178 (c := x3 = 0) (t := 22) (f := 20) (lv' := [(0, .inr (.inr (10, 0, 0))), (1, .inl x1), (2, .inl x2), (3, .inl x3)]) (st' := []) (V' := q_V S) rfl ?_ ?_
  · refine q_Sim.steps vc_178 3 (pc' := 27) (lv' := [(0, .inr (.inr (10, 0, 0))), (1, .inl x1), (2, .inl x2), (3, .inl x3)]) (st' := [.inl x2, .inr (.inr (9, S.2.2.1.1, 0))]) (V' := q_V S) rfl ?_
    refine q_Sim.call vc_178 (as := [.inr (.inr (9, S.2.2.1.1, 0)), .inl x2]) (pc' := 30) (lv' := [(0, .inr (.inr (10, 0, 0))), (1, .inl x1), (2, .inl x2), (3, .inl x3)]) (st' := []) (S := S) rfl (rc_100 S.2.2.1.1 x2) (s_100 S.2.2.1.1 x2 S) (fun r_3 S_4 => ?_)
    refine q_Sim.steps vc_178 4 (pc' := 38) (lv' := [(0, .inr (.inr (10, 0, 0))), (1, .inl x1), (2, .inl x2), (3, .inl x3)]) (st' := [.inl x1, .inr (.inr (9, S_4.2.2.1.1, 0)), .inl (S_4.1 (3, r_3.1, r_3.2) 1)]) (V' := q_V S_4) rfl ?_
    refine q_Sim.call vc_178 (as := [.inr (.inr (9, S_4.2.2.1.1, 0)), .inl x1]) (pc' := 41) (lv' := [(0, .inr (.inr (10, 0, 0))), (1, .inl x1), (2, .inl x2), (3, .inl x3)]) (st' := [.inl (S_4.1 (3, r_3.1, r_3.2) 1)]) (S := S_4) rfl (rc_100 S_4.2.2.1.1 x1) (s_100 S_4.2.2.1.1 x1 S_4) (fun r_5 S_6 => ?_)
    refine q_Sim.steps vc_178 1 (pc' := 44) (lv' := [(0, .inr (.inr (10, 0, 0))), (1, .inl x1), (2, .inl x2), (3, .inl x3)]) (st' := [.inl (S_6.1 (3, r_5.1, r_5.2) 1), .inl (S_4.1 (3, r_3.1, r_3.2) 1)]) (V' := q_V S_6) rfl ?_
    refine q_Sim.br vc_178 (c := (S_6.1 (3, r_5.1, r_5.2) 1) ≤ (S_4.1 (3, r_3.1, r_3.2) 1)) (t := 51) (f := 47) (lv' := [(0, .inr (.inr (10, 0, 0))), (1, .inl x1), (2, .inl x2), (3, .inl x3)]) (st' := []) (V' := q_V S_6) rfl ?_ ?_
    · refine q_Sim.steps vc_178 1 (pc' := 52) (lv' := [(0, .inr (.inr (10, 0, 0))), (1, .inl x1), (2, .inl x2), (3, .inl x3)]) (st' := [.inl 0]) (V' := q_V S_6) rfl ?_
      exact q_Sim.ret vc_178 rfl
    · refine q_Sim.steps vc_178 2 (pc' := 52) (lv' := [(0, .inr (.inr (10, 0, 0))), (1, .inl x1), (2, .inl x2), (3, .inl x3)]) (st' := [.inl 2]) (V' := q_V S_6) rfl ?_
      exact q_Sim.ret vc_178 rfl
  · refine q_Sim.steps vc_178 1 (pc' := 21) (lv' := [(0, .inr (.inr (10, 0, 0))), (1, .inl x1), (2, .inl x2), (3, .inl x3)]) (st' := [.inl x3]) (V' := q_V S) rfl ?_
    exact q_Sim.ret vc_178 rfl
def f_178 (x1 : Int32) (x2 : Int32) (S : QS) : Option ((Int32) × QS) := q_bd (f_176 x1 S) (fun r_1 S_2 => if ¬ r_1 = 0 then (b_178_16 x1 x2 r_1 S_2) else (q_bd (f_176 x2 S_2) (fun r_7 S_8 => b_178_16 x1 x2 r_7 S_8)))
theorem s_178 (x1 : Int32) (x2 : Int32) (S : QS) : q_Sim 178 0 [(0, .inr (.inr (10, 0, 0))), (1, .inl x1), (2, .inl x2)] [] (q_V S) q_I (f_178 x1 x2 S) := by
  unfold f_178
  refine q_Sim.steps vc_178 2 (pc' := 2) (lv' := [(0, .inr (.inr (10, 0, 0))), (1, .inl x1), (2, .inl x2)]) (st' := [.inl x1, .inr (.inr (10, 0, 0))]) (V' := q_V S) rfl ?_
  refine q_Sim.call vc_178 (as := [.inr (.inr (10, 0, 0)), .inl x1]) (pc' := 5) (lv' := [(0, .inr (.inr (10, 0, 0))), (1, .inl x1), (2, .inl x2)]) (st' := []) (S := S) rfl (rc_176 x1) (s_176 x1 S) (fun r_1 S_2 => ?_)
  refine q_Sim.steps vc_178 2 (pc' := 7) (lv' := [(3, .inl r_1), (0, .inr (.inr (10, 0, 0))), (1, .inl x1), (2, .inl x2)]) (st' := [.inl r_1]) (V' := q_V S_2) rfl ?_
  refine q_Sim.br vc_178 (c := ¬ r_1 = 0) (t := 16) (f := 10) (lv' := [(3, .inl r_1), (0, .inr (.inr (10, 0, 0))), (1, .inl x1), (2, .inl x2)]) (st' := []) (V' := q_V S_2) rfl ?_ ?_
  · exact q_Sim.sub2 (lv' := [(0, .inr (.inr (10, 0, 0))), (1, .inl x1), (2, .inl x2), (3, .inl r_1)]) [0, 1, 2, 3] rfl (by decide) ⟨rfl, rfl, rfl, rfl, trivial⟩ (sb_178_16 x1 x2 r_1 S_2)
  · refine q_Sim.steps vc_178 2 (pc' := 12) (lv' := [(3, .inl r_1), (0, .inr (.inr (10, 0, 0))), (1, .inl x1), (2, .inl x2)]) (st' := [.inl x2, .inr (.inr (10, 0, 0))]) (V' := q_V S_2) rfl ?_
    refine q_Sim.call vc_178 (as := [.inr (.inr (10, 0, 0)), .inl x2]) (pc' := 15) (lv' := [(3, .inl r_1), (0, .inr (.inr (10, 0, 0))), (1, .inl x1), (2, .inl x2)]) (st' := []) (S := S_2) rfl (rc_176 x2) (s_176 x2 S_2) (fun r_7 S_8 => ?_)
    refine q_Sim.steps vc_178 1 (pc' := 16) (lv' := [(3, .inl r_7), (0, .inr (.inr (10, 0, 0))), (1, .inl x1), (2, .inl x2)]) (st' := []) (V' := q_V S_8) rfl ?_
    exact q_Sim.sub2 (lv' := [(0, .inr (.inr (10, 0, 0))), (1, .inl x1), (2, .inl x2), (3, .inl r_7)]) [0, 1, 2, 3] rfl (by decide) ⟨rfl, rfl, rfl, rfl, trivial⟩ (sb_178_16 x1 x2 r_7 S_8)
theorem vc_138 : v_code 138 = k_138 := rfl
theorem rc_138 (x1 : Int32) (x2 : Int32) (x3 : Int32) : v_rcv 138 [.inr (.inr (10, 0, 0)), .inl x1, .inl x2, .inl x3] = true := rfl
def b_138_72 (back_31 : Int32 → Int32 → Int32 → Int32 → QS → Option ((Int32) × QS)) (x1 : Int32) (x2 : Int32) (x3 : Int32) (x4 : Int32) (S : QS) : Option ((Int32) × QS) := q_bd (f_105 S.2.2.1.1 (x1 + x4) (x2 + x4) S) (fun r_6 S_7 => q_let (q_set S_7 (10, 0, 0) 4 ((S_7.1 (10, 0, 0) 4) + 1)) (fun S_8 => back_31 x1 x2 x3 (x4 + 1) S_8))
theorem sb_138_72 (back_31 : Int32 → Int32 → Int32 → Int32 → QS → Option ((Int32) × QS)) (hb_31 : ∀ (x1 : Int32) (x2 : Int32) (x3 : Int32) (x4 : Int32) (S : QS), q_Sim 138 31 [(0, .inr (.inr (10, 0, 0))), (1, .inl x1), (2, .inl x2), (3, .inl x3), (4, .inl x4)] [] (q_V S) q_I (back_31 x1 x2 x3 x4 S)) (x1 : Int32) (x2 : Int32) (x3 : Int32) (x4 : Int32) (S : QS) : q_Sim 138 72 [(0, .inr (.inr (10, 0, 0))), (1, .inl x1), (2, .inl x2), (3, .inl x3), (4, .inl x4)] [] (q_V S) q_I (b_138_72 back_31 x1 x2 x3 x4 S) := by
  unfold b_138_72
  refine q_Sim.steps vc_138 8 (pc' := 84) (lv' := [(0, .inr (.inr (10, 0, 0))), (1, .inl x1), (2, .inl x2), (3, .inl x3), (4, .inl x4)]) (st' := [.inl (x2 + x4), .inl (x1 + x4), .inr (.inr (9, S.2.2.1.1, 0))]) (V' := q_V S) rfl ?_
  refine q_Sim.call vc_138 (as := [.inr (.inr (9, S.2.2.1.1, 0)), .inl (x1 + x4), .inl (x2 + x4)]) (pc' := 87) (lv' := [(0, .inr (.inr (10, 0, 0))), (1, .inl x1), (2, .inl x2), (3, .inl x3), (4, .inl x4)]) (st' := []) (S := S) rfl (rc_105 S.2.2.1.1 (x1 + x4) (x2 + x4)) (s_105 S.2.2.1.1 (x1 + x4) (x2 + x4) S) (fun r_6 S_7 => ?_)
  refine q_Sim.steps vc_138 5 (pc' := 94) (lv' := [(0, .inr (.inr (10, 0, 0))), (1, .inl x1), (2, .inl x2), (3, .inl x3), (4, .inl x4)]) (st' := [.inl ((S_7.1 (10, 0, 0) 4) + 1), .inr (.inr (10, 0, 0))]) (V' := q_V S_7) rfl ?_
  refine q_Sim.steps vc_138 1 (pc' := 97) (lv' := [(0, .inr (.inr (10, 0, 0))), (1, .inl x1), (2, .inl x2), (3, .inl x3), (4, .inl x4)]) (st' := []) (V' := q_V (q_set S_7 (10, 0, 0) 4 ((S_7.1 (10, 0, 0) 4) + 1))) rfl ?_
  refine q_Sim.letS (fun S_8 => ?_)
  refine q_Sim.steps vc_138 2 (pc' := 31) (lv' := [(4, .inl (x4 + 1)), (0, .inr (.inr (10, 0, 0))), (1, .inl x1), (2, .inl x2), (3, .inl x3)]) (st' := []) (V' := q_V S_8) rfl ?_
  exact q_Sim.sub2 (lv' := [(0, .inr (.inr (10, 0, 0))), (1, .inl x1), (2, .inl x2), (3, .inl x3), (4, .inl (x4 + 1))]) [0, 1, 2, 3, 4] rfl (by decide) ⟨rfl, rfl, rfl, rfl, rfl, trivial⟩ (hb_31 x1 x2 x3 (x4 + 1) S_8)
def b_138_31 : Nat → Int32 → Int32 → Int32 → Int32 → QS → Option ((Int32) × QS)
  | 0, _, _, _, _, _ => none
  | n + 1, x1, x2, x3, x4, S => if x3 ≤ x4 then (q_bd (f_169 x3 S) (fun r_2 S_3 => some (r_2, S_3))) else (q_bd (f_178 (x1 + x4) (x2 + x4) S) (fun r_4 S_5 => if r_4 = 0 then (if ¬ x4 = 0 then (b_138_72 (b_138_31 n) x1 x2 x3 x4 S_5) else (q_bd (f_171  S_5) (fun r_9 S_10 => b_138_72 (b_138_31 n) x1 x2 x3 x4 S_10))) else (q_bd (f_170 r_4 S_5) (fun r_11 S_12 => some (r_11, S_12)))))
theorem sb_138_31 : ∀ (n : Nat) (x1 : Int32) (x2 : Int32) (x3 : Int32) (x4 : Int32) (S : QS), q_Sim 138 31 [(0, .inr (.inr (10, 0, 0))), (1, .inl x1), (2, .inl x2), (3, .inl x3), (4, .inl x4)] [] (q_V S) q_I (b_138_31 n x1 x2 x3 x4 S)
  | 0, _, _, _, _, _ => q_Sim.none
  | n + 1, x1, x2, x3, x4, S => by
    rw [b_138_31]
    refine q_Sim.steps vc_138 2 (pc' := 34) (lv' := [(0, .inr (.inr (10, 0, 0))), (1, .inl x1), (2, .inl x2), (3, .inl x3), (4, .inl x4)]) (st' := [.inl x3, .inl x4]) (V' := q_V S) rfl ?_
    refine q_Sim.br vc_138 (c := x3 ≤ x4) (t := 103) (f := 37) (lv' := [(0, .inr (.inr (10, 0, 0))), (1, .inl x1), (2, .inl x2), (3, .inl x3), (4, .inl x4)]) (st' := []) (V' := q_V S) rfl ?_ ?_
    · refine q_Sim.steps vc_138 2 (pc' := 105) (lv' := [(0, .inr (.inr (10, 0, 0))), (1, .inl x1), (2, .inl x2), (3, .inl x3), (4, .inl x4)]) (st' := [.inl x3, .inr (.inr (10, 0, 0))]) (V' := q_V S) rfl ?_
      refine q_Sim.call vc_138 (as := [.inr (.inr (10, 0, 0)), .inl x3]) (pc' := 108) (lv' := [(0, .inr (.inr (10, 0, 0))), (1, .inl x1), (2, .inl x2), (3, .inl x3), (4, .inl x4)]) (st' := []) (S := S) rfl (rc_169 x3) (s_169 x3 S) (fun r_2 S_3 => ?_)
      exact q_Sim.ret vc_138 rfl
    · refine q_Sim.steps vc_138 7 (pc' := 46) (lv' := [(0, .inr (.inr (10, 0, 0))), (1, .inl x1), (2, .inl x2), (3, .inl x3), (4, .inl x4)]) (st' := [.inl (x2 + x4), .inl (x1 + x4), .inr (.inr (10, 0, 0))]) (V' := q_V S) rfl ?_
      refine q_Sim.call vc_138 (as := [.inr (.inr (10, 0, 0)), .inl (x1 + x4), .inl (x2 + x4)]) (pc' := 49) (lv' := [(0, .inr (.inr (10, 0, 0))), (1, .inl x1), (2, .inl x2), (3, .inl x3), (4, .inl x4)]) (st' := []) (S := S) rfl (rc_178 (x1 + x4) (x2 + x4)) (s_178 (x1 + x4) (x2 + x4) S) (fun r_4 S_5 => ?_)
      refine q_Sim.steps vc_138 2 (pc' := 53) (lv' := [(5, .inl r_4), (0, .inr (.inr (10, 0, 0))), (1, .inl x1), (2, .inl x2), (3, .inl x3), (4, .inl x4)]) (st' := [.inl r_4]) (V' := q_V S_5) rfl ?_
      refine q_Sim.br vc_138 (c := r_4 = 0) (t := 63) (f := 56) (lv' := [(5, .inl r_4), (0, .inr (.inr (10, 0, 0))), (1, .inl x1), (2, .inl x2), (3, .inl x3), (4, .inl x4)]) (st' := []) (V' := q_V S_5) rfl ?_ ?_
      · refine q_Sim.steps vc_138 1 (pc' := 65) (lv' := [(5, .inl r_4), (0, .inr (.inr (10, 0, 0))), (1, .inl x1), (2, .inl x2), (3, .inl x3), (4, .inl x4)]) (st' := [.inl x4]) (V' := q_V S_5) rfl ?_
        refine q_Sim.br vc_138 (c := ¬ x4 = 0) (t := 72) (f := 68) (lv' := [(5, .inl r_4), (0, .inr (.inr (10, 0, 0))), (1, .inl x1), (2, .inl x2), (3, .inl x3), (4, .inl x4)]) (st' := []) (V' := q_V S_5) rfl ?_ ?_
        · exact q_Sim.sub2 (lv' := [(0, .inr (.inr (10, 0, 0))), (1, .inl x1), (2, .inl x2), (3, .inl x3), (4, .inl x4)]) [0, 1, 2, 3, 4] rfl (by decide) ⟨rfl, rfl, rfl, rfl, rfl, trivial⟩ (sb_138_72 (b_138_31 n) (sb_138_31 n) x1 x2 x3 x4 S_5)
        · refine q_Sim.steps vc_138 1 (pc' := 69) (lv' := [(5, .inl r_4), (0, .inr (.inr (10, 0, 0))), (1, .inl x1), (2, .inl x2), (3, .inl x3), (4, .inl x4)]) (st' := [.inr (.inr (10, 0, 0))]) (V' := q_V S_5) rfl ?_
          refine q_Sim.call vc_138 (as := [.inr (.inr (10, 0, 0))]) (pc' := 72) (lv' := [(5, .inl r_4), (0, .inr (.inr (10, 0, 0))), (1, .inl x1), (2, .inl x2), (3, .inl x3), (4, .inl x4)]) (st' := []) (S := S_5) rfl (rc_171 ) (s_171  S_5) (fun r_9 S_10 => ?_)
          exact q_Sim.sub2 (lv' := [(0, .inr (.inr (10, 0, 0))), (1, .inl x1), (2, .inl x2), (3, .inl x3), (4, .inl x4)]) [0, 1, 2, 3, 4] rfl (by decide) ⟨rfl, rfl, rfl, rfl, rfl, trivial⟩ (sb_138_72 (b_138_31 n) (sb_138_31 n) x1 x2 x3 x4 S_10)
      · refine q_Sim.steps vc_138 2 (pc' := 59) (lv' := [(5, .inl r_4), (0, .inr (.inr (10, 0, 0))), (1, .inl x1), (2, .inl x2), (3, .inl x3), (4, .inl x4)]) (st' := [.inl r_4, .inr (.inr (10, 0, 0))]) (V' := q_V S_5) rfl ?_
        refine q_Sim.call vc_138 (as := [.inr (.inr (10, 0, 0)), .inl r_4]) (pc' := 62) (lv' := [(5, .inl r_4), (0, .inr (.inr (10, 0, 0))), (1, .inl x1), (2, .inl x2), (3, .inl x3), (4, .inl x4)]) (st' := []) (S := S_5) rfl (rc_170 r_4) (s_170 r_4 S_5) (fun r_11 S_12 => ?_)
        exact q_Sim.ret vc_138 rfl
def f_138 (x1 : Int32) (x2 : Int32) (x3 : Int32) (S : QS) : Option ((Int32) × QS) := if x3 ≤ 12 then (if 0 ≤ x3 then (q_let (q_set S (10, 0, 0) 4 0) (fun S_1 => b_138_31 q_N x1 x2 x3 0 S_1)) else (q_bd (f_170 5 S) (fun r_13 S_14 => some (r_13, S_14)))) else (q_bd (f_170 6 S) (fun r_15 S_16 => some (r_15, S_16)))
theorem s_138 (x1 : Int32) (x2 : Int32) (x3 : Int32) (S : QS) : q_Sim 138 0 [(0, .inr (.inr (10, 0, 0))), (1, .inl x1), (2, .inl x2), (3, .inl x3)] [] (q_V S) q_I (f_138 x1 x2 x3 S) := by
  unfold f_138
  refine q_Sim.steps vc_138 2 (pc' := 3) (lv' := [(0, .inr (.inr (10, 0, 0))), (1, .inl x1), (2, .inl x2), (3, .inl x3)]) (st' := [.inl 12, .inl x3]) (V' := q_V S) rfl ?_
  refine q_Sim.br vc_138 (c := x3 ≤ 12) (t := 13) (f := 6) (lv' := [(0, .inr (.inr (10, 0, 0))), (1, .inl x1), (2, .inl x2), (3, .inl x3)]) (st' := []) (V' := q_V S) rfl ?_ ?_
  · refine q_Sim.steps vc_138 1 (pc' := 14) (lv' := [(0, .inr (.inr (10, 0, 0))), (1, .inl x1), (2, .inl x2), (3, .inl x3)]) (st' := [.inl x3]) (V' := q_V S) rfl ?_
    refine q_Sim.br vc_138 (c := 0 ≤ x3) (t := 23) (f := 17) (lv' := [(0, .inr (.inr (10, 0, 0))), (1, .inl x1), (2, .inl x2), (3, .inl x3)]) (st' := []) (V' := q_V S) rfl ?_ ?_
    · refine q_Sim.steps vc_138 2 (pc' := 25) (lv' := [(0, .inr (.inr (10, 0, 0))), (1, .inl x1), (2, .inl x2), (3, .inl x3)]) (st' := [.inl 0, .inr (.inr (10, 0, 0))]) (V' := q_V S) rfl ?_
      refine q_Sim.steps vc_138 1 (pc' := 28) (lv' := [(0, .inr (.inr (10, 0, 0))), (1, .inl x1), (2, .inl x2), (3, .inl x3)]) (st' := []) (V' := q_V (q_set S (10, 0, 0) 4 0)) rfl ?_
      refine q_Sim.letS (fun S_1 => ?_)
      refine q_Sim.steps vc_138 2 (pc' := 31) (lv' := [(4, .inl 0), (0, .inr (.inr (10, 0, 0))), (1, .inl x1), (2, .inl x2), (3, .inl x3)]) (st' := []) (V' := q_V S_1) rfl ?_
      exact q_Sim.sub2 (lv' := [(0, .inr (.inr (10, 0, 0))), (1, .inl x1), (2, .inl x2), (3, .inl x3), (4, .inl 0)]) [0, 1, 2, 3, 4] rfl (by decide) ⟨rfl, rfl, rfl, rfl, rfl, trivial⟩ (sb_138_31 q_N x1 x2 x3 0 S_1)
    · refine q_Sim.steps vc_138 2 (pc' := 19) (lv' := [(0, .inr (.inr (10, 0, 0))), (1, .inl x1), (2, .inl x2), (3, .inl x3)]) (st' := [.inl 5, .inr (.inr (10, 0, 0))]) (V' := q_V S) rfl ?_
      refine q_Sim.call vc_138 (as := [.inr (.inr (10, 0, 0)), .inl 5]) (pc' := 22) (lv' := [(0, .inr (.inr (10, 0, 0))), (1, .inl x1), (2, .inl x2), (3, .inl x3)]) (st' := []) (S := S) rfl (rc_170 5) (s_170 5 S) (fun r_13 S_14 => ?_)
      exact q_Sim.ret vc_138 rfl
  · refine q_Sim.steps vc_138 2 (pc' := 9) (lv' := [(0, .inr (.inr (10, 0, 0))), (1, .inl x1), (2, .inl x2), (3, .inl x3)]) (st' := [.inl 6, .inr (.inr (10, 0, 0))]) (V' := q_V S) rfl ?_
    refine q_Sim.call vc_138 (as := [.inr (.inr (10, 0, 0)), .inl 6]) (pc' := 12) (lv' := [(0, .inr (.inr (10, 0, 0))), (1, .inl x1), (2, .inl x2), (3, .inl x3)]) (st' := []) (S := S) rfl (rc_170 6) (s_170 6 S) (fun r_15 S_16 => ?_)
    exact q_Sim.ret vc_138 rfl
