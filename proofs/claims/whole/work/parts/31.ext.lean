/-! ===== the code as functions, by program ===== -/
theorem vc_44 : v_code 44 = k_44 := rfl
theorem rc_44 (i0 : Nat) (j0 : Nat) (i1 : Nat) (j1 : Nat) : v_rcv 44 [.inr (.inr (4, i0, j0)), .inr (.inr (4, i1, j1))] = true := rfl
def f_44 (i0 : Nat) (j0 : Nat) (i1 : Nat) (j1 : Nat) (S : QS) : Option ((Unit) × QS) := q_ck (decide (¬ (0 : Int32) < 0) && decide (¬ (0 : Int32) < 0) && decide (¬ (96 : Int32) < 0) && decide ((0 : Int32).toNatClampNeg + (96 : Int32).toNatClampNeg ≤ 96) && decide ((0 : Int32).toNatClampNeg + (96 : Int32).toNatClampNeg ≤ 96)) (q_let (q_row S (25, i0, j0) (va_cpy (S.1 (25, i1, j1)) (S.1 (25, i0, j0)) (0 : Int32).toNatClampNeg (0 : Int32).toNatClampNeg (96 : Int32).toNatClampNeg)) (fun S_1 => q_let (q_set S_1 (4, i0, j0) 1 (S_1.1 (4, i1, j1) 1)) (fun S_2 => q_let (q_set S_2 (4, i0, j0) 2 (S_2.1 (4, i1, j1) 2)) (fun S_3 => q_let (q_set S_3 (4, i0, j0) 3 (S_3.1 (4, i1, j1) 3)) (fun S_4 => q_let (q_set S_4 (4, i0, j0) 4 (S_4.1 (4, i1, j1) 4)) (fun S_5 => q_let (q_set S_5 (4, i0, j0) 5 (S_5.1 (4, i1, j1) 5)) (fun S_6 => q_let (q_set S_6 (4, i0, j0) 6 (S_6.1 (4, i1, j1) 6)) (fun S_7 => q_let (q_set S_7 (4, i0, j0) 7 (S_7.1 (4, i1, j1) 7)) (fun S_8 => q_let (q_set S_8 (4, i0, j0) 8 (S_8.1 (4, i1, j1) 8)) (fun S_9 => q_let (q_set S_9 (4, i0, j0) 9 (S_9.1 (4, i1, j1) 9)) (fun S_10 => q_let (q_set S_10 (4, i0, j0) 10 (S_10.1 (4, i1, j1) 10)) (fun S_11 => q_let (q_set S_11 (4, i0, j0) 11 (S_11.1 (4, i1, j1) 11)) (fun S_12 => some ((), S_12))))))))))))))
theorem s_44 (i0 : Nat) (j0 : Nat) (i1 : Nat) (j1 : Nat) (S : QS) : q_Sim 44 0 [(0, .inr (.inr (4, i0, j0))), (1, .inr (.inr (4, i1, j1)))] [] (q_V S) q_U (f_44 i0 j0 i1 j1 S) := by
  unfold f_44
  refine q_Sim.steps vc_44 7 (pc' := 12) (lv' := [(0, .inr (.inr (4, i0, j0))), (1, .inr (.inr (4, i1, j1)))]) (st' := [.inl 96, .inl 0, .inr (.inr (25, i0, j0)), .inl 0, .inr (.inr (25, i1, j1))]) (V' := q_V S) rfl ?_
  refine q_Sim.ck vc_44 (c := decide (¬ (0 : Int32) < 0) && decide (¬ (0 : Int32) < 0) && decide (¬ (96 : Int32) < 0) && decide ((0 : Int32).toNatClampNeg + (96 : Int32).toNatClampNeg ≤ 96) && decide ((0 : Int32).toNatClampNeg + (96 : Int32).toNatClampNeg ≤ 96)) (pc' := 15) (lv' := [(0, .inr (.inr (4, i0, j0))), (1, .inr (.inr (4, i1, j1)))]) (st' := []) (V' := q_V (q_row S (25, i0, j0) (va_cpy (S.1 (25, i1, j1)) (S.1 (25, i0, j0)) (0 : Int32).toNatClampNeg (0 : Int32).toNatClampNeg (96 : Int32).toNatClampNeg))) rfl ?_
  refine q_Sim.letS (fun S_1 => ?_)
  refine q_Sim.steps vc_44 3 (pc' := 20) (lv' := [(0, .inr (.inr (4, i0, j0))), (1, .inr (.inr (4, i1, j1)))]) (st' := [.inl (S_1.1 (4, i1, j1) 1), .inr (.inr (4, i0, j0))]) (V' := q_V S_1) rfl ?_
  refine q_Sim.steps vc_44 1 (pc' := 23) (lv' := [(0, .inr (.inr (4, i0, j0))), (1, .inr (.inr (4, i1, j1)))]) (st' := []) (V' := q_V (q_set S_1 (4, i0, j0) 1 (S_1.1 (4, i1, j1) 1))) rfl ?_
  refine q_Sim.letS (fun S_2 => ?_)
  refine q_Sim.steps vc_44 3 (pc' := 28) (lv' := [(0, .inr (.inr (4, i0, j0))), (1, .inr (.inr (4, i1, j1)))]) (st' := [.inl (S_2.1 (4, i1, j1) 2), .inr (.inr (4, i0, j0))]) (V' := q_V S_2) rfl ?_
  refine q_Sim.steps vc_44 1 (pc' := 31) (lv' := [(0, .inr (.inr (4, i0, j0))), (1, .inr (.inr (4, i1, j1)))]) (st' := []) (V' := q_V (q_set S_2 (4, i0, j0) 2 (S_2.1 (4, i1, j1) 2))) rfl ?_
  refine q_Sim.letS (fun S_3 => ?_)
  refine q_Sim.steps vc_44 3 (pc' := 36) (lv' := [(0, .inr (.inr (4, i0, j0))), (1, .inr (.inr (4, i1, j1)))]) (st' := [.inl (S_3.1 (4, i1, j1) 3), .inr (.inr (4, i0, j0))]) (V' := q_V S_3) rfl ?_
  refine q_Sim.steps vc_44 1 (pc' := 39) (lv' := [(0, .inr (.inr (4, i0, j0))), (1, .inr (.inr (4, i1, j1)))]) (st' := []) (V' := q_V (q_set S_3 (4, i0, j0) 3 (S_3.1 (4, i1, j1) 3))) rfl ?_
  refine q_Sim.letS (fun S_4 => ?_)
  refine q_Sim.steps vc_44 3 (pc' := 44) (lv' := [(0, .inr (.inr (4, i0, j0))), (1, .inr (.inr (4, i1, j1)))]) (st' := [.inl (S_4.1 (4, i1, j1) 4), .inr (.inr (4, i0, j0))]) (V' := q_V S_4) rfl ?_
  refine q_Sim.steps vc_44 1 (pc' := 47) (lv' := [(0, .inr (.inr (4, i0, j0))), (1, .inr (.inr (4, i1, j1)))]) (st' := []) (V' := q_V (q_set S_4 (4, i0, j0) 4 (S_4.1 (4, i1, j1) 4))) rfl ?_
  refine q_Sim.letS (fun S_5 => ?_)
  refine q_Sim.steps vc_44 3 (pc' := 52) (lv' := [(0, .inr (.inr (4, i0, j0))), (1, .inr (.inr (4, i1, j1)))]) (st' := [.inl (S_5.1 (4, i1, j1) 5), .inr (.inr (4, i0, j0))]) (V' := q_V S_5) rfl ?_
  refine q_Sim.steps vc_44 1 (pc' := 55) (lv' := [(0, .inr (.inr (4, i0, j0))), (1, .inr (.inr (4, i1, j1)))]) (st' := []) (V' := q_V (q_set S_5 (4, i0, j0) 5 (S_5.1 (4, i1, j1) 5))) rfl ?_
  refine q_Sim.letS (fun S_6 => ?_)
  refine q_Sim.steps vc_44 3 (pc' := 60) (lv' := [(0, .inr (.inr (4, i0, j0))), (1, .inr (.inr (4, i1, j1)))]) (st' := [.inl (S_6.1 (4, i1, j1) 6), .inr (.inr (4, i0, j0))]) (V' := q_V S_6) rfl ?_
  refine q_Sim.steps vc_44 1 (pc' := 63) (lv' := [(0, .inr (.inr (4, i0, j0))), (1, .inr (.inr (4, i1, j1)))]) (st' := []) (V' := q_V (q_set S_6 (4, i0, j0) 6 (S_6.1 (4, i1, j1) 6))) rfl ?_
  refine q_Sim.letS (fun S_7 => ?_)
  refine q_Sim.steps vc_44 3 (pc' := 68) (lv' := [(0, .inr (.inr (4, i0, j0))), (1, .inr (.inr (4, i1, j1)))]) (st' := [.inl (S_7.1 (4, i1, j1) 7), .inr (.inr (4, i0, j0))]) (V' := q_V S_7) rfl ?_
  refine q_Sim.steps vc_44 1 (pc' := 71) (lv' := [(0, .inr (.inr (4, i0, j0))), (1, .inr (.inr (4, i1, j1)))]) (st' := []) (V' := q_V (q_set S_7 (4, i0, j0) 7 (S_7.1 (4, i1, j1) 7))) rfl ?_
  refine q_Sim.letS (fun S_8 => ?_)
  refine q_Sim.steps vc_44 3 (pc' := 76) (lv' := [(0, .inr (.inr (4, i0, j0))), (1, .inr (.inr (4, i1, j1)))]) (st' := [.inl (S_8.1 (4, i1, j1) 8), .inr (.inr (4, i0, j0))]) (V' := q_V S_8) rfl ?_
  refine q_Sim.steps vc_44 1 (pc' := 79) (lv' := [(0, .inr (.inr (4, i0, j0))), (1, .inr (.inr (4, i1, j1)))]) (st' := []) (V' := q_V (q_set S_8 (4, i0, j0) 8 (S_8.1 (4, i1, j1) 8))) rfl ?_
  refine q_Sim.letS (fun S_9 => ?_)
  refine q_Sim.steps vc_44 3 (pc' := 84) (lv' := [(0, .inr (.inr (4, i0, j0))), (1, .inr (.inr (4, i1, j1)))]) (st' := [.inl (S_9.1 (4, i1, j1) 9), .inr (.inr (4, i0, j0))]) (V' := q_V S_9) rfl ?_
  refine q_Sim.steps vc_44 1 (pc' := 87) (lv' := [(0, .inr (.inr (4, i0, j0))), (1, .inr (.inr (4, i1, j1)))]) (st' := []) (V' := q_V (q_set S_9 (4, i0, j0) 9 (S_9.1 (4, i1, j1) 9))) rfl ?_
  refine q_Sim.letS (fun S_10 => ?_)
  refine q_Sim.steps vc_44 3 (pc' := 92) (lv' := [(0, .inr (.inr (4, i0, j0))), (1, .inr (.inr (4, i1, j1)))]) (st' := [.inl (S_10.1 (4, i1, j1) 10), .inr (.inr (4, i0, j0))]) (V' := q_V S_10) rfl ?_
  refine q_Sim.steps vc_44 1 (pc' := 95) (lv' := [(0, .inr (.inr (4, i0, j0))), (1, .inr (.inr (4, i1, j1)))]) (st' := []) (V' := q_V (q_set S_10 (4, i0, j0) 10 (S_10.1 (4, i1, j1) 10))) rfl ?_
  refine q_Sim.letS (fun S_11 => ?_)
  refine q_Sim.steps vc_44 3 (pc' := 100) (lv' := [(0, .inr (.inr (4, i0, j0))), (1, .inr (.inr (4, i1, j1)))]) (st' := [.inl (S_11.1 (4, i1, j1) 11), .inr (.inr (4, i0, j0))]) (V' := q_V S_11) rfl ?_
  refine q_Sim.steps vc_44 1 (pc' := 103) (lv' := [(0, .inr (.inr (4, i0, j0))), (1, .inr (.inr (4, i1, j1)))]) (st' := []) (V' := q_V (q_set S_11 (4, i0, j0) 11 (S_11.1 (4, i1, j1) 11))) rfl ?_
  refine q_Sim.letS (fun S_12 => ?_)
  exact q_Sim.ret vc_44 rfl
theorem vc_45 : v_code 45 = k_45 := rfl
theorem rc_45 (i0 : Nat) (j0 : Nat) : v_rcv 45 [.inr (.inr (4, i0, j0))] = true := rfl
def f_45 (i0 : Nat) (j0 : Nat) (S : QS) : Option ((Int32) × QS) := some ((S.1 (4, i0, j0) 1) * 12, S)
theorem s_45 (i0 : Nat) (j0 : Nat) (S : QS) : q_Sim 45 0 [(0, .inr (.inr (4, i0, j0)))] [] (q_V S) q_I (f_45 i0 j0 S) := by
  unfold f_45
  refine q_Sim.steps vc_45 4 (pc' := 7) (lv' := [(0, .inr (.inr (4, i0, j0)))]) (st' := [.inl ((S.1 (4, i0, j0) 1) * 12)]) (V' := q_V S) rfl ?_
  exact q_Sim.ret vc_45 rfl
theorem vc_46 : v_code 46 = k_46 := rfl
theorem rc_46 (i0 : Nat) (j0 : Nat) : v_rcv 46 [.inr (.inr (4, i0, j0))] = true := rfl
def b_46_2 : Nat → Nat → Nat → Int32 → QS → Option ((Int32) × QS)
  | 0, _, _, _, _ => none
  | n + 1, i0, j0, x1, S => if 12 ≤ x1 then (q_let (q_set S (4, i0, j0) 1 ((S.1 (4, i0, j0) 1) + 1)) (fun S_1 => some ((S_1.1 (4, i0, j0) 1) - 1, S_1))) else (q_bd (f_45 i0 j0 S) (fun r_2 S_3 => q_ck (v_in (r_2 + x1) 96) (q_let (q_set S_3 (25, i0, j0) (r_2 + x1).toNatClampNeg (-1)) (fun S_4 => b_46_2 n i0 j0 (x1 + 1) S_4))))
theorem sb_46_2 : ∀ (n : Nat) (i0 : Nat) (j0 : Nat) (x1 : Int32) (S : QS), q_Sim 46 2 [(0, .inr (.inr (4, i0, j0))), (1, .inl x1)] [] (q_V S) q_I (b_46_2 n i0 j0 x1 S)
  | 0, _, _, _, _ => q_Sim.none
  | n + 1, i0, j0, x1, S => by
    rw [b_46_2]
    refine q_Sim.steps vc_46 2 (pc' := 5) (lv' := [(0, .inr (.inr (4, i0, j0))), (1, .inl x1)]) (st' := [.inl 12, .inl x1]) (V' := q_V S) rfl ?_
    refine q_Sim.br vc_46 (c := 12 ≤ x1) (t := 26) (f := 8) (lv' := [(0, .inr (.inr (4, i0, j0))), (1, .inl x1)]) (st' := []) (V' := q_V S) rfl ?_ ?_
    · refine q_Sim.steps vc_46 5 (pc' := 33) (lv' := [(0, .inr (.inr (4, i0, j0))), (1, .inl x1)]) (st' := [.inl ((S.1 (4, i0, j0) 1) + 1), .inr (.inr (4, i0, j0))]) (V' := q_V S) rfl ?_
      refine q_Sim.steps vc_46 1 (pc' := 36) (lv' := [(0, .inr (.inr (4, i0, j0))), (1, .inl x1)]) (st' := []) (V' := q_V (q_set S (4, i0, j0) 1 ((S.1 (4, i0, j0) 1) + 1))) rfl ?_
      refine q_Sim.letS (fun S_1 => ?_)
      refine q_Sim.steps vc_46 4 (pc' := 42) (lv' := [(0, .inr (.inr (4, i0, j0))), (1, .inl x1)]) (st' := [.inl ((S_1.1 (4, i0, j0) 1) - 1)]) (V' := q_V S_1) rfl ?_
      exact q_Sim.ret vc_46 rfl
    · refine q_Sim.steps vc_46 3 (pc' := 13) (lv' := [(0, .inr (.inr (4, i0, j0))), (1, .inl x1)]) (st' := [.inr (.inr (4, i0, j0)), .inr (.inr (25, i0, j0))]) (V' := q_V S) rfl ?_
      refine q_Sim.call vc_46 (as := [.inr (.inr (4, i0, j0))]) (pc' := 16) (lv' := [(0, .inr (.inr (4, i0, j0))), (1, .inl x1)]) (st' := [.inr (.inr (25, i0, j0))]) (S := S) rfl (rc_45 i0 j0) (s_45 i0 j0 S) (fun r_2 S_3 => ?_)
      refine q_Sim.steps vc_46 3 (pc' := 19) (lv' := [(0, .inr (.inr (4, i0, j0))), (1, .inl x1)]) (st' := [.inl (-1), .inl (r_2 + x1), .inr (.inr (25, i0, j0))]) (V' := q_V S_3) rfl ?_
      refine q_Sim.ck vc_46 (c := v_in (r_2 + x1) 96) (pc' := 20) (lv' := [(0, .inr (.inr (4, i0, j0))), (1, .inl x1)]) (st' := []) (V' := q_V (q_set S_3 (25, i0, j0) (r_2 + x1).toNatClampNeg (-1))) rfl ?_
      refine q_Sim.letS (fun S_4 => ?_)
      refine q_Sim.steps vc_46 2 (pc' := 2) (lv' := [(1, .inl (x1 + 1)), (0, .inr (.inr (4, i0, j0)))]) (st' := []) (V' := q_V S_4) rfl ?_
      exact q_Sim.sub2 (lv' := [(0, .inr (.inr (4, i0, j0))), (1, .inl (x1 + 1))]) [0, 1] rfl (by decide) ⟨rfl, rfl, trivial⟩ (sb_46_2 n i0 j0 (x1 + 1) S_4)
def f_46 (i0 : Nat) (j0 : Nat) (S : QS) : Option ((Int32) × QS) := b_46_2 q_N i0 j0 0 S
theorem s_46 (i0 : Nat) (j0 : Nat) (S : QS) : q_Sim 46 0 [(0, .inr (.inr (4, i0, j0)))] [] (q_V S) q_I (f_46 i0 j0 S) := by
  unfold f_46
  refine q_Sim.steps vc_46 2 (pc' := 2) (lv' := [(1, .inl 0), (0, .inr (.inr (4, i0, j0)))]) (st' := []) (V' := q_V S) rfl ?_
  exact q_Sim.sub2 (lv' := [(0, .inr (.inr (4, i0, j0))), (1, .inl 0)]) [0, 1] rfl (by decide) ⟨rfl, rfl, trivial⟩ (sb_46_2 q_N i0 j0 0 S)
theorem vc_47 : v_code 47 = k_47 := rfl
theorem rc_47 (i0 : Nat) (j0 : Nat) (i1 : Nat) (j1 : Nat) (x2 : Int32) : v_rcv 47 [.inr (.inr (4, i0, j0)), .inr (.inr (4, i1, j1)), .inl x2] = true := rfl
def f_47 (i0 : Nat) (j0 : Nat) (i1 : Nat) (j1 : Nat) (x2 : Int32) (S : QS) : Option ((Unit) × QS) := q_let ((S.1 (4, i1, j1) 1) - x2) (fun y_1 => q_bd (f_45 i0 j0 S) (fun r_2 S_3 => q_ck (decide (¬ (x2 * 12) < 0) && decide (¬ r_2 < 0) && decide (¬ (y_1 * 12) < 0) && decide ((x2 * 12).toNatClampNeg + (y_1 * 12).toNatClampNeg ≤ 96) && decide (r_2.toNatClampNeg + (y_1 * 12).toNatClampNeg ≤ 96)) (q_let (q_row S_3 (25, i0, j0) (va_cpy (S_3.1 (25, i1, j1)) (S_3.1 (25, i0, j0)) (x2 * 12).toNatClampNeg r_2.toNatClampNeg (y_1 * 12).toNatClampNeg)) (fun S_4 => q_let (q_set S_4 (4, i0, j0) 1 ((S_4.1 (4, i0, j0) 1) + y_1)) (fun S_5 => q_let (q_set S_5 (4, i1, j1) 1 x2) (fun S_6 => some ((), S_6)))))))
theorem s_47 (i0 : Nat) (j0 : Nat) (i1 : Nat) (j1 : Nat) (x2 : Int32) (S : QS) : q_Sim 47 0 [(0, .inr (.inr (4, i0, j0))), (1, .inr (.inr (4, i1, j1))), (2, .inl x2)] [] (q_V S) q_U (f_47 i0 j0 i1 j1 x2 S) := by
  unfold f_47
  refine q_Sim.steps vc_47 4 (pc' := 6) (lv' := [(0, .inr (.inr (4, i0, j0))), (1, .inr (.inr (4, i1, j1))), (2, .inl x2)]) (st' := [.inl ((S.1 (4, i1, j1) 1) - x2)]) (V' := q_V S) rfl ?_
  refine q_Sim.letI (fun y_1 => ?_)
  refine q_Sim.steps vc_47 9 (pc' := 20) (lv' := [(3, .inl y_1), (0, .inr (.inr (4, i0, j0))), (1, .inr (.inr (4, i1, j1))), (2, .inl x2)]) (st' := [.inr (.inr (4, i0, j0)), .inr (.inr (25, i0, j0)), .inl (x2 * 12), .inr (.inr (25, i1, j1))]) (V' := q_V S) rfl ?_
  refine q_Sim.call vc_47 (as := [.inr (.inr (4, i0, j0))]) (pc' := 23) (lv' := [(3, .inl y_1), (0, .inr (.inr (4, i0, j0))), (1, .inr (.inr (4, i1, j1))), (2, .inl x2)]) (st' := [.inr (.inr (25, i0, j0)), .inl (x2 * 12), .inr (.inr (25, i1, j1))]) (S := S) rfl (rc_45 i0 j0) (s_45 i0 j0 S) (fun r_2 S_3 => ?_)
  refine q_Sim.steps vc_47 3 (pc' := 27) (lv' := [(3, .inl y_1), (0, .inr (.inr (4, i0, j0))), (1, .inr (.inr (4, i1, j1))), (2, .inl x2)]) (st' := [.inl (y_1 * 12), .inl r_2, .inr (.inr (25, i0, j0)), .inl (x2 * 12), .inr (.inr (25, i1, j1))]) (V' := q_V S_3) rfl ?_
  refine q_Sim.ck vc_47 (c := decide (¬ (x2 * 12) < 0) && decide (¬ r_2 < 0) && decide (¬ (y_1 * 12) < 0) && decide ((x2 * 12).toNatClampNeg + (y_1 * 12).toNatClampNeg ≤ 96) && decide (r_2.toNatClampNeg + (y_1 * 12).toNatClampNeg ≤ 96)) (pc' := 30) (lv' := [(3, .inl y_1), (0, .inr (.inr (4, i0, j0))), (1, .inr (.inr (4, i1, j1))), (2, .inl x2)]) (st' := []) (V' := q_V (q_row S_3 (25, i0, j0) (va_cpy (S_3.1 (25, i1, j1)) (S_3.1 (25, i0, j0)) (x2 * 12).toNatClampNeg r_2.toNatClampNeg (y_1 * 12).toNatClampNeg))) rfl ?_
  refine q_Sim.letS (fun S_4 => ?_)
  refine q_Sim.steps vc_47 5 (pc' := 37) (lv' := [(3, .inl y_1), (0, .inr (.inr (4, i0, j0))), (1, .inr (.inr (4, i1, j1))), (2, .inl x2)]) (st' := [.inl ((S_4.1 (4, i0, j0) 1) + y_1), .inr (.inr (4, i0, j0))]) (V' := q_V S_4) rfl ?_
  refine q_Sim.steps vc_47 1 (pc' := 40) (lv' := [(3, .inl y_1), (0, .inr (.inr (4, i0, j0))), (1, .inr (.inr (4, i1, j1))), (2, .inl x2)]) (st' := []) (V' := q_V (q_set S_4 (4, i0, j0) 1 ((S_4.1 (4, i0, j0) 1) + y_1))) rfl ?_
  refine q_Sim.letS (fun S_5 => ?_)
  refine q_Sim.steps vc_47 2 (pc' := 42) (lv' := [(3, .inl y_1), (0, .inr (.inr (4, i0, j0))), (1, .inr (.inr (4, i1, j1))), (2, .inl x2)]) (st' := [.inl x2, .inr (.inr (4, i1, j1))]) (V' := q_V S_5) rfl ?_
  refine q_Sim.steps vc_47 1 (pc' := 45) (lv' := [(3, .inl y_1), (0, .inr (.inr (4, i0, j0))), (1, .inr (.inr (4, i1, j1))), (2, .inl x2)]) (st' := []) (V' := q_V (q_set S_5 (4, i1, j1) 1 x2)) rfl ?_
  refine q_Sim.letS (fun S_6 => ?_)
  exact q_Sim.ret vc_47 rfl
theorem vc_48 : v_code 48 = k_48 := rfl
theorem rc_48 (i0 : Nat) (j0 : Nat) (i1 : Nat) (j1 : Nat) : v_rcv 48 [.inr (.inr (4, i0, j0)), .inr (.inr (4, i1, j1))] = true := rfl
def b_48_94 (i1 : Nat) (j1 : Nat) (S : QS) : Option ((Unit) × QS) := q_let (q_set S (4, i1, j1) 2 0) (fun S_7 => q_let (q_set S_7 (4, i1, j1) 3 0) (fun S_8 => q_let (q_set S_8 (4, i1, j1) 4 0) (fun S_9 => q_let (q_set S_9 (4, i1, j1) 5 (-1)) (fun S_10 => q_bd (f_52 i1 j1 S_10) (fun r_11 S_12 => some ((), S_12))))))
theorem sb_48_94 (i1 : Nat) (j1 : Nat) (S : QS) : q_Sim 48 94 [(1, .inr (.inr (4, i1, j1)))] [] (q_V S) q_U (b_48_94 i1 j1 S) := by
  unfold b_48_94
  refine q_Sim.steps vc_48 2 (pc' := 96) (lv' := [(1, .inr (.inr (4, i1, j1)))]) (st' := [.inl 0, .inr (.inr (4, i1, j1))]) (V' := q_V S) rfl ?_
  refine q_Sim.steps vc_48 1 (pc' := 99) (lv' := [(1, .inr (.inr (4, i1, j1)))]) (st' := []) (V' := q_V (q_set S (4, i1, j1) 2 0)) rfl ?_
  refine q_Sim.letS (fun S_7 => ?_)
  refine q_Sim.steps vc_48 2 (pc' := 101) (lv' := [(1, .inr (.inr (4, i1, j1)))]) (st' := [.inl 0, .inr (.inr (4, i1, j1))]) (V' := q_V S_7) rfl ?_
  refine q_Sim.steps vc_48 1 (pc' := 104) (lv' := [(1, .inr (.inr (4, i1, j1)))]) (st' := []) (V' := q_V (q_set S_7 (4, i1, j1) 3 0)) rfl ?_
  refine q_Sim.letS (fun S_8 => ?_)
  refine q_Sim.steps vc_48 2 (pc' := 106) (lv' := [(1, .inr (.inr (4, i1, j1)))]) (st' := [.inl 0, .inr (.inr (4, i1, j1))]) (V' := q_V S_8) rfl ?_
  refine q_Sim.steps vc_48 1 (pc' := 109) (lv' := [(1, .inr (.inr (4, i1, j1)))]) (st' := []) (V' := q_V (q_set S_8 (4, i1, j1) 4 0)) rfl ?_
  refine q_Sim.letS (fun S_9 => ?_)
  refine q_Sim.steps vc_48 2 (pc' := 111) (lv' := [(1, .inr (.inr (4, i1, j1)))]) (st' := [.inl (-1), .inr (.inr (4, i1, j1))]) (V' := q_V S_9) rfl ?_
  refine q_Sim.steps vc_48 1 (pc' := 114) (lv' := [(1, .inr (.inr (4, i1, j1)))]) (st' := []) (V' := q_V (q_set S_9 (4, i1, j1) 5 (-1))) rfl ?_
  refine q_Sim.letS (fun S_10 => ?_)
  refine q_Sim.steps vc_48 1 (pc' := 115) (lv' := [(1, .inr (.inr (4, i1, j1)))]) (st' := [.inr (.inr (4, i1, j1))]) (V' := q_V S_10) rfl ?_
  refine q_Sim.call vc_48 (as := [.inr (.inr (4, i1, j1))]) (pc' := 118) (lv' := [(1, .inr (.inr (4, i1, j1)))]) (st' := []) (S := S_10) rfl (rc_52 i1 j1) (s_52 i1 j1 S_10) (fun r_11 S_12 => ?_)
  exact q_Sim.ret vc_48 rfl
def f_48 (i0 : Nat) (j0 : Nat) (i1 : Nat) (j1 : Nat) (S : QS) : Option ((Unit) × QS) := q_let (q_set S (4, i0, j0) 2 ((S.1 (4, i0, j0) 2) + (S.1 (4, i1, j1) 2))) (fun S_1 => q_let (q_set S_1 (4, i0, j0) 3 ((S_1.1 (4, i0, j0) 3) + (S_1.1 (4, i1, j1) 3))) (fun S_2 => q_let (q_set S_2 (4, i0, j0) 4 ((S_2.1 (4, i0, j0) 4) + (S_2.1 (4, i1, j1) 4))) (fun S_3 => q_let (q_set S_3 (4, i0, j0) 6 ((S_3.1 (4, i0, j0) 6) + (S_3.1 (4, i1, j1) 6))) (fun S_4 => q_let (q_set S_4 (4, i0, j0) 7 ((S_4.1 (4, i0, j0) 7) + (S_4.1 (4, i1, j1) 7))) (fun S_5 => q_let (q_set S_5 (4, i0, j0) 8 ((S_5.1 (4, i0, j0) 8) + (S_5.1 (4, i1, j1) 8))) (fun S_6 => if ¬ (S_6.1 (4, i0, j0) 5) = (-1) then (b_48_94 i1 j1 S_6) else (q_let (q_set S_6 (4, i0, j0) 5 (S_6.1 (4, i1, j1) 5)) (fun S_13 => b_48_94 i1 j1 S_13))))))))
theorem s_48 (i0 : Nat) (j0 : Nat) (i1 : Nat) (j1 : Nat) (S : QS) : q_Sim 48 0 [(0, .inr (.inr (4, i0, j0))), (1, .inr (.inr (4, i1, j1)))] [] (q_V S) q_U (f_48 i0 j0 i1 j1 S) := by
  unfold f_48
  refine q_Sim.steps vc_48 6 (pc' := 10) (lv' := [(0, .inr (.inr (4, i0, j0))), (1, .inr (.inr (4, i1, j1)))]) (st' := [.inl ((S.1 (4, i0, j0) 2) + (S.1 (4, i1, j1) 2)), .inr (.inr (4, i0, j0))]) (V' := q_V S) rfl ?_
  refine q_Sim.steps vc_48 1 (pc' := 13) (lv' := [(0, .inr (.inr (4, i0, j0))), (1, .inr (.inr (4, i1, j1)))]) (st' := []) (V' := q_V (q_set S (4, i0, j0) 2 ((S.1 (4, i0, j0) 2) + (S.1 (4, i1, j1) 2)))) rfl ?_
  refine q_Sim.letS (fun S_1 => ?_)
  refine q_Sim.steps vc_48 6 (pc' := 23) (lv' := [(0, .inr (.inr (4, i0, j0))), (1, .inr (.inr (4, i1, j1)))]) (st' := [.inl ((S_1.1 (4, i0, j0) 3) + (S_1.1 (4, i1, j1) 3)), .inr (.inr (4, i0, j0))]) (V' := q_V S_1) rfl ?_
  refine q_Sim.steps vc_48 1 (pc' := 26) (lv' := [(0, .inr (.inr (4, i0, j0))), (1, .inr (.inr (4, i1, j1)))]) (st' := []) (V' := q_V (q_set S_1 (4, i0, j0) 3 ((S_1.1 (4, i0, j0) 3) + (S_1.1 (4, i1, j1) 3)))) rfl ?_
  refine q_Sim.letS (fun S_2 => ?_)
  refine q_Sim.steps vc_48 6 (pc' := 36) (lv' := [(0, .inr (.inr (4, i0, j0))), (1, .inr (.inr (4, i1, j1)))]) (st' := [.inl ((S_2.1 (4, i0, j0) 4) + (S_2.1 (4, i1, j1) 4)), .inr (.inr (4, i0, j0))]) (V' := q_V S_2) rfl ?_
  refine q_Sim.steps vc_48 1 (pc' := 39) (lv' := [(0, .inr (.inr (4, i0, j0))), (1, .inr (.inr (4, i1, j1)))]) (st' := []) (V' := q_V (q_set S_2 (4, i0, j0) 4 ((S_2.1 (4, i0, j0) 4) + (S_2.1 (4, i1, j1) 4)))) rfl ?_
  refine q_Sim.letS (fun S_3 => ?_)
  refine q_Sim.steps vc_48 6 (pc' := 49) (lv' := [(0, .inr (.inr (4, i0, j0))), (1, .inr (.inr (4, i1, j1)))]) (st' := [.inl ((S_3.1 (4, i0, j0) 6) + (S_3.1 (4, i1, j1) 6)), .inr (.inr (4, i0, j0))]) (V' := q_V S_3) rfl ?_
  refine q_Sim.steps vc_48 1 (pc' := 52) (lv' := [(0, .inr (.inr (4, i0, j0))), (1, .inr (.inr (4, i1, j1)))]) (st' := []) (V' := q_V (q_set S_3 (4, i0, j0) 6 ((S_3.1 (4, i0, j0) 6) + (S_3.1 (4, i1, j1) 6)))) rfl ?_
  refine q_Sim.letS (fun S_4 => ?_)
  refine q_Sim.steps vc_48 6 (pc' := 62) (lv' := [(0, .inr (.inr (4, i0, j0))), (1, .inr (.inr (4, i1, j1)))]) (st' := [.inl ((S_4.1 (4, i0, j0) 7) + (S_4.1 (4, i1, j1) 7)), .inr (.inr (4, i0, j0))]) (V' := q_V S_4) rfl ?_
  refine q_Sim.steps vc_48 1 (pc' := 65) (lv' := [(0, .inr (.inr (4, i0, j0))), (1, .inr (.inr (4, i1, j1)))]) (st' := []) (V' := q_V (q_set S_4 (4, i0, j0) 7 ((S_4.1 (4, i0, j0) 7) + (S_4.1 (4, i1, j1) 7)))) rfl ?_
  refine q_Sim.letS (fun S_5 => ?_)
  refine q_Sim.steps vc_48 6 (pc' := 75) (lv' := [(0, .inr (.inr (4, i0, j0))), (1, .inr (.inr (4, i1, j1)))]) (st' := [.inl ((S_5.1 (4, i0, j0) 8) + (S_5.1 (4, i1, j1) 8)), .inr (.inr (4, i0, j0))]) (V' := q_V S_5) rfl ?_
  refine q_Sim.steps vc_48 1 (pc' := 78) (lv' := [(0, .inr (.inr (4, i0, j0))), (1, .inr (.inr (4, i1, j1)))]) (st' := []) (V' := q_V (q_set S_5 (4, i0, j0) 8 ((S_5.1 (4, i0, j0) 8) + (S_5.1 (4, i1, j1) 8)))) rfl ?_
  refine q_Sim.letS (fun S_6 => ?_)
  refine q_Sim.steps vc_48 3 (pc' := 83) (lv' := [(0, .inr (.inr (4, i0, j0))), (1, .inr (.inr (4, i1, j1)))]) (st' := [.inl (-1), .inl (S_6.1 (4, i0, j0) 5)]) (V' := q_V S_6) rfl ?_
  refine q_Sim.br vc_48 (c := ¬ (S_6.1 (4, i0, j0) 5) = (-1)) (t := 94) (f := 86) (lv' := [(0, .inr (.inr (4, i0, j0))), (1, .inr (.inr (4, i1, j1)))]) (st' := []) (V' := q_V S_6) rfl ?_ ?_
  · exact q_Sim.sub2 (lv' := [(1, .inr (.inr (4, i1, j1)))]) [1] rfl (by decide) ⟨rfl, trivial⟩ (sb_48_94 i1 j1 S_6)
  · refine q_Sim.steps vc_48 3 (pc' := 91) (lv' := [(0, .inr (.inr (4, i0, j0))), (1, .inr (.inr (4, i1, j1)))]) (st' := [.inl (S_6.1 (4, i1, j1) 5), .inr (.inr (4, i0, j0))]) (V' := q_V S_6) rfl ?_
    refine q_Sim.steps vc_48 1 (pc' := 94) (lv' := [(0, .inr (.inr (4, i0, j0))), (1, .inr (.inr (4, i1, j1)))]) (st' := []) (V' := q_V (q_set S_6 (4, i0, j0) 5 (S_6.1 (4, i1, j1) 5))) rfl ?_
    refine q_Sim.letS (fun S_13 => ?_)
    exact q_Sim.sub2 (lv' := [(1, .inr (.inr (4, i1, j1)))]) [1] rfl (by decide) ⟨rfl, trivial⟩ (sb_48_94 i1 j1 S_13)
theorem vc_49 : v_code 49 = k_49 := rfl
theorem rc_49 (i0 : Nat) (j0 : Nat) (i1 : Nat) (j1 : Nat) (x2 : Int32) (x3 : Int32) : v_rcv 49 [.inr (.inr (4, i0, j0)), .inr (.inr (4, i1, j1)), .inl x2, .inl x3] = true := rfl
def f_49 (i0 : Nat) (j0 : Nat) (i1 : Nat) (j1 : Nat) (x2 : Int32) (x3 : Int32) (S : QS) : Option ((Unit) × QS) := if ¬ x3 = 0 then (q_ck (decide (¬ x3.toInt64 = 0)) (q_let (((((S.1 (4, i1, j1) 2).toInt64) * x2.toInt64) / x3.toInt64).toInt32) (fun y_1 => q_ck (decide (¬ x3.toInt64 = 0)) (q_let (((((S.1 (4, i1, j1) 3).toInt64) * x2.toInt64) / x3.toInt64).toInt32) (fun y_2 => q_let (q_set S (4, i0, j0) 2 ((S.1 (4, i0, j0) 2) + y_1)) (fun S_3 => q_let (q_set S_3 (4, i0, j0) 3 ((S_3.1 (4, i0, j0) 3) + y_2)) (fun S_4 => q_let (q_set S_4 (4, i1, j1) 2 ((S_4.1 (4, i1, j1) 2) - y_1)) (fun S_5 => q_let (q_set S_5 (4, i1, j1) 3 ((S_5.1 (4, i1, j1) 3) - y_2)) (fun S_6 => some ((), S_6)))))))))) else (some ((), S))
theorem s_49 (i0 : Nat) (j0 : Nat) (i1 : Nat) (j1 : Nat) (x2 : Int32) (x3 : Int32) (S : QS) : q_Sim 49 0 [(0, .inr (.inr (4, i0, j0))), (1, .inr (.inr (4, i1, j1))), (2, .inl x2), (3, .inl x3)] [] (q_V S) q_U (f_49 i0 j0 i1 j1 x2 x3 S) := by
  unfold f_49
  refine q_Sim.steps vc_49 1 (pc' := 1) (lv' := [(0, .inr (.inr (4, i0, j0))), (1, .inr (.inr (4, i1, j1))), (2, .inl x2), (3, .inl x3)]) (st' := [.inl x3]) (V' := q_V S) rfl ?_
  refine q_Sim.br vc_49 (c := ¬ x3 = 0) (t := 5) (f := 4) (lv' := [(0, .inr (.inr (4, i0, j0))), (1, .inr (.inr (4, i1, j1))), (2, .inl x2), (3, .inl x3)]) (st' := []) (V' := q_V S) rfl ?_ ?_
  · refine q_Sim.steps vc_49 8 (pc' := 15) (lv' := [(0, .inr (.inr (4, i0, j0))), (1, .inr (.inr (4, i1, j1))), (2, .inl x2), (3, .inl x3)]) (st' := [.inr (.inl x3.toInt64), .inr (.inl (((S.1 (4, i1, j1) 2).toInt64) * x2.toInt64))]) (V' := q_V S) rfl ?_
    refine q_Sim.ck vc_49 (c := decide (¬ x3.toInt64 = 0)) (pc' := 16) (lv' := [(0, .inr (.inr (4, i0, j0))), (1, .inr (.inr (4, i1, j1))), (2, .inl x2), (3, .inl x3)]) (st' := [.inr (.inl ((((S.1 (4, i1, j1) 2).toInt64) * x2.toInt64) / x3.toInt64))]) (V' := q_V S) rfl ?_
    refine q_Sim.steps vc_49 1 (pc' := 17) (lv' := [(0, .inr (.inr (4, i0, j0))), (1, .inr (.inr (4, i1, j1))), (2, .inl x2), (3, .inl x3)]) (st' := [.inl (((((S.1 (4, i1, j1) 2).toInt64) * x2.toInt64) / x3.toInt64).toInt32)]) (V' := q_V S) rfl ?_
    refine q_Sim.letI (fun y_1 => ?_)
    refine q_Sim.steps vc_49 9 (pc' := 29) (lv' := [(4, .inl y_1), (0, .inr (.inr (4, i0, j0))), (1, .inr (.inr (4, i1, j1))), (2, .inl x2), (3, .inl x3)]) (st' := [.inr (.inl x3.toInt64), .inr (.inl (((S.1 (4, i1, j1) 3).toInt64) * x2.toInt64))]) (V' := q_V S) rfl ?_
    refine q_Sim.ck vc_49 (c := decide (¬ x3.toInt64 = 0)) (pc' := 30) (lv' := [(4, .inl y_1), (0, .inr (.inr (4, i0, j0))), (1, .inr (.inr (4, i1, j1))), (2, .inl x2), (3, .inl x3)]) (st' := [.inr (.inl ((((S.1 (4, i1, j1) 3).toInt64) * x2.toInt64) / x3.toInt64))]) (V' := q_V S) rfl ?_
    refine q_Sim.steps vc_49 1 (pc' := 31) (lv' := [(4, .inl y_1), (0, .inr (.inr (4, i0, j0))), (1, .inr (.inr (4, i1, j1))), (2, .inl x2), (3, .inl x3)]) (st' := [.inl (((((S.1 (4, i1, j1) 3).toInt64) * x2.toInt64) / x3.toInt64).toInt32)]) (V' := q_V S) rfl ?_
    refine q_Sim.letI (fun y_2 => ?_)
    refine q_Sim.steps vc_49 6 (pc' := 41) (lv' := [(5, .inl y_2), (4, .inl y_1), (0, .inr (.inr (4, i0, j0))), (1, .inr (.inr (4, i1, j1))), (2, .inl x2), (3, .inl x3)]) (st' := [.inl ((S.1 (4, i0, j0) 2) + y_1), .inr (.inr (4, i0, j0))]) (V' := q_V S) rfl ?_
    refine q_Sim.steps vc_49 1 (pc' := 44) (lv' := [(5, .inl y_2), (4, .inl y_1), (0, .inr (.inr (4, i0, j0))), (1, .inr (.inr (4, i1, j1))), (2, .inl x2), (3, .inl x3)]) (st' := []) (V' := q_V (q_set S (4, i0, j0) 2 ((S.1 (4, i0, j0) 2) + y_1))) rfl ?_
    refine q_Sim.letS (fun S_3 => ?_)
    refine q_Sim.steps vc_49 5 (pc' := 52) (lv' := [(5, .inl y_2), (4, .inl y_1), (0, .inr (.inr (4, i0, j0))), (1, .inr (.inr (4, i1, j1))), (2, .inl x2), (3, .inl x3)]) (st' := [.inl ((S_3.1 (4, i0, j0) 3) + y_2), .inr (.inr (4, i0, j0))]) (V' := q_V S_3) rfl ?_
    refine q_Sim.steps vc_49 1 (pc' := 55) (lv' := [(5, .inl y_2), (4, .inl y_1), (0, .inr (.inr (4, i0, j0))), (1, .inr (.inr (4, i1, j1))), (2, .inl x2), (3, .inl x3)]) (st' := []) (V' := q_V (q_set S_3 (4, i0, j0) 3 ((S_3.1 (4, i0, j0) 3) + y_2))) rfl ?_
    refine q_Sim.letS (fun S_4 => ?_)
    refine q_Sim.steps vc_49 5 (pc' := 63) (lv' := [(5, .inl y_2), (4, .inl y_1), (0, .inr (.inr (4, i0, j0))), (1, .inr (.inr (4, i1, j1))), (2, .inl x2), (3, .inl x3)]) (st' := [.inl ((S_4.1 (4, i1, j1) 2) - y_1), .inr (.inr (4, i1, j1))]) (V' := q_V S_4) rfl ?_
    refine q_Sim.steps vc_49 1 (pc' := 66) (lv' := [(5, .inl y_2), (4, .inl y_1), (0, .inr (.inr (4, i0, j0))), (1, .inr (.inr (4, i1, j1))), (2, .inl x2), (3, .inl x3)]) (st' := []) (V' := q_V (q_set S_4 (4, i1, j1) 2 ((S_4.1 (4, i1, j1) 2) - y_1))) rfl ?_
    refine q_Sim.letS (fun S_5 => ?_)
    refine q_Sim.steps vc_49 5 (pc' := 74) (lv' := [(5, .inl y_2), (4, .inl y_1), (0, .inr (.inr (4, i0, j0))), (1, .inr (.inr (4, i1, j1))), (2, .inl x2), (3, .inl x3)]) (st' := [.inl ((S_5.1 (4, i1, j1) 3) - y_2), .inr (.inr (4, i1, j1))]) (V' := q_V S_5) rfl ?_
    refine q_Sim.steps vc_49 1 (pc' := 77) (lv' := [(5, .inl y_2), (4, .inl y_1), (0, .inr (.inr (4, i0, j0))), (1, .inr (.inr (4, i1, j1))), (2, .inl x2), (3, .inl x3)]) (st' := []) (V' := q_V (q_set S_5 (4, i1, j1) 3 ((S_5.1 (4, i1, j1) 3) - y_2))) rfl ?_
    refine q_Sim.letS (fun S_6 => ?_)
    exact q_Sim.ret vc_49 rfl
  · exact q_Sim.ret vc_49 rfl
theorem vc_50 : v_code 50 = k_50 := rfl
theorem rc_50 (i0 : Nat) (j0 : Nat) (i1 : Nat) (j1 : Nat) : v_rcv 50 [.inr (.inr (4, i0, j0)), .inr (.inr (8, i1, j1))] = true := rfl
def b_50_23 (i0 : Nat) (j0 : Nat) (i1 : Nat) (j1 : Nat) (xs0 : Int32) (S : QS) : Option ((Unit) × QS) := q_let (q_set S (4, i0, j0) 2 ((S.1 (4, i0, j0) 2) - xs0)) (fun S_1 => q_let (q_set S_1 (8, i1, j1) 7 xs0) (fun S_2 => if ¬ (S_2.1 (8, i1, j1) 0) = 4 then (some ((), S_2)) else (q_let (q_set S_2 (8, i1, j1) 8 (S_2.1 (4, i0, j0) 5)) (fun S_3 => q_let (q_set S_3 (4, i0, j0) 5 (-1)) (fun S_4 => some ((), S_4))))))
theorem sb_50_23 (i0 : Nat) (j0 : Nat) (i1 : Nat) (j1 : Nat) (xs0 : Int32) (S : QS) : q_Sim 50 23 [(0, .inr (.inr (4, i0, j0))), (1, .inr (.inr (8, i1, j1)))] [.inl xs0] (q_V S) q_U (b_50_23 i0 j0 i1 j1 xs0 S) := by
  unfold b_50_23
  refine q_Sim.steps vc_50 6 (pc' := 31) (lv' := [(2, .inl xs0), (0, .inr (.inr (4, i0, j0))), (1, .inr (.inr (8, i1, j1)))]) (st' := [.inl ((S.1 (4, i0, j0) 2) - xs0), .inr (.inr (4, i0, j0))]) (V' := q_V S) rfl ?_
  refine q_Sim.steps vc_50 1 (pc' := 34) (lv' := [(2, .inl xs0), (0, .inr (.inr (4, i0, j0))), (1, .inr (.inr (8, i1, j1)))]) (st' := []) (V' := q_V (q_set S (4, i0, j0) 2 ((S.1 (4, i0, j0) 2) - xs0))) rfl ?_
  refine q_Sim.letS (fun S_1 => ?_)
  refine q_Sim.steps vc_50 2 (pc' := 36) (lv' := [(2, .inl xs0), (0, .inr (.inr (4, i0, j0))), (1, .inr (.inr (8, i1, j1)))]) (st' := [.inl xs0, .inr (.inr (8, i1, j1))]) (V' := q_V S_1) rfl ?_
  refine q_Sim.steps vc_50 1 (pc' := 39) (lv' := [(2, .inl xs0), (0, .inr (.inr (4, i0, j0))), (1, .inr (.inr (8, i1, j1)))]) (st' := []) (V' := q_V (q_set S_1 (8, i1, j1) 7 xs0)) rfl ?_
  refine q_Sim.letS (fun S_2 => ?_)
  refine q_Sim.steps vc_50 3 (pc' := 44) (lv' := [(2, .inl xs0), (0, .inr (.inr (4, i0, j0))), (1, .inr (.inr (8, i1, j1)))]) (st' := [.inl 4, .inl (S_2.1 (8, i1, j1) 0)]) (V' := q_V S_2) rfl ?_
  refine q_Sim.br vc_50 (c := ¬ (S_2.1 (8, i1, j1) 0) = 4) (t := 60) (f := 47) (lv' := [(2, .inl xs0), (0, .inr (.inr (4, i0, j0))), (1, .inr (.inr (8, i1, j1)))]) (st' := []) (V' := q_V S_2) rfl ?_ ?_
  · exact q_Sim.ret vc_50 rfl
  · refine q_Sim.steps vc_50 3 (pc' := 52) (lv' := [(2, .inl xs0), (0, .inr (.inr (4, i0, j0))), (1, .inr (.inr (8, i1, j1)))]) (st' := [.inl (S_2.1 (4, i0, j0) 5), .inr (.inr (8, i1, j1))]) (V' := q_V S_2) rfl ?_
    refine q_Sim.steps vc_50 1 (pc' := 55) (lv' := [(2, .inl xs0), (0, .inr (.inr (4, i0, j0))), (1, .inr (.inr (8, i1, j1)))]) (st' := []) (V' := q_V (q_set S_2 (8, i1, j1) 8 (S_2.1 (4, i0, j0) 5))) rfl ?_
    refine q_Sim.letS (fun S_3 => ?_)
    refine q_Sim.steps vc_50 2 (pc' := 57) (lv' := [(2, .inl xs0), (0, .inr (.inr (4, i0, j0))), (1, .inr (.inr (8, i1, j1)))]) (st' := [.inl (-1), .inr (.inr (4, i0, j0))]) (V' := q_V S_3) rfl ?_
    refine q_Sim.steps vc_50 1 (pc' := 60) (lv' := [(2, .inl xs0), (0, .inr (.inr (4, i0, j0))), (1, .inr (.inr (8, i1, j1)))]) (st' := []) (V' := q_V (q_set S_3 (4, i0, j0) 5 (-1))) rfl ?_
    refine q_Sim.letS (fun S_4 => ?_)
    exact q_Sim.ret vc_50 rfl
def f_50 (i0 : Nat) (j0 : Nat) (i1 : Nat) (j1 : Nat) (S : QS) : Option ((Unit) × QS) := if ¬ (S.1 (8, i1, j1) 0) = 4 then (b_50_23 i0 j0 i1 j1 ((S.1 (4, i0, j0) 2) / 3) S) else (b_50_23 i0 j0 i1 j1 ((S.1 (4, i0, j0) 2) / 2) S)
theorem s_50 (i0 : Nat) (j0 : Nat) (i1 : Nat) (j1 : Nat) (S : QS) : q_Sim 50 0 [(0, .inr (.inr (4, i0, j0))), (1, .inr (.inr (8, i1, j1)))] [] (q_V S) q_U (f_50 i0 j0 i1 j1 S) := by
  unfold f_50
  refine q_Sim.steps vc_50 3 (pc' := 5) (lv' := [(0, .inr (.inr (4, i0, j0))), (1, .inr (.inr (8, i1, j1)))]) (st' := [.inl 4, .inl (S.1 (8, i1, j1) 0)]) (V' := q_V S) rfl ?_
  refine q_Sim.br vc_50 (c := ¬ (S.1 (8, i1, j1) 0) = 4) (t := 17) (f := 8) (lv' := [(0, .inr (.inr (4, i0, j0))), (1, .inr (.inr (8, i1, j1)))]) (st' := []) (V' := q_V S) rfl ?_ ?_
  · refine q_Sim.steps vc_50 3 (pc' := 22) (lv' := [(0, .inr (.inr (4, i0, j0))), (1, .inr (.inr (8, i1, j1)))]) (st' := [.inl 3, .inl (S.1 (4, i0, j0) 2)]) (V' := q_V S) rfl ?_
    refine q_Sim.okd vc_50 (c := decide (¬ (3 : Int32) = 0)) (pc' := 23) (lv' := [(0, .inr (.inr (4, i0, j0))), (1, .inr (.inr (8, i1, j1)))]) (st' := [.inl ((S.1 (4, i0, j0) 2) / 3)]) (V' := q_V S) rfl (by decide) ?_
    exact q_Sim.sub2 (lv' := [(0, .inr (.inr (4, i0, j0))), (1, .inr (.inr (8, i1, j1)))]) [0, 1] rfl (by decide) ⟨rfl, rfl, trivial⟩ (sb_50_23 i0 j0 i1 j1 ((S.1 (4, i0, j0) 2) / 3) S)
  · refine q_Sim.steps vc_50 3 (pc' := 13) (lv' := [(0, .inr (.inr (4, i0, j0))), (1, .inr (.inr (8, i1, j1)))]) (st' := [.inl 2, .inl (S.1 (4, i0, j0) 2)]) (V' := q_V S) rfl ?_
    refine q_Sim.okd vc_50 (c := decide (¬ (2 : Int32) = 0)) (pc' := 14) (lv' := [(0, .inr (.inr (4, i0, j0))), (1, .inr (.inr (8, i1, j1)))]) (st' := [.inl ((S.1 (4, i0, j0) 2) / 2)]) (V' := q_V S) rfl (by decide) ?_
    refine q_Sim.steps vc_50 1 (pc' := 23) (lv' := [(0, .inr (.inr (4, i0, j0))), (1, .inr (.inr (8, i1, j1)))]) (st' := [.inl ((S.1 (4, i0, j0) 2) / 2)]) (V' := q_V S) rfl ?_
    exact q_Sim.sub2 (lv' := [(0, .inr (.inr (4, i0, j0))), (1, .inr (.inr (8, i1, j1)))]) [0, 1] rfl (by decide) ⟨rfl, rfl, trivial⟩ (sb_50_23 i0 j0 i1 j1 ((S.1 (4, i0, j0) 2) / 2) S)
theorem vc_51 : v_code 51 = k_51 := rfl
theorem rc_51 (i0 : Nat) (j0 : Nat) (i1 : Nat) (j1 : Nat) (x2 : Int32) : v_rcv 51 [.inr (.inr (4, i0, j0)), .inr (.inr (8, i1, j1)), .inl x2] = true := rfl
def b_51_31 (i1 : Nat) (j1 : Nat) (S : QS) : Option ((Unit) × QS) := q_let (q_set S (8, i1, j1) 8 (-1)) (fun S_3 => some ((), S_3))
theorem sb_51_31 (i1 : Nat) (j1 : Nat) (S : QS) : q_Sim 51 31 [(1, .inr (.inr (8, i1, j1)))] [] (q_V S) q_U (b_51_31 i1 j1 S) := by
  unfold b_51_31
  refine q_Sim.steps vc_51 2 (pc' := 33) (lv' := [(1, .inr (.inr (8, i1, j1)))]) (st' := [.inl (-1), .inr (.inr (8, i1, j1))]) (V' := q_V S) rfl ?_
  refine q_Sim.steps vc_51 1 (pc' := 36) (lv' := [(1, .inr (.inr (8, i1, j1)))]) (st' := []) (V' := q_V (q_set S (8, i1, j1) 8 (-1))) rfl ?_
  refine q_Sim.letS (fun S_3 => ?_)
  exact q_Sim.ret vc_51 rfl
def f_51 (i0 : Nat) (j0 : Nat) (i1 : Nat) (j1 : Nat) (x2 : Int32) (S : QS) : Option ((Unit) × QS) := q_let (q_set S (4, i0, j0) 2 ((S.1 (4, i0, j0) 2) + x2)) (fun S_1 => q_let (q_set S_1 (8, i1, j1) 7 0) (fun S_2 => if ¬ (S_2.1 (4, i0, j0) 5) = (-1) then (b_51_31 i1 j1 S_2) else (q_let (q_set S_2 (4, i0, j0) 5 (S_2.1 (8, i1, j1) 8)) (fun S_4 => b_51_31 i1 j1 S_4))))
theorem s_51 (i0 : Nat) (j0 : Nat) (i1 : Nat) (j1 : Nat) (x2 : Int32) (S : QS) : q_Sim 51 0 [(0, .inr (.inr (4, i0, j0))), (1, .inr (.inr (8, i1, j1))), (2, .inl x2)] [] (q_V S) q_U (f_51 i0 j0 i1 j1 x2 S) := by
  unfold f_51
  refine q_Sim.steps vc_51 5 (pc' := 7) (lv' := [(0, .inr (.inr (4, i0, j0))), (1, .inr (.inr (8, i1, j1))), (2, .inl x2)]) (st' := [.inl ((S.1 (4, i0, j0) 2) + x2), .inr (.inr (4, i0, j0))]) (V' := q_V S) rfl ?_
  refine q_Sim.steps vc_51 1 (pc' := 10) (lv' := [(0, .inr (.inr (4, i0, j0))), (1, .inr (.inr (8, i1, j1))), (2, .inl x2)]) (st' := []) (V' := q_V (q_set S (4, i0, j0) 2 ((S.1 (4, i0, j0) 2) + x2))) rfl ?_
  refine q_Sim.letS (fun S_1 => ?_)
  refine q_Sim.steps vc_51 2 (pc' := 12) (lv' := [(0, .inr (.inr (4, i0, j0))), (1, .inr (.inr (8, i1, j1))), (2, .inl x2)]) (st' := [.inl 0, .inr (.inr (8, i1, j1))]) (V' := q_V S_1) rfl ?_
  refine q_Sim.steps vc_51 1 (pc' := 15) (lv' := [(0, .inr (.inr (4, i0, j0))), (1, .inr (.inr (8, i1, j1))), (2, .inl x2)]) (st' := []) (V' := q_V (q_set S_1 (8, i1, j1) 7 0)) rfl ?_
  refine q_Sim.letS (fun S_2 => ?_)
  refine q_Sim.steps vc_51 3 (pc' := 20) (lv' := [(0, .inr (.inr (4, i0, j0))), (1, .inr (.inr (8, i1, j1))), (2, .inl x2)]) (st' := [.inl (-1), .inl (S_2.1 (4, i0, j0) 5)]) (V' := q_V S_2) rfl ?_
  refine q_Sim.br vc_51 (c := ¬ (S_2.1 (4, i0, j0) 5) = (-1)) (t := 31) (f := 23) (lv' := [(0, .inr (.inr (4, i0, j0))), (1, .inr (.inr (8, i1, j1))), (2, .inl x2)]) (st' := []) (V' := q_V S_2) rfl ?_ ?_
  · exact q_Sim.sub2 (lv' := [(1, .inr (.inr (8, i1, j1)))]) [1] rfl (by decide) ⟨rfl, trivial⟩ (sb_51_31 i1 j1 S_2)
  · refine q_Sim.steps vc_51 3 (pc' := 28) (lv' := [(0, .inr (.inr (4, i0, j0))), (1, .inr (.inr (8, i1, j1))), (2, .inl x2)]) (st' := [.inl (S_2.1 (8, i1, j1) 8), .inr (.inr (4, i0, j0))]) (V' := q_V S_2) rfl ?_
    refine q_Sim.steps vc_51 1 (pc' := 31) (lv' := [(0, .inr (.inr (4, i0, j0))), (1, .inr (.inr (8, i1, j1))), (2, .inl x2)]) (st' := []) (V' := q_V (q_set S_2 (4, i0, j0) 5 (S_2.1 (8, i1, j1) 8))) rfl ?_
    refine q_Sim.letS (fun S_4 => ?_)
    exact q_Sim.sub2 (lv' := [(1, .inr (.inr (8, i1, j1)))]) [1] rfl (by decide) ⟨rfl, trivial⟩ (sb_51_31 i1 j1 S_4)
theorem vc_53 : v_code 53 = k_53 := rfl
theorem rc_53 (i0 : Nat) (j0 : Nat) : v_rcv 53 [.inr (.inr (4, i0, j0))] = true := rfl
def b_53_2 : Nat → Nat → Nat → Int32 → QS → Option ((Int32) × QS)
  | 0, _, _, _, _ => none
  | n + 1, i0, j0, x1, S => q_bd (f_45 i0 j0 S) (fun r_1 S_2 => if r_1 ≤ x1 then (some ((-1), S_2)) else (q_ck (v_in x1 96) (q_let (S_2.1 (25, i0, j0) x1.toNatClampNeg) (fun y_3 => if ¬ y_3 = (-1) then (b_53_2 n i0 j0 (x1 + 1) S_2) else (some (x1, S_2))))))
theorem sb_53_2 : ∀ (n : Nat) (i0 : Nat) (j0 : Nat) (x1 : Int32) (S : QS), q_Sim 53 2 [(0, .inr (.inr (4, i0, j0))), (1, .inl x1)] [] (q_V S) q_I (b_53_2 n i0 j0 x1 S)
  | 0, _, _, _, _ => q_Sim.none
  | n + 1, i0, j0, x1, S => by
    rw [b_53_2]
    refine q_Sim.steps vc_53 2 (pc' := 4) (lv' := [(0, .inr (.inr (4, i0, j0))), (1, .inl x1)]) (st' := [.inr (.inr (4, i0, j0)), .inl x1]) (V' := q_V S) rfl ?_
    refine q_Sim.call vc_53 (as := [.inr (.inr (4, i0, j0))]) (pc' := 7) (lv' := [(0, .inr (.inr (4, i0, j0))), (1, .inl x1)]) (st' := [.inl x1]) (S := S) rfl (rc_45 i0 j0) (s_45 i0 j0 S) (fun r_1 S_2 => ?_)
    refine q_Sim.br vc_53 (c := r_1 ≤ x1) (t := 28) (f := 10) (lv' := [(0, .inr (.inr (4, i0, j0))), (1, .inl x1)]) (st' := []) (V' := q_V S_2) rfl ?_ ?_
    · refine q_Sim.steps vc_53 1 (pc' := 29) (lv' := [(0, .inr (.inr (4, i0, j0))), (1, .inl x1)]) (st' := [.inl (-1)]) (V' := q_V S_2) rfl ?_
      exact q_Sim.ret vc_53 rfl
    · refine q_Sim.steps vc_53 3 (pc' := 15) (lv' := [(0, .inr (.inr (4, i0, j0))), (1, .inl x1)]) (st' := [.inl x1, .inr (.inr (25, i0, j0))]) (V' := q_V S_2) rfl ?_
      refine q_Sim.ck vc_53 (c := v_in x1 96) (pc' := 16) (lv' := [(0, .inr (.inr (4, i0, j0))), (1, .inl x1)]) (st' := [.inl (S_2.1 (25, i0, j0) x1.toNatClampNeg)]) (V' := q_V S_2) rfl ?_
      refine q_Sim.letI (fun y_3 => ?_)
      refine q_Sim.steps vc_53 1 (pc' := 17) (lv' := [(0, .inr (.inr (4, i0, j0))), (1, .inl x1)]) (st' := [.inl (-1), .inl y_3]) (V' := q_V S_2) rfl ?_
      refine q_Sim.br vc_53 (c := ¬ y_3 = (-1)) (t := 22) (f := 20) (lv' := [(0, .inr (.inr (4, i0, j0))), (1, .inl x1)]) (st' := []) (V' := q_V S_2) rfl ?_ ?_
      · refine q_Sim.steps vc_53 2 (pc' := 2) (lv' := [(1, .inl (x1 + 1)), (0, .inr (.inr (4, i0, j0)))]) (st' := []) (V' := q_V S_2) rfl ?_
        exact q_Sim.sub2 (lv' := [(0, .inr (.inr (4, i0, j0))), (1, .inl (x1 + 1))]) [0, 1] rfl (by decide) ⟨rfl, rfl, trivial⟩ (sb_53_2 n i0 j0 (x1 + 1) S_2)
      · refine q_Sim.steps vc_53 1 (pc' := 21) (lv' := [(0, .inr (.inr (4, i0, j0))), (1, .inl x1)]) (st' := [.inl x1]) (V' := q_V S_2) rfl ?_
        exact q_Sim.ret vc_53 rfl
def f_53 (i0 : Nat) (j0 : Nat) (S : QS) : Option ((Int32) × QS) := b_53_2 q_N i0 j0 0 S
theorem s_53 (i0 : Nat) (j0 : Nat) (S : QS) : q_Sim 53 0 [(0, .inr (.inr (4, i0, j0)))] [] (q_V S) q_I (f_53 i0 j0 S) := by
  unfold f_53
  refine q_Sim.steps vc_53 2 (pc' := 2) (lv' := [(1, .inl 0), (0, .inr (.inr (4, i0, j0)))]) (st' := []) (V' := q_V S) rfl ?_
  exact q_Sim.sub2 (lv' := [(0, .inr (.inr (4, i0, j0))), (1, .inl 0)]) [0, 1] rfl (by decide) ⟨rfl, rfl, trivial⟩ (sb_53_2 q_N i0 j0 0 S)
theorem vc_54 : v_code 54 = k_54 := rfl
theorem rc_54 (i0 : Nat) (j0 : Nat) : v_rcv 54 [.inr (.inr (4, i0, j0))] = true := rfl
def b_54_25 (back_4 : Nat → Nat → Int32 → Int32 → QS → Option ((Int32) × QS)) (i0 : Nat) (j0 : Nat) (x1 : Int32) (x2 : Int32) (S : QS) : Option ((Int32) × QS) := back_4 i0 j0 x1 (x2 + 1) S
theorem sb_54_25 (back_4 : Nat → Nat → Int32 → Int32 → QS → Option ((Int32) × QS)) (hb_4 : ∀ (i0 : Nat) (j0 : Nat) (x1 : Int32) (x2 : Int32) (S : QS), q_Sim 54 4 [(0, .inr (.inr (4, i0, j0))), (1, .inl x1), (2, .inl x2)] [] (q_V S) q_I (back_4 i0 j0 x1 x2 S)) (i0 : Nat) (j0 : Nat) (x1 : Int32) (x2 : Int32) (S : QS) : q_Sim 54 25 [(0, .inr (.inr (4, i0, j0))), (1, .inl x1), (2, .inl x2)] [] (q_V S) q_I (b_54_25 back_4 i0 j0 x1 x2 S) := by
  unfold b_54_25
  refine q_Sim.steps vc_54 2 (pc' := 4) (lv' := [(2, .inl (x2 + 1)), (0, .inr (.inr (4, i0, j0))), (1, .inl x1)]) (st' := []) (V' := q_V S) rfl ?_
  exact q_Sim.sub2 (lv' := [(0, .inr (.inr (4, i0, j0))), (1, .inl x1), (2, .inl (x2 + 1))]) [0, 1, 2] rfl (by decide) ⟨rfl, rfl, rfl, trivial⟩ (hb_4 i0 j0 x1 (x2 + 1) S)
def b_54_4 : Nat → Nat → Nat → Int32 → Int32 → QS → Option ((Int32) × QS)
  | 0, _, _, _, _, _ => none
  | n + 1, i0, j0, x1, x2, S => q_bd (f_45 i0 j0 S) (fun r_1 S_2 => if r_1 ≤ x2 then (some (x1, S_2)) else (q_ck (v_in x2 96) (q_let (S_2.1 (25, i0, j0) x2.toNatClampNeg) (fun y_3 => if ¬ y_3 = (-1) then (b_54_25 (b_54_4 n) i0 j0 x1 x2 S_2) else (b_54_25 (b_54_4 n) i0 j0 (x1 + 1) x2 S_2)))))
theorem sb_54_4 : ∀ (n : Nat) (i0 : Nat) (j0 : Nat) (x1 : Int32) (x2 : Int32) (S : QS), q_Sim 54 4 [(0, .inr (.inr (4, i0, j0))), (1, .inl x1), (2, .inl x2)] [] (q_V S) q_I (b_54_4 n i0 j0 x1 x2 S)
  | 0, _, _, _, _, _ => q_Sim.none
  | n + 1, i0, j0, x1, x2, S => by
    rw [b_54_4]
    refine q_Sim.steps vc_54 2 (pc' := 6) (lv' := [(0, .inr (.inr (4, i0, j0))), (1, .inl x1), (2, .inl x2)]) (st' := [.inr (.inr (4, i0, j0)), .inl x2]) (V' := q_V S) rfl ?_
    refine q_Sim.call vc_54 (as := [.inr (.inr (4, i0, j0))]) (pc' := 9) (lv' := [(0, .inr (.inr (4, i0, j0))), (1, .inl x1), (2, .inl x2)]) (st' := [.inl x2]) (S := S) rfl (rc_45 i0 j0) (s_45 i0 j0 S) (fun r_1 S_2 => ?_)
    refine q_Sim.br vc_54 (c := r_1 ≤ x2) (t := 31) (f := 12) (lv' := [(0, .inr (.inr (4, i0, j0))), (1, .inl x1), (2, .inl x2)]) (st' := []) (V' := q_V S_2) rfl ?_ ?_
    · refine q_Sim.steps vc_54 1 (pc' := 32) (lv' := [(0, .inr (.inr (4, i0, j0))), (1, .inl x1), (2, .inl x2)]) (st' := [.inl x1]) (V' := q_V S_2) rfl ?_
      exact q_Sim.ret vc_54 rfl
    · refine q_Sim.steps vc_54 3 (pc' := 17) (lv' := [(0, .inr (.inr (4, i0, j0))), (1, .inl x1), (2, .inl x2)]) (st' := [.inl x2, .inr (.inr (25, i0, j0))]) (V' := q_V S_2) rfl ?_
      refine q_Sim.ck vc_54 (c := v_in x2 96) (pc' := 18) (lv' := [(0, .inr (.inr (4, i0, j0))), (1, .inl x1), (2, .inl x2)]) (st' := [.inl (S_2.1 (25, i0, j0) x2.toNatClampNeg)]) (V' := q_V S_2) rfl ?_
      refine q_Sim.letI (fun y_3 => ?_)
      refine q_Sim.steps vc_54 1 (pc' := 19) (lv' := [(0, .inr (.inr (4, i0, j0))), (1, .inl x1), (2, .inl x2)]) (st' := [.inl (-1), .inl y_3]) (V' := q_V S_2) rfl ?_
      refine q_Sim.br vc_54 (c := ¬ y_3 = (-1)) (t := 25) (f := 22) (lv' := [(0, .inr (.inr (4, i0, j0))), (1, .inl x1), (2, .inl x2)]) (st' := []) (V' := q_V S_2) rfl ?_ ?_
      · exact q_Sim.sub2 (lv' := [(0, .inr (.inr (4, i0, j0))), (1, .inl x1), (2, .inl x2)]) [0, 1, 2] rfl (by decide) ⟨rfl, rfl, rfl, trivial⟩ (sb_54_25 (b_54_4 n) (sb_54_4 n) i0 j0 x1 x2 S_2)
      · refine q_Sim.steps vc_54 1 (pc' := 25) (lv' := [(1, .inl (x1 + 1)), (0, .inr (.inr (4, i0, j0))), (2, .inl x2)]) (st' := []) (V' := q_V S_2) rfl ?_
        exact q_Sim.sub2 (lv' := [(0, .inr (.inr (4, i0, j0))), (1, .inl (x1 + 1)), (2, .inl x2)]) [0, 1, 2] rfl (by decide) ⟨rfl, rfl, rfl, trivial⟩ (sb_54_25 (b_54_4 n) (sb_54_4 n) i0 j0 (x1 + 1) x2 S_2)
def f_54 (i0 : Nat) (j0 : Nat) (S : QS) : Option ((Int32) × QS) := b_54_4 q_N i0 j0 0 0 S
theorem s_54 (i0 : Nat) (j0 : Nat) (S : QS) : q_Sim 54 0 [(0, .inr (.inr (4, i0, j0)))] [] (q_V S) q_I (f_54 i0 j0 S) := by
  unfold f_54
  refine q_Sim.steps vc_54 4 (pc' := 4) (lv' := [(2, .inl 0), (1, .inl 0), (0, .inr (.inr (4, i0, j0)))]) (st' := []) (V' := q_V S) rfl ?_
  exact q_Sim.sub2 (lv' := [(0, .inr (.inr (4, i0, j0))), (1, .inl 0), (2, .inl 0)]) [0, 1, 2] rfl (by decide) ⟨rfl, rfl, rfl, trivial⟩ (sb_54_4 q_N i0 j0 0 0 S)
theorem vc_55 : v_code 55 = k_55 := rfl
theorem rc_55 (i0 : Nat) (j0 : Nat) (x1 : Int32) : v_rcv 55 [.inr (.inr (4, i0, j0)), .inl x1] = true := rfl
def f_55 (i0 : Nat) (j0 : Nat) (x1 : Int32) (S : QS) : Option ((Int32) × QS) := if x1 = 0 then (some (S.1 (4, i0, j0) 2, S)) else (if x1 = 1 then (some (S.1 (4, i0, j0) 3, S)) else (if x1 = 2 then (some (S.1 (4, i0, j0) 4, S)) else (if x1 = 3 then (some (S.1 (4, i0, j0) 1, S)) else (if x1 = 4 then (some (S.1 (4, i0, j0) 11, S)) else (q_bd (f_54 i0 j0 S) (fun r_6 S_7 => some (r_6, S_7)))))))
theorem s_55 (i0 : Nat) (j0 : Nat) (x1 : Int32) (S : QS) : q_Sim 55 0 [(0, .inr (.inr (4, i0, j0))), (1, .inl x1)] [] (q_V S) q_I (f_55 i0 j0 x1 S) := by
  unfold f_55
  refine q_Sim.steps vc_55 1 (pc' := 1) (lv' := [(0, .inr (.inr (4, i0, j0))), (1, .inl x1)]) (st' := [.inl x1]) (V' := q_V S) rfl ?_
  refine q_Sim.ite (c := x1 = 0) (fun h_1 => q_Sim.sw vc_55 (lv' := [(0, .inr (.inr (4, i0, j0))), (1, .inl x1)]) (st' := []) (V' := q_V S) rfl h_1 rfl (t := 36) rfl ?_) (fun h_1 => ?_)
  · refine q_Sim.steps vc_55 2 (pc' := 40) (lv' := [(0, .inr (.inr (4, i0, j0))), (1, .inl x1)]) (st' := [.inl (S.1 (4, i0, j0) 2)]) (V' := q_V S) rfl ?_
    exact q_Sim.ret vc_55 rfl
  refine q_Sim.ite (c := x1 = 1) (fun h_2 => q_Sim.sw vc_55 (lv' := [(0, .inr (.inr (4, i0, j0))), (1, .inl x1)]) (st' := []) (V' := q_V S) rfl h_2 rfl (t := 41) rfl ?_) (fun h_2 => ?_)
  · refine q_Sim.steps vc_55 2 (pc' := 45) (lv' := [(0, .inr (.inr (4, i0, j0))), (1, .inl x1)]) (st' := [.inl (S.1 (4, i0, j0) 3)]) (V' := q_V S) rfl ?_
    exact q_Sim.ret vc_55 rfl
  refine q_Sim.ite (c := x1 = 2) (fun h_3 => q_Sim.sw vc_55 (lv' := [(0, .inr (.inr (4, i0, j0))), (1, .inl x1)]) (st' := []) (V' := q_V S) rfl h_3 rfl (t := 46) rfl ?_) (fun h_3 => ?_)
  · refine q_Sim.steps vc_55 2 (pc' := 50) (lv' := [(0, .inr (.inr (4, i0, j0))), (1, .inl x1)]) (st' := [.inl (S.1 (4, i0, j0) 4)]) (V' := q_V S) rfl ?_
    exact q_Sim.ret vc_55 rfl
  refine q_Sim.ite (c := x1 = 3) (fun h_4 => q_Sim.sw vc_55 (lv' := [(0, .inr (.inr (4, i0, j0))), (1, .inl x1)]) (st' := []) (V' := q_V S) rfl h_4 rfl (t := 51) rfl ?_) (fun h_4 => ?_)
  · refine q_Sim.steps vc_55 2 (pc' := 55) (lv' := [(0, .inr (.inr (4, i0, j0))), (1, .inl x1)]) (st' := [.inl (S.1 (4, i0, j0) 1)]) (V' := q_V S) rfl ?_
    exact q_Sim.ret vc_55 rfl
  refine q_Sim.ite (c := x1 = 4) (fun h_5 => q_Sim.sw vc_55 (lv' := [(0, .inr (.inr (4, i0, j0))), (1, .inl x1)]) (st' := []) (V' := q_V S) rfl h_5 rfl (t := 56) rfl ?_) (fun h_5 => ?_)
  · refine q_Sim.steps vc_55 2 (pc' := 60) (lv' := [(0, .inr (.inr (4, i0, j0))), (1, .inl x1)]) (st' := [.inl (S.1 (4, i0, j0) 11)]) (V' := q_V S) rfl ?_
    exact q_Sim.ret vc_55 rfl
  refine q_Sim.swd vc_55 (lv' := [(0, .inr (.inr (4, i0, j0))), (1, .inl x1)]) (st' := []) (V' := q_V S) rfl (fun k h1 h2 => ?_) (t := 61) rfl ?_
  · have h3 : k = 0 ∨ k = 1 ∨ k = 2 ∨ k = 3 ∨ k = 4 := by omega
    rcases h3 with rfl | rfl | rfl | rfl | rfl
    · exact q_ne h_1 rfl
    · exact q_ne h_2 rfl
    · exact q_ne h_3 rfl
    · exact q_ne h_4 rfl
    · exact q_ne h_5 rfl
  · refine q_Sim.steps vc_55 1 (pc' := 62) (lv' := [(0, .inr (.inr (4, i0, j0))), (1, .inl x1)]) (st' := [.inr (.inr (4, i0, j0))]) (V' := q_V S) rfl ?_
    refine q_Sim.call vc_55 (as := [.inr (.inr (4, i0, j0))]) (pc' := 65) (lv' := [(0, .inr (.inr (4, i0, j0))), (1, .inl x1)]) (st' := []) (S := S) rfl (rc_54 i0 j0) (s_54 i0 j0 S) (fun r_6 S_7 => ?_)
    exact q_Sim.ret vc_55 rfl
theorem vc_56 : v_code 56 = k_56 := rfl
theorem rc_56 (i0 : Nat) (j0 : Nat) (x1 : Int32) : v_rcv 56 [.inr (.inr (4, i0, j0)), .inl x1] = true := rfl
def f_56 (i0 : Nat) (j0 : Nat) (x1 : Int32) (S : QS) : Option ((Int32) × QS) := q_let ((x1 * 31) + (S.1 (4, i0, j0) 2)) (fun y_1 => q_let ((y_1 * 31) + (S.1 (4, i0, j0) 3)) (fun y_2 => q_let ((y_2 * 31) + (S.1 (4, i0, j0) 4)) (fun y_3 => q_let ((y_3 * 31) + (S.1 (4, i0, j0) 1)) (fun y_4 => q_let ((y_4 * 31) + (S.1 (4, i0, j0) 7)) (fun y_5 => some ((y_5 * 31) + (S.1 (4, i0, j0) 8), S))))))
theorem s_56 (i0 : Nat) (j0 : Nat) (x1 : Int32) (S : QS) : q_Sim 56 0 [(0, .inr (.inr (4, i0, j0))), (1, .inl x1)] [] (q_V S) q_I (f_56 i0 j0 x1 S) := by
  unfold f_56
  refine q_Sim.steps vc_56 6 (pc' := 9) (lv' := [(0, .inr (.inr (4, i0, j0))), (1, .inl x1)]) (st' := [.inl ((x1 * 31) + (S.1 (4, i0, j0) 2))]) (V' := q_V S) rfl ?_
  refine q_Sim.letI (fun y_1 => ?_)
  refine q_Sim.steps vc_56 7 (pc' := 19) (lv' := [(2, .inl y_1), (0, .inr (.inr (4, i0, j0))), (1, .inl x1)]) (st' := [.inl ((y_1 * 31) + (S.1 (4, i0, j0) 3))]) (V' := q_V S) rfl ?_
  refine q_Sim.letI (fun y_2 => ?_)
  refine q_Sim.steps vc_56 7 (pc' := 29) (lv' := [(2, .inl y_2), (0, .inr (.inr (4, i0, j0))), (1, .inl x1)]) (st' := [.inl ((y_2 * 31) + (S.1 (4, i0, j0) 4))]) (V' := q_V S) rfl ?_
  refine q_Sim.letI (fun y_3 => ?_)
  refine q_Sim.steps vc_56 7 (pc' := 39) (lv' := [(2, .inl y_3), (0, .inr (.inr (4, i0, j0))), (1, .inl x1)]) (st' := [.inl ((y_3 * 31) + (S.1 (4, i0, j0) 1))]) (V' := q_V S) rfl ?_
  refine q_Sim.letI (fun y_4 => ?_)
  refine q_Sim.steps vc_56 7 (pc' := 49) (lv' := [(2, .inl y_4), (0, .inr (.inr (4, i0, j0))), (1, .inl x1)]) (st' := [.inl ((y_4 * 31) + (S.1 (4, i0, j0) 7))]) (V' := q_V S) rfl ?_
  refine q_Sim.letI (fun y_5 => ?_)
  refine q_Sim.steps vc_56 7 (pc' := 59) (lv' := [(2, .inl y_5), (0, .inr (.inr (4, i0, j0))), (1, .inl x1)]) (st' := [.inl ((y_5 * 31) + (S.1 (4, i0, j0) 8))]) (V' := q_V S) rfl ?_
  exact q_Sim.ret vc_56 rfl
theorem vc_58 : v_code 58 = k_58 := rfl
theorem rc_58 (x1 : Int32) : v_rcv 58 [.inr (.inr (5, 0, 0)), .inl x1] = true := rfl
def f_58 (x1 : Int32) (S : QS) : Option ((Int32) × QS) := if x1 = (-1) then (some (0, S)) else (q_ck (v_in x1 200) (q_let (S.1 (26, 0, 0) x1.toNatClampNeg) (fun y_1 => if y_1 = 0 then (some (0, S)) else (some (1, S)))))
theorem s_58 (x1 : Int32) (S : QS) : q_Sim 58 0 [(0, .inr (.inr (5, 0, 0))), (1, .inl x1)] [] (q_V S) q_I (f_58 x1 S) := by
  unfold f_58
  refine q_Sim.steps vc_58 2 (pc' := 2) (lv' := [(0, .inr (.inr (5, 0, 0))), (1, .inl x1)]) (st' := [.inl (-1), .inl x1]) (V' := q_V S) rfl ?_
  refine q_Sim.br vc_58 (c := x1 = (-1)) (t := 18) (f := 5) (lv' := [(0, .inr (.inr (5, 0, 0))), (1, .inl x1)]) (st' := []) (V' := q_V S) rfl ?_ ?_
  · refine q_Sim.steps vc_58 1 (pc' := 19) (lv' := [(0, .inr (.inr (5, 0, 0))), (1, .inl x1)]) (st' := [.inl 0]) (V' := q_V S) rfl ?_
    exact q_Sim.ret vc_58 rfl
  · refine q_Sim.steps vc_58 3 (pc' := 10) (lv' := [(0, .inr (.inr (5, 0, 0))), (1, .inl x1)]) (st' := [.inl x1, .inr (.inr (26, 0, 0))]) (V' := q_V S) rfl ?_
    refine q_Sim.ck vc_58 (c := v_in x1 200) (pc' := 11) (lv' := [(0, .inr (.inr (5, 0, 0))), (1, .inl x1)]) (st' := [.inl (S.1 (26, 0, 0) x1.toNatClampNeg)]) (V' := q_V S) rfl ?_
    refine q_Sim.letI (fun y_1 => ?_)
    refine q_Sim.br vc_58 (c := y_1 = 0) (t := 18) (f := 14) (lv' := [(0, .inr (.inr (5, 0, 0))), (1, .inl x1)]) (st' := []) (V' := q_V S) rfl ?_ ?_
    · refine q_Sim.steps vc_58 1 (pc' := 19) (lv' := [(0, .inr (.inr (5, 0, 0))), (1, .inl x1)]) (st' := [.inl 0]) (V' := q_V S) rfl ?_
      exact q_Sim.ret vc_58 rfl
    · refine q_Sim.steps vc_58 2 (pc' := 19) (lv' := [(0, .inr (.inr (5, 0, 0))), (1, .inl x1)]) (st' := [.inl 1]) (V' := q_V S) rfl ?_
      exact q_Sim.ret vc_58 rfl
theorem vc_59 : v_code 59 = k_59 := rfl
theorem rc_59  : v_rcv 59 [.inr (.inr (5, 0, 0))] = true := rfl
def b_59_2 : Nat → Int32 → QS → Option ((Unit) × QS)
  | 0, _, _ => none
  | n + 1, x1, S => if 200 ≤ x1 then (some ((), S)) else (q_ck (v_in x1 200 && v_bool 0) (q_let (q_set S (26, 0, 0) x1.toNatClampNeg 0) (fun S_1 => b_59_2 n (x1 + 1) S_1)))
theorem sb_59_2 : ∀ (n : Nat) (x1 : Int32) (S : QS), q_Sim 59 2 [(0, .inr (.inr (5, 0, 0))), (1, .inl x1)] [] (q_V S) q_U (b_59_2 n x1 S)
  | 0, _, _ => q_Sim.none
  | n + 1, x1, S => by
    rw [b_59_2]
    refine q_Sim.steps vc_59 2 (pc' := 6) (lv' := [(0, .inr (.inr (5, 0, 0))), (1, .inl x1)]) (st' := [.inl 200, .inl x1]) (V' := q_V S) rfl ?_
    refine q_Sim.br vc_59 (c := 200 ≤ x1) (t := 22) (f := 9) (lv' := [(0, .inr (.inr (5, 0, 0))), (1, .inl x1)]) (st' := []) (V' := q_V S) rfl ?_ ?_
    · exact q_Sim.ret vc_59 rfl
    · refine q_Sim.steps vc_59 4 (pc' := 15) (lv' := [(0, .inr (.inr (5, 0, 0))), (1, .inl x1)]) (st' := [.inl 0, .inl x1, .inr (.inr (26, 0, 0))]) (V' := q_V S) rfl ?_
      refine q_Sim.ck vc_59 (c := v_in x1 200 && v_bool 0) (pc' := 16) (lv' := [(0, .inr (.inr (5, 0, 0))), (1, .inl x1)]) (st' := []) (V' := q_V (q_set S (26, 0, 0) x1.toNatClampNeg 0)) rfl ?_
      refine q_Sim.letS (fun S_1 => ?_)
      refine q_Sim.steps vc_59 2 (pc' := 2) (lv' := [(1, .inl (x1 + 1)), (0, .inr (.inr (5, 0, 0)))]) (st' := []) (V' := q_V S_1) rfl ?_
      exact q_Sim.sub2 (lv' := [(0, .inr (.inr (5, 0, 0))), (1, .inl (x1 + 1))]) [0, 1] rfl (by decide) ⟨rfl, rfl, trivial⟩ (sb_59_2 n (x1 + 1) S_1)
def f_59  (S : QS) : Option ((Unit) × QS) := b_59_2 q_N 0 S
theorem s_59  (S : QS) : q_Sim 59 0 [(0, .inr (.inr (5, 0, 0)))] [] (q_V S) q_U (f_59  S) := by
  unfold f_59
  refine q_Sim.steps vc_59 2 (pc' := 2) (lv' := [(1, .inl 0), (0, .inr (.inr (5, 0, 0)))]) (st' := []) (V' := q_V S) rfl ?_
  exact q_Sim.sub2 (lv' := [(0, .inr (.inr (5, 0, 0))), (1, .inl 0)]) [0, 1] rfl (by decide) ⟨rfl, rfl, trivial⟩ (sb_59_2 q_N 0 S)
theorem vc_60 : v_code 60 = k_60 := rfl
theorem rc_60 (i1 : Nat) (x2 : Int32) : v_rcv 60 [.inr (.inr (5, 0, 0)), .inr (.inr (9, i1, 0)), .inl x2] = true := rfl
def b_60_93 (back_16 : Nat → Int32 → Int32 → QS → Option ((Unit) × QS)) (back_32 : Nat → Int32 → Int32 → Int32 → QS → Option ((Unit) × QS)) (i1 : Nat) (x3 : Int32) (x4 : Int32) (x5 : Int32) (S : QS) : Option ((Unit) × QS) := back_32 i1 x3 x4 (x5 + 1) S
theorem sb_60_93 (back_16 : Nat → Int32 → Int32 → QS → Option ((Unit) × QS)) (hb_16 : ∀ (i1 : Nat) (x3 : Int32) (x4 : Int32) (S : QS), q_Sim 60 16 [(0, .inr (.inr (5, 0, 0))), (1, .inr (.inr (9, i1, 0))), (3, .inl x3), (4, .inl x4)] [] (q_V S) q_U (back_16 i1 x3 x4 S)) (back_32 : Nat → Int32 → Int32 → Int32 → QS → Option ((Unit) × QS)) (hb_32 : ∀ (i1 : Nat) (x3 : Int32) (x4 : Int32) (x5 : Int32) (S : QS), q_Sim 60 32 [(0, .inr (.inr (5, 0, 0))), (1, .inr (.inr (9, i1, 0))), (3, .inl x3), (4, .inl x4), (5, .inl x5)] [] (q_V S) q_U (back_32 i1 x3 x4 x5 S)) (i1 : Nat) (x3 : Int32) (x4 : Int32) (x5 : Int32) (S : QS) : q_Sim 60 93 [(0, .inr (.inr (5, 0, 0))), (1, .inr (.inr (9, i1, 0))), (3, .inl x3), (4, .inl x4), (5, .inl x5)] [] (q_V S) q_U (b_60_93 back_16 back_32 i1 x3 x4 x5 S) := by
  unfold b_60_93
  refine q_Sim.steps vc_60 2 (pc' := 32) (lv' := [(5, .inl (x5 + 1)), (0, .inr (.inr (5, 0, 0))), (1, .inr (.inr (9, i1, 0))), (3, .inl x3), (4, .inl x4)]) (st' := []) (V' := q_V S) rfl ?_
  exact q_Sim.sub2 (lv' := [(0, .inr (.inr (5, 0, 0))), (1, .inr (.inr (9, i1, 0))), (3, .inl x3), (4, .inl x4), (5, .inl (x5 + 1))]) [0, 1, 3, 4, 5] rfl (by decide) ⟨rfl, rfl, rfl, rfl, rfl, trivial⟩ (hb_32 i1 x3 x4 (x5 + 1) S)
def b_60_83 (back_16 : Nat → Int32 → Int32 → QS → Option ((Unit) × QS)) (back_32 : Nat → Int32 → Int32 → Int32 → QS → Option ((Unit) × QS)) (i1 : Nat) (x4 : Int32) (x5 : Int32) (S : QS) : Option ((Unit) × QS) := q_ck (v_in x5 200 && v_bool 1) (q_let (q_set S (26, 0, 0) x5.toNatClampNeg 1) (fun S_9 => b_60_93 back_16 back_32 i1 1 x4 x5 S_9))
theorem sb_60_83 (back_16 : Nat → Int32 → Int32 → QS → Option ((Unit) × QS)) (hb_16 : ∀ (i1 : Nat) (x3 : Int32) (x4 : Int32) (S : QS), q_Sim 60 16 [(0, .inr (.inr (5, 0, 0))), (1, .inr (.inr (9, i1, 0))), (3, .inl x3), (4, .inl x4)] [] (q_V S) q_U (back_16 i1 x3 x4 S)) (back_32 : Nat → Int32 → Int32 → Int32 → QS → Option ((Unit) × QS)) (hb_32 : ∀ (i1 : Nat) (x3 : Int32) (x4 : Int32) (x5 : Int32) (S : QS), q_Sim 60 32 [(0, .inr (.inr (5, 0, 0))), (1, .inr (.inr (9, i1, 0))), (3, .inl x3), (4, .inl x4), (5, .inl x5)] [] (q_V S) q_U (back_32 i1 x3 x4 x5 S)) (i1 : Nat) (x4 : Int32) (x5 : Int32) (S : QS) : q_Sim 60 83 [(0, .inr (.inr (5, 0, 0))), (1, .inr (.inr (9, i1, 0))), (4, .inl x4), (5, .inl x5)] [] (q_V S) q_U (b_60_83 back_16 back_32 i1 x4 x5 S) := by
  unfold b_60_83
  refine q_Sim.steps vc_60 4 (pc' := 90) (lv' := [(0, .inr (.inr (5, 0, 0))), (1, .inr (.inr (9, i1, 0))), (4, .inl x4), (5, .inl x5)]) (st' := [.inl 1, .inl x5, .inr (.inr (26, 0, 0))]) (V' := q_V S) rfl ?_
  refine q_Sim.ck vc_60 (c := v_in x5 200 && v_bool 1) (pc' := 91) (lv' := [(0, .inr (.inr (5, 0, 0))), (1, .inr (.inr (9, i1, 0))), (4, .inl x4), (5, .inl x5)]) (st' := []) (V' := q_V (q_set S (26, 0, 0) x5.toNatClampNeg 1)) rfl ?_
  refine q_Sim.letS (fun S_9 => ?_)
  refine q_Sim.steps vc_60 2 (pc' := 93) (lv' := [(3, .inl 1), (0, .inr (.inr (5, 0, 0))), (1, .inr (.inr (9, i1, 0))), (4, .inl x4), (5, .inl x5)]) (st' := []) (V' := q_V S_9) rfl ?_
  exact q_Sim.sub2 (lv' := [(0, .inr (.inr (5, 0, 0))), (1, .inr (.inr (9, i1, 0))), (3, .inl 1), (4, .inl x4), (5, .inl x5)]) [0, 1, 3, 4, 5] rfl (by decide) ⟨rfl, rfl, rfl, rfl, rfl, trivial⟩ (sb_60_93 back_16 hb_16 back_32 hb_32 i1 1 x4 x5 S_9)
def b_60_32 (back_16 : Nat → Int32 → Int32 → QS → Option ((Unit) × QS)) : Nat → Nat → Int32 → Int32 → Int32 → QS → Option ((Unit) × QS)
  | 0, _, _, _, _, _ => none
  | n + 1, i1, x3, x4, x5, S => if (S.1 (9, i1, 0) 7) ≤ x5 then (back_16 i1 x3 (x4 + 1) S) else (q_bd (f_93 i1 x5 S) (fun r_4 S_5 => q_ck (v_in x5 200) (q_let (S_5.1 (26, 0, 0) x5.toNatClampNeg) (fun y_6 => if ¬ y_6 = 0 then (b_60_93 back_16 (b_60_32 back_16 n) i1 x3 x4 x5 S_5) else (q_bd (f_58 (S_5.1 (8, r_4.1, r_4.2) 2) S_5) (fun r_7 S_8 => if ¬ r_7 = 0 then (b_60_83 back_16 (b_60_32 back_16 n) i1 x4 x5 S_8) else (q_bd (f_58 (S_8.1 (8, r_4.1, r_4.2) 3) S_8) (fun r_10 S_11 => if r_10 = 0 then (b_60_93 back_16 (b_60_32 back_16 n) i1 x3 x4 x5 S_11) else (b_60_83 back_16 (b_60_32 back_16 n) i1 x4 x5 S_11)))))))))
theorem sb_60_32 (back_16 : Nat → Int32 → Int32 → QS → Option ((Unit) × QS)) (hb_16 : ∀ (i1 : Nat) (x3 : Int32) (x4 : Int32) (S : QS), q_Sim 60 16 [(0, .inr (.inr (5, 0, 0))), (1, .inr (.inr (9, i1, 0))), (3, .inl x3), (4, .inl x4)] [] (q_V S) q_U (back_16 i1 x3 x4 S)) : ∀ (n : Nat) (i1 : Nat) (x3 : Int32) (x4 : Int32) (x5 : Int32) (S : QS), q_Sim 60 32 [(0, .inr (.inr (5, 0, 0))), (1, .inr (.inr (9, i1, 0))), (3, .inl x3), (4, .inl x4), (5, .inl x5)] [] (q_V S) q_U (b_60_32 back_16 n i1 x3 x4 x5 S)
  | 0, _, _, _, _, _ => q_Sim.none
  | n + 1, i1, x3, x4, x5, S => by
    rw [b_60_32]
    refine q_Sim.steps vc_60 3 (pc' := 38) (lv' := [(0, .inr (.inr (5, 0, 0))), (1, .inr (.inr (9, i1, 0))), (3, .inl x3), (4, .inl x4), (5, .inl x5)]) (st' := [.inl (S.1 (9, i1, 0) 7), .inl x5]) (V' := q_V S) rfl ?_
    refine q_Sim.br vc_60 (c := (S.1 (9, i1, 0) 7) ≤ x5) (t := 99) (f := 41) (lv' := [(0, .inr (.inr (5, 0, 0))), (1, .inr (.inr (9, i1, 0))), (3, .inl x3), (4, .inl x4), (5, .inl x5)]) (st' := []) (V' := q_V S) rfl ?_ ?_
    · refine q_Sim.steps vc_60 2 (pc' := 16) (lv' := [(4, .inl (x4 + 1)), (0, .inr (.inr (5, 0, 0))), (1, .inr (.inr (9, i1, 0))), (3, .inl x3), (5, .inl x5)]) (st' := []) (V' := q_V S) rfl ?_
      exact q_Sim.sub2 (lv' := [(0, .inr (.inr (5, 0, 0))), (1, .inr (.inr (9, i1, 0))), (3, .inl x3), (4, .inl (x4 + 1))]) [0, 1, 3, 4] rfl (by decide) ⟨rfl, rfl, rfl, rfl, trivial⟩ (hb_16 i1 x3 (x4 + 1) S)
    · refine q_Sim.steps vc_60 2 (pc' := 44) (lv' := [(0, .inr (.inr (5, 0, 0))), (1, .inr (.inr (9, i1, 0))), (3, .inl x3), (4, .inl x4), (5, .inl x5)]) (st' := [.inl x5, .inr (.inr (9, i1, 0))]) (V' := q_V S) rfl ?_
      refine q_Sim.call vc_60 (as := [.inr (.inr (9, i1, 0)), .inl x5]) (pc' := 47) (lv' := [(0, .inr (.inr (5, 0, 0))), (1, .inr (.inr (9, i1, 0))), (3, .inl x3), (4, .inl x4), (5, .inl x5)]) (st' := []) (S := S) rfl (rc_93 i1 x5) (s_93 i1 x5 S) (fun r_4 S_5 => ?_)
      refine q_Sim.steps vc_60 4 (pc' := 55) (lv' := [(6, .inr (.inr (8, r_4.1, r_4.2))), (0, .inr (.inr (5, 0, 0))), (1, .inr (.inr (9, i1, 0))), (3, .inl x3), (4, .inl x4), (5, .inl x5)]) (st' := [.inl x5, .inr (.inr (26, 0, 0))]) (V' := q_V S_5) rfl ?_
      refine q_Sim.ck vc_60 (c := v_in x5 200) (pc' := 56) (lv' := [(6, .inr (.inr (8, r_4.1, r_4.2))), (0, .inr (.inr (5, 0, 0))), (1, .inr (.inr (9, i1, 0))), (3, .inl x3), (4, .inl x4), (5, .inl x5)]) (st' := [.inl (S_5.1 (26, 0, 0) x5.toNatClampNeg)]) (V' := q_V S_5) rfl ?_
      refine q_Sim.letI (fun y_6 => ?_)
      refine q_Sim.br vc_60 (c := ¬ y_6 = 0) (t := 93) (f := 59) (lv' := [(6, .inr (.inr (8, r_4.1, r_4.2))), (0, .inr (.inr (5, 0, 0))), (1, .inr (.inr (9, i1, 0))), (3, .inl x3), (4, .inl x4), (5, .inl x5)]) (st' := []) (V' := q_V S_5) rfl ?_ ?_
      · exact q_Sim.sub2 (lv' := [(0, .inr (.inr (5, 0, 0))), (1, .inr (.inr (9, i1, 0))), (3, .inl x3), (4, .inl x4), (5, .inl x5)]) [0, 1, 3, 4, 5] rfl (by decide) ⟨rfl, rfl, rfl, rfl, rfl, trivial⟩ (sb_60_93 back_16 hb_16 (b_60_32 back_16 n) (sb_60_32 back_16 hb_16 n) i1 x3 x4 x5 S_5)
      · refine q_Sim.steps vc_60 3 (pc' := 65) (lv' := [(6, .inr (.inr (8, r_4.1, r_4.2))), (0, .inr (.inr (5, 0, 0))), (1, .inr (.inr (9, i1, 0))), (3, .inl x3), (4, .inl x4), (5, .inl x5)]) (st' := [.inl (S_5.1 (8, r_4.1, r_4.2) 2), .inr (.inr (5, 0, 0))]) (V' := q_V S_5) rfl ?_
        refine q_Sim.call vc_60 (as := [.inr (.inr (5, 0, 0)), .inl (S_5.1 (8, r_4.1, r_4.2) 2)]) (pc' := 68) (lv' := [(6, .inr (.inr (8, r_4.1, r_4.2))), (0, .inr (.inr (5, 0, 0))), (1, .inr (.inr (9, i1, 0))), (3, .inl x3), (4, .inl x4), (5, .inl x5)]) (st' := []) (S := S_5) rfl (rc_58 (S_5.1 (8, r_4.1, r_4.2) 2)) (s_58 (S_5.1 (8, r_4.1, r_4.2) 2) S_5) (fun r_7 S_8 => ?_)
        refine q_Sim.br vc_60 (c := ¬ r_7 = 0) (t := 83) (f := 71) (lv' := [(6, .inr (.inr (8, r_4.1, r_4.2))), (0, .inr (.inr (5, 0, 0))), (1, .inr (.inr (9, i1, 0))), (3, .inl x3), (4, .inl x4), (5, .inl x5)]) (st' := []) (V' := q_V S_8) rfl ?_ ?_
        · exact q_Sim.sub2 (lv' := [(0, .inr (.inr (5, 0, 0))), (1, .inr (.inr (9, i1, 0))), (4, .inl x4), (5, .inl x5)]) [0, 1, 4, 5] rfl (by decide) ⟨rfl, rfl, rfl, rfl, trivial⟩ (sb_60_83 back_16 hb_16 (b_60_32 back_16 n) (sb_60_32 back_16 hb_16 n) i1 x4 x5 S_8)
        · refine q_Sim.steps vc_60 3 (pc' := 77) (lv' := [(6, .inr (.inr (8, r_4.1, r_4.2))), (0, .inr (.inr (5, 0, 0))), (1, .inr (.inr (9, i1, 0))), (3, .inl x3), (4, .inl x4), (5, .inl x5)]) (st' := [.inl (S_8.1 (8, r_4.1, r_4.2) 3), .inr (.inr (5, 0, 0))]) (V' := q_V S_8) rfl ?_
          refine q_Sim.call vc_60 (as := [.inr (.inr (5, 0, 0)), .inl (S_8.1 (8, r_4.1, r_4.2) 3)]) (pc' := 80) (lv' := [(6, .inr (.inr (8, r_4.1, r_4.2))), (0, .inr (.inr (5, 0, 0))), (1, .inr (.inr (9, i1, 0))), (3, .inl x3), (4, .inl x4), (5, .inl x5)]) (st' := []) (S := S_8) rfl (rc_58 (S_8.1 (8, r_4.1, r_4.2) 3)) (s_58 (S_8.1 (8, r_4.1, r_4.2) 3) S_8) (fun r_10 S_11 => ?_)
          refine q_Sim.br vc_60 (c := r_10 = 0) (t := 93) (f := 83) (lv' := [(6, .inr (.inr (8, r_4.1, r_4.2))), (0, .inr (.inr (5, 0, 0))), (1, .inr (.inr (9, i1, 0))), (3, .inl x3), (4, .inl x4), (5, .inl x5)]) (st' := []) (V' := q_V S_11) rfl ?_ ?_
          · exact q_Sim.sub2 (lv' := [(0, .inr (.inr (5, 0, 0))), (1, .inr (.inr (9, i1, 0))), (3, .inl x3), (4, .inl x4), (5, .inl x5)]) [0, 1, 3, 4, 5] rfl (by decide) ⟨rfl, rfl, rfl, rfl, rfl, trivial⟩ (sb_60_93 back_16 hb_16 (b_60_32 back_16 n) (sb_60_32 back_16 hb_16 n) i1 x3 x4 x5 S_11)
          · exact q_Sim.sub2 (lv' := [(0, .inr (.inr (5, 0, 0))), (1, .inr (.inr (9, i1, 0))), (4, .inl x4), (5, .inl x5)]) [0, 1, 4, 5] rfl (by decide) ⟨rfl, rfl, rfl, rfl, trivial⟩ (sb_60_83 back_16 hb_16 (b_60_32 back_16 n) (sb_60_32 back_16 hb_16 n) i1 x4 x5 S_11)
def b_60_16 : Nat → Nat → Int32 → Int32 → QS → Option ((Unit) × QS)
  | 0, _, _, _, _ => none
  | n + 1, i1, x3, x4, S => if 15 < x4 then (some ((), S)) else (if x3 = 0 then (some ((), S)) else (b_60_32 (b_60_16 n) q_N i1 0 x4 0 S))
theorem sb_60_16 : ∀ (n : Nat) (i1 : Nat) (x3 : Int32) (x4 : Int32) (S : QS), q_Sim 60 16 [(0, .inr (.inr (5, 0, 0))), (1, .inr (.inr (9, i1, 0))), (3, .inl x3), (4, .inl x4)] [] (q_V S) q_U (b_60_16 n i1 x3 x4 S)
  | 0, _, _, _, _ => q_Sim.none
  | n + 1, i1, x3, x4, S => by
    rw [b_60_16]
    refine q_Sim.steps vc_60 2 (pc' := 20) (lv' := [(0, .inr (.inr (5, 0, 0))), (1, .inr (.inr (9, i1, 0))), (3, .inl x3), (4, .inl x4)]) (st' := [.inl 15, .inl x4]) (V' := q_V S) rfl ?_
    refine q_Sim.br vc_60 (c := 15 < x4) (t := 105) (f := 23) (lv' := [(0, .inr (.inr (5, 0, 0))), (1, .inr (.inr (9, i1, 0))), (3, .inl x3), (4, .inl x4)]) (st' := []) (V' := q_V S) rfl ?_ ?_
    · exact q_Sim.ret vc_60 rfl
    · refine q_Sim.steps vc_60 1 (pc' := 24) (lv' := [(0, .inr (.inr (5, 0, 0))), (1, .inr (.inr (9, i1, 0))), (3, .inl x3), (4, .inl x4)]) (st' := [.inl x3]) (V' := q_V S) rfl ?_
      refine q_Sim.br vc_60 (c := x3 = 0) (t := 105) (f := 27) (lv' := [(0, .inr (.inr (5, 0, 0))), (1, .inr (.inr (9, i1, 0))), (3, .inl x3), (4, .inl x4)]) (st' := []) (V' := q_V S) rfl ?_ ?_
      · exact q_Sim.ret vc_60 rfl
      · refine q_Sim.steps vc_60 4 (pc' := 32) (lv' := [(5, .inl 0), (3, .inl 0), (0, .inr (.inr (5, 0, 0))), (1, .inr (.inr (9, i1, 0))), (4, .inl x4)]) (st' := []) (V' := q_V S) rfl ?_
        exact q_Sim.sub2 (lv' := [(0, .inr (.inr (5, 0, 0))), (1, .inr (.inr (9, i1, 0))), (3, .inl 0), (4, .inl x4), (5, .inl 0)]) [0, 1, 3, 4, 5] rfl (by decide) ⟨rfl, rfl, rfl, rfl, rfl, trivial⟩ (sb_60_32 (b_60_16 n) (sb_60_16 n) q_N i1 0 x4 0 S)
def f_60 (i1 : Nat) (x2 : Int32) (S : QS) : Option ((Unit) × QS) := q_bd (f_59  S) (fun r_1 S_2 => q_ck (v_in x2 200 && v_bool 1) (q_let (q_set S_2 (26, 0, 0) x2.toNatClampNeg 1) (fun S_3 => b_60_16 q_N i1 1 0 S_3)))
theorem s_60 (i1 : Nat) (x2 : Int32) (S : QS) : q_Sim 60 0 [(0, .inr (.inr (5, 0, 0))), (1, .inr (.inr (9, i1, 0))), (2, .inl x2)] [] (q_V S) q_U (f_60 i1 x2 S) := by
  unfold f_60
  refine q_Sim.steps vc_60 1 (pc' := 1) (lv' := [(0, .inr (.inr (5, 0, 0))), (1, .inr (.inr (9, i1, 0))), (2, .inl x2)]) (st' := [.inr (.inr (5, 0, 0))]) (V' := q_V S) rfl ?_
  refine q_Sim.call vc_60 (as := [.inr (.inr (5, 0, 0))]) (pc' := 4) (lv' := [(0, .inr (.inr (5, 0, 0))), (1, .inr (.inr (9, i1, 0))), (2, .inl x2)]) (st' := []) (S := S) rfl (rc_59 ) (s_59  S) (fun r_1 S_2 => ?_)
  refine q_Sim.steps vc_60 4 (pc' := 10) (lv' := [(0, .inr (.inr (5, 0, 0))), (1, .inr (.inr (9, i1, 0))), (2, .inl x2)]) (st' := [.inl 1, .inl x2, .inr (.inr (26, 0, 0))]) (V' := q_V S_2) rfl ?_
  refine q_Sim.ck vc_60 (c := v_in x2 200 && v_bool 1) (pc' := 11) (lv' := [(0, .inr (.inr (5, 0, 0))), (1, .inr (.inr (9, i1, 0))), (2, .inl x2)]) (st' := []) (V' := q_V (q_set S_2 (26, 0, 0) x2.toNatClampNeg 1)) rfl ?_
  refine q_Sim.letS (fun S_3 => ?_)
  refine q_Sim.steps vc_60 4 (pc' := 16) (lv' := [(4, .inl 0), (3, .inl 1), (0, .inr (.inr (5, 0, 0))), (1, .inr (.inr (9, i1, 0))), (2, .inl x2)]) (st' := []) (V' := q_V S_3) rfl ?_
  exact q_Sim.sub2 (lv' := [(0, .inr (.inr (5, 0, 0))), (1, .inr (.inr (9, i1, 0))), (3, .inl 1), (4, .inl 0)]) [0, 1, 3, 4] rfl (by decide) ⟨rfl, rfl, rfl, rfl, trivial⟩ (sb_60_16 q_N i1 1 0 S_3)
theorem vc_62 : v_code 62 = k_62 := rfl
theorem rc_62 (x1 : Int32) (x2 : Int32) : v_rcv 62 [.inr (.inr (5, 0, 0)), .inl x1, .inl x2] = true := rfl
def b_62_33 (xs0 : Int32) (xs1 : Int32) (xs2 : Int32) (S : QS) : Option ((Int32) × QS) := q_let (if xs1 < xs2 then xs2 else xs1) (fun y_3 => some (xs0 + y_3, S))
theorem sb_62_33 (xs0 : Int32) (xs1 : Int32) (xs2 : Int32) (S : QS) : q_Sim 62 33 [] [.inl xs2, .inl xs1, .inl xs0] (q_V S) q_I (b_62_33 xs0 xs1 xs2 S) := by
  unfold b_62_33
  refine q_Sim.steps vc_62 1 (pc' := 36) (lv' := []) (st' := [.inl (if xs1 < xs2 then xs2 else xs1), .inl xs0]) (V' := q_V S) rfl ?_
  refine q_Sim.letI (fun y_3 => ?_)
  refine q_Sim.steps vc_62 1 (pc' := 37) (lv' := []) (st' := [.inl (xs0 + y_3)]) (V' := q_V S) rfl ?_
  exact q_Sim.ret vc_62 rfl
def b_62_15 (x2 : Int32) (xs0 : Int32) (S : QS) : Option ((Int32) × QS) := if ¬ x2 = (-1) then (q_ck (v_in x2 200) (q_let (S.1 (27, 0, 0) x2.toNatClampNeg) (fun y_2 => b_62_33 1 xs0 y_2 S))) else (b_62_33 1 xs0 (-1) S)
theorem sb_62_15 (x2 : Int32) (xs0 : Int32) (S : QS) : q_Sim 62 15 [(0, .inr (.inr (5, 0, 0))), (2, .inl x2)] [.inl xs0] (q_V S) q_I (b_62_15 x2 xs0 S) := by
  unfold b_62_15
  refine q_Sim.steps vc_62 5 (pc' := 20) (lv' := [(3, .inl xs0), (0, .inr (.inr (5, 0, 0))), (2, .inl x2)]) (st' := [.inl (-1), .inl x2, .inl xs0, .inl 1]) (V' := q_V S) rfl ?_
  refine q_Sim.br vc_62 (c := ¬ x2 = (-1)) (t := 27) (f := 23) (lv' := [(3, .inl xs0), (0, .inr (.inr (5, 0, 0))), (2, .inl x2)]) (st' := [.inl xs0, .inl 1]) (V' := q_V S) rfl ?_ ?_
  · refine q_Sim.steps vc_62 3 (pc' := 32) (lv' := [(3, .inl xs0), (0, .inr (.inr (5, 0, 0))), (2, .inl x2)]) (st' := [.inl x2, .inr (.inr (27, 0, 0)), .inl xs0, .inl 1]) (V' := q_V S) rfl ?_
    refine q_Sim.ck vc_62 (c := v_in x2 200) (pc' := 33) (lv' := [(3, .inl xs0), (0, .inr (.inr (5, 0, 0))), (2, .inl x2)]) (st' := [.inl (S.1 (27, 0, 0) x2.toNatClampNeg), .inl xs0, .inl 1]) (V' := q_V S) rfl ?_
    refine q_Sim.letI (fun y_2 => ?_)
    exact q_Sim.sub2 (lv' := []) [] rfl (by decide) trivial (sb_62_33 1 xs0 y_2 S)
  · refine q_Sim.steps vc_62 2 (pc' := 33) (lv' := [(3, .inl xs0), (0, .inr (.inr (5, 0, 0))), (2, .inl x2)]) (st' := [.inl (-1), .inl xs0, .inl 1]) (V' := q_V S) rfl ?_
    exact q_Sim.sub2 (lv' := []) [] rfl (by decide) trivial (sb_62_33 1 xs0 (-1) S)
def f_62 (x1 : Int32) (x2 : Int32) (S : QS) : Option ((Int32) × QS) := if ¬ x1 = (-1) then (q_ck (v_in x1 200) (q_let (S.1 (27, 0, 0) x1.toNatClampNeg) (fun y_1 => b_62_15 x2 y_1 S))) else (b_62_15 x2 (-1) S)
theorem s_62 (x1 : Int32) (x2 : Int32) (S : QS) : q_Sim 62 0 [(0, .inr (.inr (5, 0, 0))), (1, .inl x1), (2, .inl x2)] [] (q_V S) q_I (f_62 x1 x2 S) := by
  unfold f_62
  refine q_Sim.steps vc_62 2 (pc' := 2) (lv' := [(0, .inr (.inr (5, 0, 0))), (1, .inl x1), (2, .inl x2)]) (st' := [.inl (-1), .inl x1]) (V' := q_V S) rfl ?_
  refine q_Sim.br vc_62 (c := ¬ x1 = (-1)) (t := 9) (f := 5) (lv' := [(0, .inr (.inr (5, 0, 0))), (1, .inl x1), (2, .inl x2)]) (st' := []) (V' := q_V S) rfl ?_ ?_
  · refine q_Sim.steps vc_62 3 (pc' := 14) (lv' := [(0, .inr (.inr (5, 0, 0))), (1, .inl x1), (2, .inl x2)]) (st' := [.inl x1, .inr (.inr (27, 0, 0))]) (V' := q_V S) rfl ?_
    refine q_Sim.ck vc_62 (c := v_in x1 200) (pc' := 15) (lv' := [(0, .inr (.inr (5, 0, 0))), (1, .inl x1), (2, .inl x2)]) (st' := [.inl (S.1 (27, 0, 0) x1.toNatClampNeg)]) (V' := q_V S) rfl ?_
    refine q_Sim.letI (fun y_1 => ?_)
    exact q_Sim.sub2 (lv' := [(0, .inr (.inr (5, 0, 0))), (2, .inl x2)]) [0, 2] rfl (by decide) ⟨rfl, rfl, trivial⟩ (sb_62_15 x2 y_1 S)
  · refine q_Sim.steps vc_62 2 (pc' := 15) (lv' := [(0, .inr (.inr (5, 0, 0))), (1, .inl x1), (2, .inl x2)]) (st' := [.inl (-1)]) (V' := q_V S) rfl ?_
    exact q_Sim.sub2 (lv' := [(0, .inr (.inr (5, 0, 0))), (2, .inl x2)]) [0, 2] rfl (by decide) ⟨rfl, rfl, trivial⟩ (sb_62_15 x2 (-1) S)
theorem vc_61 : v_code 61 = k_61 := rfl
theorem rc_61 (i1 : Nat) (x2 : Int32) (x3 : Int32) (x4 : Int32) : v_rcv 61 [.inr (.inr (5, 0, 0)), .inr (.inr (9, i1, 0)), .inl x2, .inl x3, .inl x4] = true := rfl
def b_61_146 (back_58 : Nat → Int32 → Int32 → Int32 → QS → Option ((Int32) × QS)) (back_68 : Nat → Int32 → Int32 → Int32 → Int32 → QS → Option ((Int32) × QS)) (i1 : Nat) (x2 : Int32) (x5 : Int32) (x6 : Int32) (x7 : Int32) (S : QS) : Option ((Int32) × QS) := back_68 i1 x2 x5 x6 (x7 + 1) S
theorem sb_61_146 (back_58 : Nat → Int32 → Int32 → Int32 → QS → Option ((Int32) × QS)) (hb_58 : ∀ (i1 : Nat) (x2 : Int32) (x5 : Int32) (x6 : Int32) (S : QS), q_Sim 61 58 [(0, .inr (.inr (5, 0, 0))), (1, .inr (.inr (9, i1, 0))), (2, .inl x2), (5, .inl x5), (6, .inl x6)] [] (q_V S) q_I (back_58 i1 x2 x5 x6 S)) (back_68 : Nat → Int32 → Int32 → Int32 → Int32 → QS → Option ((Int32) × QS)) (hb_68 : ∀ (i1 : Nat) (x2 : Int32) (x5 : Int32) (x6 : Int32) (x7 : Int32) (S : QS), q_Sim 61 68 [(0, .inr (.inr (5, 0, 0))), (1, .inr (.inr (9, i1, 0))), (2, .inl x2), (5, .inl x5), (6, .inl x6), (7, .inl x7)] [] (q_V S) q_I (back_68 i1 x2 x5 x6 x7 S)) (i1 : Nat) (x2 : Int32) (x5 : Int32) (x6 : Int32) (x7 : Int32) (S : QS) : q_Sim 61 146 [(0, .inr (.inr (5, 0, 0))), (1, .inr (.inr (9, i1, 0))), (2, .inl x2), (5, .inl x5), (6, .inl x6), (7, .inl x7)] [] (q_V S) q_I (b_61_146 back_58 back_68 i1 x2 x5 x6 x7 S) := by
  unfold b_61_146
  refine q_Sim.steps vc_61 2 (pc' := 68) (lv' := [(7, .inl (x7 + 1)), (0, .inr (.inr (5, 0, 0))), (1, .inr (.inr (9, i1, 0))), (2, .inl x2), (5, .inl x5), (6, .inl x6)]) (st' := []) (V' := q_V S) rfl ?_
  exact q_Sim.sub2 (lv' := [(0, .inr (.inr (5, 0, 0))), (1, .inr (.inr (9, i1, 0))), (2, .inl x2), (5, .inl x5), (6, .inl x6), (7, .inl (x7 + 1))]) [0, 1, 2, 5, 6, 7] rfl (by decide) ⟨rfl, rfl, rfl, rfl, rfl, rfl, trivial⟩ (hb_68 i1 x2 x5 x6 (x7 + 1) S)
def b_61_68 (back_58 : Nat → Int32 → Int32 → Int32 → QS → Option ((Int32) × QS)) : Nat → Nat → Int32 → Int32 → Int32 → Int32 → QS → Option ((Int32) × QS)
  | 0, _, _, _, _, _, _ => none
  | n + 1, i1, x2, x5, x6, x7, S => if (S.1 (9, i1, 0) 7) ≤ x7 then (back_58 i1 x2 x5 (x6 + 1) S) else (q_bd (f_93 i1 x7 S) (fun r_5 S_6 => if x7 = x2 then (b_61_146 back_58 (b_61_68 back_58 n) i1 x2 x5 x6 x7 S_6) else (q_ck (v_in x7 200) (q_let (S_6.1 (26, 0, 0) x7.toNatClampNeg) (fun y_7 => if y_7 = 0 then (b_61_146 back_58 (b_61_68 back_58 n) i1 x2 x5 x6 x7 S_6) else (if ¬ (S_6.1 (8, r_5.1, r_5.2) 4) = x6 then (b_61_146 back_58 (b_61_68 back_58 n) i1 x2 x5 x6 x7 S_6) else (q_bd (f_62 (S_6.1 (8, r_5.1, r_5.2) 2) (S_6.1 (8, r_5.1, r_5.2) 3) S_6) (fun r_8 S_9 => q_ck (v_in x7 200) (q_let (q_set S_9 (27, 0, 0) x7.toNatClampNeg r_8) (fun S_10 => q_ck (v_in x7 200) (q_let (S_10.1 (27, 0, 0) x7.toNatClampNeg) (fun y_11 => q_let (if x5 < y_11 then y_11 else x5) (fun y_12 => b_61_146 back_58 (b_61_68 back_58 n) i1 x2 y_12 x6 x7 S_10)))))))))))))
theorem sb_61_68 (back_58 : Nat → Int32 → Int32 → Int32 → QS → Option ((Int32) × QS)) (hb_58 : ∀ (i1 : Nat) (x2 : Int32) (x5 : Int32) (x6 : Int32) (S : QS), q_Sim 61 58 [(0, .inr (.inr (5, 0, 0))), (1, .inr (.inr (9, i1, 0))), (2, .inl x2), (5, .inl x5), (6, .inl x6)] [] (q_V S) q_I (back_58 i1 x2 x5 x6 S)) : ∀ (n : Nat) (i1 : Nat) (x2 : Int32) (x5 : Int32) (x6 : Int32) (x7 : Int32) (S : QS), q_Sim 61 68 [(0, .inr (.inr (5, 0, 0))), (1, .inr (.inr (9, i1, 0))), (2, .inl x2), (5, .inl x5), (6, .inl x6), (7, .inl x7)] [] (q_V S) q_I (b_61_68 back_58 n i1 x2 x5 x6 x7 S)
  | 0, _, _, _, _, _, _ => q_Sim.none
  | n + 1, i1, x2, x5, x6, x7, S => by
    rw [b_61_68]
    refine q_Sim.steps vc_61 3 (pc' := 74) (lv' := [(0, .inr (.inr (5, 0, 0))), (1, .inr (.inr (9, i1, 0))), (2, .inl x2), (5, .inl x5), (6, .inl x6), (7, .inl x7)]) (st' := [.inl (S.1 (9, i1, 0) 7), .inl x7]) (V' := q_V S) rfl ?_
    refine q_Sim.br vc_61 (c := (S.1 (9, i1, 0) 7) ≤ x7) (t := 152) (f := 77) (lv' := [(0, .inr (.inr (5, 0, 0))), (1, .inr (.inr (9, i1, 0))), (2, .inl x2), (5, .inl x5), (6, .inl x6), (7, .inl x7)]) (st' := []) (V' := q_V S) rfl ?_ ?_
    · refine q_Sim.steps vc_61 2 (pc' := 58) (lv' := [(6, .inl (x6 + 1)), (0, .inr (.inr (5, 0, 0))), (1, .inr (.inr (9, i1, 0))), (2, .inl x2), (5, .inl x5), (7, .inl x7)]) (st' := []) (V' := q_V S) rfl ?_
      exact q_Sim.sub2 (lv' := [(0, .inr (.inr (5, 0, 0))), (1, .inr (.inr (9, i1, 0))), (2, .inl x2), (5, .inl x5), (6, .inl (x6 + 1))]) [0, 1, 2, 5, 6] rfl (by decide) ⟨rfl, rfl, rfl, rfl, rfl, trivial⟩ (hb_58 i1 x2 x5 (x6 + 1) S)
    · refine q_Sim.steps vc_61 2 (pc' := 80) (lv' := [(0, .inr (.inr (5, 0, 0))), (1, .inr (.inr (9, i1, 0))), (2, .inl x2), (5, .inl x5), (6, .inl x6), (7, .inl x7)]) (st' := [.inl x7, .inr (.inr (9, i1, 0))]) (V' := q_V S) rfl ?_
      refine q_Sim.call vc_61 (as := [.inr (.inr (9, i1, 0)), .inl x7]) (pc' := 83) (lv' := [(0, .inr (.inr (5, 0, 0))), (1, .inr (.inr (9, i1, 0))), (2, .inl x2), (5, .inl x5), (6, .inl x6), (7, .inl x7)]) (st' := []) (S := S) rfl (rc_93 i1 x7) (s_93 i1 x7 S) (fun r_5 S_6 => ?_)
      refine q_Sim.steps vc_61 3 (pc' := 88) (lv' := [(8, .inr (.inr (8, r_5.1, r_5.2))), (0, .inr (.inr (5, 0, 0))), (1, .inr (.inr (9, i1, 0))), (2, .inl x2), (5, .inl x5), (6, .inl x6), (7, .inl x7)]) (st' := [.inl x2, .inl x7]) (V' := q_V S_6) rfl ?_
      refine q_Sim.br vc_61 (c := x7 = x2) (t := 146) (f := 91) (lv' := [(8, .inr (.inr (8, r_5.1, r_5.2))), (0, .inr (.inr (5, 0, 0))), (1, .inr (.inr (9, i1, 0))), (2, .inl x2), (5, .inl x5), (6, .inl x6), (7, .inl x7)]) (st' := []) (V' := q_V S_6) rfl ?_ ?_
      · exact q_Sim.sub2 (lv' := [(0, .inr (.inr (5, 0, 0))), (1, .inr (.inr (9, i1, 0))), (2, .inl x2), (5, .inl x5), (6, .inl x6), (7, .inl x7)]) [0, 1, 2, 5, 6, 7] rfl (by decide) ⟨rfl, rfl, rfl, rfl, rfl, rfl, trivial⟩ (sb_61_146 back_58 hb_58 (b_61_68 back_58 n) (sb_61_68 back_58 hb_58 n) i1 x2 x5 x6 x7 S_6)
      · refine q_Sim.steps vc_61 3 (pc' := 97) (lv' := [(8, .inr (.inr (8, r_5.1, r_5.2))), (0, .inr (.inr (5, 0, 0))), (1, .inr (.inr (9, i1, 0))), (2, .inl x2), (5, .inl x5), (6, .inl x6), (7, .inl x7)]) (st' := [.inl x7, .inr (.inr (26, 0, 0))]) (V' := q_V S_6) rfl ?_
        refine q_Sim.ck vc_61 (c := v_in x7 200) (pc' := 98) (lv' := [(8, .inr (.inr (8, r_5.1, r_5.2))), (0, .inr (.inr (5, 0, 0))), (1, .inr (.inr (9, i1, 0))), (2, .inl x2), (5, .inl x5), (6, .inl x6), (7, .inl x7)]) (st' := [.inl (S_6.1 (26, 0, 0) x7.toNatClampNeg)]) (V' := q_V S_6) rfl ?_
        refine q_Sim.letI (fun y_7 => ?_)
        refine q_Sim.br vc_61 (c := y_7 = 0) (t := 146) (f := 101) (lv' := [(8, .inr (.inr (8, r_5.1, r_5.2))), (0, .inr (.inr (5, 0, 0))), (1, .inr (.inr (9, i1, 0))), (2, .inl x2), (5, .inl x5), (6, .inl x6), (7, .inl x7)]) (st' := []) (V' := q_V S_6) rfl ?_ ?_
        · exact q_Sim.sub2 (lv' := [(0, .inr (.inr (5, 0, 0))), (1, .inr (.inr (9, i1, 0))), (2, .inl x2), (5, .inl x5), (6, .inl x6), (7, .inl x7)]) [0, 1, 2, 5, 6, 7] rfl (by decide) ⟨rfl, rfl, rfl, rfl, rfl, rfl, trivial⟩ (sb_61_146 back_58 hb_58 (b_61_68 back_58 n) (sb_61_68 back_58 hb_58 n) i1 x2 x5 x6 x7 S_6)
        · refine q_Sim.steps vc_61 3 (pc' := 108) (lv' := [(8, .inr (.inr (8, r_5.1, r_5.2))), (0, .inr (.inr (5, 0, 0))), (1, .inr (.inr (9, i1, 0))), (2, .inl x2), (5, .inl x5), (6, .inl x6), (7, .inl x7)]) (st' := [.inl x6, .inl (S_6.1 (8, r_5.1, r_5.2) 4)]) (V' := q_V S_6) rfl ?_
          refine q_Sim.br vc_61 (c := ¬ (S_6.1 (8, r_5.1, r_5.2) 4) = x6) (t := 146) (f := 111) (lv' := [(8, .inr (.inr (8, r_5.1, r_5.2))), (0, .inr (.inr (5, 0, 0))), (1, .inr (.inr (9, i1, 0))), (2, .inl x2), (5, .inl x5), (6, .inl x6), (7, .inl x7)]) (st' := []) (V' := q_V S_6) rfl ?_ ?_
          · exact q_Sim.sub2 (lv' := [(0, .inr (.inr (5, 0, 0))), (1, .inr (.inr (9, i1, 0))), (2, .inl x2), (5, .inl x5), (6, .inl x6), (7, .inl x7)]) [0, 1, 2, 5, 6, 7] rfl (by decide) ⟨rfl, rfl, rfl, rfl, rfl, rfl, trivial⟩ (sb_61_146 back_58 hb_58 (b_61_68 back_58 n) (sb_61_68 back_58 hb_58 n) i1 x2 x5 x6 x7 S_6)
          · refine q_Sim.steps vc_61 8 (pc' := 128) (lv' := [(8, .inr (.inr (8, r_5.1, r_5.2))), (0, .inr (.inr (5, 0, 0))), (1, .inr (.inr (9, i1, 0))), (2, .inl x2), (5, .inl x5), (6, .inl x6), (7, .inl x7)]) (st' := [.inl (S_6.1 (8, r_5.1, r_5.2) 3), .inl (S_6.1 (8, r_5.1, r_5.2) 2), .inr (.inr (5, 0, 0)), .inl x7, .inr (.inr (27, 0, 0))]) (V' := q_V S_6) rfl ?_
            refine q_Sim.call vc_61 (as := [.inr (.inr (5, 0, 0)), .inl (S_6.1 (8, r_5.1, r_5.2) 2), .inl (S_6.1 (8, r_5.1, r_5.2) 3)]) (pc' := 131) (lv' := [(8, .inr (.inr (8, r_5.1, r_5.2))), (0, .inr (.inr (5, 0, 0))), (1, .inr (.inr (9, i1, 0))), (2, .inl x2), (5, .inl x5), (6, .inl x6), (7, .inl x7)]) (st' := [.inl x7, .inr (.inr (27, 0, 0))]) (S := S_6) rfl (rc_62 (S_6.1 (8, r_5.1, r_5.2) 2) (S_6.1 (8, r_5.1, r_5.2) 3)) (s_62 (S_6.1 (8, r_5.1, r_5.2) 2) (S_6.1 (8, r_5.1, r_5.2) 3) S_6) (fun r_8 S_9 => ?_)
            refine q_Sim.ck vc_61 (c := v_in x7 200) (pc' := 132) (lv' := [(8, .inr (.inr (8, r_5.1, r_5.2))), (0, .inr (.inr (5, 0, 0))), (1, .inr (.inr (9, i1, 0))), (2, .inl x2), (5, .inl x5), (6, .inl x6), (7, .inl x7)]) (st' := []) (V' := q_V (q_set S_9 (27, 0, 0) x7.toNatClampNeg r_8)) rfl ?_
            refine q_Sim.letS (fun S_10 => ?_)
            refine q_Sim.steps vc_61 4 (pc' := 140) (lv' := [(8, .inr (.inr (8, r_5.1, r_5.2))), (0, .inr (.inr (5, 0, 0))), (1, .inr (.inr (9, i1, 0))), (2, .inl x2), (5, .inl x5), (6, .inl x6), (7, .inl x7)]) (st' := [.inl x7, .inr (.inr (27, 0, 0)), .inl x5]) (V' := q_V S_10) rfl ?_
            refine q_Sim.ck vc_61 (c := v_in x7 200) (pc' := 141) (lv' := [(8, .inr (.inr (8, r_5.1, r_5.2))), (0, .inr (.inr (5, 0, 0))), (1, .inr (.inr (9, i1, 0))), (2, .inl x2), (5, .inl x5), (6, .inl x6), (7, .inl x7)]) (st' := [.inl (S_10.1 (27, 0, 0) x7.toNatClampNeg), .inl x5]) (V' := q_V S_10) rfl ?_
            refine q_Sim.letI (fun y_11 => ?_)
            refine q_Sim.steps vc_61 1 (pc' := 144) (lv' := [(8, .inr (.inr (8, r_5.1, r_5.2))), (0, .inr (.inr (5, 0, 0))), (1, .inr (.inr (9, i1, 0))), (2, .inl x2), (5, .inl x5), (6, .inl x6), (7, .inl x7)]) (st' := [.inl (if x5 < y_11 then y_11 else x5)]) (V' := q_V S_10) rfl ?_
            refine q_Sim.letI (fun y_12 => ?_)
            refine q_Sim.steps vc_61 1 (pc' := 146) (lv' := [(5, .inl y_12), (8, .inr (.inr (8, r_5.1, r_5.2))), (0, .inr (.inr (5, 0, 0))), (1, .inr (.inr (9, i1, 0))), (2, .inl x2), (6, .inl x6), (7, .inl x7)]) (st' := []) (V' := q_V S_10) rfl ?_
            exact q_Sim.sub2 (lv' := [(0, .inr (.inr (5, 0, 0))), (1, .inr (.inr (9, i1, 0))), (2, .inl x2), (5, .inl y_12), (6, .inl x6), (7, .inl x7)]) [0, 1, 2, 5, 6, 7] rfl (by decide) ⟨rfl, rfl, rfl, rfl, rfl, rfl, trivial⟩ (sb_61_146 back_58 hb_58 (b_61_68 back_58 n) (sb_61_68 back_58 hb_58 n) i1 x2 y_12 x6 x7 S_10)
def b_61_58 : Nat → Nat → Int32 → Int32 → Int32 → QS → Option ((Int32) × QS)
  | 0, _, _, _, _, _ => none
  | n + 1, i1, x2, x5, x6, S => if 15 < x6 then (some (x5, S)) else (b_61_68 (b_61_58 n) q_N i1 x2 x5 x6 0 S)
theorem sb_61_58 : ∀ (n : Nat) (i1 : Nat) (x2 : Int32) (x5 : Int32) (x6 : Int32) (S : QS), q_Sim 61 58 [(0, .inr (.inr (5, 0, 0))), (1, .inr (.inr (9, i1, 0))), (2, .inl x2), (5, .inl x5), (6, .inl x6)] [] (q_V S) q_I (b_61_58 n i1 x2 x5 x6 S)
  | 0, _, _, _, _, _ => q_Sim.none
  | n + 1, i1, x2, x5, x6, S => by
    rw [b_61_58]
    refine q_Sim.steps vc_61 2 (pc' := 62) (lv' := [(0, .inr (.inr (5, 0, 0))), (1, .inr (.inr (9, i1, 0))), (2, .inl x2), (5, .inl x5), (6, .inl x6)]) (st' := [.inl 15, .inl x6]) (V' := q_V S) rfl ?_
    refine q_Sim.br vc_61 (c := 15 < x6) (t := 158) (f := 65) (lv' := [(0, .inr (.inr (5, 0, 0))), (1, .inr (.inr (9, i1, 0))), (2, .inl x2), (5, .inl x5), (6, .inl x6)]) (st' := []) (V' := q_V S) rfl ?_ ?_
    · refine q_Sim.steps vc_61 1 (pc' := 160) (lv' := [(0, .inr (.inr (5, 0, 0))), (1, .inr (.inr (9, i1, 0))), (2, .inl x2), (5, .inl x5), (6, .inl x6)]) (st' := [.inl x5]) (V' := q_V S) rfl ?_
      exact q_Sim.ret vc_61 rfl
    · refine q_Sim.steps vc_61 2 (pc' := 68) (lv' := [(7, .inl 0), (0, .inr (.inr (5, 0, 0))), (1, .inr (.inr (9, i1, 0))), (2, .inl x2), (5, .inl x5), (6, .inl x6)]) (st' := []) (V' := q_V S) rfl ?_
      exact q_Sim.sub2 (lv' := [(0, .inr (.inr (5, 0, 0))), (1, .inr (.inr (9, i1, 0))), (2, .inl x2), (5, .inl x5), (6, .inl x6), (7, .inl 0)]) [0, 1, 2, 5, 6, 7] rfl (by decide) ⟨rfl, rfl, rfl, rfl, rfl, rfl, trivial⟩ (sb_61_68 (b_61_58 n) (sb_61_58 n) q_N i1 x2 x5 x6 0 S)
def b_61_3 : Nat → Nat → Int32 → Int32 → Int32 → Int32 → QS → Option ((Int32) × QS)
  | 0, _, _, _, _, _, _ => none
  | n + 1, i1, x2, x3, x4, x5, S => if (S.1 (9, i1, 0) 7) ≤ x5 then (q_bd (f_62 x3 x4 S) (fun r_1 S_2 => q_ck (v_in x2 200) (q_let (q_set S_2 (27, 0, 0) x2.toNatClampNeg r_1) (fun S_3 => q_ck (v_in x2 200) (q_let (S_3.1 (27, 0, 0) x2.toNatClampNeg) (fun y_4 => b_61_58 q_N i1 x2 y_4 1 S_3)))))) else (q_bd (f_93 i1 x5 S) (fun r_13 S_14 => q_ck (v_in x5 200) (q_let (q_set S_14 (27, 0, 0) x5.toNatClampNeg (S_14.1 (8, r_13.1, r_13.2) 4)) (fun S_15 => b_61_3 n i1 x2 x3 x4 (x5 + 1) S_15))))
theorem sb_61_3 : ∀ (n : Nat) (i1 : Nat) (x2 : Int32) (x3 : Int32) (x4 : Int32) (x5 : Int32) (S : QS), q_Sim 61 3 [(0, .inr (.inr (5, 0, 0))), (1, .inr (.inr (9, i1, 0))), (2, .inl x2), (3, .inl x3), (4, .inl x4), (5, .inl x5)] [] (q_V S) q_I (b_61_3 n i1 x2 x3 x4 x5 S)
  | 0, _, _, _, _, _, _ => q_Sim.none
  | n + 1, i1, x2, x3, x4, x5, S => by
    rw [b_61_3]
    refine q_Sim.steps vc_61 3 (pc' := 9) (lv' := [(0, .inr (.inr (5, 0, 0))), (1, .inr (.inr (9, i1, 0))), (2, .inl x2), (3, .inl x3), (4, .inl x4), (5, .inl x5)]) (st' := [.inl (S.1 (9, i1, 0) 7), .inl x5]) (V' := q_V S) rfl ?_
    refine q_Sim.br vc_61 (c := (S.1 (9, i1, 0) 7) ≤ x5) (t := 34) (f := 12) (lv' := [(0, .inr (.inr (5, 0, 0))), (1, .inr (.inr (9, i1, 0))), (2, .inl x2), (3, .inl x3), (4, .inl x4), (5, .inl x5)]) (st' := []) (V' := q_V S) rfl ?_ ?_
    · refine q_Sim.steps vc_61 6 (pc' := 43) (lv' := [(0, .inr (.inr (5, 0, 0))), (1, .inr (.inr (9, i1, 0))), (2, .inl x2), (3, .inl x3), (4, .inl x4), (5, .inl x5)]) (st' := [.inl x4, .inl x3, .inr (.inr (5, 0, 0)), .inl x2, .inr (.inr (27, 0, 0))]) (V' := q_V S) rfl ?_
      refine q_Sim.call vc_61 (as := [.inr (.inr (5, 0, 0)), .inl x3, .inl x4]) (pc' := 46) (lv' := [(0, .inr (.inr (5, 0, 0))), (1, .inr (.inr (9, i1, 0))), (2, .inl x2), (3, .inl x3), (4, .inl x4), (5, .inl x5)]) (st' := [.inl x2, .inr (.inr (27, 0, 0))]) (S := S) rfl (rc_62 x3 x4) (s_62 x3 x4 S) (fun r_1 S_2 => ?_)
      refine q_Sim.ck vc_61 (c := v_in x2 200) (pc' := 47) (lv' := [(0, .inr (.inr (5, 0, 0))), (1, .inr (.inr (9, i1, 0))), (2, .inl x2), (3, .inl x3), (4, .inl x4), (5, .inl x5)]) (st' := []) (V' := q_V (q_set S_2 (27, 0, 0) x2.toNatClampNeg r_1)) rfl ?_
      refine q_Sim.letS (fun S_3 => ?_)
      refine q_Sim.steps vc_61 3 (pc' := 52) (lv' := [(0, .inr (.inr (5, 0, 0))), (1, .inr (.inr (9, i1, 0))), (2, .inl x2), (3, .inl x3), (4, .inl x4), (5, .inl x5)]) (st' := [.inl x2, .inr (.inr (27, 0, 0))]) (V' := q_V S_3) rfl ?_
      refine q_Sim.ck vc_61 (c := v_in x2 200) (pc' := 53) (lv' := [(0, .inr (.inr (5, 0, 0))), (1, .inr (.inr (9, i1, 0))), (2, .inl x2), (3, .inl x3), (4, .inl x4), (5, .inl x5)]) (st' := [.inl (S_3.1 (27, 0, 0) x2.toNatClampNeg)]) (V' := q_V S_3) rfl ?_
      refine q_Sim.letI (fun y_4 => ?_)
      refine q_Sim.steps vc_61 3 (pc' := 58) (lv' := [(6, .inl 1), (5, .inl y_4), (0, .inr (.inr (5, 0, 0))), (1, .inr (.inr (9, i1, 0))), (2, .inl x2), (3, .inl x3), (4, .inl x4)]) (st' := []) (V' := q_V S_3) rfl ?_
      exact q_Sim.sub2 (lv' := [(0, .inr (.inr (5, 0, 0))), (1, .inr (.inr (9, i1, 0))), (2, .inl x2), (5, .inl y_4), (6, .inl 1)]) [0, 1, 2, 5, 6] rfl (by decide) ⟨rfl, rfl, rfl, rfl, rfl, trivial⟩ (sb_61_58 q_N i1 x2 y_4 1 S_3)
    · refine q_Sim.steps vc_61 5 (pc' := 21) (lv' := [(0, .inr (.inr (5, 0, 0))), (1, .inr (.inr (9, i1, 0))), (2, .inl x2), (3, .inl x3), (4, .inl x4), (5, .inl x5)]) (st' := [.inl x5, .inr (.inr (9, i1, 0)), .inl x5, .inr (.inr (27, 0, 0))]) (V' := q_V S) rfl ?_
      refine q_Sim.call vc_61 (as := [.inr (.inr (9, i1, 0)), .inl x5]) (pc' := 24) (lv' := [(0, .inr (.inr (5, 0, 0))), (1, .inr (.inr (9, i1, 0))), (2, .inl x2), (3, .inl x3), (4, .inl x4), (5, .inl x5)]) (st' := [.inl x5, .inr (.inr (27, 0, 0))]) (S := S) rfl (rc_93 i1 x5) (s_93 i1 x5 S) (fun r_13 S_14 => ?_)
      refine q_Sim.steps vc_61 1 (pc' := 27) (lv' := [(0, .inr (.inr (5, 0, 0))), (1, .inr (.inr (9, i1, 0))), (2, .inl x2), (3, .inl x3), (4, .inl x4), (5, .inl x5)]) (st' := [.inl (S_14.1 (8, r_13.1, r_13.2) 4), .inl x5, .inr (.inr (27, 0, 0))]) (V' := q_V S_14) rfl ?_
      refine q_Sim.ck vc_61 (c := v_in x5 200) (pc' := 28) (lv' := [(0, .inr (.inr (5, 0, 0))), (1, .inr (.inr (9, i1, 0))), (2, .inl x2), (3, .inl x3), (4, .inl x4), (5, .inl x5)]) (st' := []) (V' := q_V (q_set S_14 (27, 0, 0) x5.toNatClampNeg (S_14.1 (8, r_13.1, r_13.2) 4))) rfl ?_
      refine q_Sim.letS (fun S_15 => ?_)
      refine q_Sim.steps vc_61 2 (pc' := 3) (lv' := [(5, .inl (x5 + 1)), (0, .inr (.inr (5, 0, 0))), (1, .inr (.inr (9, i1, 0))), (2, .inl x2), (3, .inl x3), (4, .inl x4)]) (st' := []) (V' := q_V S_15) rfl ?_
      exact q_Sim.sub2 (lv' := [(0, .inr (.inr (5, 0, 0))), (1, .inr (.inr (9, i1, 0))), (2, .inl x2), (3, .inl x3), (4, .inl x4), (5, .inl (x5 + 1))]) [0, 1, 2, 3, 4, 5] rfl (by decide) ⟨rfl, rfl, rfl, rfl, rfl, rfl, trivial⟩ (sb_61_3 n i1 x2 x3 x4 (x5 + 1) S_15)
def f_61 (i1 : Nat) (x2 : Int32) (x3 : Int32) (x4 : Int32) (S : QS) : Option ((Int32) × QS) := b_61_3 q_N i1 x2 x3 x4 0 S
theorem s_61 (i1 : Nat) (x2 : Int32) (x3 : Int32) (x4 : Int32) (S : QS) : q_Sim 61 0 [(0, .inr (.inr (5, 0, 0))), (1, .inr (.inr (9, i1, 0))), (2, .inl x2), (3, .inl x3), (4, .inl x4)] [] (q_V S) q_I (f_61 i1 x2 x3 x4 S) := by
  unfold f_61
  refine q_Sim.steps vc_61 2 (pc' := 3) (lv' := [(5, .inl 0), (0, .inr (.inr (5, 0, 0))), (1, .inr (.inr (9, i1, 0))), (2, .inl x2), (3, .inl x3), (4, .inl x4)]) (st' := []) (V' := q_V S) rfl ?_
  exact q_Sim.sub2 (lv' := [(0, .inr (.inr (5, 0, 0))), (1, .inr (.inr (9, i1, 0))), (2, .inl x2), (3, .inl x3), (4, .inl x4), (5, .inl 0)]) [0, 1, 2, 3, 4, 5] rfl (by decide) ⟨rfl, rfl, rfl, rfl, rfl, rfl, trivial⟩ (sb_61_3 q_N i1 x2 x3 x4 0 S)
theorem vc_63 : v_code 63 = k_63 := rfl
theorem rc_63 (i1 : Nat) : v_rcv 63 [.inr (.inr (5, 0, 0)), .inr (.inr (9, i1, 0))] = true := rfl
def b_63_2 : Nat → Nat → Int32 → QS → Option ((Unit) × QS)
  | 0, _, _, _ => none
  | n + 1, i1, x2, S => if (S.1 (9, i1, 0) 7) ≤ x2 then (some ((), S)) else (q_bd (f_93 i1 x2 S) (fun r_1 S_2 => q_ck (v_in x2 200) (q_let (S_2.1 (27, 0, 0) x2.toNatClampNeg) (fun y_3 => q_let (q_set S_2 (8, r_1.1, r_1.2) 4 y_3) (fun S_4 => b_63_2 n i1 (x2 + 1) S_4)))))
theorem sb_63_2 : ∀ (n : Nat) (i1 : Nat) (x2 : Int32) (S : QS), q_Sim 63 2 [(0, .inr (.inr (5, 0, 0))), (1, .inr (.inr (9, i1, 0))), (2, .inl x2)] [] (q_V S) q_U (b_63_2 n i1 x2 S)
  | 0, _, _, _ => q_Sim.none
  | n + 1, i1, x2, S => by
    rw [b_63_2]
    refine q_Sim.steps vc_63 3 (pc' := 7) (lv' := [(0, .inr (.inr (5, 0, 0))), (1, .inr (.inr (9, i1, 0))), (2, .inl x2)]) (st' := [.inl (S.1 (9, i1, 0) 7), .inl x2]) (V' := q_V S) rfl ?_
    refine q_Sim.br vc_63 (c := (S.1 (9, i1, 0) 7) ≤ x2) (t := 30) (f := 10) (lv' := [(0, .inr (.inr (5, 0, 0))), (1, .inr (.inr (9, i1, 0))), (2, .inl x2)]) (st' := []) (V' := q_V S) rfl ?_ ?_
    · exact q_Sim.ret vc_63 rfl
    · refine q_Sim.steps vc_63 2 (pc' := 12) (lv' := [(0, .inr (.inr (5, 0, 0))), (1, .inr (.inr (9, i1, 0))), (2, .inl x2)]) (st' := [.inl x2, .inr (.inr (9, i1, 0))]) (V' := q_V S) rfl ?_
      refine q_Sim.call vc_63 (as := [.inr (.inr (9, i1, 0)), .inl x2]) (pc' := 15) (lv' := [(0, .inr (.inr (5, 0, 0))), (1, .inr (.inr (9, i1, 0))), (2, .inl x2)]) (st' := []) (S := S) rfl (rc_93 i1 x2) (s_93 i1 x2 S) (fun r_1 S_2 => ?_)
      refine q_Sim.steps vc_63 3 (pc' := 20) (lv' := [(0, .inr (.inr (5, 0, 0))), (1, .inr (.inr (9, i1, 0))), (2, .inl x2)]) (st' := [.inl x2, .inr (.inr (27, 0, 0)), .inr (.inr (8, r_1.1, r_1.2))]) (V' := q_V S_2) rfl ?_
      refine q_Sim.ck vc_63 (c := v_in x2 200) (pc' := 21) (lv' := [(0, .inr (.inr (5, 0, 0))), (1, .inr (.inr (9, i1, 0))), (2, .inl x2)]) (st' := [.inl (S_2.1 (27, 0, 0) x2.toNatClampNeg), .inr (.inr (8, r_1.1, r_1.2))]) (V' := q_V S_2) rfl ?_
      refine q_Sim.letI (fun y_3 => ?_)
      refine q_Sim.steps vc_63 1 (pc' := 24) (lv' := [(0, .inr (.inr (5, 0, 0))), (1, .inr (.inr (9, i1, 0))), (2, .inl x2)]) (st' := []) (V' := q_V (q_set S_2 (8, r_1.1, r_1.2) 4 y_3)) rfl ?_
      refine q_Sim.letS (fun S_4 => ?_)
      refine q_Sim.steps vc_63 2 (pc' := 2) (lv' := [(2, .inl (x2 + 1)), (0, .inr (.inr (5, 0, 0))), (1, .inr (.inr (9, i1, 0)))]) (st' := []) (V' := q_V S_4) rfl ?_
      exact q_Sim.sub2 (lv' := [(0, .inr (.inr (5, 0, 0))), (1, .inr (.inr (9, i1, 0))), (2, .inl (x2 + 1))]) [0, 1, 2] rfl (by decide) ⟨rfl, rfl, rfl, trivial⟩ (sb_63_2 n i1 (x2 + 1) S_4)
def f_63 (i1 : Nat) (S : QS) : Option ((Unit) × QS) := b_63_2 q_N i1 0 S
theorem s_63 (i1 : Nat) (S : QS) : q_Sim 63 0 [(0, .inr (.inr (5, 0, 0))), (1, .inr (.inr (9, i1, 0)))] [] (q_V S) q_U (f_63 i1 S) := by
  unfold f_63
  refine q_Sim.steps vc_63 2 (pc' := 2) (lv' := [(2, .inl 0), (0, .inr (.inr (5, 0, 0))), (1, .inr (.inr (9, i1, 0)))]) (st' := []) (V' := q_V S) rfl ?_
  exact q_Sim.sub2 (lv' := [(0, .inr (.inr (5, 0, 0))), (1, .inr (.inr (9, i1, 0))), (2, .inl 0)]) [0, 1, 2] rfl (by decide) ⟨rfl, rfl, rfl, trivial⟩ (sb_63_2 q_N i1 0 S)
theorem vc_66 : v_code 66 = k_66 := rfl
theorem rc_66 (x1 : Int32) : v_rcv 66 [.inr (.inr (5, 0, 0)), .inl x1] = true := rfl
def f_66 (x1 : Int32) (S : QS) : Option ((Unit) × QS) := if x1 = (-1) then (some ((), S)) else (q_ck (v_in x1 200) (q_let (S.1 (26, 0, 0) x1.toNatClampNeg) (fun y_1 => if ¬ y_1 = 0 then (some ((), S)) else (if 200 ≤ (S.1 (5, 0, 0) 4) then (some ((), S)) else (q_ck (v_in x1 200 && v_bool 1) (q_let (q_set S (26, 0, 0) x1.toNatClampNeg 1) (fun S_2 => q_ck (v_in (S_2.1 (5, 0, 0) 4) 200) (q_let (q_set S_2 (28, 0, 0) (S_2.1 (5, 0, 0) 4).toNatClampNeg x1) (fun S_3 => q_let (q_set S_3 (5, 0, 0) 4 ((S_3.1 (5, 0, 0) 4) + 1)) (fun S_4 => some ((), S_4)))))))))))
theorem s_66 (x1 : Int32) (S : QS) : q_Sim 66 0 [(0, .inr (.inr (5, 0, 0))), (1, .inl x1)] [] (q_V S) q_U (f_66 x1 S) := by
  unfold f_66
  refine q_Sim.steps vc_66 2 (pc' := 2) (lv' := [(0, .inr (.inr (5, 0, 0))), (1, .inl x1)]) (st' := [.inl (-1), .inl x1]) (V' := q_V S) rfl ?_
  refine q_Sim.br vc_66 (c := x1 = (-1)) (t := 51) (f := 5) (lv' := [(0, .inr (.inr (5, 0, 0))), (1, .inl x1)]) (st' := []) (V' := q_V S) rfl ?_ ?_
  · exact q_Sim.ret vc_66 rfl
  · refine q_Sim.steps vc_66 3 (pc' := 10) (lv' := [(0, .inr (.inr (5, 0, 0))), (1, .inl x1)]) (st' := [.inl x1, .inr (.inr (26, 0, 0))]) (V' := q_V S) rfl ?_
    refine q_Sim.ck vc_66 (c := v_in x1 200) (pc' := 11) (lv' := [(0, .inr (.inr (5, 0, 0))), (1, .inl x1)]) (st' := [.inl (S.1 (26, 0, 0) x1.toNatClampNeg)]) (V' := q_V S) rfl ?_
    refine q_Sim.letI (fun y_1 => ?_)
    refine q_Sim.br vc_66 (c := ¬ y_1 = 0) (t := 51) (f := 14) (lv' := [(0, .inr (.inr (5, 0, 0))), (1, .inl x1)]) (st' := []) (V' := q_V S) rfl ?_ ?_
    · exact q_Sim.ret vc_66 rfl
    · refine q_Sim.steps vc_66 3 (pc' := 21) (lv' := [(0, .inr (.inr (5, 0, 0))), (1, .inl x1)]) (st' := [.inl 200, .inl (S.1 (5, 0, 0) 4)]) (V' := q_V S) rfl ?_
      refine q_Sim.br vc_66 (c := 200 ≤ (S.1 (5, 0, 0) 4)) (t := 51) (f := 24) (lv' := [(0, .inr (.inr (5, 0, 0))), (1, .inl x1)]) (st' := []) (V' := q_V S) rfl ?_ ?_
      · exact q_Sim.ret vc_66 rfl
      · refine q_Sim.steps vc_66 4 (pc' := 30) (lv' := [(0, .inr (.inr (5, 0, 0))), (1, .inl x1)]) (st' := [.inl 1, .inl x1, .inr (.inr (26, 0, 0))]) (V' := q_V S) rfl ?_
        refine q_Sim.ck vc_66 (c := v_in x1 200 && v_bool 1) (pc' := 31) (lv' := [(0, .inr (.inr (5, 0, 0))), (1, .inl x1)]) (st' := []) (V' := q_V (q_set S (26, 0, 0) x1.toNatClampNeg 1)) rfl ?_
        refine q_Sim.letS (fun S_2 => ?_)
        refine q_Sim.steps vc_66 5 (pc' := 40) (lv' := [(0, .inr (.inr (5, 0, 0))), (1, .inl x1)]) (st' := [.inl x1, .inl (S_2.1 (5, 0, 0) 4), .inr (.inr (28, 0, 0))]) (V' := q_V S_2) rfl ?_
        refine q_Sim.ck vc_66 (c := v_in (S_2.1 (5, 0, 0) 4) 200) (pc' := 41) (lv' := [(0, .inr (.inr (5, 0, 0))), (1, .inl x1)]) (st' := []) (V' := q_V (q_set S_2 (28, 0, 0) (S_2.1 (5, 0, 0) 4).toNatClampNeg x1)) rfl ?_
        refine q_Sim.letS (fun S_3 => ?_)
        refine q_Sim.steps vc_66 5 (pc' := 48) (lv' := [(0, .inr (.inr (5, 0, 0))), (1, .inl x1)]) (st' := [.inl ((S_3.1 (5, 0, 0) 4) + 1), .inr (.inr (5, 0, 0))]) (V' := q_V S_3) rfl ?_
        refine q_Sim.steps vc_66 1 (pc' := 51) (lv' := [(0, .inr (.inr (5, 0, 0))), (1, .inl x1)]) (st' := []) (V' := q_V (q_set S_3 (5, 0, 0) 4 ((S_3.1 (5, 0, 0) 4) + 1))) rfl ?_
        refine q_Sim.letS (fun S_4 => ?_)
        exact q_Sim.ret vc_66 rfl
theorem vc_65 : v_code 65 = k_65 := rfl
theorem rc_65 (i1 : Nat) (x2 : Int32) (x3 : Int32) : v_rcv 65 [.inr (.inr (5, 0, 0)), .inr (.inr (9, i1, 0)), .inl x2, .inl x3] = true := rfl
def b_65_22 : Nat → Nat → Int32 → QS → Option ((Unit) × QS)
  | 0, _, _, _ => none
  | n + 1, i1, x4, S => if (S.1 (5, 0, 0) 4) ≤ x4 then (some ((), S)) else (if 200 ≤ x4 then (some ((), S)) else (q_ck (v_in x4 200) (q_let (S.1 (28, 0, 0) x4.toNatClampNeg) (fun y_8 => q_bd (f_93 i1 y_8 S) (fun r_9 S_10 => q_bd (f_66 (S_10.1 (8, r_9.1, r_9.2) 2) S_10) (fun r_11 S_12 => q_bd (f_66 (S_12.1 (8, r_9.1, r_9.2) 3) S_12) (fun r_13 S_14 => b_65_22 n i1 (x4 + 1) S_14)))))))
theorem sb_65_22 : ∀ (n : Nat) (i1 : Nat) (x4 : Int32) (S : QS), q_Sim 65 22 [(0, .inr (.inr (5, 0, 0))), (1, .inr (.inr (9, i1, 0))), (4, .inl x4)] [] (q_V S) q_U (b_65_22 n i1 x4 S)
  | 0, _, _, _ => q_Sim.none
  | n + 1, i1, x4, S => by
    rw [b_65_22]
    refine q_Sim.steps vc_65 3 (pc' := 28) (lv' := [(0, .inr (.inr (5, 0, 0))), (1, .inr (.inr (9, i1, 0))), (4, .inl x4)]) (st' := [.inl (S.1 (5, 0, 0) 4), .inl x4]) (V' := q_V S) rfl ?_
    refine q_Sim.br vc_65 (c := (S.1 (5, 0, 0) 4) ≤ x4) (t := 76) (f := 31) (lv' := [(0, .inr (.inr (5, 0, 0))), (1, .inr (.inr (9, i1, 0))), (4, .inl x4)]) (st' := []) (V' := q_V S) rfl ?_ ?_
    · exact q_Sim.ret vc_65 rfl
    · refine q_Sim.steps vc_65 2 (pc' := 36) (lv' := [(0, .inr (.inr (5, 0, 0))), (1, .inr (.inr (9, i1, 0))), (4, .inl x4)]) (st' := [.inl 200, .inl x4]) (V' := q_V S) rfl ?_
      refine q_Sim.br vc_65 (c := 200 ≤ x4) (t := 76) (f := 39) (lv' := [(0, .inr (.inr (5, 0, 0))), (1, .inr (.inr (9, i1, 0))), (4, .inl x4)]) (st' := []) (V' := q_V S) rfl ?_ ?_
      · exact q_Sim.ret vc_65 rfl
      · refine q_Sim.steps vc_65 4 (pc' := 46) (lv' := [(0, .inr (.inr (5, 0, 0))), (1, .inr (.inr (9, i1, 0))), (4, .inl x4)]) (st' := [.inl x4, .inr (.inr (28, 0, 0)), .inr (.inr (9, i1, 0))]) (V' := q_V S) rfl ?_
        refine q_Sim.ck vc_65 (c := v_in x4 200) (pc' := 47) (lv' := [(0, .inr (.inr (5, 0, 0))), (1, .inr (.inr (9, i1, 0))), (4, .inl x4)]) (st' := [.inl (S.1 (28, 0, 0) x4.toNatClampNeg), .inr (.inr (9, i1, 0))]) (V' := q_V S) rfl ?_
        refine q_Sim.letI (fun y_8 => ?_)
        refine q_Sim.call vc_65 (as := [.inr (.inr (9, i1, 0)), .inl y_8]) (pc' := 50) (lv' := [(0, .inr (.inr (5, 0, 0))), (1, .inr (.inr (9, i1, 0))), (4, .inl x4)]) (st' := []) (S := S) rfl (rc_93 i1 y_8) (s_93 i1 y_8 S) (fun r_9 S_10 => ?_)
        refine q_Sim.steps vc_65 4 (pc' := 58) (lv' := [(5, .inr (.inr (8, r_9.1, r_9.2))), (0, .inr (.inr (5, 0, 0))), (1, .inr (.inr (9, i1, 0))), (4, .inl x4)]) (st' := [.inl (S_10.1 (8, r_9.1, r_9.2) 2), .inr (.inr (5, 0, 0))]) (V' := q_V S_10) rfl ?_
        refine q_Sim.call vc_65 (as := [.inr (.inr (5, 0, 0)), .inl (S_10.1 (8, r_9.1, r_9.2) 2)]) (pc' := 61) (lv' := [(5, .inr (.inr (8, r_9.1, r_9.2))), (0, .inr (.inr (5, 0, 0))), (1, .inr (.inr (9, i1, 0))), (4, .inl x4)]) (st' := []) (S := S_10) rfl (rc_66 (S_10.1 (8, r_9.1, r_9.2) 2)) (s_66 (S_10.1 (8, r_9.1, r_9.2) 2) S_10) (fun r_11 S_12 => ?_)
        refine q_Sim.steps vc_65 3 (pc' := 67) (lv' := [(5, .inr (.inr (8, r_9.1, r_9.2))), (0, .inr (.inr (5, 0, 0))), (1, .inr (.inr (9, i1, 0))), (4, .inl x4)]) (st' := [.inl (S_12.1 (8, r_9.1, r_9.2) 3), .inr (.inr (5, 0, 0))]) (V' := q_V S_12) rfl ?_
        refine q_Sim.call vc_65 (as := [.inr (.inr (5, 0, 0)), .inl (S_12.1 (8, r_9.1, r_9.2) 3)]) (pc' := 70) (lv' := [(5, .inr (.inr (8, r_9.1, r_9.2))), (0, .inr (.inr (5, 0, 0))), (1, .inr (.inr (9, i1, 0))), (4, .inl x4)]) (st' := []) (S := S_12) rfl (rc_66 (S_12.1 (8, r_9.1, r_9.2) 3)) (s_66 (S_12.1 (8, r_9.1, r_9.2) 3) S_12) (fun r_13 S_14 => ?_)
        refine q_Sim.steps vc_65 2 (pc' := 22) (lv' := [(4, .inl (x4 + 1)), (5, .inr (.inr (8, r_9.1, r_9.2))), (0, .inr (.inr (5, 0, 0))), (1, .inr (.inr (9, i1, 0)))]) (st' := []) (V' := q_V S_14) rfl ?_
        exact q_Sim.sub2 (lv' := [(0, .inr (.inr (5, 0, 0))), (1, .inr (.inr (9, i1, 0))), (4, .inl (x4 + 1))]) [0, 1, 4] rfl (by decide) ⟨rfl, rfl, rfl, trivial⟩ (sb_65_22 n i1 (x4 + 1) S_14)
def f_65 (i1 : Nat) (x2 : Int32) (x3 : Int32) (S : QS) : Option ((Unit) × QS) := q_bd (f_59  S) (fun r_1 S_2 => q_let (q_set S_2 (5, 0, 0) 4 0) (fun S_3 => q_bd (f_66 x2 S_3) (fun r_4 S_5 => q_bd (f_66 x3 S_5) (fun r_6 S_7 => b_65_22 q_N i1 0 S_7))))
theorem s_65 (i1 : Nat) (x2 : Int32) (x3 : Int32) (S : QS) : q_Sim 65 0 [(0, .inr (.inr (5, 0, 0))), (1, .inr (.inr (9, i1, 0))), (2, .inl x2), (3, .inl x3)] [] (q_V S) q_U (f_65 i1 x2 x3 S) := by
  unfold f_65
  refine q_Sim.steps vc_65 1 (pc' := 1) (lv' := [(0, .inr (.inr (5, 0, 0))), (1, .inr (.inr (9, i1, 0))), (2, .inl x2), (3, .inl x3)]) (st' := [.inr (.inr (5, 0, 0))]) (V' := q_V S) rfl ?_
  refine q_Sim.call vc_65 (as := [.inr (.inr (5, 0, 0))]) (pc' := 4) (lv' := [(0, .inr (.inr (5, 0, 0))), (1, .inr (.inr (9, i1, 0))), (2, .inl x2), (3, .inl x3)]) (st' := []) (S := S) rfl (rc_59 ) (s_59  S) (fun r_1 S_2 => ?_)
  refine q_Sim.steps vc_65 2 (pc' := 6) (lv' := [(0, .inr (.inr (5, 0, 0))), (1, .inr (.inr (9, i1, 0))), (2, .inl x2), (3, .inl x3)]) (st' := [.inl 0, .inr (.inr (5, 0, 0))]) (V' := q_V S_2) rfl ?_
  refine q_Sim.steps vc_65 1 (pc' := 9) (lv' := [(0, .inr (.inr (5, 0, 0))), (1, .inr (.inr (9, i1, 0))), (2, .inl x2), (3, .inl x3)]) (st' := []) (V' := q_V (q_set S_2 (5, 0, 0) 4 0)) rfl ?_
  refine q_Sim.letS (fun S_3 => ?_)
  refine q_Sim.steps vc_65 2 (pc' := 11) (lv' := [(0, .inr (.inr (5, 0, 0))), (1, .inr (.inr (9, i1, 0))), (2, .inl x2), (3, .inl x3)]) (st' := [.inl x2, .inr (.inr (5, 0, 0))]) (V' := q_V S_3) rfl ?_
  refine q_Sim.call vc_65 (as := [.inr (.inr (5, 0, 0)), .inl x2]) (pc' := 14) (lv' := [(0, .inr (.inr (5, 0, 0))), (1, .inr (.inr (9, i1, 0))), (2, .inl x2), (3, .inl x3)]) (st' := []) (S := S_3) rfl (rc_66 x2) (s_66 x2 S_3) (fun r_4 S_5 => ?_)
  refine q_Sim.steps vc_65 2 (pc' := 16) (lv' := [(0, .inr (.inr (5, 0, 0))), (1, .inr (.inr (9, i1, 0))), (2, .inl x2), (3, .inl x3)]) (st' := [.inl x3, .inr (.inr (5, 0, 0))]) (V' := q_V S_5) rfl ?_
  refine q_Sim.call vc_65 (as := [.inr (.inr (5, 0, 0)), .inl x3]) (pc' := 19) (lv' := [(0, .inr (.inr (5, 0, 0))), (1, .inr (.inr (9, i1, 0))), (2, .inl x2), (3, .inl x3)]) (st' := []) (S := S_5) rfl (rc_66 x3) (s_66 x3 S_5) (fun r_6 S_7 => ?_)
  refine q_Sim.steps vc_65 2 (pc' := 22) (lv' := [(4, .inl 0), (0, .inr (.inr (5, 0, 0))), (1, .inr (.inr (9, i1, 0))), (2, .inl x2), (3, .inl x3)]) (st' := []) (V' := q_V S_7) rfl ?_
  exact q_Sim.sub2 (lv' := [(0, .inr (.inr (5, 0, 0))), (1, .inr (.inr (9, i1, 0))), (4, .inl 0)]) [0, 1, 4] rfl (by decide) ⟨rfl, rfl, rfl, trivial⟩ (sb_65_22 q_N i1 0 S_7)
theorem vc_68 : v_code 68 = k_68 := rfl
theorem rc_68 (i1 : Nat) (x2 : Int32) (x3 : Int32) : v_rcv 68 [.inr (.inr (5, 0, 0)), .inr (.inr (9, i1, 0)), .inl x2, .inl x3] = true := rfl
def b_68_39  (S : QS) : Option ((Int32) × QS) := some (1, S)
theorem sb_68_39  (S : QS) : q_Sim 68 39 [] [] (q_V S) q_I (b_68_39  S) := by
  unfold b_68_39
  refine q_Sim.steps vc_68 2 (pc' := 44) (lv' := []) (st' := [.inl 1]) (V' := q_V S) rfl ?_
  exact q_Sim.ret vc_68 rfl
def f_68 (i1 : Nat) (x2 : Int32) (x3 : Int32) (S : QS) : Option ((Int32) × QS) := q_bd (f_93 i1 x2 S) (fun r_1 S_2 => q_let (S_2.1 (8, r_1.1, r_1.2) 4) (fun y_3 => q_bd (f_93 i1 x3 S_2) (fun r_4 S_5 => q_let (S_5.1 (8, r_4.1, r_4.2) 4) (fun y_6 => if y_6 < y_3 then (b_68_39  S_5) else (if ¬ y_3 = y_6 then (some (0, S_5)) else (if x2 ≤ x3 then (some (0, S_5)) else (b_68_39  S_5)))))))
theorem s_68 (i1 : Nat) (x2 : Int32) (x3 : Int32) (S : QS) : q_Sim 68 0 [(0, .inr (.inr (5, 0, 0))), (1, .inr (.inr (9, i1, 0))), (2, .inl x2), (3, .inl x3)] [] (q_V S) q_I (f_68 i1 x2 x3 S) := by
  unfold f_68
  refine q_Sim.steps vc_68 2 (pc' := 2) (lv' := [(0, .inr (.inr (5, 0, 0))), (1, .inr (.inr (9, i1, 0))), (2, .inl x2), (3, .inl x3)]) (st' := [.inl x2, .inr (.inr (9, i1, 0))]) (V' := q_V S) rfl ?_
  refine q_Sim.call vc_68 (as := [.inr (.inr (9, i1, 0)), .inl x2]) (pc' := 5) (lv' := [(0, .inr (.inr (5, 0, 0))), (1, .inr (.inr (9, i1, 0))), (2, .inl x2), (3, .inl x3)]) (st' := []) (S := S) rfl (rc_93 i1 x2) (s_93 i1 x2 S) (fun r_1 S_2 => ?_)
  refine q_Sim.steps vc_68 1 (pc' := 8) (lv' := [(0, .inr (.inr (5, 0, 0))), (1, .inr (.inr (9, i1, 0))), (2, .inl x2), (3, .inl x3)]) (st' := [.inl (S_2.1 (8, r_1.1, r_1.2) 4)]) (V' := q_V S_2) rfl ?_
  refine q_Sim.letI (fun y_3 => ?_)
  refine q_Sim.steps vc_68 3 (pc' := 12) (lv' := [(4, .inl y_3), (0, .inr (.inr (5, 0, 0))), (1, .inr (.inr (9, i1, 0))), (2, .inl x2), (3, .inl x3)]) (st' := [.inl x3, .inr (.inr (9, i1, 0))]) (V' := q_V S_2) rfl ?_
  refine q_Sim.call vc_68 (as := [.inr (.inr (9, i1, 0)), .inl x3]) (pc' := 15) (lv' := [(4, .inl y_3), (0, .inr (.inr (5, 0, 0))), (1, .inr (.inr (9, i1, 0))), (2, .inl x2), (3, .inl x3)]) (st' := []) (S := S_2) rfl (rc_93 i1 x3) (s_93 i1 x3 S_2) (fun r_4 S_5 => ?_)
  refine q_Sim.steps vc_68 1 (pc' := 18) (lv' := [(4, .inl y_3), (0, .inr (.inr (5, 0, 0))), (1, .inr (.inr (9, i1, 0))), (2, .inl x2), (3, .inl x3)]) (st' := [.inl (S_5.1 (8, r_4.1, r_4.2) 4)]) (V' := q_V S_5) rfl ?_
  refine q_Sim.letI (fun y_6 => ?_)
  refine q_Sim.steps vc_68 3 (pc' := 24) (lv' := [(5, .inl y_6), (4, .inl y_3), (0, .inr (.inr (5, 0, 0))), (1, .inr (.inr (9, i1, 0))), (2, .inl x2), (3, .inl x3)]) (st' := [.inl y_6, .inl y_3]) (V' := q_V S_5) rfl ?_
  refine q_Sim.br vc_68 (c := y_6 < y_3) (t := 39) (f := 27) (lv' := [(5, .inl y_6), (4, .inl y_3), (0, .inr (.inr (5, 0, 0))), (1, .inr (.inr (9, i1, 0))), (2, .inl x2), (3, .inl x3)]) (st' := []) (V' := q_V S_5) rfl ?_ ?_
  · exact q_Sim.sub2 (lv' := []) [] rfl (by decide) trivial (sb_68_39  S_5)
  · refine q_Sim.steps vc_68 2 (pc' := 31) (lv' := [(5, .inl y_6), (4, .inl y_3), (0, .inr (.inr (5, 0, 0))), (1, .inr (.inr (9, i1, 0))), (2, .inl x2), (3, .inl x3)]) (st' := [.inl y_6, .inl y_3]) (V' := q_V S_5) rfl ?_
    refine q_Sim.br vc_68 (c := ¬ y_3 = y_6) (t := 43) (f := 34) (lv' := [(5, .inl y_6), (4, .inl y_3), (0, .inr (.inr (5, 0, 0))), (1, .inr (.inr (9, i1, 0))), (2, .inl x2), (3, .inl x3)]) (st' := []) (V' := q_V S_5) rfl ?_ ?_
    · refine q_Sim.steps vc_68 1 (pc' := 44) (lv' := [(5, .inl y_6), (4, .inl y_3), (0, .inr (.inr (5, 0, 0))), (1, .inr (.inr (9, i1, 0))), (2, .inl x2), (3, .inl x3)]) (st' := [.inl 0]) (V' := q_V S_5) rfl ?_
      exact q_Sim.ret vc_68 rfl
    · refine q_Sim.steps vc_68 2 (pc' := 36) (lv' := [(5, .inl y_6), (4, .inl y_3), (0, .inr (.inr (5, 0, 0))), (1, .inr (.inr (9, i1, 0))), (2, .inl x2), (3, .inl x3)]) (st' := [.inl x3, .inl x2]) (V' := q_V S_5) rfl ?_
      refine q_Sim.br vc_68 (c := x2 ≤ x3) (t := 43) (f := 39) (lv' := [(5, .inl y_6), (4, .inl y_3), (0, .inr (.inr (5, 0, 0))), (1, .inr (.inr (9, i1, 0))), (2, .inl x2), (3, .inl x3)]) (st' := []) (V' := q_V S_5) rfl ?_ ?_
      · refine q_Sim.steps vc_68 1 (pc' := 44) (lv' := [(5, .inl y_6), (4, .inl y_3), (0, .inr (.inr (5, 0, 0))), (1, .inr (.inr (9, i1, 0))), (2, .inl x2), (3, .inl x3)]) (st' := [.inl 0]) (V' := q_V S_5) rfl ?_
        exact q_Sim.ret vc_68 rfl
      · exact q_Sim.sub2 (lv' := []) [] rfl (by decide) trivial (sb_68_39  S_5)
theorem vc_67 : v_code 67 = k_67 := rfl
theorem rc_67 (i1 : Nat) : v_rcv 67 [.inr (.inr (5, 0, 0)), .inr (.inr (9, i1, 0))] = true := rfl
def b_67_81 : Nat → Int32 → QS → Option ((Unit) × QS)
  | 0, _, _ => none
  | n + 1, x2, S => if (S.1 (5, 0, 0) 4) ≤ x2 then (some ((), S)) else (q_ck (v_in x2 200) (q_let (S.1 (28, 0, 0) x2.toNatClampNeg) (fun y_1 => q_ck (v_in y_1 200) (q_let (q_set S (29, 0, 0) y_1.toNatClampNeg x2) (fun S_2 => b_67_81 n (x2 + 1) S_2)))))
theorem sb_67_81 : ∀ (n : Nat) (x2 : Int32) (S : QS), q_Sim 67 81 [(0, .inr (.inr (5, 0, 0))), (2, .inl x2)] [] (q_V S) q_U (b_67_81 n x2 S)
  | 0, _, _ => q_Sim.none
  | n + 1, x2, S => by
    rw [b_67_81]
    refine q_Sim.steps vc_67 3 (pc' := 86) (lv' := [(0, .inr (.inr (5, 0, 0))), (2, .inl x2)]) (st' := [.inl (S.1 (5, 0, 0) 4), .inl x2]) (V' := q_V S) rfl ?_
    refine q_Sim.br vc_67 (c := (S.1 (5, 0, 0) 4) ≤ x2) (t := 107) (f := 89) (lv' := [(0, .inr (.inr (5, 0, 0))), (2, .inl x2)]) (st' := []) (V' := q_V S) rfl ?_ ?_
    · exact q_Sim.ret vc_67 rfl
    · refine q_Sim.steps vc_67 5 (pc' := 98) (lv' := [(0, .inr (.inr (5, 0, 0))), (2, .inl x2)]) (st' := [.inl x2, .inr (.inr (28, 0, 0)), .inr (.inr (29, 0, 0))]) (V' := q_V S) rfl ?_
      refine q_Sim.ck vc_67 (c := v_in x2 200) (pc' := 99) (lv' := [(0, .inr (.inr (5, 0, 0))), (2, .inl x2)]) (st' := [.inl (S.1 (28, 0, 0) x2.toNatClampNeg), .inr (.inr (29, 0, 0))]) (V' := q_V S) rfl ?_
      refine q_Sim.letI (fun y_1 => ?_)
      refine q_Sim.steps vc_67 1 (pc' := 100) (lv' := [(0, .inr (.inr (5, 0, 0))), (2, .inl x2)]) (st' := [.inl x2, .inl y_1, .inr (.inr (29, 0, 0))]) (V' := q_V S) rfl ?_
      refine q_Sim.ck vc_67 (c := v_in y_1 200) (pc' := 101) (lv' := [(0, .inr (.inr (5, 0, 0))), (2, .inl x2)]) (st' := []) (V' := q_V (q_set S (29, 0, 0) y_1.toNatClampNeg x2)) rfl ?_
      refine q_Sim.letS (fun S_2 => ?_)
      refine q_Sim.steps vc_67 2 (pc' := 81) (lv' := [(2, .inl (x2 + 1)), (0, .inr (.inr (5, 0, 0)))]) (st' := []) (V' := q_V S_2) rfl ?_
      exact q_Sim.sub2 (lv' := [(0, .inr (.inr (5, 0, 0))), (2, .inl (x2 + 1))]) [0, 2] rfl (by decide) ⟨rfl, rfl, trivial⟩ (sb_67_81 n (x2 + 1) S_2)
def b_67_65 (back_2 : Nat → Int32 → QS → Option ((Unit) × QS)) (i1 : Nat) (x2 : Int32) (x3 : Int32) (x4 : Int32) (S : QS) : Option ((Unit) × QS) := q_ck (v_in x4 200) (q_let (q_set S (28, 0, 0) x4.toNatClampNeg x3) (fun S_4 => back_2 i1 (x2 + 1) S_4))
theorem sb_67_65 (back_2 : Nat → Int32 → QS → Option ((Unit) × QS)) (hb_2 : ∀ (i1 : Nat) (x2 : Int32) (S : QS), q_Sim 67 2 [(0, .inr (.inr (5, 0, 0))), (1, .inr (.inr (9, i1, 0))), (2, .inl x2)] [] (q_V S) q_U (back_2 i1 x2 S)) (i1 : Nat) (x2 : Int32) (x3 : Int32) (x4 : Int32) (S : QS) : q_Sim 67 65 [(0, .inr (.inr (5, 0, 0))), (1, .inr (.inr (9, i1, 0))), (2, .inl x2), (3, .inl x3), (4, .inl x4)] [] (q_V S) q_U (b_67_65 back_2 i1 x2 x3 x4 S) := by
  unfold b_67_65
  refine q_Sim.steps vc_67 4 (pc' := 72) (lv' := [(0, .inr (.inr (5, 0, 0))), (1, .inr (.inr (9, i1, 0))), (2, .inl x2), (3, .inl x3), (4, .inl x4)]) (st' := [.inl x3, .inl x4, .inr (.inr (28, 0, 0))]) (V' := q_V S) rfl ?_
  refine q_Sim.ck vc_67 (c := v_in x4 200) (pc' := 73) (lv' := [(0, .inr (.inr (5, 0, 0))), (1, .inr (.inr (9, i1, 0))), (2, .inl x2), (3, .inl x3), (4, .inl x4)]) (st' := []) (V' := q_V (q_set S (28, 0, 0) x4.toNatClampNeg x3)) rfl ?_
  refine q_Sim.letS (fun S_4 => ?_)
  refine q_Sim.steps vc_67 2 (pc' := 2) (lv' := [(2, .inl (x2 + 1)), (0, .inr (.inr (5, 0, 0))), (1, .inr (.inr (9, i1, 0))), (3, .inl x3), (4, .inl x4)]) (st' := []) (V' := q_V S_4) rfl ?_
  exact q_Sim.sub2 (lv' := [(0, .inr (.inr (5, 0, 0))), (1, .inr (.inr (9, i1, 0))), (2, .inl (x2 + 1))]) [0, 1, 2] rfl (by decide) ⟨rfl, rfl, rfl, trivial⟩ (hb_2 i1 (x2 + 1) S_4)
def b_67_20 (back_2 : Nat → Int32 → QS → Option ((Unit) × QS)) : Nat → Nat → Int32 → Int32 → Int32 → QS → Option ((Unit) × QS)
  | 0, _, _, _, _, _ => none
  | n + 1, i1, x2, x3, x4, S => if x4 ≤ 0 then (b_67_65 back_2 i1 x2 x3 x4 S) else (q_ck (v_in (x4 - 1) 200) (q_let (S.1 (28, 0, 0) (x4 - 1).toNatClampNeg) (fun y_5 => q_bd (f_68 i1 y_5 x3 S) (fun r_6 S_7 => if r_6 = 0 then (b_67_65 back_2 i1 x2 x3 x4 S_7) else (q_ck (v_in (x4 - 1) 200) (q_let (S_7.1 (28, 0, 0) (x4 - 1).toNatClampNeg) (fun y_8 => q_ck (v_in x4 200) (q_let (q_set S_7 (28, 0, 0) x4.toNatClampNeg y_8) (fun S_9 => b_67_20 back_2 n i1 x2 x3 (x4 + (-1)) S_9)))))))))
theorem sb_67_20 (back_2 : Nat → Int32 → QS → Option ((Unit) × QS)) (hb_2 : ∀ (i1 : Nat) (x2 : Int32) (S : QS), q_Sim 67 2 [(0, .inr (.inr (5, 0, 0))), (1, .inr (.inr (9, i1, 0))), (2, .inl x2)] [] (q_V S) q_U (back_2 i1 x2 S)) : ∀ (n : Nat) (i1 : Nat) (x2 : Int32) (x3 : Int32) (x4 : Int32) (S : QS), q_Sim 67 20 [(0, .inr (.inr (5, 0, 0))), (1, .inr (.inr (9, i1, 0))), (2, .inl x2), (3, .inl x3), (4, .inl x4)] [] (q_V S) q_U (b_67_20 back_2 n i1 x2 x3 x4 S)
  | 0, _, _, _, _, _ => q_Sim.none
  | n + 1, i1, x2, x3, x4, S => by
    rw [b_67_20]
    refine q_Sim.steps vc_67 1 (pc' := 22) (lv' := [(0, .inr (.inr (5, 0, 0))), (1, .inr (.inr (9, i1, 0))), (2, .inl x2), (3, .inl x3), (4, .inl x4)]) (st' := [.inl x4]) (V' := q_V S) rfl ?_
    refine q_Sim.br vc_67 (c := x4 ≤ 0) (t := 65) (f := 25) (lv' := [(0, .inr (.inr (5, 0, 0))), (1, .inr (.inr (9, i1, 0))), (2, .inl x2), (3, .inl x3), (4, .inl x4)]) (st' := []) (V' := q_V S) rfl ?_ ?_
    · exact q_Sim.sub2 (lv' := [(0, .inr (.inr (5, 0, 0))), (1, .inr (.inr (9, i1, 0))), (2, .inl x2), (3, .inl x3), (4, .inl x4)]) [0, 1, 2, 3, 4] rfl (by decide) ⟨rfl, rfl, rfl, rfl, rfl, trivial⟩ (sb_67_65 back_2 hb_2 i1 x2 x3 x4 S)
    · refine q_Sim.steps vc_67 7 (pc' := 35) (lv' := [(0, .inr (.inr (5, 0, 0))), (1, .inr (.inr (9, i1, 0))), (2, .inl x2), (3, .inl x3), (4, .inl x4)]) (st' := [.inl (x4 - 1), .inr (.inr (28, 0, 0)), .inr (.inr (9, i1, 0)), .inr (.inr (5, 0, 0))]) (V' := q_V S) rfl ?_
      refine q_Sim.ck vc_67 (c := v_in (x4 - 1) 200) (pc' := 36) (lv' := [(0, .inr (.inr (5, 0, 0))), (1, .inr (.inr (9, i1, 0))), (2, .inl x2), (3, .inl x3), (4, .inl x4)]) (st' := [.inl (S.1 (28, 0, 0) (x4 - 1).toNatClampNeg), .inr (.inr (9, i1, 0)), .inr (.inr (5, 0, 0))]) (V' := q_V S) rfl ?_
      refine q_Sim.letI (fun y_5 => ?_)
      refine q_Sim.steps vc_67 1 (pc' := 37) (lv' := [(0, .inr (.inr (5, 0, 0))), (1, .inr (.inr (9, i1, 0))), (2, .inl x2), (3, .inl x3), (4, .inl x4)]) (st' := [.inl x3, .inl y_5, .inr (.inr (9, i1, 0)), .inr (.inr (5, 0, 0))]) (V' := q_V S) rfl ?_
      refine q_Sim.call vc_67 (as := [.inr (.inr (5, 0, 0)), .inr (.inr (9, i1, 0)), .inl y_5, .inl x3]) (pc' := 40) (lv' := [(0, .inr (.inr (5, 0, 0))), (1, .inr (.inr (9, i1, 0))), (2, .inl x2), (3, .inl x3), (4, .inl x4)]) (st' := []) (S := S) rfl (rc_68 i1 y_5 x3) (s_68 i1 y_5 x3 S) (fun r_6 S_7 => ?_)
      refine q_Sim.br vc_67 (c := r_6 = 0) (t := 65) (f := 43) (lv' := [(0, .inr (.inr (5, 0, 0))), (1, .inr (.inr (9, i1, 0))), (2, .inl x2), (3, .inl x3), (4, .inl x4)]) (st' := []) (V' := q_V S_7) rfl ?_ ?_
      · exact q_Sim.sub2 (lv' := [(0, .inr (.inr (5, 0, 0))), (1, .inr (.inr (9, i1, 0))), (2, .inl x2), (3, .inl x3), (4, .inl x4)]) [0, 1, 2, 3, 4] rfl (by decide) ⟨rfl, rfl, rfl, rfl, rfl, trivial⟩ (sb_67_65 back_2 hb_2 i1 x2 x3 x4 S_7)
      · refine q_Sim.steps vc_67 8 (pc' := 57) (lv' := [(0, .inr (.inr (5, 0, 0))), (1, .inr (.inr (9, i1, 0))), (2, .inl x2), (3, .inl x3), (4, .inl x4)]) (st' := [.inl (x4 - 1), .inr (.inr (28, 0, 0)), .inl x4, .inr (.inr (28, 0, 0))]) (V' := q_V S_7) rfl ?_
        refine q_Sim.ck vc_67 (c := v_in (x4 - 1) 200) (pc' := 58) (lv' := [(0, .inr (.inr (5, 0, 0))), (1, .inr (.inr (9, i1, 0))), (2, .inl x2), (3, .inl x3), (4, .inl x4)]) (st' := [.inl (S_7.1 (28, 0, 0) (x4 - 1).toNatClampNeg), .inl x4, .inr (.inr (28, 0, 0))]) (V' := q_V S_7) rfl ?_
        refine q_Sim.letI (fun y_8 => ?_)
        refine q_Sim.ck vc_67 (c := v_in x4 200) (pc' := 59) (lv' := [(0, .inr (.inr (5, 0, 0))), (1, .inr (.inr (9, i1, 0))), (2, .inl x2), (3, .inl x3), (4, .inl x4)]) (st' := []) (V' := q_V (q_set S_7 (28, 0, 0) x4.toNatClampNeg y_8)) rfl ?_
        refine q_Sim.letS (fun S_9 => ?_)
        refine q_Sim.steps vc_67 2 (pc' := 20) (lv' := [(4, .inl (x4 + (-1))), (0, .inr (.inr (5, 0, 0))), (1, .inr (.inr (9, i1, 0))), (2, .inl x2), (3, .inl x3)]) (st' := []) (V' := q_V S_9) rfl ?_
        exact q_Sim.sub2 (lv' := [(0, .inr (.inr (5, 0, 0))), (1, .inr (.inr (9, i1, 0))), (2, .inl x2), (3, .inl x3), (4, .inl (x4 + (-1)))]) [0, 1, 2, 3, 4] rfl (by decide) ⟨rfl, rfl, rfl, rfl, rfl, trivial⟩ (sb_67_20 back_2 hb_2 n i1 x2 x3 (x4 + (-1)) S_9)
def b_67_2 : Nat → Nat → Int32 → QS → Option ((Unit) × QS)
  | 0, _, _, _ => none
  | n + 1, i1, x2, S => if (S.1 (5, 0, 0) 4) ≤ x2 then (b_67_81 q_N 0 S) else (q_ck (v_in x2 200) (q_let (S.1 (28, 0, 0) x2.toNatClampNeg) (fun y_3 => b_67_20 (b_67_2 n) q_N i1 x2 y_3 x2 S)))
theorem sb_67_2 : ∀ (n : Nat) (i1 : Nat) (x2 : Int32) (S : QS), q_Sim 67 2 [(0, .inr (.inr (5, 0, 0))), (1, .inr (.inr (9, i1, 0))), (2, .inl x2)] [] (q_V S) q_U (b_67_2 n i1 x2 S)
  | 0, _, _, _ => q_Sim.none
  | n + 1, i1, x2, S => by
    rw [b_67_2]
    refine q_Sim.steps vc_67 3 (pc' := 7) (lv' := [(0, .inr (.inr (5, 0, 0))), (1, .inr (.inr (9, i1, 0))), (2, .inl x2)]) (st' := [.inl (S.1 (5, 0, 0) 4), .inl x2]) (V' := q_V S) rfl ?_
    refine q_Sim.br vc_67 (c := (S.1 (5, 0, 0) 4) ≤ x2) (t := 79) (f := 10) (lv' := [(0, .inr (.inr (5, 0, 0))), (1, .inr (.inr (9, i1, 0))), (2, .inl x2)]) (st' := []) (V' := q_V S) rfl ?_ ?_
    · refine q_Sim.steps vc_67 2 (pc' := 81) (lv' := [(2, .inl 0), (0, .inr (.inr (5, 0, 0))), (1, .inr (.inr (9, i1, 0)))]) (st' := []) (V' := q_V S) rfl ?_
      exact q_Sim.sub2 (lv' := [(0, .inr (.inr (5, 0, 0))), (2, .inl 0)]) [0, 2] rfl (by decide) ⟨rfl, rfl, trivial⟩ (sb_67_81 q_N 0 S)
    · refine q_Sim.steps vc_67 3 (pc' := 15) (lv' := [(0, .inr (.inr (5, 0, 0))), (1, .inr (.inr (9, i1, 0))), (2, .inl x2)]) (st' := [.inl x2, .inr (.inr (28, 0, 0))]) (V' := q_V S) rfl ?_
      refine q_Sim.ck vc_67 (c := v_in x2 200) (pc' := 16) (lv' := [(0, .inr (.inr (5, 0, 0))), (1, .inr (.inr (9, i1, 0))), (2, .inl x2)]) (st' := [.inl (S.1 (28, 0, 0) x2.toNatClampNeg)]) (V' := q_V S) rfl ?_
      refine q_Sim.letI (fun y_3 => ?_)
      refine q_Sim.steps vc_67 3 (pc' := 20) (lv' := [(4, .inl x2), (3, .inl y_3), (0, .inr (.inr (5, 0, 0))), (1, .inr (.inr (9, i1, 0))), (2, .inl x2)]) (st' := []) (V' := q_V S) rfl ?_
      exact q_Sim.sub2 (lv' := [(0, .inr (.inr (5, 0, 0))), (1, .inr (.inr (9, i1, 0))), (2, .inl x2), (3, .inl y_3), (4, .inl x2)]) [0, 1, 2, 3, 4] rfl (by decide) ⟨rfl, rfl, rfl, rfl, rfl, trivial⟩ (sb_67_20 (b_67_2 n) (sb_67_2 n) q_N i1 x2 y_3 x2 S)
def f_67 (i1 : Nat) (S : QS) : Option ((Unit) × QS) := b_67_2 q_N i1 1 S
theorem s_67 (i1 : Nat) (S : QS) : q_Sim 67 0 [(0, .inr (.inr (5, 0, 0))), (1, .inr (.inr (9, i1, 0)))] [] (q_V S) q_U (f_67 i1 S) := by
  unfold f_67
  refine q_Sim.steps vc_67 2 (pc' := 2) (lv' := [(2, .inl 1), (0, .inr (.inr (5, 0, 0))), (1, .inr (.inr (9, i1, 0)))]) (st' := []) (V' := q_V S) rfl ?_
  exact q_Sim.sub2 (lv' := [(0, .inr (.inr (5, 0, 0))), (1, .inr (.inr (9, i1, 0))), (2, .inl 1)]) [0, 1, 2] rfl (by decide) ⟨rfl, rfl, rfl, trivial⟩ (sb_67_2 q_N i1 1 S)
theorem vc_70 : v_code 70 = k_70 := rfl
theorem rc_70 (x1 : Int32) (x2 : Int32) : v_rcv 70 [.inr (.inr (5, 0, 0)), .inl x1, .inl x2] = true := rfl
def f_70 (x1 : Int32) (x2 : Int32) (S : QS) : Option ((Int32) × QS) := some (((x1 * (x1 - 1)) / 2) + x2, S)
theorem s_70 (x1 : Int32) (x2 : Int32) (S : QS) : q_Sim 70 0 [(0, .inr (.inr (5, 0, 0))), (1, .inl x1), (2, .inl x2)] [] (q_V S) q_I (f_70 x1 x2 S) := by
  unfold f_70
  refine q_Sim.steps vc_70 6 (pc' := 6) (lv' := [(0, .inr (.inr (5, 0, 0))), (1, .inl x1), (2, .inl x2)]) (st' := [.inl 2, .inl (x1 * (x1 - 1))]) (V' := q_V S) rfl ?_
  refine q_Sim.okd vc_70 (c := decide (¬ (2 : Int32) = 0)) (pc' := 7) (lv' := [(0, .inr (.inr (5, 0, 0))), (1, .inl x1), (2, .inl x2)]) (st' := [.inl ((x1 * (x1 - 1)) / 2)]) (V' := q_V S) rfl (by decide) ?_
  refine q_Sim.steps vc_70 2 (pc' := 9) (lv' := [(0, .inr (.inr (5, 0, 0))), (1, .inl x1), (2, .inl x2)]) (st' := [.inl (((x1 * (x1 - 1)) / 2) + x2)]) (V' := q_V S) rfl ?_
  exact q_Sim.ret vc_70 rfl
theorem vc_72 : v_code 72 = k_72 := rfl
theorem rc_72 (x1 : Int32) (x2 : Int32) : v_rcv 72 [.inr (.inr (5, 0, 0)), .inl x1, .inl x2] = true := rfl
def f_72 (x1 : Int32) (x2 : Int32) (S : QS) : Option ((Int32) × QS) := if ¬ x1 = x2 then (q_let (if x1 < x2 then x2 else x1) (fun y_1 => q_let (if x2 < x1 then x2 else x1) (fun y_2 => q_bd (f_70 y_1 y_2 S) (fun r_3 S_4 => q_ck (v_in r_3 S.2.2.1.2.2.2.2.2.1) (q_let (S_4.1 (30, S.2.2.1.2.2.2.2.2.1, 0) r_3.toNatClampNeg) (fun y_5 => some (y_5, S_4))))))) else (some (1073741824, S))
theorem s_72 (x1 : Int32) (x2 : Int32) (S : QS) : q_Sim 72 0 [(0, .inr (.inr (5, 0, 0))), (1, .inl x1), (2, .inl x2)] [] (q_V S) q_I (f_72 x1 x2 S) := by
  unfold f_72
  refine q_Sim.steps vc_72 2 (pc' := 2) (lv' := [(0, .inr (.inr (5, 0, 0))), (1, .inl x1), (2, .inl x2)]) (st' := [.inl x2, .inl x1]) (V' := q_V S) rfl ?_
  refine q_Sim.br vc_72 (c := ¬ x1 = x2) (t := 8) (f := 5) (lv' := [(0, .inr (.inr (5, 0, 0))), (1, .inl x1), (2, .inl x2)]) (st' := []) (V' := q_V S) rfl ?_ ?_
  · refine q_Sim.steps vc_72 6 (pc' := 18) (lv' := [(0, .inr (.inr (5, 0, 0))), (1, .inl x1), (2, .inl x2)]) (st' := [.inl (if x1 < x2 then x2 else x1), .inr (.inr (5, 0, 0)), .inr (.inr (30, S.2.2.1.2.2.2.2.2.1, 0))]) (V' := q_V S) rfl ?_
    refine q_Sim.letI (fun y_1 => ?_)
    refine q_Sim.steps vc_72 3 (pc' := 23) (lv' := [(0, .inr (.inr (5, 0, 0))), (1, .inl x1), (2, .inl x2)]) (st' := [.inl (if x2 < x1 then x2 else x1), .inl y_1, .inr (.inr (5, 0, 0)), .inr (.inr (30, S.2.2.1.2.2.2.2.2.1, 0))]) (V' := q_V S) rfl ?_
    refine q_Sim.letI (fun y_2 => ?_)
    refine q_Sim.call vc_72 (as := [.inr (.inr (5, 0, 0)), .inl y_1, .inl y_2]) (pc' := 26) (lv' := [(0, .inr (.inr (5, 0, 0))), (1, .inl x1), (2, .inl x2)]) (st' := [.inr (.inr (30, S.2.2.1.2.2.2.2.2.1, 0))]) (S := S) rfl (rc_70 y_1 y_2) (s_70 y_1 y_2 S) (fun r_3 S_4 => ?_)
    refine q_Sim.ck vc_72 (c := v_in r_3 S.2.2.1.2.2.2.2.2.1) (pc' := 27) (lv' := [(0, .inr (.inr (5, 0, 0))), (1, .inl x1), (2, .inl x2)]) (st' := [.inl (S_4.1 (30, S.2.2.1.2.2.2.2.2.1, 0) r_3.toNatClampNeg)]) (V' := q_V S_4) rfl ?_
    refine q_Sim.letI (fun y_5 => ?_)
    exact q_Sim.ret vc_72 rfl
  · refine q_Sim.steps vc_72 1 (pc' := 7) (lv' := [(0, .inr (.inr (5, 0, 0))), (1, .inl x1), (2, .inl x2)]) (st' := [.inl 1073741824]) (V' := q_V S) rfl ?_
    exact q_Sim.ret vc_72 rfl
theorem vc_71 : v_code 71 = k_71 := rfl
theorem rc_71 (x1 : Int32) (x2 : Int32) : v_rcv 71 [.inr (.inr (5, 0, 0)), .inl x1, .inl x2] = true := rfl
def f_71 (x1 : Int32) (x2 : Int32) (S : QS) : Option ((Int32) × QS) := if ¬ x1 = (-1) then (q_ck (v_in x1 200) (q_let (S.1 (29, 0, 0) x1.toNatClampNeg) (fun y_1 => q_bd (f_72 y_1 x2 S) (fun r_2 S_3 => some (r_2, S_3))))) else (some (0, S))
theorem s_71 (x1 : Int32) (x2 : Int32) (S : QS) : q_Sim 71 0 [(0, .inr (.inr (5, 0, 0))), (1, .inl x1), (2, .inl x2)] [] (q_V S) q_I (f_71 x1 x2 S) := by
  unfold f_71
  refine q_Sim.steps vc_71 2 (pc' := 2) (lv' := [(0, .inr (.inr (5, 0, 0))), (1, .inl x1), (2, .inl x2)]) (st' := [.inl (-1), .inl x1]) (V' := q_V S) rfl ?_
  refine q_Sim.br vc_71 (c := ¬ x1 = (-1)) (t := 9) (f := 5) (lv' := [(0, .inr (.inr (5, 0, 0))), (1, .inl x1), (2, .inl x2)]) (st' := []) (V' := q_V S) rfl ?_ ?_
  · refine q_Sim.steps vc_71 4 (pc' := 15) (lv' := [(0, .inr (.inr (5, 0, 0))), (1, .inl x1), (2, .inl x2)]) (st' := [.inl x1, .inr (.inr (29, 0, 0)), .inr (.inr (5, 0, 0))]) (V' := q_V S) rfl ?_
    refine q_Sim.ck vc_71 (c := v_in x1 200) (pc' := 16) (lv' := [(0, .inr (.inr (5, 0, 0))), (1, .inl x1), (2, .inl x2)]) (st' := [.inl (S.1 (29, 0, 0) x1.toNatClampNeg), .inr (.inr (5, 0, 0))]) (V' := q_V S) rfl ?_
    refine q_Sim.letI (fun y_1 => ?_)
    refine q_Sim.steps vc_71 1 (pc' := 17) (lv' := [(0, .inr (.inr (5, 0, 0))), (1, .inl x1), (2, .inl x2)]) (st' := [.inl x2, .inl y_1, .inr (.inr (5, 0, 0))]) (V' := q_V S) rfl ?_
    refine q_Sim.call vc_71 (as := [.inr (.inr (5, 0, 0)), .inl y_1, .inl x2]) (pc' := 20) (lv' := [(0, .inr (.inr (5, 0, 0))), (1, .inl x1), (2, .inl x2)]) (st' := []) (S := S) rfl (rc_72 y_1 x2) (s_72 y_1 x2 S) (fun r_2 S_3 => ?_)
    exact q_Sim.ret vc_71 rfl
  · refine q_Sim.steps vc_71 2 (pc' := 20) (lv' := [(0, .inr (.inr (5, 0, 0))), (1, .inl x1), (2, .inl x2)]) (st' := [.inl 0]) (V' := q_V S) rfl ?_
    exact q_Sim.ret vc_71 rfl
theorem vc_64 : v_code 64 = k_64 := rfl
theorem rc_64 (i1 : Nat) (x2 : Int32) (x3 : Int32) : v_rcv 64 [.inr (.inr (5, 0, 0)), .inr (.inr (9, i1, 0)), .inl x2, .inl x3] = true := rfl
def b_64_44 (back_19 : Nat → Int32 → Int32 → Int32 → QS → Option ((Int32) × QS)) : Nat → Nat → Int32 → Int32 → Int32 → Nat → Nat → Int32 → QS → Option ((Int32) × QS)
  | 0, _, _, _, _, _, _, _, _ => none
  | n + 1, i1, x2, x3, x4, i5, j5, x6, S => if x4 ≤ x6 then (back_19 i1 x2 x3 (x4 + 1) S) else (q_bd (f_71 (S.1 (8, i5, j5) 2) x6 S) (fun r_14 S_15 => q_bd (f_71 (S_15.1 (8, i5, j5) 3) x6 S_15) (fun r_16 S_17 => q_let (r_14.toInt64 + r_16.toInt64) (fun y_18 => q_bd (f_70 x4 x6 S_17) (fun r_19 S_20 => q_ck (v_in r_19 S_17.2.2.1.2.2.2.2.2.1) (q_let (q_set S_20 (30, S_17.2.2.1.2.2.2.2.2.1, 0) r_19.toNatClampNeg ((y_18 / 2).toInt32)) (fun S_21 => b_64_44 back_19 n i1 x2 x3 x4 i5 j5 (x6 + 1) S_21)))))))
theorem sb_64_44 (back_19 : Nat → Int32 → Int32 → Int32 → QS → Option ((Int32) × QS)) (hb_19 : ∀ (i1 : Nat) (x2 : Int32) (x3 : Int32) (x4 : Int32) (S : QS), q_Sim 64 19 [(0, .inr (.inr (5, 0, 0))), (1, .inr (.inr (9, i1, 0))), (2, .inl x2), (3, .inl x3), (4, .inl x4)] [] (q_V S) q_I (back_19 i1 x2 x3 x4 S)) : ∀ (n : Nat) (i1 : Nat) (x2 : Int32) (x3 : Int32) (x4 : Int32) (i5 : Nat) (j5 : Nat) (x6 : Int32) (S : QS), q_Sim 64 44 [(0, .inr (.inr (5, 0, 0))), (1, .inr (.inr (9, i1, 0))), (2, .inl x2), (3, .inl x3), (4, .inl x4), (5, .inr (.inr (8, i5, j5))), (6, .inl x6)] [] (q_V S) q_I (b_64_44 back_19 n i1 x2 x3 x4 i5 j5 x6 S)
  | 0, _, _, _, _, _, _, _, _ => q_Sim.none
  | n + 1, i1, x2, x3, x4, i5, j5, x6, S => by
    rw [b_64_44]
    refine q_Sim.steps vc_64 2 (pc' := 48) (lv' := [(0, .inr (.inr (5, 0, 0))), (1, .inr (.inr (9, i1, 0))), (2, .inl x2), (3, .inl x3), (4, .inl x4), (5, .inr (.inr (8, i5, j5))), (6, .inl x6)]) (st' := [.inl x4, .inl x6]) (V' := q_V S) rfl ?_
    refine q_Sim.br vc_64 (c := x4 ≤ x6) (t := 104) (f := 51) (lv' := [(0, .inr (.inr (5, 0, 0))), (1, .inr (.inr (9, i1, 0))), (2, .inl x2), (3, .inl x3), (4, .inl x4), (5, .inr (.inr (8, i5, j5))), (6, .inl x6)]) (st' := []) (V' := q_V S) rfl ?_ ?_
    · refine q_Sim.steps vc_64 2 (pc' := 19) (lv' := [(4, .inl (x4 + 1)), (0, .inr (.inr (5, 0, 0))), (1, .inr (.inr (9, i1, 0))), (2, .inl x2), (3, .inl x3), (5, .inr (.inr (8, i5, j5))), (6, .inl x6)]) (st' := []) (V' := q_V S) rfl ?_
      exact q_Sim.sub2 (lv' := [(0, .inr (.inr (5, 0, 0))), (1, .inr (.inr (9, i1, 0))), (2, .inl x2), (3, .inl x3), (4, .inl (x4 + 1))]) [0, 1, 2, 3, 4] rfl (by decide) ⟨rfl, rfl, rfl, rfl, rfl, trivial⟩ (hb_19 i1 x2 x3 (x4 + 1) S)
    · refine q_Sim.steps vc_64 4 (pc' := 59) (lv' := [(0, .inr (.inr (5, 0, 0))), (1, .inr (.inr (9, i1, 0))), (2, .inl x2), (3, .inl x3), (4, .inl x4), (5, .inr (.inr (8, i5, j5))), (6, .inl x6)]) (st' := [.inl x6, .inl (S.1 (8, i5, j5) 2), .inr (.inr (5, 0, 0))]) (V' := q_V S) rfl ?_
      refine q_Sim.call vc_64 (as := [.inr (.inr (5, 0, 0)), .inl (S.1 (8, i5, j5) 2), .inl x6]) (pc' := 62) (lv' := [(0, .inr (.inr (5, 0, 0))), (1, .inr (.inr (9, i1, 0))), (2, .inl x2), (3, .inl x3), (4, .inl x4), (5, .inr (.inr (8, i5, j5))), (6, .inl x6)]) (st' := []) (S := S) rfl (rc_71 (S.1 (8, i5, j5) 2) x6) (s_71 (S.1 (8, i5, j5) 2) x6 S) (fun r_14 S_15 => ?_)
      refine q_Sim.steps vc_64 5 (pc' := 71) (lv' := [(0, .inr (.inr (5, 0, 0))), (1, .inr (.inr (9, i1, 0))), (2, .inl x2), (3, .inl x3), (4, .inl x4), (5, .inr (.inr (8, i5, j5))), (6, .inl x6)]) (st' := [.inl x6, .inl (S_15.1 (8, i5, j5) 3), .inr (.inr (5, 0, 0)), .inr (.inl r_14.toInt64)]) (V' := q_V S_15) rfl ?_
      refine q_Sim.call vc_64 (as := [.inr (.inr (5, 0, 0)), .inl (S_15.1 (8, i5, j5) 3), .inl x6]) (pc' := 74) (lv' := [(0, .inr (.inr (5, 0, 0))), (1, .inr (.inr (9, i1, 0))), (2, .inl x2), (3, .inl x3), (4, .inl x4), (5, .inr (.inr (8, i5, j5))), (6, .inl x6)]) (st' := [.inr (.inl r_14.toInt64)]) (S := S_15) rfl (rc_71 (S_15.1 (8, i5, j5) 3) x6) (s_71 (S_15.1 (8, i5, j5) 3) x6 S_15) (fun r_16 S_17 => ?_)
      refine q_Sim.steps vc_64 2 (pc' := 76) (lv' := [(0, .inr (.inr (5, 0, 0))), (1, .inr (.inr (9, i1, 0))), (2, .inl x2), (3, .inl x3), (4, .inl x4), (5, .inr (.inr (8, i5, j5))), (6, .inl x6)]) (st' := [.inr (.inl (r_14.toInt64 + r_16.toInt64))]) (V' := q_V S_17) rfl ?_
      refine q_Sim.letJ (fun y_18 => ?_)
      refine q_Sim.steps vc_64 6 (pc' := 87) (lv' := [(7, .inr (.inl y_18)), (0, .inr (.inr (5, 0, 0))), (1, .inr (.inr (9, i1, 0))), (2, .inl x2), (3, .inl x3), (4, .inl x4), (5, .inr (.inr (8, i5, j5))), (6, .inl x6)]) (st' := [.inl x6, .inl x4, .inr (.inr (5, 0, 0)), .inr (.inr (30, S_17.2.2.1.2.2.2.2.2.1, 0))]) (V' := q_V S_17) rfl ?_
      refine q_Sim.call vc_64 (as := [.inr (.inr (5, 0, 0)), .inl x4, .inl x6]) (pc' := 90) (lv' := [(7, .inr (.inl y_18)), (0, .inr (.inr (5, 0, 0))), (1, .inr (.inr (9, i1, 0))), (2, .inl x2), (3, .inl x3), (4, .inl x4), (5, .inr (.inr (8, i5, j5))), (6, .inl x6)]) (st' := [.inr (.inr (30, S_17.2.2.1.2.2.2.2.2.1, 0))]) (S := S_17) rfl (rc_70 x4 x6) (s_70 x4 x6 S_17) (fun r_19 S_20 => ?_)
      refine q_Sim.steps vc_64 2 (pc' := 95) (lv' := [(7, .inr (.inl y_18)), (0, .inr (.inr (5, 0, 0))), (1, .inr (.inr (9, i1, 0))), (2, .inl x2), (3, .inl x3), (4, .inl x4), (5, .inr (.inr (8, i5, j5))), (6, .inl x6)]) (st' := [.inr (.inl 2), .inr (.inl y_18), .inl r_19, .inr (.inr (30, S_17.2.2.1.2.2.2.2.2.1, 0))]) (V' := q_V S_20) rfl ?_
      refine q_Sim.okd vc_64 (c := decide (¬ (2 : Int64) = 0)) (pc' := 96) (lv' := [(7, .inr (.inl y_18)), (0, .inr (.inr (5, 0, 0))), (1, .inr (.inr (9, i1, 0))), (2, .inl x2), (3, .inl x3), (4, .inl x4), (5, .inr (.inr (8, i5, j5))), (6, .inl x6)]) (st' := [.inr (.inl (y_18 / 2)), .inl r_19, .inr (.inr (30, S_17.2.2.1.2.2.2.2.2.1, 0))]) (V' := q_V S_20) rfl (by decide) ?_
      refine q_Sim.steps vc_64 1 (pc' := 97) (lv' := [(7, .inr (.inl y_18)), (0, .inr (.inr (5, 0, 0))), (1, .inr (.inr (9, i1, 0))), (2, .inl x2), (3, .inl x3), (4, .inl x4), (5, .inr (.inr (8, i5, j5))), (6, .inl x6)]) (st' := [.inl ((y_18 / 2).toInt32), .inl r_19, .inr (.inr (30, S_17.2.2.1.2.2.2.2.2.1, 0))]) (V' := q_V S_20) rfl ?_
      refine q_Sim.ck vc_64 (c := v_in r_19 S_17.2.2.1.2.2.2.2.2.1) (pc' := 98) (lv' := [(7, .inr (.inl y_18)), (0, .inr (.inr (5, 0, 0))), (1, .inr (.inr (9, i1, 0))), (2, .inl x2), (3, .inl x3), (4, .inl x4), (5, .inr (.inr (8, i5, j5))), (6, .inl x6)]) (st' := []) (V' := q_V (q_set S_20 (30, S_17.2.2.1.2.2.2.2.2.1, 0) r_19.toNatClampNeg ((y_18 / 2).toInt32))) rfl ?_
      refine q_Sim.letS (fun S_21 => ?_)
      refine q_Sim.steps vc_64 2 (pc' := 44) (lv' := [(6, .inl (x6 + 1)), (7, .inr (.inl y_18)), (0, .inr (.inr (5, 0, 0))), (1, .inr (.inr (9, i1, 0))), (2, .inl x2), (3, .inl x3), (4, .inl x4), (5, .inr (.inr (8, i5, j5)))]) (st' := []) (V' := q_V S_21) rfl ?_
      exact q_Sim.sub2 (lv' := [(0, .inr (.inr (5, 0, 0))), (1, .inr (.inr (9, i1, 0))), (2, .inl x2), (3, .inl x3), (4, .inl x4), (5, .inr (.inr (8, i5, j5))), (6, .inl (x6 + 1))]) [0, 1, 2, 3, 4, 5, 6] rfl (by decide) ⟨rfl, rfl, rfl, rfl, rfl, rfl, rfl, trivial⟩ (sb_64_44 back_19 hb_19 n i1 x2 x3 x4 i5 j5 (x6 + 1) S_21)
def b_64_19 : Nat → Nat → Int32 → Int32 → Int32 → QS → Option ((Int32) × QS)
  | 0, _, _, _, _, _ => none
  | n + 1, i1, x2, x3, x4, S => if (S.1 (5, 0, 0) 4) ≤ x4 then (q_ck (v_in x2 200) (q_let (S.1 (29, 0, 0) x2.toNatClampNeg) (fun y_7 => q_ck (v_in x3 200) (q_let (S.1 (29, 0, 0) x3.toNatClampNeg) (fun y_8 => q_bd (f_72 y_7 y_8 S) (fun r_9 S_10 => some (r_9, S_10))))))) else (q_ck (v_in x4 200) (q_let (S.1 (28, 0, 0) x4.toNatClampNeg) (fun y_11 => q_bd (f_93 i1 y_11 S) (fun r_12 S_13 => b_64_44 (b_64_19 n) q_N i1 x2 x3 x4 r_12.1 r_12.2 0 S_13))))
theorem sb_64_19 : ∀ (n : Nat) (i1 : Nat) (x2 : Int32) (x3 : Int32) (x4 : Int32) (S : QS), q_Sim 64 19 [(0, .inr (.inr (5, 0, 0))), (1, .inr (.inr (9, i1, 0))), (2, .inl x2), (3, .inl x3), (4, .inl x4)] [] (q_V S) q_I (b_64_19 n i1 x2 x3 x4 S)
  | 0, _, _, _, _, _ => q_Sim.none
  | n + 1, i1, x2, x3, x4, S => by
    rw [b_64_19]
    refine q_Sim.steps vc_64 3 (pc' := 25) (lv' := [(0, .inr (.inr (5, 0, 0))), (1, .inr (.inr (9, i1, 0))), (2, .inl x2), (3, .inl x3), (4, .inl x4)]) (st' := [.inl (S.1 (5, 0, 0) 4), .inl x4]) (V' := q_V S) rfl ?_
    refine q_Sim.br vc_64 (c := (S.1 (5, 0, 0) 4) ≤ x4) (t := 110) (f := 28) (lv' := [(0, .inr (.inr (5, 0, 0))), (1, .inr (.inr (9, i1, 0))), (2, .inl x2), (3, .inl x3), (4, .inl x4)]) (st' := []) (V' := q_V S) rfl ?_ ?_
    · refine q_Sim.steps vc_64 4 (pc' := 116) (lv' := [(0, .inr (.inr (5, 0, 0))), (1, .inr (.inr (9, i1, 0))), (2, .inl x2), (3, .inl x3), (4, .inl x4)]) (st' := [.inl x2, .inr (.inr (29, 0, 0)), .inr (.inr (5, 0, 0))]) (V' := q_V S) rfl ?_
      refine q_Sim.ck vc_64 (c := v_in x2 200) (pc' := 117) (lv' := [(0, .inr (.inr (5, 0, 0))), (1, .inr (.inr (9, i1, 0))), (2, .inl x2), (3, .inl x3), (4, .inl x4)]) (st' := [.inl (S.1 (29, 0, 0) x2.toNatClampNeg), .inr (.inr (5, 0, 0))]) (V' := q_V S) rfl ?_
      refine q_Sim.letI (fun y_7 => ?_)
      refine q_Sim.steps vc_64 3 (pc' := 122) (lv' := [(0, .inr (.inr (5, 0, 0))), (1, .inr (.inr (9, i1, 0))), (2, .inl x2), (3, .inl x3), (4, .inl x4)]) (st' := [.inl x3, .inr (.inr (29, 0, 0)), .inl y_7, .inr (.inr (5, 0, 0))]) (V' := q_V S) rfl ?_
      refine q_Sim.ck vc_64 (c := v_in x3 200) (pc' := 123) (lv' := [(0, .inr (.inr (5, 0, 0))), (1, .inr (.inr (9, i1, 0))), (2, .inl x2), (3, .inl x3), (4, .inl x4)]) (st' := [.inl (S.1 (29, 0, 0) x3.toNatClampNeg), .inl y_7, .inr (.inr (5, 0, 0))]) (V' := q_V S) rfl ?_
      refine q_Sim.letI (fun y_8 => ?_)
      refine q_Sim.call vc_64 (as := [.inr (.inr (5, 0, 0)), .inl y_7, .inl y_8]) (pc' := 126) (lv' := [(0, .inr (.inr (5, 0, 0))), (1, .inr (.inr (9, i1, 0))), (2, .inl x2), (3, .inl x3), (4, .inl x4)]) (st' := []) (S := S) rfl (rc_72 y_7 y_8) (s_72 y_7 y_8 S) (fun r_9 S_10 => ?_)
      exact q_Sim.ret vc_64 rfl
    · refine q_Sim.steps vc_64 4 (pc' := 35) (lv' := [(0, .inr (.inr (5, 0, 0))), (1, .inr (.inr (9, i1, 0))), (2, .inl x2), (3, .inl x3), (4, .inl x4)]) (st' := [.inl x4, .inr (.inr (28, 0, 0)), .inr (.inr (9, i1, 0))]) (V' := q_V S) rfl ?_
      refine q_Sim.ck vc_64 (c := v_in x4 200) (pc' := 36) (lv' := [(0, .inr (.inr (5, 0, 0))), (1, .inr (.inr (9, i1, 0))), (2, .inl x2), (3, .inl x3), (4, .inl x4)]) (st' := [.inl (S.1 (28, 0, 0) x4.toNatClampNeg), .inr (.inr (9, i1, 0))]) (V' := q_V S) rfl ?_
      refine q_Sim.letI (fun y_11 => ?_)
      refine q_Sim.call vc_64 (as := [.inr (.inr (9, i1, 0)), .inl y_11]) (pc' := 39) (lv' := [(0, .inr (.inr (5, 0, 0))), (1, .inr (.inr (9, i1, 0))), (2, .inl x2), (3, .inl x3), (4, .inl x4)]) (st' := []) (S := S) rfl (rc_93 i1 y_11) (s_93 i1 y_11 S) (fun r_12 S_13 => ?_)
      refine q_Sim.steps vc_64 3 (pc' := 44) (lv' := [(6, .inl 0), (5, .inr (.inr (8, r_12.1, r_12.2))), (0, .inr (.inr (5, 0, 0))), (1, .inr (.inr (9, i1, 0))), (2, .inl x2), (3, .inl x3), (4, .inl x4)]) (st' := []) (V' := q_V S_13) rfl ?_
      exact q_Sim.sub2 (lv' := [(0, .inr (.inr (5, 0, 0))), (1, .inr (.inr (9, i1, 0))), (2, .inl x2), (3, .inl x3), (4, .inl x4), (5, .inr (.inr (8, r_12.1, r_12.2))), (6, .inl 0)]) [0, 1, 2, 3, 4, 5, 6] rfl (by decide) ⟨rfl, rfl, rfl, rfl, rfl, rfl, rfl, trivial⟩ (sb_64_44 (b_64_19 n) (sb_64_19 n) q_N i1 x2 x3 x4 r_12.1 r_12.2 0 S_13)
def f_64 (i1 : Nat) (x2 : Int32) (x3 : Int32) (S : QS) : Option ((Int32) × QS) := q_bd (f_65 i1 x2 x3 S) (fun r_1 S_2 => q_bd (f_67 i1 S_2) (fun r_3 S_4 => q_bd (f_69  S_4) (fun r_5 S_6 => b_64_19 q_N i1 x2 x3 1 S_6)))
theorem s_64 (i1 : Nat) (x2 : Int32) (x3 : Int32) (S : QS) : q_Sim 64 0 [(0, .inr (.inr (5, 0, 0))), (1, .inr (.inr (9, i1, 0))), (2, .inl x2), (3, .inl x3)] [] (q_V S) q_I (f_64 i1 x2 x3 S) := by
  unfold f_64
  refine q_Sim.steps vc_64 4 (pc' := 4) (lv' := [(0, .inr (.inr (5, 0, 0))), (1, .inr (.inr (9, i1, 0))), (2, .inl x2), (3, .inl x3)]) (st' := [.inl x3, .inl x2, .inr (.inr (9, i1, 0)), .inr (.inr (5, 0, 0))]) (V' := q_V S) rfl ?_
  refine q_Sim.call vc_64 (as := [.inr (.inr (5, 0, 0)), .inr (.inr (9, i1, 0)), .inl x2, .inl x3]) (pc' := 7) (lv' := [(0, .inr (.inr (5, 0, 0))), (1, .inr (.inr (9, i1, 0))), (2, .inl x2), (3, .inl x3)]) (st' := []) (S := S) rfl (rc_65 i1 x2 x3) (s_65 i1 x2 x3 S) (fun r_1 S_2 => ?_)
  refine q_Sim.steps vc_64 2 (pc' := 9) (lv' := [(0, .inr (.inr (5, 0, 0))), (1, .inr (.inr (9, i1, 0))), (2, .inl x2), (3, .inl x3)]) (st' := [.inr (.inr (9, i1, 0)), .inr (.inr (5, 0, 0))]) (V' := q_V S_2) rfl ?_
  refine q_Sim.call vc_64 (as := [.inr (.inr (5, 0, 0)), .inr (.inr (9, i1, 0))]) (pc' := 12) (lv' := [(0, .inr (.inr (5, 0, 0))), (1, .inr (.inr (9, i1, 0))), (2, .inl x2), (3, .inl x3)]) (st' := []) (S := S_2) rfl (rc_67 i1) (s_67 i1 S_2) (fun r_3 S_4 => ?_)
  refine q_Sim.steps vc_64 1 (pc' := 13) (lv' := [(0, .inr (.inr (5, 0, 0))), (1, .inr (.inr (9, i1, 0))), (2, .inl x2), (3, .inl x3)]) (st' := [.inr (.inr (5, 0, 0))]) (V' := q_V S_4) rfl ?_
  refine q_Sim.call vc_64 (as := [.inr (.inr (5, 0, 0))]) (pc' := 16) (lv' := [(0, .inr (.inr (5, 0, 0))), (1, .inr (.inr (9, i1, 0))), (2, .inl x2), (3, .inl x3)]) (st' := []) (S := S_4) rfl (rc_69 ) (s_69  S_4) (fun r_5 S_6 => ?_)
  refine q_Sim.steps vc_64 2 (pc' := 19) (lv' := [(4, .inl 1), (0, .inr (.inr (5, 0, 0))), (1, .inr (.inr (9, i1, 0))), (2, .inl x2), (3, .inl x3)]) (st' := []) (V' := q_V S_6) rfl ?_
  exact q_Sim.sub2 (lv' := [(0, .inr (.inr (5, 0, 0))), (1, .inr (.inr (9, i1, 0))), (2, .inl x2), (3, .inl x3), (4, .inl 1)]) [0, 1, 2, 3, 4] rfl (by decide) ⟨rfl, rfl, rfl, rfl, rfl, trivial⟩ (sb_64_19 q_N i1 x2 x3 1 S_6)
theorem vc_76 : v_code 76 = k_76 := rfl
theorem rc_76 (i1 : Nat) (j1 : Nat) (x2 : Int32) (x3 : Int32) : v_rcv 76 [.inr (.inr (6, 0, 0)), .inr (.inr (4, i1, j1)), .inl x2, .inl x3] = true := rfl
def f_76 (i1 : Nat) (j1 : Nat) (x2 : Int32) (x3 : Int32) (S : QS) : Option ((Int32) × QS) := q_let ((x2.toInt64 * ((S.1 (4, i1, j1) 8).toInt64)) - (((S.1 (4, i1, j1) 7).toInt64) * x3.toInt64)) (fun y_1 => q_let (((S.1 (4, i1, j1) 10).toInt64) * x3.toInt64) (fun y_2 => if (lg_cmp y_1 0) < 0 then (some (0, S)) else (if ¬ (lg_cmp y_2 0) = 0 then (q_ck (decide (¬ y_2 = 0)) (q_let (if 100000 < ((y_1 / y_2) + 1) then 100000 else ((y_1 / y_2) + 1)) (fun y_3 => some (y_3.toInt32, S)))) else (some (0, S)))))
theorem s_76 (i1 : Nat) (j1 : Nat) (x2 : Int32) (x3 : Int32) (S : QS) : q_Sim 76 0 [(0, .inr (.inr (6, 0, 0))), (1, .inr (.inr (4, i1, j1))), (2, .inl x2), (3, .inl x3)] [] (q_V S) q_I (f_76 i1 j1 x2 x3 S) := by
  unfold f_76
  refine q_Sim.steps vc_76 13 (pc' := 17) (lv' := [(0, .inr (.inr (6, 0, 0))), (1, .inr (.inr (4, i1, j1))), (2, .inl x2), (3, .inl x3)]) (st' := [.inr (.inl ((x2.toInt64 * ((S.1 (4, i1, j1) 8).toInt64)) - (((S.1 (4, i1, j1) 7).toInt64) * x3.toInt64)))]) (V' := q_V S) rfl ?_
  refine q_Sim.letJ (fun y_1 => ?_)
  refine q_Sim.steps vc_76 7 (pc' := 27) (lv' := [(4, .inr (.inl y_1)), (0, .inr (.inr (6, 0, 0))), (1, .inr (.inr (4, i1, j1))), (2, .inl x2), (3, .inl x3)]) (st' := [.inr (.inl (((S.1 (4, i1, j1) 10).toInt64) * x3.toInt64))]) (V' := q_V S) rfl ?_
  refine q_Sim.letJ (fun y_2 => ?_)
  refine q_Sim.steps vc_76 4 (pc' := 33) (lv' := [(6, .inr (.inl y_2)), (4, .inr (.inl y_1)), (0, .inr (.inr (6, 0, 0))), (1, .inr (.inr (4, i1, j1))), (2, .inl x2), (3, .inl x3)]) (st' := [.inl (lg_cmp y_1 0)]) (V' := q_V S) rfl ?_
  refine q_Sim.br vc_76 (c := (lg_cmp y_1 0) < 0) (t := 43) (f := 36) (lv' := [(6, .inr (.inl y_2)), (4, .inr (.inl y_1)), (0, .inr (.inr (6, 0, 0))), (1, .inr (.inr (4, i1, j1))), (2, .inl x2), (3, .inl x3)]) (st' := []) (V' := q_V S) rfl ?_ ?_
  · refine q_Sim.steps vc_76 1 (pc' := 44) (lv' := [(6, .inr (.inl y_2)), (4, .inr (.inl y_1)), (0, .inr (.inr (6, 0, 0))), (1, .inr (.inr (4, i1, j1))), (2, .inl x2), (3, .inl x3)]) (st' := [.inl 0]) (V' := q_V S) rfl ?_
    exact q_Sim.ret vc_76 rfl
  · refine q_Sim.steps vc_76 3 (pc' := 40) (lv' := [(6, .inr (.inl y_2)), (4, .inr (.inl y_1)), (0, .inr (.inr (6, 0, 0))), (1, .inr (.inr (4, i1, j1))), (2, .inl x2), (3, .inl x3)]) (st' := [.inl (lg_cmp y_2 0)]) (V' := q_V S) rfl ?_
    refine q_Sim.br vc_76 (c := ¬ (lg_cmp y_2 0) = 0) (t := 45) (f := 43) (lv' := [(6, .inr (.inl y_2)), (4, .inr (.inl y_1)), (0, .inr (.inr (6, 0, 0))), (1, .inr (.inr (4, i1, j1))), (2, .inl x2), (3, .inl x3)]) (st' := []) (V' := q_V S) rfl ?_ ?_
    · refine q_Sim.steps vc_76 2 (pc' := 49) (lv' := [(6, .inr (.inl y_2)), (4, .inr (.inl y_1)), (0, .inr (.inr (6, 0, 0))), (1, .inr (.inr (4, i1, j1))), (2, .inl x2), (3, .inl x3)]) (st' := [.inr (.inl y_2), .inr (.inl y_1)]) (V' := q_V S) rfl ?_
      refine q_Sim.ck vc_76 (c := decide (¬ y_2 = 0)) (pc' := 50) (lv' := [(6, .inr (.inl y_2)), (4, .inr (.inl y_1)), (0, .inr (.inr (6, 0, 0))), (1, .inr (.inr (4, i1, j1))), (2, .inl x2), (3, .inl x3)]) (st' := [.inr (.inl (y_1 / y_2))]) (V' := q_V S) rfl ?_
      refine q_Sim.steps vc_76 4 (pc' := 58) (lv' := [(6, .inr (.inl y_2)), (4, .inr (.inl y_1)), (0, .inr (.inr (6, 0, 0))), (1, .inr (.inr (4, i1, j1))), (2, .inl x2), (3, .inl x3)]) (st' := [.inr (.inl (if 100000 < ((y_1 / y_2) + 1) then 100000 else ((y_1 / y_2) + 1)))]) (V' := q_V S) rfl ?_
      refine q_Sim.letJ (fun y_3 => ?_)
      refine q_Sim.steps vc_76 1 (pc' := 59) (lv' := [(6, .inr (.inl y_2)), (4, .inr (.inl y_1)), (0, .inr (.inr (6, 0, 0))), (1, .inr (.inr (4, i1, j1))), (2, .inl x2), (3, .inl x3)]) (st' := [.inl y_3.toInt32]) (V' := q_V S) rfl ?_
      exact q_Sim.ret vc_76 rfl
    · refine q_Sim.steps vc_76 1 (pc' := 44) (lv' := [(6, .inr (.inl y_2)), (4, .inr (.inl y_1)), (0, .inr (.inr (6, 0, 0))), (1, .inr (.inr (4, i1, j1))), (2, .inl x2), (3, .inl x3)]) (st' := [.inl 0]) (V' := q_V S) rfl ?_
      exact q_Sim.ret vc_76 rfl
theorem vc_75 : v_code 75 = k_75 := rfl
theorem rc_75 (i1 : Nat) (x2 : Int32) (x3 : Int32) : v_rcv 75 [.inr (.inr (6, 0, 0)), .inr (.inr (9, i1, 0)), .inl x2, .inl x3] = true := rfl
def b_75_94 (back_8 : Nat → Int32 → Int32 → Int32 → QS → Option ((Unit) × QS)) (i1 : Nat) (x2 : Int32) (x3 : Int32) (x4 : Int32) (S : QS) : Option ((Unit) × QS) := back_8 i1 x2 x3 (x4 + 1) S
theorem sb_75_94 (back_8 : Nat → Int32 → Int32 → Int32 → QS → Option ((Unit) × QS)) (hb_8 : ∀ (i1 : Nat) (x2 : Int32) (x3 : Int32) (x4 : Int32) (S : QS), q_Sim 75 8 [(0, .inr (.inr (6, 0, 0))), (1, .inr (.inr (9, i1, 0))), (2, .inl x2), (3, .inl x3), (4, .inl x4)] [] (q_V S) q_U (back_8 i1 x2 x3 x4 S)) (i1 : Nat) (x2 : Int32) (x3 : Int32) (x4 : Int32) (S : QS) : q_Sim 75 94 [(0, .inr (.inr (6, 0, 0))), (1, .inr (.inr (9, i1, 0))), (2, .inl x2), (3, .inl x3), (4, .inl x4)] [] (q_V S) q_U (b_75_94 back_8 i1 x2 x3 x4 S) := by
  unfold b_75_94
  refine q_Sim.steps vc_75 2 (pc' := 8) (lv' := [(4, .inl (x4 + 1)), (0, .inr (.inr (6, 0, 0))), (1, .inr (.inr (9, i1, 0))), (2, .inl x2), (3, .inl x3)]) (st' := []) (V' := q_V S) rfl ?_
  exact q_Sim.sub2 (lv' := [(0, .inr (.inr (6, 0, 0))), (1, .inr (.inr (9, i1, 0))), (2, .inl x2), (3, .inl x3), (4, .inl (x4 + 1))]) [0, 1, 2, 3, 4] rfl (by decide) ⟨rfl, rfl, rfl, rfl, rfl, trivial⟩ (hb_8 i1 x2 x3 (x4 + 1) S)
def b_75_8 : Nat → Nat → Int32 → Int32 → Int32 → QS → Option ((Unit) × QS)
  | 0, _, _, _, _, _ => none
  | n + 1, i1, x2, x3, x4, S => if (S.1 (9, i1, 0) 5) ≤ x4 then (some ((), S)) else (if 8 ≤ (S.1 (6, 0, 0) 5) then (some ((), S)) else (q_bd (f_91 i1 x4 S) (fun r_2 S_3 => if (S_3.1 (4, r_2.1, r_2.2) 9) ≤ 0 then (b_75_94 (b_75_8 n) i1 x2 x3 x4 S_3) else (q_ck (v_in (S_3.1 (6, 0, 0) 5) 8) (q_let (q_set S_3 (31, 0, 0) (S_3.1 (6, 0, 0) 5).toNatClampNeg x4) (fun S_4 => q_ck (v_in (S_4.1 (6, 0, 0) 5) 8) (q_let (q_set S_4 (32, 0, 0) (S_4.1 (6, 0, 0) 5).toNatClampNeg (S_4.1 (4, r_2.1, r_2.2) 9)) (fun S_5 => q_bd (f_76 r_2.1 r_2.2 x2 x3 S_5) (fun r_6 S_7 => q_ck (v_in (S_5.1 (6, 0, 0) 5) 8) (q_let (q_set S_7 (33, 0, 0) (S_5.1 (6, 0, 0) 5).toNatClampNeg r_6) (fun S_8 => q_let (q_set S_8 (6, 0, 0) 5 ((S_8.1 (6, 0, 0) 5) + 1)) (fun S_9 => b_75_94 (b_75_8 n) i1 x2 x3 x4 S_9))))))))))))
theorem sb_75_8 : ∀ (n : Nat) (i1 : Nat) (x2 : Int32) (x3 : Int32) (x4 : Int32) (S : QS), q_Sim 75 8 [(0, .inr (.inr (6, 0, 0))), (1, .inr (.inr (9, i1, 0))), (2, .inl x2), (3, .inl x3), (4, .inl x4)] [] (q_V S) q_U (b_75_8 n i1 x2 x3 x4 S)
  | 0, _, _, _, _, _ => q_Sim.none
  | n + 1, i1, x2, x3, x4, S => by
    rw [b_75_8]
    refine q_Sim.steps vc_75 3 (pc' := 14) (lv' := [(0, .inr (.inr (6, 0, 0))), (1, .inr (.inr (9, i1, 0))), (2, .inl x2), (3, .inl x3), (4, .inl x4)]) (st' := [.inl (S.1 (9, i1, 0) 5), .inl x4]) (V' := q_V S) rfl ?_
    refine q_Sim.br vc_75 (c := (S.1 (9, i1, 0) 5) ≤ x4) (t := 100) (f := 17) (lv' := [(0, .inr (.inr (6, 0, 0))), (1, .inr (.inr (9, i1, 0))), (2, .inl x2), (3, .inl x3), (4, .inl x4)]) (st' := []) (V' := q_V S) rfl ?_ ?_
    · exact q_Sim.ret vc_75 rfl
    · refine q_Sim.steps vc_75 3 (pc' := 23) (lv' := [(0, .inr (.inr (6, 0, 0))), (1, .inr (.inr (9, i1, 0))), (2, .inl x2), (3, .inl x3), (4, .inl x4)]) (st' := [.inl 8, .inl (S.1 (6, 0, 0) 5)]) (V' := q_V S) rfl ?_
      refine q_Sim.br vc_75 (c := 8 ≤ (S.1 (6, 0, 0) 5)) (t := 100) (f := 26) (lv' := [(0, .inr (.inr (6, 0, 0))), (1, .inr (.inr (9, i1, 0))), (2, .inl x2), (3, .inl x3), (4, .inl x4)]) (st' := []) (V' := q_V S) rfl ?_ ?_
      · exact q_Sim.ret vc_75 rfl
      · refine q_Sim.steps vc_75 2 (pc' := 29) (lv' := [(0, .inr (.inr (6, 0, 0))), (1, .inr (.inr (9, i1, 0))), (2, .inl x2), (3, .inl x3), (4, .inl x4)]) (st' := [.inl x4, .inr (.inr (9, i1, 0))]) (V' := q_V S) rfl ?_
        refine q_Sim.call vc_75 (as := [.inr (.inr (9, i1, 0)), .inl x4]) (pc' := 32) (lv' := [(0, .inr (.inr (6, 0, 0))), (1, .inr (.inr (9, i1, 0))), (2, .inl x2), (3, .inl x3), (4, .inl x4)]) (st' := []) (S := S) rfl (rc_91 i1 x4) (s_91 i1 x4 S) (fun r_2 S_3 => ?_)
        refine q_Sim.steps vc_75 3 (pc' := 39) (lv' := [(5, .inr (.inr (4, r_2.1, r_2.2))), (0, .inr (.inr (6, 0, 0))), (1, .inr (.inr (9, i1, 0))), (2, .inl x2), (3, .inl x3), (4, .inl x4)]) (st' := [.inl (S_3.1 (4, r_2.1, r_2.2) 9)]) (V' := q_V S_3) rfl ?_
        refine q_Sim.br vc_75 (c := (S_3.1 (4, r_2.1, r_2.2) 9) ≤ 0) (t := 94) (f := 42) (lv' := [(5, .inr (.inr (4, r_2.1, r_2.2))), (0, .inr (.inr (6, 0, 0))), (1, .inr (.inr (9, i1, 0))), (2, .inl x2), (3, .inl x3), (4, .inl x4)]) (st' := []) (V' := q_V S_3) rfl ?_ ?_
        · exact q_Sim.sub2 (lv' := [(0, .inr (.inr (6, 0, 0))), (1, .inr (.inr (9, i1, 0))), (2, .inl x2), (3, .inl x3), (4, .inl x4)]) [0, 1, 2, 3, 4] rfl (by decide) ⟨rfl, rfl, rfl, rfl, rfl, trivial⟩ (sb_75_94 (b_75_8 n) (sb_75_8 n) i1 x2 x3 x4 S_3)
        · refine q_Sim.steps vc_75 5 (pc' := 52) (lv' := [(5, .inr (.inr (4, r_2.1, r_2.2))), (0, .inr (.inr (6, 0, 0))), (1, .inr (.inr (9, i1, 0))), (2, .inl x2), (3, .inl x3), (4, .inl x4)]) (st' := [.inl x4, .inl (S_3.1 (6, 0, 0) 5), .inr (.inr (31, 0, 0))]) (V' := q_V S_3) rfl ?_
          refine q_Sim.ck vc_75 (c := v_in (S_3.1 (6, 0, 0) 5) 8) (pc' := 53) (lv' := [(5, .inr (.inr (4, r_2.1, r_2.2))), (0, .inr (.inr (6, 0, 0))), (1, .inr (.inr (9, i1, 0))), (2, .inl x2), (3, .inl x3), (4, .inl x4)]) (st' := []) (V' := q_V (q_set S_3 (31, 0, 0) (S_3.1 (6, 0, 0) 5).toNatClampNeg x4)) rfl ?_
          refine q_Sim.letS (fun S_4 => ?_)
          refine q_Sim.steps vc_75 6 (pc' := 66) (lv' := [(5, .inr (.inr (4, r_2.1, r_2.2))), (0, .inr (.inr (6, 0, 0))), (1, .inr (.inr (9, i1, 0))), (2, .inl x2), (3, .inl x3), (4, .inl x4)]) (st' := [.inl (S_4.1 (4, r_2.1, r_2.2) 9), .inl (S_4.1 (6, 0, 0) 5), .inr (.inr (32, 0, 0))]) (V' := q_V S_4) rfl ?_
          refine q_Sim.ck vc_75 (c := v_in (S_4.1 (6, 0, 0) 5) 8) (pc' := 67) (lv' := [(5, .inr (.inr (4, r_2.1, r_2.2))), (0, .inr (.inr (6, 0, 0))), (1, .inr (.inr (9, i1, 0))), (2, .inl x2), (3, .inl x3), (4, .inl x4)]) (st' := []) (V' := q_V (q_set S_4 (32, 0, 0) (S_4.1 (6, 0, 0) 5).toNatClampNeg (S_4.1 (4, r_2.1, r_2.2) 9))) rfl ?_
          refine q_Sim.letS (fun S_5 => ?_)
          refine q_Sim.steps vc_75 8 (pc' := 80) (lv' := [(5, .inr (.inr (4, r_2.1, r_2.2))), (0, .inr (.inr (6, 0, 0))), (1, .inr (.inr (9, i1, 0))), (2, .inl x2), (3, .inl x3), (4, .inl x4)]) (st' := [.inl x3, .inl x2, .inr (.inr (4, r_2.1, r_2.2)), .inr (.inr (6, 0, 0)), .inl (S_5.1 (6, 0, 0) 5), .inr (.inr (33, 0, 0))]) (V' := q_V S_5) rfl ?_
          refine q_Sim.call vc_75 (as := [.inr (.inr (6, 0, 0)), .inr (.inr (4, r_2.1, r_2.2)), .inl x2, .inl x3]) (pc' := 83) (lv' := [(5, .inr (.inr (4, r_2.1, r_2.2))), (0, .inr (.inr (6, 0, 0))), (1, .inr (.inr (9, i1, 0))), (2, .inl x2), (3, .inl x3), (4, .inl x4)]) (st' := [.inl (S_5.1 (6, 0, 0) 5), .inr (.inr (33, 0, 0))]) (S := S_5) rfl (rc_76 r_2.1 r_2.2 x2 x3) (s_76 r_2.1 r_2.2 x2 x3 S_5) (fun r_6 S_7 => ?_)
          refine q_Sim.ck vc_75 (c := v_in (S_5.1 (6, 0, 0) 5) 8) (pc' := 84) (lv' := [(5, .inr (.inr (4, r_2.1, r_2.2))), (0, .inr (.inr (6, 0, 0))), (1, .inr (.inr (9, i1, 0))), (2, .inl x2), (3, .inl x3), (4, .inl x4)]) (st' := []) (V' := q_V (q_set S_7 (33, 0, 0) (S_5.1 (6, 0, 0) 5).toNatClampNeg r_6)) rfl ?_
          refine q_Sim.letS (fun S_8 => ?_)
          refine q_Sim.steps vc_75 5 (pc' := 91) (lv' := [(5, .inr (.inr (4, r_2.1, r_2.2))), (0, .inr (.inr (6, 0, 0))), (1, .inr (.inr (9, i1, 0))), (2, .inl x2), (3, .inl x3), (4, .inl x4)]) (st' := [.inl ((S_8.1 (6, 0, 0) 5) + 1), .inr (.inr (6, 0, 0))]) (V' := q_V S_8) rfl ?_
          refine q_Sim.steps vc_75 1 (pc' := 94) (lv' := [(5, .inr (.inr (4, r_2.1, r_2.2))), (0, .inr (.inr (6, 0, 0))), (1, .inr (.inr (9, i1, 0))), (2, .inl x2), (3, .inl x3), (4, .inl x4)]) (st' := []) (V' := q_V (q_set S_8 (6, 0, 0) 5 ((S_8.1 (6, 0, 0) 5) + 1))) rfl ?_
          refine q_Sim.letS (fun S_9 => ?_)
          exact q_Sim.sub2 (lv' := [(0, .inr (.inr (6, 0, 0))), (1, .inr (.inr (9, i1, 0))), (2, .inl x2), (3, .inl x3), (4, .inl x4)]) [0, 1, 2, 3, 4] rfl (by decide) ⟨rfl, rfl, rfl, rfl, rfl, trivial⟩ (sb_75_94 (b_75_8 n) (sb_75_8 n) i1 x2 x3 x4 S_9)
def f_75 (i1 : Nat) (x2 : Int32) (x3 : Int32) (S : QS) : Option ((Unit) × QS) := q_let (q_set S (6, 0, 0) 5 0) (fun S_1 => b_75_8 q_N i1 x2 x3 0 S_1)
theorem s_75 (i1 : Nat) (x2 : Int32) (x3 : Int32) (S : QS) : q_Sim 75 0 [(0, .inr (.inr (6, 0, 0))), (1, .inr (.inr (9, i1, 0))), (2, .inl x2), (3, .inl x3)] [] (q_V S) q_U (f_75 i1 x2 x3 S) := by
  unfold f_75
  refine q_Sim.steps vc_75 2 (pc' := 2) (lv' := [(0, .inr (.inr (6, 0, 0))), (1, .inr (.inr (9, i1, 0))), (2, .inl x2), (3, .inl x3)]) (st' := [.inl 0, .inr (.inr (6, 0, 0))]) (V' := q_V S) rfl ?_
  refine q_Sim.steps vc_75 1 (pc' := 5) (lv' := [(0, .inr (.inr (6, 0, 0))), (1, .inr (.inr (9, i1, 0))), (2, .inl x2), (3, .inl x3)]) (st' := []) (V' := q_V (q_set S (6, 0, 0) 5 0)) rfl ?_
  refine q_Sim.letS (fun S_1 => ?_)
  refine q_Sim.steps vc_75 2 (pc' := 8) (lv' := [(4, .inl 0), (0, .inr (.inr (6, 0, 0))), (1, .inr (.inr (9, i1, 0))), (2, .inl x2), (3, .inl x3)]) (st' := []) (V' := q_V S_1) rfl ?_
  exact q_Sim.sub2 (lv' := [(0, .inr (.inr (6, 0, 0))), (1, .inr (.inr (9, i1, 0))), (2, .inl x2), (3, .inl x3), (4, .inl 0)]) [0, 1, 2, 3, 4] rfl (by decide) ⟨rfl, rfl, rfl, rfl, rfl, trivial⟩ (sb_75_8 q_N i1 x2 x3 0 S_1)
