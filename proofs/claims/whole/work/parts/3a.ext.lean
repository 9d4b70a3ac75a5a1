/-! ===== the code as functions, by program ===== -/
theorem vc_276 : v_code 276 = k_276 := rfl
theorem rc_276 (x1 : Int32) : v_rcv 276 [.inr (.inr (11, 0, 0)), .inl x1] = true := rfl
def b_276_79 (xs1 : Int32) (S : QS) : Option ((Int32) × QS) := q_bd (f_187 xs1 S) (fun r_8 S_9 => some (r_8, S_9))
theorem sb_276_79 (xs1 : Int32) (S : QS) : q_Sim 276 79 [] [.inl xs1, .inr (.inr (11, 0, 0))] (q_V S) q_I (b_276_79 xs1 S) := by
  unfold b_276_79
  refine q_Sim.call vc_276 (as := [.inr (.inr (11, 0, 0)), .inl xs1]) (pc' := 82) (lv' := []) (st' := []) (S := S) rfl (rc_187 xs1) (s_187 xs1 S) (fun r_8 S_9 => ?_)
  exact q_Sim.ret vc_276 rfl
def b_276_54 (x1 : Int32) (x3 : Int32) (S : QS) : Option ((Int32) × QS) := q_bd (f_190 x1 10 S) (fun r_6 S_7 => if ((96 * x1) + (12 * r_6)) ≤ x3 then (b_276_79 (-1) S_7) else (b_276_79 x3 S_7))
theorem sb_276_54 (x1 : Int32) (x3 : Int32) (S : QS) : q_Sim 276 54 [(0, .inr (.inr (11, 0, 0))), (1, .inl x1), (3, .inl x3)] [] (q_V S) q_I (b_276_54 x1 x3 S) := by
  unfold b_276_54
  refine q_Sim.steps vc_276 9 (pc' := 66) (lv' := [(0, .inr (.inr (11, 0, 0))), (1, .inl x1), (3, .inl x3)]) (st' := [.inl 10, .inl x1, .inr (.inr (11, 0, 0)), .inl 12, .inl (96 * x1), .inl x3, .inr (.inr (11, 0, 0))]) (V' := q_V S) rfl ?_
  refine q_Sim.call vc_276 (as := [.inr (.inr (11, 0, 0)), .inl x1, .inl 10]) (pc' := 69) (lv' := [(0, .inr (.inr (11, 0, 0))), (1, .inl x1), (3, .inl x3)]) (st' := [.inl 12, .inl (96 * x1), .inl x3, .inr (.inr (11, 0, 0))]) (S := S) rfl (rc_190 x1 10) (s_190 x1 10 S) (fun r_6 S_7 => ?_)
  refine q_Sim.steps vc_276 2 (pc' := 71) (lv' := [(0, .inr (.inr (11, 0, 0))), (1, .inl x1), (3, .inl x3)]) (st' := [.inl ((96 * x1) + (12 * r_6)), .inl x3, .inr (.inr (11, 0, 0))]) (V' := q_V S_7) rfl ?_
  refine q_Sim.br vc_276 (c := ((96 * x1) + (12 * r_6)) ≤ x3) (t := 78) (f := 74) (lv' := [(0, .inr (.inr (11, 0, 0))), (1, .inl x1), (3, .inl x3)]) (st' := [.inr (.inr (11, 0, 0))]) (V' := q_V S_7) rfl ?_ ?_
  · refine q_Sim.steps vc_276 1 (pc' := 79) (lv' := [(0, .inr (.inr (11, 0, 0))), (1, .inl x1), (3, .inl x3)]) (st' := [.inl (-1), .inr (.inr (11, 0, 0))]) (V' := q_V S_7) rfl ?_
    exact q_Sim.sub2 (lv' := []) [] rfl (by decide) trivial (sb_276_79 (-1) S_7)
  · refine q_Sim.steps vc_276 2 (pc' := 79) (lv' := [(0, .inr (.inr (11, 0, 0))), (1, .inl x1), (3, .inl x3)]) (st' := [.inl x3, .inr (.inr (11, 0, 0))]) (V' := q_V S_7) rfl ?_
    exact q_Sim.sub2 (lv' := []) [] rfl (by decide) trivial (sb_276_79 x3 S_7)
def b_276_21 : Nat → Int32 → Int32 → QS → Option ((Int32) × QS)
  | 0, _, _, _ => none
  | n + 1, x1, x3, S => q_bd (f_190 x1 10 S) (fun r_4 S_5 => if ((96 * x1) + (12 * r_4)) ≤ x3 then (b_276_54 x1 x3 S_5) else (q_bd (f_194 x3 S_5) (fun r_10 S_11 => if r_10 < 0 then (b_276_54 x1 x3 S_11) else (b_276_21 n x1 (x3 + 1) S_11))))
theorem sb_276_21 : ∀ (n : Nat) (x1 : Int32) (x3 : Int32) (S : QS), q_Sim 276 21 [(0, .inr (.inr (11, 0, 0))), (1, .inl x1), (3, .inl x3)] [] (q_V S) q_I (b_276_21 n x1 x3 S)
  | 0, _, _, _ => q_Sim.none
  | n + 1, x1, x3, S => by
    rw [b_276_21]
    refine q_Sim.steps vc_276 8 (pc' := 32) (lv' := [(0, .inr (.inr (11, 0, 0))), (1, .inl x1), (3, .inl x3)]) (st' := [.inl 10, .inl x1, .inr (.inr (11, 0, 0)), .inl 12, .inl (96 * x1), .inl x3]) (V' := q_V S) rfl ?_
    refine q_Sim.call vc_276 (as := [.inr (.inr (11, 0, 0)), .inl x1, .inl 10]) (pc' := 35) (lv' := [(0, .inr (.inr (11, 0, 0))), (1, .inl x1), (3, .inl x3)]) (st' := [.inl 12, .inl (96 * x1), .inl x3]) (S := S) rfl (rc_190 x1 10) (s_190 x1 10 S) (fun r_4 S_5 => ?_)
    refine q_Sim.steps vc_276 2 (pc' := 37) (lv' := [(0, .inr (.inr (11, 0, 0))), (1, .inl x1), (3, .inl x3)]) (st' := [.inl ((96 * x1) + (12 * r_4)), .inl x3]) (V' := q_V S_5) rfl ?_
    refine q_Sim.br vc_276 (c := ((96 * x1) + (12 * r_4)) ≤ x3) (t := 54) (f := 40) (lv' := [(0, .inr (.inr (11, 0, 0))), (1, .inl x1), (3, .inl x3)]) (st' := []) (V' := q_V S_5) rfl ?_ ?_
    · exact q_Sim.sub2 (lv' := [(0, .inr (.inr (11, 0, 0))), (1, .inl x1), (3, .inl x3)]) [0, 1, 3] rfl (by decide) ⟨rfl, rfl, rfl, trivial⟩ (sb_276_54 x1 x3 S_5)
    · refine q_Sim.steps vc_276 2 (pc' := 42) (lv' := [(0, .inr (.inr (11, 0, 0))), (1, .inl x1), (3, .inl x3)]) (st' := [.inl x3, .inr (.inr (11, 0, 0))]) (V' := q_V S_5) rfl ?_
      refine q_Sim.call vc_276 (as := [.inr (.inr (11, 0, 0)), .inl x3]) (pc' := 45) (lv' := [(0, .inr (.inr (11, 0, 0))), (1, .inl x1), (3, .inl x3)]) (st' := []) (S := S_5) rfl (rc_194 x3) (s_194 x3 S_5) (fun r_10 S_11 => ?_)
      refine q_Sim.br vc_276 (c := r_10 < 0) (t := 54) (f := 48) (lv' := [(0, .inr (.inr (11, 0, 0))), (1, .inl x1), (3, .inl x3)]) (st' := []) (V' := q_V S_11) rfl ?_ ?_
      · exact q_Sim.sub2 (lv' := [(0, .inr (.inr (11, 0, 0))), (1, .inl x1), (3, .inl x3)]) [0, 1, 3] rfl (by decide) ⟨rfl, rfl, rfl, trivial⟩ (sb_276_54 x1 x3 S_11)
      · refine q_Sim.steps vc_276 2 (pc' := 21) (lv' := [(3, .inl (x3 + 1)), (0, .inr (.inr (11, 0, 0))), (1, .inl x1)]) (st' := []) (V' := q_V S_11) rfl ?_
        exact q_Sim.sub2 (lv' := [(0, .inr (.inr (11, 0, 0))), (1, .inl x1), (3, .inl (x3 + 1))]) [0, 1, 3] rfl (by decide) ⟨rfl, rfl, rfl, trivial⟩ (sb_276_21 n x1 (x3 + 1) S_11)
def f_276 (x1 : Int32) (S : QS) : Option ((Int32) × QS) := q_bd (f_198 x1 S) (fun r_1 S_2 => if r_1 ≤ 0 then (q_let (96 * x1) (fun y_3 => b_276_21 q_N x1 y_3 S_2)) else (q_bd (f_186 r_1 S_2) (fun r_12 S_13 => some (r_12, S_13))))
theorem s_276 (x1 : Int32) (S : QS) : q_Sim 276 0 [(0, .inr (.inr (11, 0, 0))), (1, .inl x1)] [] (q_V S) q_I (f_276 x1 S) := by
  unfold f_276
  refine q_Sim.steps vc_276 2 (pc' := 2) (lv' := [(0, .inr (.inr (11, 0, 0))), (1, .inl x1)]) (st' := [.inl x1, .inr (.inr (11, 0, 0))]) (V' := q_V S) rfl ?_
  refine q_Sim.call vc_276 (as := [.inr (.inr (11, 0, 0)), .inl x1]) (pc' := 5) (lv' := [(0, .inr (.inr (11, 0, 0))), (1, .inl x1)]) (st' := []) (S := S) rfl (rc_198 x1) (s_198 x1 S) (fun r_1 S_2 => ?_)
  refine q_Sim.steps vc_276 2 (pc' := 7) (lv' := [(2, .inl r_1), (0, .inr (.inr (11, 0, 0))), (1, .inl x1)]) (st' := [.inl r_1]) (V' := q_V S_2) rfl ?_
  refine q_Sim.br vc_276 (c := r_1 ≤ 0) (t := 16) (f := 10) (lv' := [(2, .inl r_1), (0, .inr (.inr (11, 0, 0))), (1, .inl x1)]) (st' := []) (V' := q_V S_2) rfl ?_ ?_
  · refine q_Sim.steps vc_276 3 (pc' := 20) (lv' := [(2, .inl r_1), (0, .inr (.inr (11, 0, 0))), (1, .inl x1)]) (st' := [.inl (96 * x1)]) (V' := q_V S_2) rfl ?_
    refine q_Sim.letI (fun y_3 => ?_)
    refine q_Sim.steps vc_276 1 (pc' := 21) (lv' := [(3, .inl y_3), (2, .inl r_1), (0, .inr (.inr (11, 0, 0))), (1, .inl x1)]) (st' := []) (V' := q_V S_2) rfl ?_
    exact q_Sim.sub2 (lv' := [(0, .inr (.inr (11, 0, 0))), (1, .inl x1), (3, .inl y_3)]) [0, 1, 3] rfl (by decide) ⟨rfl, rfl, rfl, trivial⟩ (sb_276_21 q_N x1 y_3 S_2)
  · refine q_Sim.steps vc_276 2 (pc' := 12) (lv' := [(2, .inl r_1), (0, .inr (.inr (11, 0, 0))), (1, .inl x1)]) (st' := [.inl r_1, .inr (.inr (11, 0, 0))]) (V' := q_V S_2) rfl ?_
    refine q_Sim.call vc_276 (as := [.inr (.inr (11, 0, 0)), .inl r_1]) (pc' := 15) (lv' := [(2, .inl r_1), (0, .inr (.inr (11, 0, 0))), (1, .inl x1)]) (st' := []) (S := S_2) rfl (rc_186 r_1) (s_186 r_1 S_2) (fun r_12 S_13 => ?_)
    exact q_Sim.ret vc_276 rfl
theorem vc_277 : v_code 277 = k_277 := rfl
theorem rc_277 (x1 : Int32) (x2 : Int32) : v_rcv 277 [.inr (.inr (11, 0, 0)), .inl x1, .inl x2] = true := rfl
def b_277_35 (back_5 : Int32 → Int32 → Int32 → Int32 → QS → Option ((Int32) × QS)) (x1 : Int32) (x2 : Int32) (x4 : Int32) (xs0 : Int32) (S : QS) : Option ((Int32) × QS) := back_5 x1 x2 xs0 (x4 + 1) S
theorem sb_277_35 (back_5 : Int32 → Int32 → Int32 → Int32 → QS → Option ((Int32) × QS)) (hb_5 : ∀ (x1 : Int32) (x2 : Int32) (x3 : Int32) (x4 : Int32) (S : QS), q_Sim 277 5 [(0, .inr (.inr (11, 0, 0))), (1, .inl x1), (2, .inl x2), (3, .inl x3), (4, .inl x4)] [] (q_V S) q_I (back_5 x1 x2 x3 x4 S)) (x1 : Int32) (x2 : Int32) (x4 : Int32) (xs0 : Int32) (S : QS) : q_Sim 277 35 [(0, .inr (.inr (11, 0, 0))), (1, .inl x1), (2, .inl x2), (4, .inl x4)] [.inl xs0] (q_V S) q_I (b_277_35 back_5 x1 x2 x4 xs0 S) := by
  unfold b_277_35
  refine q_Sim.steps vc_277 3 (pc' := 5) (lv' := [(4, .inl (x4 + 1)), (3, .inl xs0), (0, .inr (.inr (11, 0, 0))), (1, .inl x1), (2, .inl x2)]) (st' := []) (V' := q_V S) rfl ?_
  exact q_Sim.sub2 (lv' := [(0, .inr (.inr (11, 0, 0))), (1, .inl x1), (2, .inl x2), (3, .inl xs0), (4, .inl (x4 + 1))]) [0, 1, 2, 3, 4] rfl (by decide) ⟨rfl, rfl, rfl, rfl, rfl, trivial⟩ (hb_5 x1 x2 xs0 (x4 + 1) S)
def b_277_30 (back_5 : Int32 → Int32 → Int32 → Int32 → QS → Option ((Int32) × QS)) (x1 : Int32) (x2 : Int32) (x4 : Int32) (S : QS) : Option ((Int32) × QS) := b_277_35 back_5 x1 x2 x4 1 S
theorem sb_277_30 (back_5 : Int32 → Int32 → Int32 → Int32 → QS → Option ((Int32) × QS)) (hb_5 : ∀ (x1 : Int32) (x2 : Int32) (x3 : Int32) (x4 : Int32) (S : QS), q_Sim 277 5 [(0, .inr (.inr (11, 0, 0))), (1, .inl x1), (2, .inl x2), (3, .inl x3), (4, .inl x4)] [] (q_V S) q_I (back_5 x1 x2 x3 x4 S)) (x1 : Int32) (x2 : Int32) (x4 : Int32) (S : QS) : q_Sim 277 30 [(0, .inr (.inr (11, 0, 0))), (1, .inl x1), (2, .inl x2), (4, .inl x4)] [] (q_V S) q_I (b_277_30 back_5 x1 x2 x4 S) := by
  unfold b_277_30
  refine q_Sim.steps vc_277 2 (pc' := 35) (lv' := [(0, .inr (.inr (11, 0, 0))), (1, .inl x1), (2, .inl x2), (4, .inl x4)]) (st' := [.inl 1]) (V' := q_V S) rfl ?_
  exact q_Sim.sub2 (lv' := [(0, .inr (.inr (11, 0, 0))), (1, .inl x1), (2, .inl x2), (4, .inl x4)]) [0, 1, 2, 4] rfl (by decide) ⟨rfl, rfl, rfl, rfl, trivial⟩ (sb_277_35 back_5 hb_5 x1 x2 x4 1 S)
def b_277_5 : Nat → Int32 → Int32 → Int32 → Int32 → QS → Option ((Int32) × QS)
  | 0, _, _, _, _, _ => none
  | n + 1, x1, x2, x3, x4, S => q_bd (f_195 x1 S) (fun r_1 S_2 => if r_1 ≤ x4 then (q_ck (v_bool x3) (some (x3, S_2))) else (if ¬ x3 = 0 then (b_277_30 (b_277_5 n) x1 x2 x4 S_2) else (q_bd (f_196 x1 x4 S_2) (fun r_3 S_4 => if ¬ r_3 = x2 then (b_277_35 (b_277_5 n) x1 x2 x4 0 S_4) else (b_277_30 (b_277_5 n) x1 x2 x4 S_4)))))
theorem sb_277_5 : ∀ (n : Nat) (x1 : Int32) (x2 : Int32) (x3 : Int32) (x4 : Int32) (S : QS), q_Sim 277 5 [(0, .inr (.inr (11, 0, 0))), (1, .inl x1), (2, .inl x2), (3, .inl x3), (4, .inl x4)] [] (q_V S) q_I (b_277_5 n x1 x2 x3 x4 S)
  | 0, _, _, _, _, _ => q_Sim.none
  | n + 1, x1, x2, x3, x4, S => by
    rw [b_277_5]
    refine q_Sim.steps vc_277 3 (pc' := 9) (lv' := [(0, .inr (.inr (11, 0, 0))), (1, .inl x1), (2, .inl x2), (3, .inl x3), (4, .inl x4)]) (st' := [.inl x1, .inr (.inr (11, 0, 0)), .inl x4]) (V' := q_V S) rfl ?_
    refine q_Sim.call vc_277 (as := [.inr (.inr (11, 0, 0)), .inl x1]) (pc' := 12) (lv' := [(0, .inr (.inr (11, 0, 0))), (1, .inl x1), (2, .inl x2), (3, .inl x3), (4, .inl x4)]) (st' := [.inl x4]) (S := S) rfl (rc_195 x1) (s_195 x1 S) (fun r_1 S_2 => ?_)
    refine q_Sim.br vc_277 (c := r_1 ≤ x4) (t := 42) (f := 15) (lv' := [(0, .inr (.inr (11, 0, 0))), (1, .inl x1), (2, .inl x2), (3, .inl x3), (4, .inl x4)]) (st' := []) (V' := q_V S_2) rfl ?_ ?_
    · refine q_Sim.steps vc_277 1 (pc' := 43) (lv' := [(0, .inr (.inr (11, 0, 0))), (1, .inl x1), (2, .inl x2), (3, .inl x3), (4, .inl x4)]) (st' := [.inl x3]) (V' := q_V S_2) rfl ?_
      exact q_Sim.retc vc_277 rfl
    · refine q_Sim.steps vc_277 1 (pc' := 16) (lv' := [(0, .inr (.inr (11, 0, 0))), (1, .inl x1), (2, .inl x2), (3, .inl x3), (4, .inl x4)]) (st' := [.inl x3]) (V' := q_V S_2) rfl ?_
      refine q_Sim.br vc_277 (c := ¬ x3 = 0) (t := 30) (f := 19) (lv' := [(0, .inr (.inr (11, 0, 0))), (1, .inl x1), (2, .inl x2), (3, .inl x3), (4, .inl x4)]) (st' := []) (V' := q_V S_2) rfl ?_ ?_
      · exact q_Sim.sub2 (lv' := [(0, .inr (.inr (11, 0, 0))), (1, .inl x1), (2, .inl x2), (4, .inl x4)]) [0, 1, 2, 4] rfl (by decide) ⟨rfl, rfl, rfl, rfl, trivial⟩ (sb_277_30 (b_277_5 n) (sb_277_5 n) x1 x2 x4 S_2)
      · refine q_Sim.steps vc_277 3 (pc' := 23) (lv' := [(0, .inr (.inr (11, 0, 0))), (1, .inl x1), (2, .inl x2), (3, .inl x3), (4, .inl x4)]) (st' := [.inl x4, .inl x1, .inr (.inr (11, 0, 0))]) (V' := q_V S_2) rfl ?_
        refine q_Sim.call vc_277 (as := [.inr (.inr (11, 0, 0)), .inl x1, .inl x4]) (pc' := 26) (lv' := [(0, .inr (.inr (11, 0, 0))), (1, .inl x1), (2, .inl x2), (3, .inl x3), (4, .inl x4)]) (st' := []) (S := S_2) rfl (rc_196 x1 x4) (s_196 x1 x4 S_2) (fun r_3 S_4 => ?_)
        refine q_Sim.steps vc_277 1 (pc' := 27) (lv' := [(0, .inr (.inr (11, 0, 0))), (1, .inl x1), (2, .inl x2), (3, .inl x3), (4, .inl x4)]) (st' := [.inl x2, .inl r_3]) (V' := q_V S_4) rfl ?_
        refine q_Sim.br vc_277 (c := ¬ r_3 = x2) (t := 34) (f := 30) (lv' := [(0, .inr (.inr (11, 0, 0))), (1, .inl x1), (2, .inl x2), (3, .inl x3), (4, .inl x4)]) (st' := []) (V' := q_V S_4) rfl ?_ ?_
        · refine q_Sim.steps vc_277 1 (pc' := 35) (lv' := [(0, .inr (.inr (11, 0, 0))), (1, .inl x1), (2, .inl x2), (3, .inl x3), (4, .inl x4)]) (st' := [.inl 0]) (V' := q_V S_4) rfl ?_
          exact q_Sim.sub2 (lv' := [(0, .inr (.inr (11, 0, 0))), (1, .inl x1), (2, .inl x2), (4, .inl x4)]) [0, 1, 2, 4] rfl (by decide) ⟨rfl, rfl, rfl, rfl, trivial⟩ (sb_277_35 (b_277_5 n) (sb_277_5 n) x1 x2 x4 0 S_4)
        · exact q_Sim.sub2 (lv' := [(0, .inr (.inr (11, 0, 0))), (1, .inl x1), (2, .inl x2), (4, .inl x4)]) [0, 1, 2, 4] rfl (by decide) ⟨rfl, rfl, rfl, rfl, trivial⟩ (sb_277_30 (b_277_5 n) (sb_277_5 n) x1 x2 x4 S_4)
def f_277 (x1 : Int32) (x2 : Int32) (S : QS) : Option ((Int32) × QS) := b_277_5 q_N x1 x2 0 0 S
theorem s_277 (x1 : Int32) (x2 : Int32) (S : QS) : q_Sim 277 0 [(0, .inr (.inr (11, 0, 0))), (1, .inl x1), (2, .inl x2)] [] (q_V S) q_I (f_277 x1 x2 S) := by
  unfold f_277
  refine q_Sim.steps vc_277 4 (pc' := 5) (lv' := [(4, .inl 0), (3, .inl 0), (0, .inr (.inr (11, 0, 0))), (1, .inl x1), (2, .inl x2)]) (st' := []) (V' := q_V S) rfl ?_
  exact q_Sim.sub2 (lv' := [(0, .inr (.inr (11, 0, 0))), (1, .inl x1), (2, .inl x2), (3, .inl 0), (4, .inl 0)]) [0, 1, 2, 3, 4] rfl (by decide) ⟨rfl, rfl, rfl, rfl, rfl, trivial⟩ (sb_277_5 q_N x1 x2 0 0 S)
theorem vc_278 : v_code 278 = k_278 := rfl
theorem rc_278 (x1 : Int32) (x2 : Int32) : v_rcv 278 [.inr (.inr (11, 0, 0)), .inl x1, .inl x2] = true := rfl
def b_278_66 (xs1 : Int32) (S : QS) : Option ((Int32) × QS) := q_bd (f_187 xs1 S) (fun r_3 S_4 => some (r_3, S_4))
theorem sb_278_66 (xs1 : Int32) (S : QS) : q_Sim 278 66 [] [.inl xs1, .inr (.inr (11, 0, 0))] (q_V S) q_I (b_278_66 xs1 S) := by
  unfold b_278_66
  refine q_Sim.call vc_278 (as := [.inr (.inr (11, 0, 0)), .inl xs1]) (pc' := 69) (lv' := []) (st' := []) (S := S) rfl (rc_187 xs1) (s_187 xs1 S) (fun r_3 S_4 => ?_)
  exact q_Sim.ret vc_278 rfl
def b_278_53 (x3 : Int32) (S : QS) : Option ((Int32) × QS) := if 3840 ≤ x3 then (b_278_66 (-1) S) else (b_278_66 x3 S)
theorem sb_278_53 (x3 : Int32) (S : QS) : q_Sim 278 53 [(0, .inr (.inr (11, 0, 0))), (3, .inl x3)] [] (q_V S) q_I (b_278_53 x3 S) := by
  unfold b_278_53
  refine q_Sim.steps vc_278 3 (pc' := 58) (lv' := [(0, .inr (.inr (11, 0, 0))), (3, .inl x3)]) (st' := [.inl 3840, .inl x3, .inr (.inr (11, 0, 0))]) (V' := q_V S) rfl ?_
  refine q_Sim.br vc_278 (c := 3840 ≤ x3) (t := 65) (f := 61) (lv' := [(0, .inr (.inr (11, 0, 0))), (3, .inl x3)]) (st' := [.inr (.inr (11, 0, 0))]) (V' := q_V S) rfl ?_ ?_
  · refine q_Sim.steps vc_278 1 (pc' := 66) (lv' := [(0, .inr (.inr (11, 0, 0))), (3, .inl x3)]) (st' := [.inl (-1), .inr (.inr (11, 0, 0))]) (V' := q_V S) rfl ?_
    exact q_Sim.sub2 (lv' := []) [] rfl (by decide) trivial (sb_278_66 (-1) S)
  · refine q_Sim.steps vc_278 2 (pc' := 66) (lv' := [(0, .inr (.inr (11, 0, 0))), (3, .inl x3)]) (st' := [.inl x3, .inr (.inr (11, 0, 0))]) (V' := q_V S) rfl ?_
    exact q_Sim.sub2 (lv' := []) [] rfl (by decide) trivial (sb_278_66 x3 S)
def b_278_47 (back_19 : Int32 → Int32 → QS → Option ((Int32) × QS)) (x1 : Int32) (x3 : Int32) (S : QS) : Option ((Int32) × QS) := back_19 x1 (x3 + 1) S
theorem sb_278_47 (back_19 : Int32 → Int32 → QS → Option ((Int32) × QS)) (hb_19 : ∀ (x1 : Int32) (x3 : Int32) (S : QS), q_Sim 278 19 [(0, .inr (.inr (11, 0, 0))), (1, .inl x1), (3, .inl x3)] [] (q_V S) q_I (back_19 x1 x3 S)) (x1 : Int32) (x3 : Int32) (S : QS) : q_Sim 278 47 [(0, .inr (.inr (11, 0, 0))), (1, .inl x1), (3, .inl x3)] [] (q_V S) q_I (b_278_47 back_19 x1 x3 S) := by
  unfold b_278_47
  refine q_Sim.steps vc_278 2 (pc' := 19) (lv' := [(3, .inl (x3 + 1)), (0, .inr (.inr (11, 0, 0))), (1, .inl x1)]) (st' := []) (V' := q_V S) rfl ?_
  exact q_Sim.sub2 (lv' := [(0, .inr (.inr (11, 0, 0))), (1, .inl x1), (3, .inl (x3 + 1))]) [0, 1, 3] rfl (by decide) ⟨rfl, rfl, rfl, trivial⟩ (hb_19 x1 (x3 + 1) S)
def b_278_19 : Nat → Int32 → Int32 → QS → Option ((Int32) × QS)
  | 0, _, _, _ => none
  | n + 1, x1, x3, S => if 3840 ≤ x3 then (b_278_53 x3 S) else (q_bd (f_194 x3 S) (fun r_5 S_6 => if r_5 < 0 then (b_278_47 (b_278_19 n) x1 x3 S_6) else (q_bd (f_194 x3 S_6) (fun r_7 S_8 => q_bd (f_277 r_7 x1 S_8) (fun r_9 S_10 => if ¬ r_9 = 0 then (b_278_53 x3 S_10) else (b_278_47 (b_278_19 n) x1 x3 S_10))))))
theorem sb_278_19 : ∀ (n : Nat) (x1 : Int32) (x3 : Int32) (S : QS), q_Sim 278 19 [(0, .inr (.inr (11, 0, 0))), (1, .inl x1), (3, .inl x3)] [] (q_V S) q_I (b_278_19 n x1 x3 S)
  | 0, _, _, _ => q_Sim.none
  | n + 1, x1, x3, S => by
    rw [b_278_19]
    refine q_Sim.steps vc_278 2 (pc' := 23) (lv' := [(0, .inr (.inr (11, 0, 0))), (1, .inl x1), (3, .inl x3)]) (st' := [.inl 3840, .inl x3]) (V' := q_V S) rfl ?_
    refine q_Sim.br vc_278 (c := 3840 ≤ x3) (t := 53) (f := 26) (lv' := [(0, .inr (.inr (11, 0, 0))), (1, .inl x1), (3, .inl x3)]) (st' := []) (V' := q_V S) rfl ?_ ?_
    · exact q_Sim.sub2 (lv' := [(0, .inr (.inr (11, 0, 0))), (3, .inl x3)]) [0, 3] rfl (by decide) ⟨rfl, rfl, trivial⟩ (sb_278_53 x3 S)
    · refine q_Sim.steps vc_278 2 (pc' := 28) (lv' := [(0, .inr (.inr (11, 0, 0))), (1, .inl x1), (3, .inl x3)]) (st' := [.inl x3, .inr (.inr (11, 0, 0))]) (V' := q_V S) rfl ?_
      refine q_Sim.call vc_278 (as := [.inr (.inr (11, 0, 0)), .inl x3]) (pc' := 31) (lv' := [(0, .inr (.inr (11, 0, 0))), (1, .inl x1), (3, .inl x3)]) (st' := []) (S := S) rfl (rc_194 x3) (s_194 x3 S) (fun r_5 S_6 => ?_)
      refine q_Sim.br vc_278 (c := r_5 < 0) (t := 47) (f := 34) (lv' := [(0, .inr (.inr (11, 0, 0))), (1, .inl x1), (3, .inl x3)]) (st' := []) (V' := q_V S_6) rfl ?_ ?_
      · exact q_Sim.sub2 (lv' := [(0, .inr (.inr (11, 0, 0))), (1, .inl x1), (3, .inl x3)]) [0, 1, 3] rfl (by decide) ⟨rfl, rfl, rfl, trivial⟩ (sb_278_47 (b_278_19 n) (sb_278_19 n) x1 x3 S_6)
      · refine q_Sim.steps vc_278 3 (pc' := 37) (lv' := [(0, .inr (.inr (11, 0, 0))), (1, .inl x1), (3, .inl x3)]) (st' := [.inl x3, .inr (.inr (11, 0, 0)), .inr (.inr (11, 0, 0))]) (V' := q_V S_6) rfl ?_
        refine q_Sim.call vc_278 (as := [.inr (.inr (11, 0, 0)), .inl x3]) (pc' := 40) (lv' := [(0, .inr (.inr (11, 0, 0))), (1, .inl x1), (3, .inl x3)]) (st' := [.inr (.inr (11, 0, 0))]) (S := S_6) rfl (rc_194 x3) (s_194 x3 S_6) (fun r_7 S_8 => ?_)
        refine q_Sim.steps vc_278 1 (pc' := 41) (lv' := [(0, .inr (.inr (11, 0, 0))), (1, .inl x1), (3, .inl x3)]) (st' := [.inl x1, .inl r_7, .inr (.inr (11, 0, 0))]) (V' := q_V S_8) rfl ?_
        refine q_Sim.call vc_278 (as := [.inr (.inr (11, 0, 0)), .inl r_7, .inl x1]) (pc' := 44) (lv' := [(0, .inr (.inr (11, 0, 0))), (1, .inl x1), (3, .inl x3)]) (st' := []) (S := S_8) rfl (rc_277 r_7 x1) (s_277 r_7 x1 S_8) (fun r_9 S_10 => ?_)
        refine q_Sim.br vc_278 (c := ¬ r_9 = 0) (t := 53) (f := 47) (lv' := [(0, .inr (.inr (11, 0, 0))), (1, .inl x1), (3, .inl x3)]) (st' := []) (V' := q_V S_10) rfl ?_ ?_
        · exact q_Sim.sub2 (lv' := [(0, .inr (.inr (11, 0, 0))), (3, .inl x3)]) [0, 3] rfl (by decide) ⟨rfl, rfl, trivial⟩ (sb_278_53 x3 S_10)
        · exact q_Sim.sub2 (lv' := [(0, .inr (.inr (11, 0, 0))), (1, .inl x1), (3, .inl x3)]) [0, 1, 3] rfl (by decide) ⟨rfl, rfl, rfl, trivial⟩ (sb_278_47 (b_278_19 n) (sb_278_19 n) x1 x3 S_10)
def f_278 (x1 : Int32) (x2 : Int32) (S : QS) : Option ((Int32) × QS) := q_bd (f_189 x2 0 3839 S) (fun r_1 S_2 => if ¬ r_1 = 0 then (b_278_19 q_N x1 x2 S_2) else (q_bd (f_186 2 S_2) (fun r_11 S_12 => some (r_11, S_12))))
theorem s_278 (x1 : Int32) (x2 : Int32) (S : QS) : q_Sim 278 0 [(0, .inr (.inr (11, 0, 0))), (1, .inl x1), (2, .inl x2)] [] (q_V S) q_I (f_278 x1 x2 S) := by
  unfold f_278
  refine q_Sim.steps vc_278 3 (pc' := 5) (lv' := [(0, .inr (.inr (11, 0, 0))), (1, .inl x1), (2, .inl x2)]) (st' := [.inl 3839, .inl 0, .inl x2]) (V' := q_V S) rfl ?_
  refine q_Sim.call vc_278 (as := [.inl x2, .inl 0, .inl 3839]) (pc' := 8) (lv' := [(0, .inr (.inr (11, 0, 0))), (1, .inl x1), (2, .inl x2)]) (st' := []) (S := S) rfl (rc_189 x2 0 3839) (s_189 x2 0 3839 S) (fun r_1 S_2 => ?_)
  refine q_Sim.br vc_278 (c := ¬ r_1 = 0) (t := 17) (f := 11) (lv' := [(0, .inr (.inr (11, 0, 0))), (1, .inl x1), (2, .inl x2)]) (st' := []) (V' := q_V S_2) rfl ?_ ?_
  · refine q_Sim.steps vc_278 2 (pc' := 19) (lv' := [(3, .inl x2), (0, .inr (.inr (11, 0, 0))), (1, .inl x1), (2, .inl x2)]) (st' := []) (V' := q_V S_2) rfl ?_
    exact q_Sim.sub2 (lv' := [(0, .inr (.inr (11, 0, 0))), (1, .inl x1), (3, .inl x2)]) [0, 1, 3] rfl (by decide) ⟨rfl, rfl, rfl, trivial⟩ (sb_278_19 q_N x1 x2 S_2)
  · refine q_Sim.steps vc_278 2 (pc' := 13) (lv' := [(0, .inr (.inr (11, 0, 0))), (1, .inl x1), (2, .inl x2)]) (st' := [.inl 2, .inr (.inr (11, 0, 0))]) (V' := q_V S_2) rfl ?_
    refine q_Sim.call vc_278 (as := [.inr (.inr (11, 0, 0)), .inl 2]) (pc' := 16) (lv' := [(0, .inr (.inr (11, 0, 0))), (1, .inl x1), (2, .inl x2)]) (st' := []) (S := S_2) rfl (rc_186 2) (s_186 2 S_2) (fun r_11 S_12 => ?_)
    exact q_Sim.ret vc_278 rfl
theorem vc_279 : v_code 279 = k_279 := rfl
theorem rc_279 (x0 : Int32) : v_rcv 279 [.inl x0] = true := rfl
def b_279_56 (x0 : Int32) (xs0 : Int32) (S : QS) : Option ((Int32) × QS) := if x0 < 400 then (some (xs0, S)) else (some (xs0 - 32, S))
theorem sb_279_56 (x0 : Int32) (xs0 : Int32) (S : QS) : q_Sim 279 56 [(0, .inl x0)] [.inl xs0] (q_V S) q_I (b_279_56 x0 xs0 S) := by
  unfold b_279_56
  refine q_Sim.steps vc_279 3 (pc' := 61) (lv' := [(2, .inl xs0), (0, .inl x0)]) (st' := [.inl 400, .inl x0]) (V' := q_V S) rfl ?_
  refine q_Sim.br vc_279 (c := x0 < 400) (t := 71) (f := 64) (lv' := [(2, .inl xs0), (0, .inl x0)]) (st' := []) (V' := q_V S) rfl ?_ ?_
  · refine q_Sim.steps vc_279 1 (pc' := 72) (lv' := [(2, .inl xs0), (0, .inl x0)]) (st' := [.inl xs0]) (V' := q_V S) rfl ?_
    exact q_Sim.ret vc_279 rfl
  · refine q_Sim.steps vc_279 4 (pc' := 72) (lv' := [(2, .inl xs0), (0, .inl x0)]) (st' := [.inl (xs0 - 32)]) (V' := q_V S) rfl ?_
    exact q_Sim.ret vc_279 rfl
def f_279 (x0 : Int32) (S : QS) : Option ((Int32) × QS) := q_bd (f_273 x0 S) (fun r_1 S_2 => if ¬ r_1 = 10 then (if ¬ r_1 = 11 then (if ¬ r_1 = 6 then (if ¬ r_1 = 7 then (if ¬ r_1 = 8 then (b_279_56 x0 115 S_2) else (b_279_56 x0 98 S_2)) else (b_279_56 x0 101 S_2)) else (some (104, S_2))) else (some (112, S_2))) else (some (46, S_2)))
theorem s_279 (x0 : Int32) (S : QS) : q_Sim 279 0 [(0, .inl x0)] [] (q_V S) q_I (f_279 x0 S) := by
  unfold f_279
  refine q_Sim.steps vc_279 1 (pc' := 1) (lv' := [(0, .inl x0)]) (st' := [.inl x0]) (V' := q_V S) rfl ?_
  refine q_Sim.call vc_279 (as := [.inl x0]) (pc' := 4) (lv' := [(0, .inl x0)]) (st' := []) (S := S) rfl (rc_273 x0) (s_273 x0 S) (fun r_1 S_2 => ?_)
  refine q_Sim.steps vc_279 3 (pc' := 8) (lv' := [(1, .inl r_1), (0, .inl x0)]) (st' := [.inl 10, .inl r_1]) (V' := q_V S_2) rfl ?_
  refine q_Sim.br vc_279 (c := ¬ r_1 = 10) (t := 14) (f := 11) (lv' := [(1, .inl r_1), (0, .inl x0)]) (st' := []) (V' := q_V S_2) rfl ?_ ?_
  · refine q_Sim.steps vc_279 2 (pc' := 17) (lv' := [(1, .inl r_1), (0, .inl x0)]) (st' := [.inl 11, .inl r_1]) (V' := q_V S_2) rfl ?_
    refine q_Sim.br vc_279 (c := ¬ r_1 = 11) (t := 23) (f := 20) (lv' := [(1, .inl r_1), (0, .inl x0)]) (st' := []) (V' := q_V S_2) rfl ?_ ?_
    · refine q_Sim.steps vc_279 2 (pc' := 26) (lv' := [(1, .inl r_1), (0, .inl x0)]) (st' := [.inl 6, .inl r_1]) (V' := q_V S_2) rfl ?_
      refine q_Sim.br vc_279 (c := ¬ r_1 = 6) (t := 32) (f := 29) (lv' := [(1, .inl r_1), (0, .inl x0)]) (st' := []) (V' := q_V S_2) rfl ?_ ?_
      · refine q_Sim.steps vc_279 2 (pc' := 35) (lv' := [(1, .inl r_1), (0, .inl x0)]) (st' := [.inl 7, .inl r_1]) (V' := q_V S_2) rfl ?_
        refine q_Sim.br vc_279 (c := ¬ r_1 = 7) (t := 43) (f := 38) (lv' := [(1, .inl r_1), (0, .inl x0)]) (st' := []) (V' := q_V S_2) rfl ?_ ?_
        · refine q_Sim.steps vc_279 2 (pc' := 46) (lv' := [(1, .inl r_1), (0, .inl x0)]) (st' := [.inl 8, .inl r_1]) (V' := q_V S_2) rfl ?_
          refine q_Sim.br vc_279 (c := ¬ r_1 = 8) (t := 54) (f := 49) (lv' := [(1, .inl r_1), (0, .inl x0)]) (st' := []) (V' := q_V S_2) rfl ?_ ?_
          · refine q_Sim.steps vc_279 1 (pc' := 56) (lv' := [(1, .inl r_1), (0, .inl x0)]) (st' := [.inl 115]) (V' := q_V S_2) rfl ?_
            exact q_Sim.sub2 (lv' := [(0, .inl x0)]) [0] rfl (by decide) ⟨rfl, trivial⟩ (sb_279_56 x0 115 S_2)
          · refine q_Sim.steps vc_279 2 (pc' := 56) (lv' := [(1, .inl r_1), (0, .inl x0)]) (st' := [.inl 98]) (V' := q_V S_2) rfl ?_
            exact q_Sim.sub2 (lv' := [(0, .inl x0)]) [0] rfl (by decide) ⟨rfl, trivial⟩ (sb_279_56 x0 98 S_2)
        · refine q_Sim.steps vc_279 2 (pc' := 56) (lv' := [(1, .inl r_1), (0, .inl x0)]) (st' := [.inl 101]) (V' := q_V S_2) rfl ?_
          exact q_Sim.sub2 (lv' := [(0, .inl x0)]) [0] rfl (by decide) ⟨rfl, trivial⟩ (sb_279_56 x0 101 S_2)
      · refine q_Sim.steps vc_279 1 (pc' := 31) (lv' := [(1, .inl r_1), (0, .inl x0)]) (st' := [.inl 104]) (V' := q_V S_2) rfl ?_
        exact q_Sim.ret vc_279 rfl
    · refine q_Sim.steps vc_279 1 (pc' := 22) (lv' := [(1, .inl r_1), (0, .inl x0)]) (st' := [.inl 112]) (V' := q_V S_2) rfl ?_
      exact q_Sim.ret vc_279 rfl
  · refine q_Sim.steps vc_279 1 (pc' := 13) (lv' := [(1, .inl r_1), (0, .inl x0)]) (st' := [.inl 46]) (V' := q_V S_2) rfl ?_
    exact q_Sim.ret vc_279 rfl
theorem vc_280 : v_code 280 = k_280 := rfl
theorem rc_280 (x1 : Int32) : v_rcv 280 [.inr (.inr (11, 0, 0)), .inl x1] = true := rfl
def b_280_34 : Nat → Int32 → Int32 → QS → Option ((Int32) × QS)
  | 0, _, _, _ => none
  | n + 1, x3, x4, S => if (S.1 (11, 0, 0) 10) ≤ x4 then (q_bd (f_187 (S.1 (11, 0, 0) 10) S) (fun r_8 S_9 => some (r_8, S_9))) else (q_bd (f_196 x3 x4 S) (fun r_10 S_11 => q_bd (f_279 r_10 S_11) (fun r_12 S_13 => q_ck (v_in x4 64) (q_let (q_set S_13 (44, 0, 0) x4.toNatClampNeg r_12) (fun S_14 => b_280_34 n x3 (x4 + 1) S_14)))))
theorem sb_280_34 : ∀ (n : Nat) (x3 : Int32) (x4 : Int32) (S : QS), q_Sim 280 34 [(0, .inr (.inr (11, 0, 0))), (3, .inl x3), (4, .inl x4)] [] (q_V S) q_I (b_280_34 n x3 x4 S)
  | 0, _, _, _ => q_Sim.none
  | n + 1, x3, x4, S => by
    rw [b_280_34]
    refine q_Sim.steps vc_280 3 (pc' := 40) (lv' := [(0, .inr (.inr (11, 0, 0))), (3, .inl x3), (4, .inl x4)]) (st' := [.inl (S.1 (11, 0, 0) 10), .inl x4]) (V' := q_V S) rfl ?_
    refine q_Sim.br vc_280 (c := (S.1 (11, 0, 0) 10) ≤ x4) (t := 66) (f := 43) (lv' := [(0, .inr (.inr (11, 0, 0))), (3, .inl x3), (4, .inl x4)]) (st' := []) (V' := q_V S) rfl ?_ ?_
    · refine q_Sim.steps vc_280 3 (pc' := 71) (lv' := [(0, .inr (.inr (11, 0, 0))), (3, .inl x3), (4, .inl x4)]) (st' := [.inl (S.1 (11, 0, 0) 10), .inr (.inr (11, 0, 0))]) (V' := q_V S) rfl ?_
      refine q_Sim.call vc_280 (as := [.inr (.inr (11, 0, 0)), .inl (S.1 (11, 0, 0) 10)]) (pc' := 74) (lv' := [(0, .inr (.inr (11, 0, 0))), (3, .inl x3), (4, .inl x4)]) (st' := []) (S := S) rfl (rc_187 (S.1 (11, 0, 0) 10)) (s_187 (S.1 (11, 0, 0) 10) S) (fun r_8 S_9 => ?_)
      exact q_Sim.ret vc_280 rfl
    · refine q_Sim.steps vc_280 6 (pc' := 53) (lv' := [(0, .inr (.inr (11, 0, 0))), (3, .inl x3), (4, .inl x4)]) (st' := [.inl x4, .inl x3, .inr (.inr (11, 0, 0)), .inl x4, .inr (.inr (44, 0, 0))]) (V' := q_V S) rfl ?_
      refine q_Sim.call vc_280 (as := [.inr (.inr (11, 0, 0)), .inl x3, .inl x4]) (pc' := 56) (lv' := [(0, .inr (.inr (11, 0, 0))), (3, .inl x3), (4, .inl x4)]) (st' := [.inl x4, .inr (.inr (44, 0, 0))]) (S := S) rfl (rc_196 x3 x4) (s_196 x3 x4 S) (fun r_10 S_11 => ?_)
      refine q_Sim.call vc_280 (as := [.inl r_10]) (pc' := 59) (lv' := [(0, .inr (.inr (11, 0, 0))), (3, .inl x3), (4, .inl x4)]) (st' := [.inl x4, .inr (.inr (44, 0, 0))]) (S := S_11) rfl (rc_279 r_10) (s_279 r_10 S_11) (fun r_12 S_13 => ?_)
      refine q_Sim.ck vc_280 (c := v_in x4 64) (pc' := 60) (lv' := [(0, .inr (.inr (11, 0, 0))), (3, .inl x3), (4, .inl x4)]) (st' := []) (V' := q_V (q_set S_13 (44, 0, 0) x4.toNatClampNeg r_12)) rfl ?_
      refine q_Sim.letS (fun S_14 => ?_)
      refine q_Sim.steps vc_280 2 (pc' := 34) (lv' := [(4, .inl (x4 + 1)), (0, .inr (.inr (11, 0, 0))), (3, .inl x3)]) (st' := []) (V' := q_V S_14) rfl ?_
      exact q_Sim.sub2 (lv' := [(0, .inr (.inr (11, 0, 0))), (3, .inl x3), (4, .inl (x4 + 1))]) [0, 3, 4] rfl (by decide) ⟨rfl, rfl, rfl, trivial⟩ (sb_280_34 n x3 (x4 + 1) S_14)
def f_280 (x1 : Int32) (S : QS) : Option ((Int32) × QS) := q_bd (f_201 x1 S) (fun r_1 S_2 => if r_1 ≤ 0 then (q_bd (f_194 x1 S_2) (fun r_3 S_4 => q_bd (f_195 r_3 S_4) (fun r_5 S_6 => q_let (q_set S_6 (11, 0, 0) 10 r_5) (fun S_7 => b_280_34 q_N r_3 0 S_7)))) else (q_bd (f_186 r_1 S_2) (fun r_15 S_16 => some (r_15, S_16))))
theorem s_280 (x1 : Int32) (S : QS) : q_Sim 280 0 [(0, .inr (.inr (11, 0, 0))), (1, .inl x1)] [] (q_V S) q_I (f_280 x1 S) := by
  unfold f_280
  refine q_Sim.steps vc_280 2 (pc' := 2) (lv' := [(0, .inr (.inr (11, 0, 0))), (1, .inl x1)]) (st' := [.inl x1, .inr (.inr (11, 0, 0))]) (V' := q_V S) rfl ?_
  refine q_Sim.call vc_280 (as := [.inr (.inr (11, 0, 0)), .inl x1]) (pc' := 5) (lv' := [(0, .inr (.inr (11, 0, 0))), (1, .inl x1)]) (st' := []) (S := S) rfl (rc_201 x1) (s_201 x1 S) (fun r_1 S_2 => ?_)
  refine q_Sim.steps vc_280 2 (pc' := 7) (lv' := [(2, .inl r_1), (0, .inr (.inr (11, 0, 0))), (1, .inl x1)]) (st' := [.inl r_1]) (V' := q_V S_2) rfl ?_
  refine q_Sim.br vc_280 (c := r_1 ≤ 0) (t := 16) (f := 10) (lv' := [(2, .inl r_1), (0, .inr (.inr (11, 0, 0))), (1, .inl x1)]) (st' := []) (V' := q_V S_2) rfl ?_ ?_
  · refine q_Sim.steps vc_280 2 (pc' := 18) (lv' := [(2, .inl r_1), (0, .inr (.inr (11, 0, 0))), (1, .inl x1)]) (st' := [.inl x1, .inr (.inr (11, 0, 0))]) (V' := q_V S_2) rfl ?_
    refine q_Sim.call vc_280 (as := [.inr (.inr (11, 0, 0)), .inl x1]) (pc' := 21) (lv' := [(2, .inl r_1), (0, .inr (.inr (11, 0, 0))), (1, .inl x1)]) (st' := []) (S := S_2) rfl (rc_194 x1) (s_194 x1 S_2) (fun r_3 S_4 => ?_)
    refine q_Sim.steps vc_280 4 (pc' := 25) (lv' := [(3, .inl r_3), (2, .inl r_1), (0, .inr (.inr (11, 0, 0))), (1, .inl x1)]) (st' := [.inl r_3, .inr (.inr (11, 0, 0)), .inr (.inr (11, 0, 0))]) (V' := q_V S_4) rfl ?_
    refine q_Sim.call vc_280 (as := [.inr (.inr (11, 0, 0)), .inl r_3]) (pc' := 28) (lv' := [(3, .inl r_3), (2, .inl r_1), (0, .inr (.inr (11, 0, 0))), (1, .inl x1)]) (st' := [.inr (.inr (11, 0, 0))]) (S := S_4) rfl (rc_195 r_3) (s_195 r_3 S_4) (fun r_5 S_6 => ?_)
    refine q_Sim.steps vc_280 1 (pc' := 31) (lv' := [(3, .inl r_3), (2, .inl r_1), (0, .inr (.inr (11, 0, 0))), (1, .inl x1)]) (st' := []) (V' := q_V (q_set S_6 (11, 0, 0) 10 r_5)) rfl ?_
    refine q_Sim.letS (fun S_7 => ?_)
    refine q_Sim.steps vc_280 2 (pc' := 34) (lv' := [(4, .inl 0), (3, .inl r_3), (2, .inl r_1), (0, .inr (.inr (11, 0, 0))), (1, .inl x1)]) (st' := []) (V' := q_V S_7) rfl ?_
    exact q_Sim.sub2 (lv' := [(0, .inr (.inr (11, 0, 0))), (3, .inl r_3), (4, .inl 0)]) [0, 3, 4] rfl (by decide) ⟨rfl, rfl, rfl, trivial⟩ (sb_280_34 q_N r_3 0 S_7)
  · refine q_Sim.steps vc_280 2 (pc' := 12) (lv' := [(2, .inl r_1), (0, .inr (.inr (11, 0, 0))), (1, .inl x1)]) (st' := [.inl r_1, .inr (.inr (11, 0, 0))]) (V' := q_V S_2) rfl ?_
    refine q_Sim.call vc_280 (as := [.inr (.inr (11, 0, 0)), .inl r_1]) (pc' := 15) (lv' := [(2, .inl r_1), (0, .inr (.inr (11, 0, 0))), (1, .inl x1)]) (st' := []) (S := S_2) rfl (rc_186 r_1) (s_186 r_1 S_2) (fun r_15 S_16 => ?_)
    exact q_Sim.ret vc_280 rfl
theorem vc_281 : v_code 281 = k_281 := rfl
theorem rc_281 (x1 : Int32) : v_rcv 281 [.inr (.inr (11, 0, 0)), .inl x1] = true := rfl
def f_281 (x1 : Int32) (S : QS) : Option ((Int32) × QS) := if 0 ≤ (S.1 (11, 0, 0) 10) then (q_bd (f_189 x1 0 ((S.1 (11, 0, 0) 10) - 1) S) (fun r_1 S_2 => if r_1 = 0 then (q_bd (f_186 2 S_2) (fun r_3 S_4 => some (r_3, S_4))) else (q_ck (v_in x1 64) (q_let (S_2.1 (44, 0, 0) x1.toNatClampNeg) (fun y_5 => q_bd (f_187 y_5 S_2) (fun r_6 S_7 => some (r_6, S_7))))))) else (q_bd (f_186 1 S) (fun r_8 S_9 => some (r_8, S_9)))
theorem s_281 (x1 : Int32) (S : QS) : q_Sim 281 0 [(0, .inr (.inr (11, 0, 0))), (1, .inl x1)] [] (q_V S) q_I (f_281 x1 S) := by
  unfold f_281
  refine q_Sim.steps vc_281 2 (pc' := 4) (lv' := [(0, .inr (.inr (11, 0, 0))), (1, .inl x1)]) (st' := [.inl (S.1 (11, 0, 0) 10)]) (V' := q_V S) rfl ?_
  refine q_Sim.br vc_281 (c := 0 ≤ (S.1 (11, 0, 0) 10)) (t := 15) (f := 7) (lv' := [(0, .inr (.inr (11, 0, 0))), (1, .inl x1)]) (st' := []) (V' := q_V S) rfl ?_ ?_
  · refine q_Sim.steps vc_281 6 (pc' := 23) (lv' := [(0, .inr (.inr (11, 0, 0))), (1, .inl x1)]) (st' := [.inl ((S.1 (11, 0, 0) 10) - 1), .inl 0, .inl x1]) (V' := q_V S) rfl ?_
    refine q_Sim.call vc_281 (as := [.inl x1, .inl 0, .inl ((S.1 (11, 0, 0) 10) - 1)]) (pc' := 26) (lv' := [(0, .inr (.inr (11, 0, 0))), (1, .inl x1)]) (st' := []) (S := S) rfl (rc_189 x1 0 ((S.1 (11, 0, 0) 10) - 1)) (s_189 x1 0 ((S.1 (11, 0, 0) 10) - 1) S) (fun r_1 S_2 => ?_)
    refine q_Sim.br vc_281 (c := r_1 = 0) (t := 42) (f := 29) (lv' := [(0, .inr (.inr (11, 0, 0))), (1, .inl x1)]) (st' := []) (V' := q_V S_2) rfl ?_ ?_
    · refine q_Sim.steps vc_281 2 (pc' := 44) (lv' := [(0, .inr (.inr (11, 0, 0))), (1, .inl x1)]) (st' := [.inl 2, .inr (.inr (11, 0, 0))]) (V' := q_V S_2) rfl ?_
      refine q_Sim.call vc_281 (as := [.inr (.inr (11, 0, 0)), .inl 2]) (pc' := 47) (lv' := [(0, .inr (.inr (11, 0, 0))), (1, .inl x1)]) (st' := []) (S := S_2) rfl (rc_186 2) (s_186 2 S_2) (fun r_3 S_4 => ?_)
      exact q_Sim.ret vc_281 rfl
    · refine q_Sim.steps vc_281 4 (pc' := 35) (lv' := [(0, .inr (.inr (11, 0, 0))), (1, .inl x1)]) (st' := [.inl x1, .inr (.inr (44, 0, 0)), .inr (.inr (11, 0, 0))]) (V' := q_V S_2) rfl ?_
      refine q_Sim.ck vc_281 (c := v_in x1 64) (pc' := 36) (lv' := [(0, .inr (.inr (11, 0, 0))), (1, .inl x1)]) (st' := [.inl (S_2.1 (44, 0, 0) x1.toNatClampNeg), .inr (.inr (11, 0, 0))]) (V' := q_V S_2) rfl ?_
      refine q_Sim.letI (fun y_5 => ?_)
      refine q_Sim.call vc_281 (as := [.inr (.inr (11, 0, 0)), .inl y_5]) (pc' := 39) (lv' := [(0, .inr (.inr (11, 0, 0))), (1, .inl x1)]) (st' := []) (S := S_2) rfl (rc_187 y_5) (s_187 y_5 S_2) (fun r_6 S_7 => ?_)
      refine q_Sim.steps vc_281 1 (pc' := 47) (lv' := [(0, .inr (.inr (11, 0, 0))), (1, .inl x1)]) (st' := [.inl r_6]) (V' := q_V S_7) rfl ?_
      exact q_Sim.ret vc_281 rfl
  · refine q_Sim.steps vc_281 2 (pc' := 9) (lv' := [(0, .inr (.inr (11, 0, 0))), (1, .inl x1)]) (st' := [.inl 1, .inr (.inr (11, 0, 0))]) (V' := q_V S) rfl ?_
    refine q_Sim.call vc_281 (as := [.inr (.inr (11, 0, 0)), .inl 1]) (pc' := 12) (lv' := [(0, .inr (.inr (11, 0, 0))), (1, .inl x1)]) (st' := []) (S := S) rfl (rc_186 1) (s_186 1 S) (fun r_8 S_9 => ?_)
    refine q_Sim.steps vc_281 1 (pc' := 47) (lv' := [(0, .inr (.inr (11, 0, 0))), (1, .inl x1)]) (st' := [.inl r_8]) (V' := q_V S_9) rfl ?_
    exact q_Sim.ret vc_281 rfl
theorem vc_282 : v_code 282 = k_282 := rfl
theorem rc_282 (x1 : Int32) (x2 : Int32) (x3 : Int32) : v_rcv 282 [.inr (.inr (11, 0, 0)), .inl x1, .inl x2, .inl x3] = true := rfl
def b_282_45  (S : QS) : Option ((Int32) × QS) := q_bd (f_186 2 S) (fun r_1 S_2 => some (r_1, S_2))
theorem sb_282_45  (S : QS) : q_Sim 282 45 [(0, .inr (.inr (11, 0, 0)))] [] (q_V S) q_I (b_282_45  S) := by
  unfold b_282_45
  refine q_Sim.steps vc_282 2 (pc' := 47) (lv' := [(0, .inr (.inr (11, 0, 0)))]) (st' := [.inl 2, .inr (.inr (11, 0, 0))]) (V' := q_V S) rfl ?_
  refine q_Sim.call vc_282 (as := [.inr (.inr (11, 0, 0)), .inl 2]) (pc' := 50) (lv' := [(0, .inr (.inr (11, 0, 0)))]) (st' := []) (S := S) rfl (rc_186 2) (s_186 2 S) (fun r_1 S_2 => ?_)
  exact q_Sim.ret vc_282 rfl
def b_282_76 (back_54 : Int32 → Int32 → Int32 → Int32 → QS → Option ((Int32) × QS)) (x1 : Int32) (x2 : Int32) (x3 : Int32) (x4 : Int32) (xs0 : Int32) (S : QS) : Option ((Int32) × QS) := q_ck (v_in (x1 + xs0) 64) (q_let (S.1 (44, 0, 0) (x1 + xs0).toNatClampNeg) (fun y_5 => q_ck (v_in (x2 + xs0) 64) (q_let (q_set S (44, 0, 0) (x2 + xs0).toNatClampNeg y_5) (fun S_6 => back_54 x1 x2 x3 (x4 + 1) S_6))))
theorem sb_282_76 (back_54 : Int32 → Int32 → Int32 → Int32 → QS → Option ((Int32) × QS)) (hb_54 : ∀ (x1 : Int32) (x2 : Int32) (x3 : Int32) (x4 : Int32) (S : QS), q_Sim 282 54 [(0, .inr (.inr (11, 0, 0))), (1, .inl x1), (2, .inl x2), (3, .inl x3), (4, .inl x4)] [] (q_V S) q_I (back_54 x1 x2 x3 x4 S)) (x1 : Int32) (x2 : Int32) (x3 : Int32) (x4 : Int32) (xs0 : Int32) (S : QS) : q_Sim 282 76 [(0, .inr (.inr (11, 0, 0))), (1, .inl x1), (2, .inl x2), (3, .inl x3), (4, .inl x4)] [.inl xs0] (q_V S) q_I (b_282_76 back_54 x1 x2 x3 x4 xs0 S) := by
  unfold b_282_76
  refine q_Sim.steps vc_282 11 (pc' := 94) (lv' := [(5, .inl xs0), (0, .inr (.inr (11, 0, 0))), (1, .inl x1), (2, .inl x2), (3, .inl x3), (4, .inl x4)]) (st' := [.inl (x1 + xs0), .inr (.inr (44, 0, 0)), .inl (x2 + xs0), .inr (.inr (44, 0, 0))]) (V' := q_V S) rfl ?_
  refine q_Sim.ck vc_282 (c := v_in (x1 + xs0) 64) (pc' := 95) (lv' := [(5, .inl xs0), (0, .inr (.inr (11, 0, 0))), (1, .inl x1), (2, .inl x2), (3, .inl x3), (4, .inl x4)]) (st' := [.inl (S.1 (44, 0, 0) (x1 + xs0).toNatClampNeg), .inl (x2 + xs0), .inr (.inr (44, 0, 0))]) (V' := q_V S) rfl ?_
  refine q_Sim.letI (fun y_5 => ?_)
  refine q_Sim.ck vc_282 (c := v_in (x2 + xs0) 64) (pc' := 96) (lv' := [(5, .inl xs0), (0, .inr (.inr (11, 0, 0))), (1, .inl x1), (2, .inl x2), (3, .inl x3), (4, .inl x4)]) (st' := []) (V' := q_V (q_set S (44, 0, 0) (x2 + xs0).toNatClampNeg y_5)) rfl ?_
  refine q_Sim.letS (fun S_6 => ?_)
  refine q_Sim.steps vc_282 2 (pc' := 54) (lv' := [(4, .inl (x4 + 1)), (5, .inl xs0), (0, .inr (.inr (11, 0, 0))), (1, .inl x1), (2, .inl x2), (3, .inl x3)]) (st' := []) (V' := q_V S_6) rfl ?_
  exact q_Sim.sub2 (lv' := [(0, .inr (.inr (11, 0, 0))), (1, .inl x1), (2, .inl x2), (3, .inl x3), (4, .inl (x4 + 1))]) [0, 1, 2, 3, 4] rfl (by decide) ⟨rfl, rfl, rfl, rfl, rfl, trivial⟩ (hb_54 x1 x2 x3 (x4 + 1) S_6)
def b_282_54 : Nat → Int32 → Int32 → Int32 → Int32 → QS → Option ((Int32) × QS)
  | 0, _, _, _, _, _ => none
  | n + 1, x1, x2, x3, x4, S => if x3 ≤ x4 then (q_bd (f_187 x3 S) (fun r_3 S_4 => some (r_3, S_4))) else (if x2 ≤ x1 then (b_282_76 (b_282_54 n) x1 x2 x3 x4 x4 S) else (b_282_76 (b_282_54 n) x1 x2 x3 x4 ((x3 - 1) - x4) S))
theorem sb_282_54 : ∀ (n : Nat) (x1 : Int32) (x2 : Int32) (x3 : Int32) (x4 : Int32) (S : QS), q_Sim 282 54 [(0, .inr (.inr (11, 0, 0))), (1, .inl x1), (2, .inl x2), (3, .inl x3), (4, .inl x4)] [] (q_V S) q_I (b_282_54 n x1 x2 x3 x4 S)
  | 0, _, _, _, _, _ => q_Sim.none
  | n + 1, x1, x2, x3, x4, S => by
    rw [b_282_54]
    refine q_Sim.steps vc_282 2 (pc' := 57) (lv' := [(0, .inr (.inr (11, 0, 0))), (1, .inl x1), (2, .inl x2), (3, .inl x3), (4, .inl x4)]) (st' := [.inl x3, .inl x4]) (V' := q_V S) rfl ?_
    refine q_Sim.br vc_282 (c := x3 ≤ x4) (t := 102) (f := 60) (lv' := [(0, .inr (.inr (11, 0, 0))), (1, .inl x1), (2, .inl x2), (3, .inl x3), (4, .inl x4)]) (st' := []) (V' := q_V S) rfl ?_ ?_
    · refine q_Sim.steps vc_282 2 (pc' := 104) (lv' := [(0, .inr (.inr (11, 0, 0))), (1, .inl x1), (2, .inl x2), (3, .inl x3), (4, .inl x4)]) (st' := [.inl x3, .inr (.inr (11, 0, 0))]) (V' := q_V S) rfl ?_
      refine q_Sim.call vc_282 (as := [.inr (.inr (11, 0, 0)), .inl x3]) (pc' := 107) (lv' := [(0, .inr (.inr (11, 0, 0))), (1, .inl x1), (2, .inl x2), (3, .inl x3), (4, .inl x4)]) (st' := []) (S := S) rfl (rc_187 x3) (s_187 x3 S) (fun r_3 S_4 => ?_)
      exact q_Sim.ret vc_282 rfl
    · refine q_Sim.steps vc_282 2 (pc' := 62) (lv' := [(0, .inr (.inr (11, 0, 0))), (1, .inl x1), (2, .inl x2), (3, .inl x3), (4, .inl x4)]) (st' := [.inl x2, .inl x1]) (V' := q_V S) rfl ?_
      refine q_Sim.br vc_282 (c := x2 ≤ x1) (t := 74) (f := 65) (lv' := [(0, .inr (.inr (11, 0, 0))), (1, .inl x1), (2, .inl x2), (3, .inl x3), (4, .inl x4)]) (st' := []) (V' := q_V S) rfl ?_ ?_
      · refine q_Sim.steps vc_282 1 (pc' := 76) (lv' := [(0, .inr (.inr (11, 0, 0))), (1, .inl x1), (2, .inl x2), (3, .inl x3), (4, .inl x4)]) (st' := [.inl x4]) (V' := q_V S) rfl ?_
        exact q_Sim.sub2 (lv' := [(0, .inr (.inr (11, 0, 0))), (1, .inl x1), (2, .inl x2), (3, .inl x3), (4, .inl x4)]) [0, 1, 2, 3, 4] rfl (by decide) ⟨rfl, rfl, rfl, rfl, rfl, trivial⟩ (sb_282_76 (b_282_54 n) (sb_282_54 n) x1 x2 x3 x4 x4 S)
      · refine q_Sim.steps vc_282 6 (pc' := 76) (lv' := [(0, .inr (.inr (11, 0, 0))), (1, .inl x1), (2, .inl x2), (3, .inl x3), (4, .inl x4)]) (st' := [.inl ((x3 - 1) - x4)]) (V' := q_V S) rfl ?_
        exact q_Sim.sub2 (lv' := [(0, .inr (.inr (11, 0, 0))), (1, .inl x1), (2, .inl x2), (3, .inl x3), (4, .inl x4)]) [0, 1, 2, 3, 4] rfl (by decide) ⟨rfl, rfl, rfl, rfl, rfl, trivial⟩ (sb_282_76 (b_282_54 n) (sb_282_54 n) x1 x2 x3 x4 ((x3 - 1) - x4) S)
def f_282 (x1 : Int32) (x2 : Int32) (x3 : Int32) (S : QS) : Option ((Int32) × QS) := if 0 ≤ (S.1 (11, 0, 0) 10) then (if x3 < 0 then (b_282_45  S) else (if x1 < 0 then (b_282_45  S) else (if x2 < 0 then (b_282_45  S) else (if ((S.1 (11, 0, 0) 10) - x1) < x3 then (b_282_45  S) else (if x3 ≤ ((S.1 (11, 0, 0) 10) - x2) then (b_282_54 q_N x1 x2 x3 0 S) else (b_282_45  S)))))) else (q_bd (f_186 1 S) (fun r_7 S_8 => some (r_7, S_8)))
theorem s_282 (x1 : Int32) (x2 : Int32) (x3 : Int32) (S : QS) : q_Sim 282 0 [(0, .inr (.inr (11, 0, 0))), (1, .inl x1), (2, .inl x2), (3, .inl x3)] [] (q_V S) q_I (f_282 x1 x2 x3 S) := by
  unfold f_282
  refine q_Sim.steps vc_282 2 (pc' := 4) (lv' := [(0, .inr (.inr (11, 0, 0))), (1, .inl x1), (2, .inl x2), (3, .inl x3)]) (st' := [.inl (S.1 (11, 0, 0) 10)]) (V' := q_V S) rfl ?_
  refine q_Sim.br vc_282 (c := 0 ≤ (S.1 (11, 0, 0) 10)) (t := 13) (f := 7) (lv' := [(0, .inr (.inr (11, 0, 0))), (1, .inl x1), (2, .inl x2), (3, .inl x3)]) (st' := []) (V' := q_V S) rfl ?_ ?_
  · refine q_Sim.steps vc_282 1 (pc' := 14) (lv' := [(0, .inr (.inr (11, 0, 0))), (1, .inl x1), (2, .inl x2), (3, .inl x3)]) (st' := [.inl x3]) (V' := q_V S) rfl ?_
    refine q_Sim.br vc_282 (c := x3 < 0) (t := 45) (f := 17) (lv' := [(0, .inr (.inr (11, 0, 0))), (1, .inl x1), (2, .inl x2), (3, .inl x3)]) (st' := []) (V' := q_V S) rfl ?_ ?_
    · exact q_Sim.sub2 (lv' := [(0, .inr (.inr (11, 0, 0)))]) [0] rfl (by decide) ⟨rfl, trivial⟩ (sb_282_45  S)
    · refine q_Sim.steps vc_282 1 (pc' := 18) (lv' := [(0, .inr (.inr (11, 0, 0))), (1, .inl x1), (2, .inl x2), (3, .inl x3)]) (st' := [.inl x1]) (V' := q_V S) rfl ?_
      refine q_Sim.br vc_282 (c := x1 < 0) (t := 45) (f := 21) (lv' := [(0, .inr (.inr (11, 0, 0))), (1, .inl x1), (2, .inl x2), (3, .inl x3)]) (st' := []) (V' := q_V S) rfl ?_ ?_
      · exact q_Sim.sub2 (lv' := [(0, .inr (.inr (11, 0, 0)))]) [0] rfl (by decide) ⟨rfl, trivial⟩ (sb_282_45  S)
      · refine q_Sim.steps vc_282 1 (pc' := 22) (lv' := [(0, .inr (.inr (11, 0, 0))), (1, .inl x1), (2, .inl x2), (3, .inl x3)]) (st' := [.inl x2]) (V' := q_V S) rfl ?_
        refine q_Sim.br vc_282 (c := x2 < 0) (t := 45) (f := 25) (lv' := [(0, .inr (.inr (11, 0, 0))), (1, .inl x1), (2, .inl x2), (3, .inl x3)]) (st' := []) (V' := q_V S) rfl ?_ ?_
        · exact q_Sim.sub2 (lv' := [(0, .inr (.inr (11, 0, 0)))]) [0] rfl (by decide) ⟨rfl, trivial⟩ (sb_282_45  S)
        · refine q_Sim.steps vc_282 5 (pc' := 32) (lv' := [(0, .inr (.inr (11, 0, 0))), (1, .inl x1), (2, .inl x2), (3, .inl x3)]) (st' := [.inl ((S.1 (11, 0, 0) 10) - x1), .inl x3]) (V' := q_V S) rfl ?_
          refine q_Sim.br vc_282 (c := ((S.1 (11, 0, 0) 10) - x1) < x3) (t := 45) (f := 35) (lv' := [(0, .inr (.inr (11, 0, 0))), (1, .inl x1), (2, .inl x2), (3, .inl x3)]) (st' := []) (V' := q_V S) rfl ?_ ?_
          · exact q_Sim.sub2 (lv' := [(0, .inr (.inr (11, 0, 0)))]) [0] rfl (by decide) ⟨rfl, trivial⟩ (sb_282_45  S)
          · refine q_Sim.steps vc_282 5 (pc' := 42) (lv' := [(0, .inr (.inr (11, 0, 0))), (1, .inl x1), (2, .inl x2), (3, .inl x3)]) (st' := [.inl ((S.1 (11, 0, 0) 10) - x2), .inl x3]) (V' := q_V S) rfl ?_
            refine q_Sim.br vc_282 (c := x3 ≤ ((S.1 (11, 0, 0) 10) - x2)) (t := 51) (f := 45) (lv' := [(0, .inr (.inr (11, 0, 0))), (1, .inl x1), (2, .inl x2), (3, .inl x3)]) (st' := []) (V' := q_V S) rfl ?_ ?_
            · refine q_Sim.steps vc_282 2 (pc' := 54) (lv' := [(4, .inl 0), (0, .inr (.inr (11, 0, 0))), (1, .inl x1), (2, .inl x2), (3, .inl x3)]) (st' := []) (V' := q_V S) rfl ?_
              exact q_Sim.sub2 (lv' := [(0, .inr (.inr (11, 0, 0))), (1, .inl x1), (2, .inl x2), (3, .inl x3), (4, .inl 0)]) [0, 1, 2, 3, 4] rfl (by decide) ⟨rfl, rfl, rfl, rfl, rfl, trivial⟩ (sb_282_54 q_N x1 x2 x3 0 S)
            · exact q_Sim.sub2 (lv' := [(0, .inr (.inr (11, 0, 0)))]) [0] rfl (by decide) ⟨rfl, trivial⟩ (sb_282_45  S)
  · refine q_Sim.steps vc_282 2 (pc' := 9) (lv' := [(0, .inr (.inr (11, 0, 0))), (1, .inl x1), (2, .inl x2), (3, .inl x3)]) (st' := [.inl 1, .inr (.inr (11, 0, 0))]) (V' := q_V S) rfl ?_
    refine q_Sim.call vc_282 (as := [.inr (.inr (11, 0, 0)), .inl 1]) (pc' := 12) (lv' := [(0, .inr (.inr (11, 0, 0))), (1, .inl x1), (2, .inl x2), (3, .inl x3)]) (st' := []) (S := S) rfl (rc_186 1) (s_186 1 S) (fun r_7 S_8 => ?_)
    exact q_Sim.ret vc_282 rfl
theorem vc_283 : v_code 283 = k_283 := rfl
theorem rc_283 (x1 : Int32) : v_rcv 283 [.inr (.inr (11, 0, 0)), .inl x1] = true := rfl
def f_283 (x1 : Int32) (S : QS) : Option ((Int32) × QS) := q_bd (f_189 x1 0 16 S) (fun r_1 S_2 => if r_1 = 0 then (some (0, S_2)) else (q_ck (v_in x1 17) (q_let (S_2.1 (42, 0, 0) x1.toNatClampNeg) (fun y_3 => some (y_3, S_2)))))
theorem s_283 (x1 : Int32) (S : QS) : q_Sim 283 0 [(0, .inr (.inr (11, 0, 0))), (1, .inl x1)] [] (q_V S) q_I (f_283 x1 S) := by
  unfold f_283
  refine q_Sim.steps vc_283 3 (pc' := 4) (lv' := [(0, .inr (.inr (11, 0, 0))), (1, .inl x1)]) (st' := [.inl 16, .inl 0, .inl x1]) (V' := q_V S) rfl ?_
  refine q_Sim.call vc_283 (as := [.inl x1, .inl 0, .inl 16]) (pc' := 7) (lv' := [(0, .inr (.inr (11, 0, 0))), (1, .inl x1)]) (st' := []) (S := S) rfl (rc_189 x1 0 16) (s_189 x1 0 16 S) (fun r_1 S_2 => ?_)
  refine q_Sim.br vc_283 (c := r_1 = 0) (t := 19) (f := 10) (lv' := [(0, .inr (.inr (11, 0, 0))), (1, .inl x1)]) (st' := []) (V' := q_V S_2) rfl ?_ ?_
  · refine q_Sim.steps vc_283 1 (pc' := 20) (lv' := [(0, .inr (.inr (11, 0, 0))), (1, .inl x1)]) (st' := [.inl 0]) (V' := q_V S_2) rfl ?_
    exact q_Sim.ret vc_283 rfl
  · refine q_Sim.steps vc_283 3 (pc' := 15) (lv' := [(0, .inr (.inr (11, 0, 0))), (1, .inl x1)]) (st' := [.inl x1, .inr (.inr (42, 0, 0))]) (V' := q_V S_2) rfl ?_
    refine q_Sim.ck vc_283 (c := v_in x1 17) (pc' := 16) (lv' := [(0, .inr (.inr (11, 0, 0))), (1, .inl x1)]) (st' := [.inl (S_2.1 (42, 0, 0) x1.toNatClampNeg)]) (V' := q_V S_2) rfl ?_
    refine q_Sim.letI (fun y_3 => ?_)
    refine q_Sim.steps vc_283 1 (pc' := 20) (lv' := [(0, .inr (.inr (11, 0, 0))), (1, .inl x1)]) (st' := [.inl y_3]) (V' := q_V S_2) rfl ?_
    exact q_Sim.ret vc_283 rfl
theorem vc_284 : v_code 284 = k_284 := rfl
theorem rc_284  : v_rcv 284 [.inr (.inr (11, 0, 0))] = true := rfl
def b_284_15 : Nat → Int32 → QS → Option ((Int32) × QS)
  | 0, _, _ => none
  | n + 1, x1, S => if 19520 ≤ x1 then (q_let (q_set S (11, 0, 0) 2 0) (fun S_1 => q_bd (f_187 1 S_1) (fun r_2 S_3 => some (r_2, S_3)))) else (q_ck (v_in x1 19520) (q_let (S.1 (41, 0, 0) x1.toNatClampNeg) (fun y_4 => q_ck (v_in x1 19520) (q_let (q_set S (40, 0, 0) x1.toNatClampNeg y_4) (fun S_5 => b_284_15 n (x1 + 1) S_5)))))
theorem sb_284_15 : ∀ (n : Nat) (x1 : Int32) (S : QS), q_Sim 284 15 [(0, .inr (.inr (11, 0, 0))), (1, .inl x1)] [] (q_V S) q_I (b_284_15 n x1 S)
  | 0, _, _ => q_Sim.none
  | n + 1, x1, S => by
    rw [b_284_15]
    refine q_Sim.steps vc_284 2 (pc' := 19) (lv' := [(0, .inr (.inr (11, 0, 0))), (1, .inl x1)]) (st' := [.inl 19520, .inl x1]) (V' := q_V S) rfl ?_
    refine q_Sim.br vc_284 (c := 19520 ≤ x1) (t := 40) (f := 22) (lv' := [(0, .inr (.inr (11, 0, 0))), (1, .inl x1)]) (st' := []) (V' := q_V S) rfl ?_ ?_
    · refine q_Sim.steps vc_284 2 (pc' := 42) (lv' := [(0, .inr (.inr (11, 0, 0))), (1, .inl x1)]) (st' := [.inl 0, .inr (.inr (11, 0, 0))]) (V' := q_V S) rfl ?_
      refine q_Sim.steps vc_284 1 (pc' := 45) (lv' := [(0, .inr (.inr (11, 0, 0))), (1, .inl x1)]) (st' := []) (V' := q_V (q_set S (11, 0, 0) 2 0)) rfl ?_
      refine q_Sim.letS (fun S_1 => ?_)
      refine q_Sim.steps vc_284 2 (pc' := 47) (lv' := [(0, .inr (.inr (11, 0, 0))), (1, .inl x1)]) (st' := [.inl 1, .inr (.inr (11, 0, 0))]) (V' := q_V S_1) rfl ?_
      refine q_Sim.call vc_284 (as := [.inr (.inr (11, 0, 0)), .inl 1]) (pc' := 50) (lv' := [(0, .inr (.inr (11, 0, 0))), (1, .inl x1)]) (st' := []) (S := S_1) rfl (rc_187 1) (s_187 1 S_1) (fun r_2 S_3 => ?_)
      exact q_Sim.ret vc_284 rfl
    · refine q_Sim.steps vc_284 6 (pc' := 32) (lv' := [(0, .inr (.inr (11, 0, 0))), (1, .inl x1)]) (st' := [.inl x1, .inr (.inr (41, 0, 0)), .inl x1, .inr (.inr (40, 0, 0))]) (V' := q_V S) rfl ?_
      refine q_Sim.ck vc_284 (c := v_in x1 19520) (pc' := 33) (lv' := [(0, .inr (.inr (11, 0, 0))), (1, .inl x1)]) (st' := [.inl (S.1 (41, 0, 0) x1.toNatClampNeg), .inl x1, .inr (.inr (40, 0, 0))]) (V' := q_V S) rfl ?_
      refine q_Sim.letI (fun y_4 => ?_)
      refine q_Sim.ck vc_284 (c := v_in x1 19520) (pc' := 34) (lv' := [(0, .inr (.inr (11, 0, 0))), (1, .inl x1)]) (st' := []) (V' := q_V (q_set S (40, 0, 0) x1.toNatClampNeg y_4)) rfl ?_
      refine q_Sim.letS (fun S_5 => ?_)
      refine q_Sim.steps vc_284 2 (pc' := 15) (lv' := [(1, .inl (x1 + 1)), (0, .inr (.inr (11, 0, 0)))]) (st' := []) (V' := q_V S_5) rfl ?_
      exact q_Sim.sub2 (lv' := [(0, .inr (.inr (11, 0, 0))), (1, .inl (x1 + 1))]) [0, 1] rfl (by decide) ⟨rfl, rfl, trivial⟩ (sb_284_15 n (x1 + 1) S_5)
def f_284  (S : QS) : Option ((Int32) × QS) := if ¬ (S.1 (11, 0, 0) 2) = 0 then (b_284_15 q_N 0 S) else (q_bd (f_187 0 S) (fun r_6 S_7 => some (r_6, S_7)))
theorem s_284  (S : QS) : q_Sim 284 0 [(0, .inr (.inr (11, 0, 0)))] [] (q_V S) q_I (f_284  S) := by
  unfold f_284
  refine q_Sim.steps vc_284 2 (pc' := 4) (lv' := [(0, .inr (.inr (11, 0, 0)))]) (st' := [.inl (S.1 (11, 0, 0) 2)]) (V' := q_V S) rfl ?_
  refine q_Sim.br vc_284 (c := ¬ (S.1 (11, 0, 0) 2) = 0) (t := 13) (f := 7) (lv' := [(0, .inr (.inr (11, 0, 0)))]) (st' := []) (V' := q_V S) rfl ?_ ?_
  · refine q_Sim.steps vc_284 2 (pc' := 15) (lv' := [(1, .inl 0), (0, .inr (.inr (11, 0, 0)))]) (st' := []) (V' := q_V S) rfl ?_
    exact q_Sim.sub2 (lv' := [(0, .inr (.inr (11, 0, 0))), (1, .inl 0)]) [0, 1] rfl (by decide) ⟨rfl, rfl, trivial⟩ (sb_284_15 q_N 0 S)
  · refine q_Sim.steps vc_284 2 (pc' := 9) (lv' := [(0, .inr (.inr (11, 0, 0)))]) (st' := [.inl 0, .inr (.inr (11, 0, 0))]) (V' := q_V S) rfl ?_
    refine q_Sim.call vc_284 (as := [.inr (.inr (11, 0, 0)), .inl 0]) (pc' := 12) (lv' := [(0, .inr (.inr (11, 0, 0)))]) (st' := []) (S := S) rfl (rc_187 0) (s_187 0 S) (fun r_6 S_7 => ?_)
    exact q_Sim.ret vc_284 rfl
theorem vc_285 : v_code 285 = k_285 := rfl
theorem rc_285  : v_rcv 285 [.inr (.inr (11, 0, 0))] = true := rfl
def b_285_268 : Nat → Int32 → Int32 → QS → Option ((Int32) × QS)
  | 0, _, _, _ => none
  | n + 1, x1, x2, S => if 17 ≤ x2 then (some (x1, S)) else (q_ck (v_in x2 17) (q_let (S.1 (42, 0, 0) x2.toNatClampNeg) (fun y_14 => q_let ((x1 * 31) + y_14) (fun y_15 => b_285_268 n y_15 (x2 + 1) S))))
theorem sb_285_268 : ∀ (n : Nat) (x1 : Int32) (x2 : Int32) (S : QS), q_Sim 285 268 [(0, .inr (.inr (11, 0, 0))), (1, .inl x1), (2, .inl x2)] [] (q_V S) q_I (b_285_268 n x1 x2 S)
  | 0, _, _, _ => q_Sim.none
  | n + 1, x1, x2, S => by
    rw [b_285_268]
    refine q_Sim.steps vc_285 2 (pc' := 271) (lv' := [(0, .inr (.inr (11, 0, 0))), (1, .inl x1), (2, .inl x2)]) (st' := [.inl 17, .inl x2]) (V' := q_V S) rfl ?_
    refine q_Sim.br vc_285 (c := 17 ≤ x2) (t := 292) (f := 274) (lv' := [(0, .inr (.inr (11, 0, 0))), (1, .inl x1), (2, .inl x2)]) (st' := []) (V' := q_V S) rfl ?_ ?_
    · refine q_Sim.steps vc_285 1 (pc' := 293) (lv' := [(0, .inr (.inr (11, 0, 0))), (1, .inl x1), (2, .inl x2)]) (st' := [.inl x1]) (V' := q_V S) rfl ?_
      exact q_Sim.ret vc_285 rfl
    · refine q_Sim.steps vc_285 6 (pc' := 283) (lv' := [(0, .inr (.inr (11, 0, 0))), (1, .inl x1), (2, .inl x2)]) (st' := [.inl x2, .inr (.inr (42, 0, 0)), .inl (x1 * 31)]) (V' := q_V S) rfl ?_
      refine q_Sim.ck vc_285 (c := v_in x2 17) (pc' := 284) (lv' := [(0, .inr (.inr (11, 0, 0))), (1, .inl x1), (2, .inl x2)]) (st' := [.inl (S.1 (42, 0, 0) x2.toNatClampNeg), .inl (x1 * 31)]) (V' := q_V S) rfl ?_
      refine q_Sim.letI (fun y_14 => ?_)
      refine q_Sim.steps vc_285 1 (pc' := 285) (lv' := [(0, .inr (.inr (11, 0, 0))), (1, .inl x1), (2, .inl x2)]) (st' := [.inl ((x1 * 31) + y_14)]) (V' := q_V S) rfl ?_
      refine q_Sim.letI (fun y_15 => ?_)
      refine q_Sim.steps vc_285 3 (pc' := 268) (lv' := [(2, .inl (x2 + 1)), (1, .inl y_15), (0, .inr (.inr (11, 0, 0)))]) (st' := []) (V' := q_V S) rfl ?_
      exact q_Sim.sub2 (lv' := [(0, .inr (.inr (11, 0, 0))), (1, .inl y_15), (2, .inl (x2 + 1))]) [0, 1, 2] rfl (by decide) ⟨rfl, rfl, rfl, trivial⟩ (sb_285_268 n y_15 (x2 + 1) S)
def b_285_231 : Nat → Int32 → Int32 → QS → Option ((Int32) × QS)
  | 0, _, _, _ => none
  | n + 1, x1, x2, S => if 5 ≤ x2 then (q_ck (v_in 8 19520) (q_let (S.1 (40, 0, 0) (8 : Int32).toNatClampNeg) (fun y_12 => q_let ((x1 * 31) + y_12) (fun y_13 => b_285_268 q_N y_13 0 S)))) else (q_bd (f_224 x2 S) (fun r_16 S_17 => q_let ((x1 * 31) + r_16) (fun y_18 => b_285_231 n y_18 (x2 + 1) S_17)))
theorem sb_285_231 : ∀ (n : Nat) (x1 : Int32) (x2 : Int32) (S : QS), q_Sim 285 231 [(0, .inr (.inr (11, 0, 0))), (1, .inl x1), (2, .inl x2)] [] (q_V S) q_I (b_285_231 n x1 x2 S)
  | 0, _, _, _ => q_Sim.none
  | n + 1, x1, x2, S => by
    rw [b_285_231]
    refine q_Sim.steps vc_285 2 (pc' := 233) (lv' := [(0, .inr (.inr (11, 0, 0))), (1, .inl x1), (2, .inl x2)]) (st' := [.inl 5, .inl x2]) (V' := q_V S) rfl ?_
    refine q_Sim.br vc_285 (c := 5 ≤ x2) (t := 253) (f := 236) (lv' := [(0, .inr (.inr (11, 0, 0))), (1, .inl x1), (2, .inl x2)]) (st' := []) (V' := q_V S) rfl ?_ ?_
    · refine q_Sim.steps vc_285 6 (pc' := 263) (lv' := [(0, .inr (.inr (11, 0, 0))), (1, .inl x1), (2, .inl x2)]) (st' := [.inl 8, .inr (.inr (40, 0, 0)), .inl (x1 * 31)]) (V' := q_V S) rfl ?_
      refine q_Sim.ck vc_285 (c := v_in 8 19520) (pc' := 264) (lv' := [(0, .inr (.inr (11, 0, 0))), (1, .inl x1), (2, .inl x2)]) (st' := [.inl (S.1 (40, 0, 0) (8 : Int32).toNatClampNeg), .inl (x1 * 31)]) (V' := q_V S) rfl ?_
      refine q_Sim.letI (fun y_12 => ?_)
      refine q_Sim.steps vc_285 1 (pc' := 265) (lv' := [(0, .inr (.inr (11, 0, 0))), (1, .inl x1), (2, .inl x2)]) (st' := [.inl ((x1 * 31) + y_12)]) (V' := q_V S) rfl ?_
      refine q_Sim.letI (fun y_13 => ?_)
      refine q_Sim.steps vc_285 3 (pc' := 268) (lv' := [(2, .inl 0), (1, .inl y_13), (0, .inr (.inr (11, 0, 0)))]) (st' := []) (V' := q_V S) rfl ?_
      exact q_Sim.sub2 (lv' := [(0, .inr (.inr (11, 0, 0))), (1, .inl y_13), (2, .inl 0)]) [0, 1, 2] rfl (by decide) ⟨rfl, rfl, rfl, trivial⟩ (sb_285_268 q_N y_13 0 S)
    · refine q_Sim.steps vc_285 5 (pc' := 242) (lv' := [(0, .inr (.inr (11, 0, 0))), (1, .inl x1), (2, .inl x2)]) (st' := [.inl x2, .inr (.inr (11, 0, 0)), .inl (x1 * 31)]) (V' := q_V S) rfl ?_
      refine q_Sim.call vc_285 (as := [.inr (.inr (11, 0, 0)), .inl x2]) (pc' := 245) (lv' := [(0, .inr (.inr (11, 0, 0))), (1, .inl x1), (2, .inl x2)]) (st' := [.inl (x1 * 31)]) (S := S) rfl (rc_224 x2) (s_224 x2 S) (fun r_16 S_17 => ?_)
      refine q_Sim.steps vc_285 1 (pc' := 246) (lv' := [(0, .inr (.inr (11, 0, 0))), (1, .inl x1), (2, .inl x2)]) (st' := [.inl ((x1 * 31) + r_16)]) (V' := q_V S_17) rfl ?_
      refine q_Sim.letI (fun y_18 => ?_)
      refine q_Sim.steps vc_285 3 (pc' := 231) (lv' := [(2, .inl (x2 + 1)), (1, .inl y_18), (0, .inr (.inr (11, 0, 0)))]) (st' := []) (V' := q_V S_17) rfl ?_
      exact q_Sim.sub2 (lv' := [(0, .inr (.inr (11, 0, 0))), (1, .inl y_18), (2, .inl (x2 + 1))]) [0, 1, 2] rfl (by decide) ⟨rfl, rfl, rfl, trivial⟩ (sb_285_231 n y_18 (x2 + 1) S_17)
def b_285_179 : Nat → Int32 → Int32 → QS → Option ((Int32) × QS)
  | 0, _, _, _ => none
  | n + 1, x1, x2, S => q_ck (v_in 2 19520) (q_let (S.1 (40, 0, 0) (2 : Int32).toNatClampNeg) (fun y_9 => if y_9 ≤ x2 then (q_ck (v_in 3 19520) (q_let (S.1 (40, 0, 0) (3 : Int32).toNatClampNeg) (fun y_10 => q_let ((x1 * 31) + y_10) (fun y_11 => b_285_231 q_N y_11 0 S)))) else (q_bd (f_192 x2 0 S) (fun r_19 S_20 => q_bd (f_192 x2 1 S_20) (fun r_21 S_22 => q_let ((((x1 * 31) + r_19) * 31) + r_21) (fun y_23 => b_285_179 n y_23 (x2 + 1) S_22))))))
theorem sb_285_179 : ∀ (n : Nat) (x1 : Int32) (x2 : Int32) (S : QS), q_Sim 285 179 [(0, .inr (.inr (11, 0, 0))), (1, .inl x1), (2, .inl x2)] [] (q_V S) q_I (b_285_179 n x1 x2 S)
  | 0, _, _, _ => q_Sim.none
  | n + 1, x1, x2, S => by
    rw [b_285_179]
    refine q_Sim.steps vc_285 4 (pc' := 185) (lv' := [(0, .inr (.inr (11, 0, 0))), (1, .inl x1), (2, .inl x2)]) (st' := [.inl 2, .inr (.inr (40, 0, 0)), .inl x2]) (V' := q_V S) rfl ?_
    refine q_Sim.ck vc_285 (c := v_in 2 19520) (pc' := 186) (lv' := [(0, .inr (.inr (11, 0, 0))), (1, .inl x1), (2, .inl x2)]) (st' := [.inl (S.1 (40, 0, 0) (2 : Int32).toNatClampNeg), .inl x2]) (V' := q_V S) rfl ?_
    refine q_Sim.letI (fun y_9 => ?_)
    refine q_Sim.br vc_285 (c := y_9 ≤ x2) (t := 217) (f := 189) (lv' := [(0, .inr (.inr (11, 0, 0))), (1, .inl x1), (2, .inl x2)]) (st' := []) (V' := q_V S) rfl ?_ ?_
    · refine q_Sim.steps vc_285 6 (pc' := 226) (lv' := [(0, .inr (.inr (11, 0, 0))), (1, .inl x1), (2, .inl x2)]) (st' := [.inl 3, .inr (.inr (40, 0, 0)), .inl (x1 * 31)]) (V' := q_V S) rfl ?_
      refine q_Sim.ck vc_285 (c := v_in 3 19520) (pc' := 227) (lv' := [(0, .inr (.inr (11, 0, 0))), (1, .inl x1), (2, .inl x2)]) (st' := [.inl (S.1 (40, 0, 0) (3 : Int32).toNatClampNeg), .inl (x1 * 31)]) (V' := q_V S) rfl ?_
      refine q_Sim.letI (fun y_10 => ?_)
      refine q_Sim.steps vc_285 1 (pc' := 228) (lv' := [(0, .inr (.inr (11, 0, 0))), (1, .inl x1), (2, .inl x2)]) (st' := [.inl ((x1 * 31) + y_10)]) (V' := q_V S) rfl ?_
      refine q_Sim.letI (fun y_11 => ?_)
      refine q_Sim.steps vc_285 3 (pc' := 231) (lv' := [(2, .inl 0), (1, .inl y_11), (0, .inr (.inr (11, 0, 0)))]) (st' := []) (V' := q_V S) rfl ?_
      exact q_Sim.sub2 (lv' := [(0, .inr (.inr (11, 0, 0))), (1, .inl y_11), (2, .inl 0)]) [0, 1, 2] rfl (by decide) ⟨rfl, rfl, rfl, trivial⟩ (sb_285_231 q_N y_11 0 S)
    · refine q_Sim.steps vc_285 6 (pc' := 196) (lv' := [(0, .inr (.inr (11, 0, 0))), (1, .inl x1), (2, .inl x2)]) (st' := [.inl 0, .inl x2, .inr (.inr (11, 0, 0)), .inl (x1 * 31)]) (V' := q_V S) rfl ?_
      refine q_Sim.call vc_285 (as := [.inr (.inr (11, 0, 0)), .inl x2, .inl 0]) (pc' := 199) (lv' := [(0, .inr (.inr (11, 0, 0))), (1, .inl x1), (2, .inl x2)]) (st' := [.inl (x1 * 31)]) (S := S) rfl (rc_192 x2 0) (s_192 x2 0 S) (fun r_19 S_20 => ?_)
      refine q_Sim.steps vc_285 6 (pc' := 206) (lv' := [(0, .inr (.inr (11, 0, 0))), (1, .inl x1), (2, .inl x2)]) (st' := [.inl 1, .inl x2, .inr (.inr (11, 0, 0)), .inl (((x1 * 31) + r_19) * 31)]) (V' := q_V S_20) rfl ?_
      refine q_Sim.call vc_285 (as := [.inr (.inr (11, 0, 0)), .inl x2, .inl 1]) (pc' := 209) (lv' := [(0, .inr (.inr (11, 0, 0))), (1, .inl x1), (2, .inl x2)]) (st' := [.inl (((x1 * 31) + r_19) * 31)]) (S := S_20) rfl (rc_192 x2 1) (s_192 x2 1 S_20) (fun r_21 S_22 => ?_)
      refine q_Sim.steps vc_285 1 (pc' := 210) (lv' := [(0, .inr (.inr (11, 0, 0))), (1, .inl x1), (2, .inl x2)]) (st' := [.inl ((((x1 * 31) + r_19) * 31) + r_21)]) (V' := q_V S_22) rfl ?_
      refine q_Sim.letI (fun y_23 => ?_)
      refine q_Sim.steps vc_285 3 (pc' := 179) (lv' := [(2, .inl (x2 + 1)), (1, .inl y_23), (0, .inr (.inr (11, 0, 0)))]) (st' := []) (V' := q_V S_22) rfl ?_
      exact q_Sim.sub2 (lv' := [(0, .inr (.inr (11, 0, 0))), (1, .inl y_23), (2, .inl (x2 + 1))]) [0, 1, 2] rfl (by decide) ⟨rfl, rfl, rfl, trivial⟩ (sb_285_179 n y_23 (x2 + 1) S_22)
def b_285_132 (back_109 : Int32 → Int32 → QS → Option ((Int32) × QS)) : Nat → Int32 → Int32 → Int32 → QS → Option ((Int32) × QS)
  | 0, _, _, _, _ => none
  | n + 1, x1, x2, x3, S => q_bd (f_195 x2 S) (fun r_27 S_28 => if r_27 ≤ x3 then (back_109 x1 (x2 + 1) S_28) else (q_bd (f_196 x2 x3 S_28) (fun r_29 S_30 => q_let ((x1 * 31) + r_29) (fun y_31 => b_285_132 back_109 n y_31 x2 (x3 + 1) S_30))))
theorem sb_285_132 (back_109 : Int32 → Int32 → QS → Option ((Int32) × QS)) (hb_109 : ∀ (x1 : Int32) (x2 : Int32) (S : QS), q_Sim 285 109 [(0, .inr (.inr (11, 0, 0))), (1, .inl x1), (2, .inl x2)] [] (q_V S) q_I (back_109 x1 x2 S)) : ∀ (n : Nat) (x1 : Int32) (x2 : Int32) (x3 : Int32) (S : QS), q_Sim 285 132 [(0, .inr (.inr (11, 0, 0))), (1, .inl x1), (2, .inl x2), (3, .inl x3)] [] (q_V S) q_I (b_285_132 back_109 n x1 x2 x3 S)
  | 0, _, _, _, _ => q_Sim.none
  | n + 1, x1, x2, x3, S => by
    rw [b_285_132]
    refine q_Sim.steps vc_285 3 (pc' := 135) (lv' := [(0, .inr (.inr (11, 0, 0))), (1, .inl x1), (2, .inl x2), (3, .inl x3)]) (st' := [.inl x2, .inr (.inr (11, 0, 0)), .inl x3]) (V' := q_V S) rfl ?_
    refine q_Sim.call vc_285 (as := [.inr (.inr (11, 0, 0)), .inl x2]) (pc' := 138) (lv' := [(0, .inr (.inr (11, 0, 0))), (1, .inl x1), (2, .inl x2), (3, .inl x3)]) (st' := [.inl x3]) (S := S) rfl (rc_195 x2) (s_195 x2 S) (fun r_27 S_28 => ?_)
    refine q_Sim.br vc_285 (c := r_27 ≤ x3) (t := 159) (f := 141) (lv' := [(0, .inr (.inr (11, 0, 0))), (1, .inl x1), (2, .inl x2), (3, .inl x3)]) (st' := []) (V' := q_V S_28) rfl ?_ ?_
    · refine q_Sim.steps vc_285 2 (pc' := 109) (lv' := [(2, .inl (x2 + 1)), (0, .inr (.inr (11, 0, 0))), (1, .inl x1), (3, .inl x3)]) (st' := []) (V' := q_V S_28) rfl ?_
      exact q_Sim.sub2 (lv' := [(0, .inr (.inr (11, 0, 0))), (1, .inl x1), (2, .inl (x2 + 1))]) [0, 1, 2] rfl (by decide) ⟨rfl, rfl, rfl, trivial⟩ (hb_109 x1 (x2 + 1) S_28)
    · refine q_Sim.steps vc_285 6 (pc' := 148) (lv' := [(0, .inr (.inr (11, 0, 0))), (1, .inl x1), (2, .inl x2), (3, .inl x3)]) (st' := [.inl x3, .inl x2, .inr (.inr (11, 0, 0)), .inl (x1 * 31)]) (V' := q_V S_28) rfl ?_
      refine q_Sim.call vc_285 (as := [.inr (.inr (11, 0, 0)), .inl x2, .inl x3]) (pc' := 151) (lv' := [(0, .inr (.inr (11, 0, 0))), (1, .inl x1), (2, .inl x2), (3, .inl x3)]) (st' := [.inl (x1 * 31)]) (S := S_28) rfl (rc_196 x2 x3) (s_196 x2 x3 S_28) (fun r_29 S_30 => ?_)
      refine q_Sim.steps vc_285 1 (pc' := 152) (lv' := [(0, .inr (.inr (11, 0, 0))), (1, .inl x1), (2, .inl x2), (3, .inl x3)]) (st' := [.inl ((x1 * 31) + r_29)]) (V' := q_V S_30) rfl ?_
      refine q_Sim.letI (fun y_31 => ?_)
      refine q_Sim.steps vc_285 3 (pc' := 132) (lv' := [(3, .inl (x3 + 1)), (1, .inl y_31), (0, .inr (.inr (11, 0, 0))), (2, .inl x2)]) (st' := []) (V' := q_V S_30) rfl ?_
      exact q_Sim.sub2 (lv' := [(0, .inr (.inr (11, 0, 0))), (1, .inl y_31), (2, .inl x2), (3, .inl (x3 + 1))]) [0, 1, 2, 3] rfl (by decide) ⟨rfl, rfl, rfl, rfl, trivial⟩ (sb_285_132 back_109 hb_109 n y_31 x2 (x3 + 1) S_30)
def b_285_109 : Nat → Int32 → Int32 → QS → Option ((Int32) × QS)
  | 0, _, _, _ => none
  | n + 1, x1, x2, S => q_ck (v_in 1 19520) (q_let (S.1 (40, 0, 0) (1 : Int32).toNatClampNeg) (fun y_6 => if y_6 ≤ x2 then (q_ck (v_in 2 19520) (q_let (S.1 (40, 0, 0) (2 : Int32).toNatClampNeg) (fun y_7 => q_let ((x1 * 31) + y_7) (fun y_8 => b_285_179 q_N y_8 0 S)))) else (q_bd (f_195 x2 S) (fun r_24 S_25 => q_let ((x1 * 31) + r_24) (fun y_26 => b_285_132 (b_285_109 n) q_N y_26 x2 0 S_25)))))
theorem sb_285_109 : ∀ (n : Nat) (x1 : Int32) (x2 : Int32) (S : QS), q_Sim 285 109 [(0, .inr (.inr (11, 0, 0))), (1, .inl x1), (2, .inl x2)] [] (q_V S) q_I (b_285_109 n x1 x2 S)
  | 0, _, _, _ => q_Sim.none
  | n + 1, x1, x2, S => by
    rw [b_285_109]
    refine q_Sim.steps vc_285 4 (pc' := 115) (lv' := [(0, .inr (.inr (11, 0, 0))), (1, .inl x1), (2, .inl x2)]) (st' := [.inl 1, .inr (.inr (40, 0, 0)), .inl x2]) (V' := q_V S) rfl ?_
    refine q_Sim.ck vc_285 (c := v_in 1 19520) (pc' := 116) (lv' := [(0, .inr (.inr (11, 0, 0))), (1, .inl x1), (2, .inl x2)]) (st' := [.inl (S.1 (40, 0, 0) (1 : Int32).toNatClampNeg), .inl x2]) (V' := q_V S) rfl ?_
    refine q_Sim.letI (fun y_6 => ?_)
    refine q_Sim.br vc_285 (c := y_6 ≤ x2) (t := 165) (f := 119) (lv' := [(0, .inr (.inr (11, 0, 0))), (1, .inl x1), (2, .inl x2)]) (st' := []) (V' := q_V S) rfl ?_ ?_
    · refine q_Sim.steps vc_285 6 (pc' := 174) (lv' := [(0, .inr (.inr (11, 0, 0))), (1, .inl x1), (2, .inl x2)]) (st' := [.inl 2, .inr (.inr (40, 0, 0)), .inl (x1 * 31)]) (V' := q_V S) rfl ?_
      refine q_Sim.ck vc_285 (c := v_in 2 19520) (pc' := 175) (lv' := [(0, .inr (.inr (11, 0, 0))), (1, .inl x1), (2, .inl x2)]) (st' := [.inl (S.1 (40, 0, 0) (2 : Int32).toNatClampNeg), .inl (x1 * 31)]) (V' := q_V S) rfl ?_
      refine q_Sim.letI (fun y_7 => ?_)
      refine q_Sim.steps vc_285 1 (pc' := 176) (lv' := [(0, .inr (.inr (11, 0, 0))), (1, .inl x1), (2, .inl x2)]) (st' := [.inl ((x1 * 31) + y_7)]) (V' := q_V S) rfl ?_
      refine q_Sim.letI (fun y_8 => ?_)
      refine q_Sim.steps vc_285 3 (pc' := 179) (lv' := [(2, .inl 0), (1, .inl y_8), (0, .inr (.inr (11, 0, 0)))]) (st' := []) (V' := q_V S) rfl ?_
      exact q_Sim.sub2 (lv' := [(0, .inr (.inr (11, 0, 0))), (1, .inl y_8), (2, .inl 0)]) [0, 1, 2] rfl (by decide) ⟨rfl, rfl, rfl, trivial⟩ (sb_285_179 q_N y_8 0 S)
    · refine q_Sim.steps vc_285 5 (pc' := 125) (lv' := [(0, .inr (.inr (11, 0, 0))), (1, .inl x1), (2, .inl x2)]) (st' := [.inl x2, .inr (.inr (11, 0, 0)), .inl (x1 * 31)]) (V' := q_V S) rfl ?_
      refine q_Sim.call vc_285 (as := [.inr (.inr (11, 0, 0)), .inl x2]) (pc' := 128) (lv' := [(0, .inr (.inr (11, 0, 0))), (1, .inl x1), (2, .inl x2)]) (st' := [.inl (x1 * 31)]) (S := S) rfl (rc_195 x2) (s_195 x2 S) (fun r_24 S_25 => ?_)
      refine q_Sim.steps vc_285 1 (pc' := 129) (lv' := [(0, .inr (.inr (11, 0, 0))), (1, .inl x1), (2, .inl x2)]) (st' := [.inl ((x1 * 31) + r_24)]) (V' := q_V S_25) rfl ?_
      refine q_Sim.letI (fun y_26 => ?_)
      refine q_Sim.steps vc_285 3 (pc' := 132) (lv' := [(3, .inl 0), (1, .inl y_26), (0, .inr (.inr (11, 0, 0))), (2, .inl x2)]) (st' := []) (V' := q_V S_25) rfl ?_
      exact q_Sim.sub2 (lv' := [(0, .inr (.inr (11, 0, 0))), (1, .inl y_26), (2, .inl x2), (3, .inl 0)]) [0, 1, 2, 3] rfl (by decide) ⟨rfl, rfl, rfl, rfl, trivial⟩ (sb_285_132 (b_285_109 n) (sb_285_109 n) q_N y_26 x2 0 S_25)
def b_285_13 : Nat → Int32 → Int32 → QS → Option ((Int32) × QS)
  | 0, _, _, _ => none
  | n + 1, x1, x2, S => q_ck (v_in 0 19520) (q_let (S.1 (40, 0, 0) (0 : Int32).toNatClampNeg) (fun y_3 => if y_3 ≤ x2 then (q_ck (v_in 1 19520) (q_let (S.1 (40, 0, 0) (1 : Int32).toNatClampNeg) (fun y_4 => q_let ((x1 * 31) + y_4) (fun y_5 => b_285_109 q_N y_5 0 S)))) else (q_bd (f_190 x2 0 S) (fun r_32 S_33 => q_bd (f_190 x2 1 S_33) (fun r_34 S_35 => q_bd (f_190 x2 2 S_35) (fun r_36 S_37 => q_let ((((((x1 * 31) + r_32) * 31) + r_34) * 31) + r_36) (fun y_38 => q_bd (f_190 x2 10 S_37) (fun r_39 S_40 => q_bd (f_190 x2 5 S_40) (fun r_41 S_42 => q_bd (f_190 x2 6 S_42) (fun r_43 S_44 => q_let ((((((y_38 * 31) + r_39) * 31) + r_41) * 31) + r_43) (fun y_45 => b_285_13 n y_45 (x2 + 1) S_44)))))))))))
theorem sb_285_13 : ∀ (n : Nat) (x1 : Int32) (x2 : Int32) (S : QS), q_Sim 285 13 [(0, .inr (.inr (11, 0, 0))), (1, .inl x1), (2, .inl x2)] [] (q_V S) q_I (b_285_13 n x1 x2 S)
  | 0, _, _, _ => q_Sim.none
  | n + 1, x1, x2, S => by
    rw [b_285_13]
    refine q_Sim.steps vc_285 4 (pc' := 19) (lv' := [(0, .inr (.inr (11, 0, 0))), (1, .inl x1), (2, .inl x2)]) (st' := [.inl 0, .inr (.inr (40, 0, 0)), .inl x2]) (V' := q_V S) rfl ?_
    refine q_Sim.ck vc_285 (c := v_in 0 19520) (pc' := 20) (lv' := [(0, .inr (.inr (11, 0, 0))), (1, .inl x1), (2, .inl x2)]) (st' := [.inl (S.1 (40, 0, 0) (0 : Int32).toNatClampNeg), .inl x2]) (V' := q_V S) rfl ?_
    refine q_Sim.letI (fun y_3 => ?_)
    refine q_Sim.br vc_285 (c := y_3 ≤ x2) (t := 95) (f := 23) (lv' := [(0, .inr (.inr (11, 0, 0))), (1, .inl x1), (2, .inl x2)]) (st' := []) (V' := q_V S) rfl ?_ ?_
    · refine q_Sim.steps vc_285 6 (pc' := 104) (lv' := [(0, .inr (.inr (11, 0, 0))), (1, .inl x1), (2, .inl x2)]) (st' := [.inl 1, .inr (.inr (40, 0, 0)), .inl (x1 * 31)]) (V' := q_V S) rfl ?_
      refine q_Sim.ck vc_285 (c := v_in 1 19520) (pc' := 105) (lv' := [(0, .inr (.inr (11, 0, 0))), (1, .inl x1), (2, .inl x2)]) (st' := [.inl (S.1 (40, 0, 0) (1 : Int32).toNatClampNeg), .inl (x1 * 31)]) (V' := q_V S) rfl ?_
      refine q_Sim.letI (fun y_4 => ?_)
      refine q_Sim.steps vc_285 1 (pc' := 106) (lv' := [(0, .inr (.inr (11, 0, 0))), (1, .inl x1), (2, .inl x2)]) (st' := [.inl ((x1 * 31) + y_4)]) (V' := q_V S) rfl ?_
      refine q_Sim.letI (fun y_5 => ?_)
      refine q_Sim.steps vc_285 3 (pc' := 109) (lv' := [(2, .inl 0), (1, .inl y_5), (0, .inr (.inr (11, 0, 0)))]) (st' := []) (V' := q_V S) rfl ?_
      exact q_Sim.sub2 (lv' := [(0, .inr (.inr (11, 0, 0))), (1, .inl y_5), (2, .inl 0)]) [0, 1, 2] rfl (by decide) ⟨rfl, rfl, rfl, trivial⟩ (sb_285_109 q_N y_5 0 S)
    · refine q_Sim.steps vc_285 6 (pc' := 30) (lv' := [(0, .inr (.inr (11, 0, 0))), (1, .inl x1), (2, .inl x2)]) (st' := [.inl 0, .inl x2, .inr (.inr (11, 0, 0)), .inl (x1 * 31)]) (V' := q_V S) rfl ?_
      refine q_Sim.call vc_285 (as := [.inr (.inr (11, 0, 0)), .inl x2, .inl 0]) (pc' := 33) (lv' := [(0, .inr (.inr (11, 0, 0))), (1, .inl x1), (2, .inl x2)]) (st' := [.inl (x1 * 31)]) (S := S) rfl (rc_190 x2 0) (s_190 x2 0 S) (fun r_32 S_33 => ?_)
      refine q_Sim.steps vc_285 6 (pc' := 40) (lv' := [(0, .inr (.inr (11, 0, 0))), (1, .inl x1), (2, .inl x2)]) (st' := [.inl 1, .inl x2, .inr (.inr (11, 0, 0)), .inl (((x1 * 31) + r_32) * 31)]) (V' := q_V S_33) rfl ?_
      refine q_Sim.call vc_285 (as := [.inr (.inr (11, 0, 0)), .inl x2, .inl 1]) (pc' := 43) (lv' := [(0, .inr (.inr (11, 0, 0))), (1, .inl x1), (2, .inl x2)]) (st' := [.inl (((x1 * 31) + r_32) * 31)]) (S := S_33) rfl (rc_190 x2 1) (s_190 x2 1 S_33) (fun r_34 S_35 => ?_)
      refine q_Sim.steps vc_285 6 (pc' := 50) (lv' := [(0, .inr (.inr (11, 0, 0))), (1, .inl x1), (2, .inl x2)]) (st' := [.inl 2, .inl x2, .inr (.inr (11, 0, 0)), .inl (((((x1 * 31) + r_32) * 31) + r_34) * 31)]) (V' := q_V S_35) rfl ?_
      refine q_Sim.call vc_285 (as := [.inr (.inr (11, 0, 0)), .inl x2, .inl 2]) (pc' := 53) (lv' := [(0, .inr (.inr (11, 0, 0))), (1, .inl x1), (2, .inl x2)]) (st' := [.inl (((((x1 * 31) + r_32) * 31) + r_34) * 31)]) (S := S_35) rfl (rc_190 x2 2) (s_190 x2 2 S_35) (fun r_36 S_37 => ?_)
      refine q_Sim.steps vc_285 1 (pc' := 54) (lv' := [(0, .inr (.inr (11, 0, 0))), (1, .inl x1), (2, .inl x2)]) (st' := [.inl ((((((x1 * 31) + r_32) * 31) + r_34) * 31) + r_36)]) (V' := q_V S_37) rfl ?_
      refine q_Sim.letI (fun y_38 => ?_)
      refine q_Sim.steps vc_285 7 (pc' := 63) (lv' := [(1, .inl y_38), (0, .inr (.inr (11, 0, 0))), (2, .inl x2)]) (st' := [.inl 10, .inl x2, .inr (.inr (11, 0, 0)), .inl (y_38 * 31)]) (V' := q_V S_37) rfl ?_
      refine q_Sim.call vc_285 (as := [.inr (.inr (11, 0, 0)), .inl x2, .inl 10]) (pc' := 66) (lv' := [(1, .inl y_38), (0, .inr (.inr (11, 0, 0))), (2, .inl x2)]) (st' := [.inl (y_38 * 31)]) (S := S_37) rfl (rc_190 x2 10) (s_190 x2 10 S_37) (fun r_39 S_40 => ?_)
      refine q_Sim.steps vc_285 6 (pc' := 73) (lv' := [(1, .inl y_38), (0, .inr (.inr (11, 0, 0))), (2, .inl x2)]) (st' := [.inl 5, .inl x2, .inr (.inr (11, 0, 0)), .inl (((y_38 * 31) + r_39) * 31)]) (V' := q_V S_40) rfl ?_
      refine q_Sim.call vc_285 (as := [.inr (.inr (11, 0, 0)), .inl x2, .inl 5]) (pc' := 76) (lv' := [(1, .inl y_38), (0, .inr (.inr (11, 0, 0))), (2, .inl x2)]) (st' := [.inl (((y_38 * 31) + r_39) * 31)]) (S := S_40) rfl (rc_190 x2 5) (s_190 x2 5 S_40) (fun r_41 S_42 => ?_)
      refine q_Sim.steps vc_285 6 (pc' := 84) (lv' := [(1, .inl y_38), (0, .inr (.inr (11, 0, 0))), (2, .inl x2)]) (st' := [.inl 6, .inl x2, .inr (.inr (11, 0, 0)), .inl (((((y_38 * 31) + r_39) * 31) + r_41) * 31)]) (V' := q_V S_42) rfl ?_
      refine q_Sim.call vc_285 (as := [.inr (.inr (11, 0, 0)), .inl x2, .inl 6]) (pc' := 87) (lv' := [(1, .inl y_38), (0, .inr (.inr (11, 0, 0))), (2, .inl x2)]) (st' := [.inl (((((y_38 * 31) + r_39) * 31) + r_41) * 31)]) (S := S_42) rfl (rc_190 x2 6) (s_190 x2 6 S_42) (fun r_43 S_44 => ?_)
      refine q_Sim.steps vc_285 1 (pc' := 88) (lv' := [(1, .inl y_38), (0, .inr (.inr (11, 0, 0))), (2, .inl x2)]) (st' := [.inl ((((((y_38 * 31) + r_39) * 31) + r_41) * 31) + r_43)]) (V' := q_V S_44) rfl ?_
      refine q_Sim.letI (fun y_45 => ?_)
      refine q_Sim.steps vc_285 3 (pc' := 13) (lv' := [(2, .inl (x2 + 1)), (1, .inl y_45), (0, .inr (.inr (11, 0, 0)))]) (st' := []) (V' := q_V S_44) rfl ?_
      exact q_Sim.sub2 (lv' := [(0, .inr (.inr (11, 0, 0))), (1, .inl y_45), (2, .inl (x2 + 1))]) [0, 1, 2] rfl (by decide) ⟨rfl, rfl, rfl, trivial⟩ (sb_285_13 n y_45 (x2 + 1) S_44)
def f_285  (S : QS) : Option ((Int32) × QS) := q_ck (v_in 0 19520) (q_let (S.1 (40, 0, 0) (0 : Int32).toNatClampNeg) (fun y_1 => q_let (527 + y_1) (fun y_2 => b_285_13 q_N y_2 0 S)))
theorem s_285  (S : QS) : q_Sim 285 0 [(0, .inr (.inr (11, 0, 0)))] [] (q_V S) q_I (f_285  S) := by
  unfold f_285
  refine q_Sim.steps vc_285 4 (pc' := 8) (lv' := [(0, .inr (.inr (11, 0, 0)))]) (st' := [.inl 0, .inr (.inr (40, 0, 0)), .inl 527]) (V' := q_V S) rfl ?_
  refine q_Sim.ck vc_285 (c := v_in 0 19520) (pc' := 9) (lv' := [(0, .inr (.inr (11, 0, 0)))]) (st' := [.inl (S.1 (40, 0, 0) (0 : Int32).toNatClampNeg), .inl 527]) (V' := q_V S) rfl ?_
  refine q_Sim.letI (fun y_1 => ?_)
  refine q_Sim.steps vc_285 1 (pc' := 10) (lv' := [(0, .inr (.inr (11, 0, 0)))]) (st' := [.inl (527 + y_1)]) (V' := q_V S) rfl ?_
  refine q_Sim.letI (fun y_2 => ?_)
  refine q_Sim.steps vc_285 3 (pc' := 13) (lv' := [(2, .inl 0), (1, .inl y_2), (0, .inr (.inr (11, 0, 0)))]) (st' := []) (V' := q_V S) rfl ?_
  exact q_Sim.sub2 (lv' := [(0, .inr (.inr (11, 0, 0))), (1, .inl y_2), (2, .inl 0)]) [0, 1, 2] rfl (by decide) ⟨rfl, rfl, rfl, trivial⟩ (sb_285_13 q_N y_2 0 S)
theorem vc_286 : v_code 286 = k_286 := rfl
theorem rc_286  : v_rcv 286 [.inr (.inr (11, 0, 0))] = true := rfl
def f_286  (S : QS) : Option ((Int32) × QS) := some (S.1 (11, 0, 0) 5, S)
theorem s_286  (S : QS) : q_Sim 286 0 [(0, .inr (.inr (11, 0, 0)))] [] (q_V S) q_I (f_286  S) := by
  unfold f_286
  refine q_Sim.steps vc_286 2 (pc' := 4) (lv' := [(0, .inr (.inr (11, 0, 0)))]) (st' := [.inl (S.1 (11, 0, 0) 5)]) (V' := q_V S) rfl ?_
  exact q_Sim.ret vc_286 rfl
