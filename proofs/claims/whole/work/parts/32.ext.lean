/-! ===== the code as functions, by program ===== -/
theorem vc_78 : v_code 78 = k_78 := rfl
theorem rc_78 (x1 : Int32) (x2 : Int32) : v_rcv 78 [.inr (.inr (6, 0, 0)), .inl x1, .inl x2] = true := rfl
def b_78_38 (back_10 : Int32 → Int32 → Int32 → Int32 → QS → Option ((Int32) × QS)) (x1 : Int32) (x2 : Int32) (x3 : Int32) (x4 : Int32) (S : QS) : Option ((Int32) × QS) := back_10 x1 x2 x3 (x4 + 1) S
theorem sb_78_38 (back_10 : Int32 → Int32 → Int32 → Int32 → QS → Option ((Int32) × QS)) (hb_10 : ∀ (x1 : Int32) (x2 : Int32) (x3 : Int32) (x4 : Int32) (S : QS), q_Sim 78 10 [(0, .inr (.inr (6, 0, 0))), (1, .inl x1), (2, .inl x2), (3, .inl x3), (4, .inl x4)] [] (q_V S) q_I (back_10 x1 x2 x3 x4 S)) (x1 : Int32) (x2 : Int32) (x3 : Int32) (x4 : Int32) (S : QS) : q_Sim 78 38 [(0, .inr (.inr (6, 0, 0))), (1, .inl x1), (2, .inl x2), (3, .inl x3), (4, .inl x4)] [] (q_V S) q_I (b_78_38 back_10 x1 x2 x3 x4 S) := by
  unfold b_78_38
  refine q_Sim.steps vc_78 2 (pc' := 10) (lv' := [(4, .inl (x4 + 1)), (0, .inr (.inr (6, 0, 0))), (1, .inl x1), (2, .inl x2), (3, .inl x3)]) (st' := []) (V' := q_V S) rfl ?_
  exact q_Sim.sub2 (lv' := [(0, .inr (.inr (6, 0, 0))), (1, .inl x1), (2, .inl x2), (3, .inl x3), (4, .inl (x4 + 1))]) [0, 1, 2, 3, 4] rfl (by decide) ⟨rfl, rfl, rfl, rfl, rfl, trivial⟩ (hb_10 x1 x2 x3 (x4 + 1) S)
def b_78_10 : Nat → Int32 → Int32 → Int32 → Int32 → QS → Option ((Int32) × QS)
  | 0, _, _, _, _, _ => none
  | n + 1, x1, x2, x3, x4, S => if (S.1 (6, 0, 0) 5) ≤ x4 then (q_ck (v_in x2 8) (q_let (S.1 (33, 0, 0) x2.toNatClampNeg) (fun y_2 => q_let (if 0 < (x3 - y_2) then (x3 - y_2) else 0) (fun y_3 => q_ck (v_in (x1 ||| (1 <<< (x2 &&& 31))) 256) (q_let (S.1 (34, 0, 0) (x1 ||| (1 <<< (x2 &&& 31))).toNatClampNeg) (fun y_4 => some (y_3 + y_4, S))))))) else (if (x1 &&& (1 <<< (x4 &&& 31))) = 0 then (b_78_38 (b_78_10 n) x1 x2 x3 x4 S) else (q_ck (v_in x4 8) (q_let (S.1 (32, 0, 0) x4.toNatClampNeg) (fun y_5 => q_let (x3 + y_5) (fun y_6 => b_78_38 (b_78_10 n) x1 x2 y_6 x4 S)))))
theorem sb_78_10 : ∀ (n : Nat) (x1 : Int32) (x2 : Int32) (x3 : Int32) (x4 : Int32) (S : QS), q_Sim 78 10 [(0, .inr (.inr (6, 0, 0))), (1, .inl x1), (2, .inl x2), (3, .inl x3), (4, .inl x4)] [] (q_V S) q_I (b_78_10 n x1 x2 x3 x4 S)
  | 0, _, _, _, _, _ => q_Sim.none
  | n + 1, x1, x2, x3, x4, S => by
    rw [b_78_10]
    refine q_Sim.steps vc_78 3 (pc' := 16) (lv' := [(0, .inr (.inr (6, 0, 0))), (1, .inl x1), (2, .inl x2), (3, .inl x3), (4, .inl x4)]) (st' := [.inl (S.1 (6, 0, 0) 5), .inl x4]) (V' := q_V S) rfl ?_
    refine q_Sim.br vc_78 (c := (S.1 (6, 0, 0) 5) ≤ x4) (t := 44) (f := 19) (lv' := [(0, .inr (.inr (6, 0, 0))), (1, .inl x1), (2, .inl x2), (3, .inl x3), (4, .inl x4)]) (st' := []) (V' := q_V S) rfl ?_ ?_
    · refine q_Sim.steps vc_78 5 (pc' := 51) (lv' := [(0, .inr (.inr (6, 0, 0))), (1, .inl x1), (2, .inl x2), (3, .inl x3), (4, .inl x4)]) (st' := [.inl x2, .inr (.inr (33, 0, 0)), .inl x3, .inl 0]) (V' := q_V S) rfl ?_
      refine q_Sim.ck vc_78 (c := v_in x2 8) (pc' := 52) (lv' := [(0, .inr (.inr (6, 0, 0))), (1, .inl x1), (2, .inl x2), (3, .inl x3), (4, .inl x4)]) (st' := [.inl (S.1 (33, 0, 0) x2.toNatClampNeg), .inl x3, .inl 0]) (V' := q_V S) rfl ?_
      refine q_Sim.letI (fun y_2 => ?_)
      refine q_Sim.steps vc_78 2 (pc' := 56) (lv' := [(0, .inr (.inr (6, 0, 0))), (1, .inl x1), (2, .inl x2), (3, .inl x3), (4, .inl x4)]) (st' := [.inl (if 0 < (x3 - y_2) then (x3 - y_2) else 0)]) (V' := q_V S) rfl ?_
      refine q_Sim.letI (fun y_3 => ?_)
      refine q_Sim.steps vc_78 7 (pc' := 65) (lv' := [(0, .inr (.inr (6, 0, 0))), (1, .inl x1), (2, .inl x2), (3, .inl x3), (4, .inl x4)]) (st' := [.inl (x1 ||| (1 <<< (x2 &&& 31))), .inr (.inr (34, 0, 0)), .inl y_3]) (V' := q_V S) rfl ?_
      refine q_Sim.ck vc_78 (c := v_in (x1 ||| (1 <<< (x2 &&& 31))) 256) (pc' := 66) (lv' := [(0, .inr (.inr (6, 0, 0))), (1, .inl x1), (2, .inl x2), (3, .inl x3), (4, .inl x4)]) (st' := [.inl (S.1 (34, 0, 0) (x1 ||| (1 <<< (x2 &&& 31))).toNatClampNeg), .inl y_3]) (V' := q_V S) rfl ?_
      refine q_Sim.letI (fun y_4 => ?_)
      refine q_Sim.steps vc_78 1 (pc' := 67) (lv' := [(0, .inr (.inr (6, 0, 0))), (1, .inl x1), (2, .inl x2), (3, .inl x3), (4, .inl x4)]) (st' := [.inl (y_3 + y_4)]) (V' := q_V S) rfl ?_
      exact q_Sim.ret vc_78 rfl
    · refine q_Sim.steps vc_78 5 (pc' := 25) (lv' := [(0, .inr (.inr (6, 0, 0))), (1, .inl x1), (2, .inl x2), (3, .inl x3), (4, .inl x4)]) (st' := [.inl (x1 &&& (1 <<< (x4 &&& 31)))]) (V' := q_V S) rfl ?_
      refine q_Sim.br vc_78 (c := (x1 &&& (1 <<< (x4 &&& 31))) = 0) (t := 38) (f := 28) (lv' := [(0, .inr (.inr (6, 0, 0))), (1, .inl x1), (2, .inl x2), (3, .inl x3), (4, .inl x4)]) (st' := []) (V' := q_V S) rfl ?_ ?_
      · exact q_Sim.sub2 (lv' := [(0, .inr (.inr (6, 0, 0))), (1, .inl x1), (2, .inl x2), (3, .inl x3), (4, .inl x4)]) [0, 1, 2, 3, 4] rfl (by decide) ⟨rfl, rfl, rfl, rfl, rfl, trivial⟩ (sb_78_38 (b_78_10 n) (sb_78_10 n) x1 x2 x3 x4 S)
      · refine q_Sim.steps vc_78 4 (pc' := 35) (lv' := [(0, .inr (.inr (6, 0, 0))), (1, .inl x1), (2, .inl x2), (3, .inl x3), (4, .inl x4)]) (st' := [.inl x4, .inr (.inr (32, 0, 0)), .inl x3]) (V' := q_V S) rfl ?_
        refine q_Sim.ck vc_78 (c := v_in x4 8) (pc' := 36) (lv' := [(0, .inr (.inr (6, 0, 0))), (1, .inl x1), (2, .inl x2), (3, .inl x3), (4, .inl x4)]) (st' := [.inl (S.1 (32, 0, 0) x4.toNatClampNeg), .inl x3]) (V' := q_V S) rfl ?_
        refine q_Sim.letI (fun y_5 => ?_)
        refine q_Sim.steps vc_78 1 (pc' := 37) (lv' := [(0, .inr (.inr (6, 0, 0))), (1, .inl x1), (2, .inl x2), (3, .inl x3), (4, .inl x4)]) (st' := [.inl (x3 + y_5)]) (V' := q_V S) rfl ?_
        refine q_Sim.letI (fun y_6 => ?_)
        refine q_Sim.steps vc_78 1 (pc' := 38) (lv' := [(3, .inl y_6), (0, .inr (.inr (6, 0, 0))), (1, .inl x1), (2, .inl x2), (4, .inl x4)]) (st' := []) (V' := q_V S) rfl ?_
        exact q_Sim.sub2 (lv' := [(0, .inr (.inr (6, 0, 0))), (1, .inl x1), (2, .inl x2), (3, .inl y_6), (4, .inl x4)]) [0, 1, 2, 3, 4] rfl (by decide) ⟨rfl, rfl, rfl, rfl, rfl, trivial⟩ (sb_78_38 (b_78_10 n) (sb_78_10 n) x1 x2 y_6 x4 S)
def f_78 (x1 : Int32) (x2 : Int32) (S : QS) : Option ((Int32) × QS) := q_ck (v_in x2 8) (q_let (S.1 (32, 0, 0) x2.toNatClampNeg) (fun y_1 => b_78_10 q_N x1 x2 y_1 0 S))
theorem s_78 (x1 : Int32) (x2 : Int32) (S : QS) : q_Sim 78 0 [(0, .inr (.inr (6, 0, 0))), (1, .inl x1), (2, .inl x2)] [] (q_V S) q_I (f_78 x1 x2 S) := by
  unfold f_78
  refine q_Sim.steps vc_78 3 (pc' := 5) (lv' := [(0, .inr (.inr (6, 0, 0))), (1, .inl x1), (2, .inl x2)]) (st' := [.inl x2, .inr (.inr (32, 0, 0))]) (V' := q_V S) rfl ?_
  refine q_Sim.ck vc_78 (c := v_in x2 8) (pc' := 6) (lv' := [(0, .inr (.inr (6, 0, 0))), (1, .inl x1), (2, .inl x2)]) (st' := [.inl (S.1 (32, 0, 0) x2.toNatClampNeg)]) (V' := q_V S) rfl ?_
  refine q_Sim.letI (fun y_1 => ?_)
  refine q_Sim.steps vc_78 3 (pc' := 10) (lv' := [(4, .inl 0), (3, .inl y_1), (0, .inr (.inr (6, 0, 0))), (1, .inl x1), (2, .inl x2)]) (st' := []) (V' := q_V S) rfl ?_
  exact q_Sim.sub2 (lv' := [(0, .inr (.inr (6, 0, 0))), (1, .inl x1), (2, .inl x2), (3, .inl y_1), (4, .inl 0)]) [0, 1, 2, 3, 4] rfl (by decide) ⟨rfl, rfl, rfl, rfl, rfl, trivial⟩ (sb_78_10 q_N x1 x2 y_1 0 S)
theorem vc_77 : v_code 77 = k_77 := rfl
theorem rc_77 (x1 : Int32) : v_rcv 77 [.inr (.inr (6, 0, 0)), .inl x1] = true := rfl
def b_77_42 (back_4 : Int32 → Int32 → Int32 → QS → Option ((Int32) × QS)) (x1 : Int32) (x2 : Int32) (x3 : Int32) (S : QS) : Option ((Int32) × QS) := back_4 x1 x2 (x3 + 1) S
theorem sb_77_42 (back_4 : Int32 → Int32 → Int32 → QS → Option ((Int32) × QS)) (hb_4 : ∀ (x1 : Int32) (x2 : Int32) (x3 : Int32) (S : QS), q_Sim 77 4 [(0, .inr (.inr (6, 0, 0))), (1, .inl x1), (2, .inl x2), (3, .inl x3)] [] (q_V S) q_I (back_4 x1 x2 x3 S)) (x1 : Int32) (x2 : Int32) (x3 : Int32) (S : QS) : q_Sim 77 42 [(0, .inr (.inr (6, 0, 0))), (1, .inl x1), (2, .inl x2), (3, .inl x3)] [] (q_V S) q_I (b_77_42 back_4 x1 x2 x3 S) := by
  unfold b_77_42
  refine q_Sim.steps vc_77 2 (pc' := 4) (lv' := [(3, .inl (x3 + 1)), (0, .inr (.inr (6, 0, 0))), (1, .inl x1), (2, .inl x2)]) (st' := []) (V' := q_V S) rfl ?_
  exact q_Sim.sub2 (lv' := [(0, .inr (.inr (6, 0, 0))), (1, .inl x1), (2, .inl x2), (3, .inl (x3 + 1))]) [0, 1, 2, 3] rfl (by decide) ⟨rfl, rfl, rfl, rfl, trivial⟩ (hb_4 x1 x2 (x3 + 1) S)
def b_77_40 (back_4 : Int32 → Int32 → Int32 → QS → Option ((Int32) × QS)) (x1 : Int32) (x3 : Int32) (S : QS) : Option ((Int32) × QS) := b_77_42 back_4 x1 x3 x3 S
theorem sb_77_40 (back_4 : Int32 → Int32 → Int32 → QS → Option ((Int32) × QS)) (hb_4 : ∀ (x1 : Int32) (x2 : Int32) (x3 : Int32) (S : QS), q_Sim 77 4 [(0, .inr (.inr (6, 0, 0))), (1, .inl x1), (2, .inl x2), (3, .inl x3)] [] (q_V S) q_I (back_4 x1 x2 x3 S)) (x1 : Int32) (x3 : Int32) (S : QS) : q_Sim 77 40 [(0, .inr (.inr (6, 0, 0))), (1, .inl x1), (3, .inl x3)] [] (q_V S) q_I (b_77_40 back_4 x1 x3 S) := by
  unfold b_77_40
  refine q_Sim.steps vc_77 2 (pc' := 42) (lv' := [(2, .inl x3), (0, .inr (.inr (6, 0, 0))), (1, .inl x1), (3, .inl x3)]) (st' := []) (V' := q_V S) rfl ?_
  exact q_Sim.sub2 (lv' := [(0, .inr (.inr (6, 0, 0))), (1, .inl x1), (2, .inl x3), (3, .inl x3)]) [0, 1, 2, 3] rfl (by decide) ⟨rfl, rfl, rfl, rfl, trivial⟩ (sb_77_42 back_4 hb_4 x1 x3 x3 S)
def b_77_4 : Nat → Int32 → Int32 → Int32 → QS → Option ((Int32) × QS)
  | 0, _, _, _, _ => none
  | n + 1, x1, x2, x3, S => if (S.1 (6, 0, 0) 5) ≤ x3 then (some (x2, S)) else (if ¬ (x1 &&& (1 <<< (x3 &&& 31))) = 0 then (b_77_42 (b_77_4 n) x1 x2 x3 S) else (if x2 = (-1) then (b_77_40 (b_77_4 n) x1 x3 S) else (q_bd (f_78 x1 x3 S) (fun r_1 S_2 => q_bd (f_78 x1 x2 S_2) (fun r_3 S_4 => if r_3 ≤ r_1 then (b_77_42 (b_77_4 n) x1 x2 x3 S_4) else (b_77_40 (b_77_4 n) x1 x3 S_4))))))
theorem sb_77_4 : ∀ (n : Nat) (x1 : Int32) (x2 : Int32) (x3 : Int32) (S : QS), q_Sim 77 4 [(0, .inr (.inr (6, 0, 0))), (1, .inl x1), (2, .inl x2), (3, .inl x3)] [] (q_V S) q_I (b_77_4 n x1 x2 x3 S)
  | 0, _, _, _, _ => q_Sim.none
  | n + 1, x1, x2, x3, S => by
    rw [b_77_4]
    refine q_Sim.steps vc_77 3 (pc' := 9) (lv' := [(0, .inr (.inr (6, 0, 0))), (1, .inl x1), (2, .inl x2), (3, .inl x3)]) (st' := [.inl (S.1 (6, 0, 0) 5), .inl x3]) (V' := q_V S) rfl ?_
    refine q_Sim.br vc_77 (c := (S.1 (6, 0, 0) 5) ≤ x3) (t := 48) (f := 12) (lv' := [(0, .inr (.inr (6, 0, 0))), (1, .inl x1), (2, .inl x2), (3, .inl x3)]) (st' := []) (V' := q_V S) rfl ?_ ?_
    · refine q_Sim.steps vc_77 1 (pc' := 49) (lv' := [(0, .inr (.inr (6, 0, 0))), (1, .inl x1), (2, .inl x2), (3, .inl x3)]) (st' := [.inl x2]) (V' := q_V S) rfl ?_
      exact q_Sim.ret vc_77 rfl
    · refine q_Sim.steps vc_77 5 (pc' := 17) (lv' := [(0, .inr (.inr (6, 0, 0))), (1, .inl x1), (2, .inl x2), (3, .inl x3)]) (st' := [.inl (x1 &&& (1 <<< (x3 &&& 31)))]) (V' := q_V S) rfl ?_
      refine q_Sim.br vc_77 (c := ¬ (x1 &&& (1 <<< (x3 &&& 31))) = 0) (t := 42) (f := 20) (lv' := [(0, .inr (.inr (6, 0, 0))), (1, .inl x1), (2, .inl x2), (3, .inl x3)]) (st' := []) (V' := q_V S) rfl ?_ ?_
      · exact q_Sim.sub2 (lv' := [(0, .inr (.inr (6, 0, 0))), (1, .inl x1), (2, .inl x2), (3, .inl x3)]) [0, 1, 2, 3] rfl (by decide) ⟨rfl, rfl, rfl, rfl, trivial⟩ (sb_77_42 (b_77_4 n) (sb_77_4 n) x1 x2 x3 S)
      · refine q_Sim.steps vc_77 2 (pc' := 22) (lv' := [(0, .inr (.inr (6, 0, 0))), (1, .inl x1), (2, .inl x2), (3, .inl x3)]) (st' := [.inl (-1), .inl x2]) (V' := q_V S) rfl ?_
        refine q_Sim.br vc_77 (c := x2 = (-1)) (t := 40) (f := 25) (lv' := [(0, .inr (.inr (6, 0, 0))), (1, .inl x1), (2, .inl x2), (3, .inl x3)]) (st' := []) (V' := q_V S) rfl ?_ ?_
        · exact q_Sim.sub2 (lv' := [(0, .inr (.inr (6, 0, 0))), (1, .inl x1), (3, .inl x3)]) [0, 1, 3] rfl (by decide) ⟨rfl, rfl, rfl, trivial⟩ (sb_77_40 (b_77_4 n) (sb_77_4 n) x1 x3 S)
        · refine q_Sim.steps vc_77 3 (pc' := 28) (lv' := [(0, .inr (.inr (6, 0, 0))), (1, .inl x1), (2, .inl x2), (3, .inl x3)]) (st' := [.inl x3, .inl x1, .inr (.inr (6, 0, 0))]) (V' := q_V S) rfl ?_
          refine q_Sim.call vc_77 (as := [.inr (.inr (6, 0, 0)), .inl x1, .inl x3]) (pc' := 31) (lv' := [(0, .inr (.inr (6, 0, 0))), (1, .inl x1), (2, .inl x2), (3, .inl x3)]) (st' := []) (S := S) rfl (rc_78 x1 x3) (s_78 x1 x3 S) (fun r_1 S_2 => ?_)
          refine q_Sim.steps vc_77 3 (pc' := 34) (lv' := [(0, .inr (.inr (6, 0, 0))), (1, .inl x1), (2, .inl x2), (3, .inl x3)]) (st' := [.inl x2, .inl x1, .inr (.inr (6, 0, 0)), .inl r_1]) (V' := q_V S_2) rfl ?_
          refine q_Sim.call vc_77 (as := [.inr (.inr (6, 0, 0)), .inl x1, .inl x2]) (pc' := 37) (lv' := [(0, .inr (.inr (6, 0, 0))), (1, .inl x1), (2, .inl x2), (3, .inl x3)]) (st' := [.inl r_1]) (S := S_2) rfl (rc_78 x1 x2) (s_78 x1 x2 S_2) (fun r_3 S_4 => ?_)
          refine q_Sim.br vc_77 (c := r_3 ≤ r_1) (t := 42) (f := 40) (lv' := [(0, .inr (.inr (6, 0, 0))), (1, .inl x1), (2, .inl x2), (3, .inl x3)]) (st' := []) (V' := q_V S_4) rfl ?_ ?_
          · exact q_Sim.sub2 (lv' := [(0, .inr (.inr (6, 0, 0))), (1, .inl x1), (2, .inl x2), (3, .inl x3)]) [0, 1, 2, 3] rfl (by decide) ⟨rfl, rfl, rfl, rfl, trivial⟩ (sb_77_42 (b_77_4 n) (sb_77_4 n) x1 x2 x3 S_4)
          · exact q_Sim.sub2 (lv' := [(0, .inr (.inr (6, 0, 0))), (1, .inl x1), (3, .inl x3)]) [0, 1, 3] rfl (by decide) ⟨rfl, rfl, rfl, trivial⟩ (sb_77_40 (b_77_4 n) (sb_77_4 n) x1 x3 S_4)
def f_77 (x1 : Int32) (S : QS) : Option ((Int32) × QS) := b_77_4 q_N x1 (-1) 0 S
theorem s_77 (x1 : Int32) (S : QS) : q_Sim 77 0 [(0, .inr (.inr (6, 0, 0))), (1, .inl x1)] [] (q_V S) q_I (f_77 x1 S) := by
  unfold f_77
  refine q_Sim.steps vc_77 4 (pc' := 4) (lv' := [(3, .inl 0), (2, .inl (-1)), (0, .inr (.inr (6, 0, 0))), (1, .inl x1)]) (st' := []) (V' := q_V S) rfl ?_
  exact q_Sim.sub2 (lv' := [(0, .inr (.inr (6, 0, 0))), (1, .inl x1), (2, .inl (-1)), (3, .inl 0)]) [0, 1, 2, 3] rfl (by decide) ⟨rfl, rfl, rfl, rfl, trivial⟩ (sb_77_4 q_N x1 (-1) 0 S)
theorem vc_80 : v_code 80 = k_80 := rfl
theorem rc_80 (i0 : Nat) (x1 : Int32) : v_rcv 80 [.inr (.inr (7, i0, 0)), .inl x1] = true := rfl
def f_80 (i0 : Nat) (x1 : Int32) (S : QS) : Option ((Unit) × QS) := q_let (q_set S (7, i0, 0) 1 x1) (fun S_1 => q_let (q_set S_1 (7, i0, 0) 2 1) (fun S_2 => some ((), S_2)))
theorem s_80 (i0 : Nat) (x1 : Int32) (S : QS) : q_Sim 80 0 [(0, .inr (.inr (7, i0, 0))), (1, .inl x1)] [] (q_V S) q_U (f_80 i0 x1 S) := by
  unfold f_80
  refine q_Sim.steps vc_80 2 (pc' := 2) (lv' := [(0, .inr (.inr (7, i0, 0))), (1, .inl x1)]) (st' := [.inl x1, .inr (.inr (7, i0, 0))]) (V' := q_V S) rfl ?_
  refine q_Sim.steps vc_80 1 (pc' := 5) (lv' := [(0, .inr (.inr (7, i0, 0))), (1, .inl x1)]) (st' := []) (V' := q_V (q_set S (7, i0, 0) 1 x1)) rfl ?_
  refine q_Sim.letS (fun S_1 => ?_)
  refine q_Sim.steps vc_80 2 (pc' := 7) (lv' := [(0, .inr (.inr (7, i0, 0))), (1, .inl x1)]) (st' := [.inl 1, .inr (.inr (7, i0, 0))]) (V' := q_V S_1) rfl ?_
  refine q_Sim.steps vc_80 1 (pc' := 10) (lv' := [(0, .inr (.inr (7, i0, 0))), (1, .inl x1)]) (st' := []) (V' := q_V (q_set S_1 (7, i0, 0) 2 1)) rfl ?_
  refine q_Sim.letS (fun S_2 => ?_)
  exact q_Sim.ret vc_80 rfl
theorem vc_74 : v_code 74 = k_74 := rfl
theorem rc_74 (i1 : Nat) (x2 : Int32) (x3 : Int32) : v_rcv 74 [.inr (.inr (6, 0, 0)), .inr (.inr (9, i1, 0)), .inl x2, .inl x3] = true := rfl
def b_74_78 : Nat → Int32 → Int32 → QS → Option ((Int32) × QS)
  | 0, _, _, _ => none
  | n + 1, x5, x6, S => if (S.1 (6, 0, 0) 5) ≤ x6 then (q_ck (v_in 0 256) (q_let (S.1 (34, 0, 0) (0 : Int32).toNatClampNeg) (fun y_8 => some (y_8, S)))) else (q_bd (f_77 x5 S) (fun r_9 S_10 => q_ck (v_in r_9 8) (q_let (S_10.1 (31, 0, 0) r_9.toNatClampNeg) (fun y_11 => q_ck (v_in x6 8) (q_let (q_set S_10 (35, 0, 0) x6.toNatClampNeg y_11) (fun S_12 => q_let (x5 ||| (1 <<< (r_9 &&& 31))) (fun y_13 => b_74_78 n y_13 (x6 + 1) S_12)))))))
theorem sb_74_78 : ∀ (n : Nat) (x5 : Int32) (x6 : Int32) (S : QS), q_Sim 74 78 [(0, .inr (.inr (6, 0, 0))), (5, .inl x5), (6, .inl x6)] [] (q_V S) q_I (b_74_78 n x5 x6 S)
  | 0, _, _, _ => q_Sim.none
  | n + 1, x5, x6, S => by
    rw [b_74_78]
    refine q_Sim.steps vc_74 3 (pc' := 84) (lv' := [(0, .inr (.inr (6, 0, 0))), (5, .inl x5), (6, .inl x6)]) (st' := [.inl (S.1 (6, 0, 0) 5), .inl x6]) (V' := q_V S) rfl ?_
    refine q_Sim.br vc_74 (c := (S.1 (6, 0, 0) 5) ≤ x6) (t := 127) (f := 87) (lv' := [(0, .inr (.inr (6, 0, 0))), (5, .inl x5), (6, .inl x6)]) (st' := []) (V' := q_V S) rfl ?_ ?_
    · refine q_Sim.steps vc_74 3 (pc' := 132) (lv' := [(0, .inr (.inr (6, 0, 0))), (5, .inl x5), (6, .inl x6)]) (st' := [.inl 0, .inr (.inr (34, 0, 0))]) (V' := q_V S) rfl ?_
      refine q_Sim.ck vc_74 (c := v_in 0 256) (pc' := 133) (lv' := [(0, .inr (.inr (6, 0, 0))), (5, .inl x5), (6, .inl x6)]) (st' := [.inl (S.1 (34, 0, 0) (0 : Int32).toNatClampNeg)]) (V' := q_V S) rfl ?_
      refine q_Sim.letI (fun y_8 => ?_)
      exact q_Sim.ret vc_74 rfl
    · refine q_Sim.steps vc_74 2 (pc' := 90) (lv' := [(0, .inr (.inr (6, 0, 0))), (5, .inl x5), (6, .inl x6)]) (st' := [.inl x5, .inr (.inr (6, 0, 0))]) (V' := q_V S) rfl ?_
      refine q_Sim.call vc_74 (as := [.inr (.inr (6, 0, 0)), .inl x5]) (pc' := 93) (lv' := [(0, .inr (.inr (6, 0, 0))), (5, .inl x5), (6, .inl x6)]) (st' := []) (S := S) rfl (rc_77 x5) (s_77 x5 S) (fun r_9 S_10 => ?_)
      refine q_Sim.steps vc_74 8 (pc' := 110) (lv' := [(7, .inl r_9), (0, .inr (.inr (6, 0, 0))), (5, .inl x5), (6, .inl x6)]) (st' := [.inl r_9, .inr (.inr (31, 0, 0)), .inl x6, .inr (.inr (35, 0, 0))]) (V' := q_V S_10) rfl ?_
      refine q_Sim.ck vc_74 (c := v_in r_9 8) (pc' := 111) (lv' := [(7, .inl r_9), (0, .inr (.inr (6, 0, 0))), (5, .inl x5), (6, .inl x6)]) (st' := [.inl (S_10.1 (31, 0, 0) r_9.toNatClampNeg), .inl x6, .inr (.inr (35, 0, 0))]) (V' := q_V S_10) rfl ?_
      refine q_Sim.letI (fun y_11 => ?_)
      refine q_Sim.ck vc_74 (c := v_in x6 8) (pc' := 112) (lv' := [(7, .inl r_9), (0, .inr (.inr (6, 0, 0))), (5, .inl x5), (6, .inl x6)]) (st' := []) (V' := q_V (q_set S_10 (35, 0, 0) x6.toNatClampNeg y_11)) rfl ?_
      refine q_Sim.letS (fun S_12 => ?_)
      refine q_Sim.steps vc_74 5 (pc' := 119) (lv' := [(7, .inl r_9), (0, .inr (.inr (6, 0, 0))), (5, .inl x5), (6, .inl x6)]) (st' := [.inl (x5 ||| (1 <<< (r_9 &&& 31)))]) (V' := q_V S_12) rfl ?_
      refine q_Sim.letI (fun y_13 => ?_)
      refine q_Sim.steps vc_74 3 (pc' := 78) (lv' := [(6, .inl (x6 + 1)), (5, .inl y_13), (7, .inl r_9), (0, .inr (.inr (6, 0, 0)))]) (st' := []) (V' := q_V S_12) rfl ?_
      exact q_Sim.sub2 (lv' := [(0, .inr (.inr (6, 0, 0))), (5, .inl y_13), (6, .inl (x6 + 1))]) [0, 5, 6] rfl (by decide) ⟨rfl, rfl, rfl, trivial⟩ (sb_74_78 n y_13 (x6 + 1) S_12)
def b_74_31 : Nat → Int32 → QS → Option ((Int32) × QS)
  | 0, _, _ => none
  | n + 1, x5, S => if x5 < 0 then (q_bd (f_80 0 (S.1 (6, 0, 0) 5) S) (fun r_6 S_7 => b_74_78 q_N 0 0 S_7)) else (q_bd (f_77 x5 S) (fun r_14 S_15 => q_bd (f_78 x5 r_14 S_15) (fun r_16 S_17 => q_ck (v_in x5 256) (q_let (q_set S_17 (34, 0, 0) x5.toNatClampNeg r_16) (fun S_18 => b_74_31 n (x5 + (-1)) S_18)))))
theorem sb_74_31 : ∀ (n : Nat) (x5 : Int32) (S : QS), q_Sim 74 31 [(0, .inr (.inr (6, 0, 0))), (5, .inl x5)] [] (q_V S) q_I (b_74_31 n x5 S)
  | 0, _, _ => q_Sim.none
  | n + 1, x5, S => by
    rw [b_74_31]
    refine q_Sim.steps vc_74 1 (pc' := 33) (lv' := [(0, .inr (.inr (6, 0, 0))), (5, .inl x5)]) (st' := [.inl x5]) (V' := q_V S) rfl ?_
    refine q_Sim.br vc_74 (c := x5 < 0) (t := 61) (f := 36) (lv' := [(0, .inr (.inr (6, 0, 0))), (5, .inl x5)]) (st' := []) (V' := q_V S) rfl ?_ ?_
    · refine q_Sim.steps vc_74 4 (pc' := 69) (lv' := [(0, .inr (.inr (6, 0, 0))), (5, .inl x5)]) (st' := [.inl (S.1 (6, 0, 0) 5), .inr (.inr (7, 0, 0))]) (V' := q_V S) rfl ?_
      refine q_Sim.call vc_74 (as := [.inr (.inr (7, 0, 0)), .inl (S.1 (6, 0, 0) 5)]) (pc' := 72) (lv' := [(0, .inr (.inr (6, 0, 0))), (5, .inl x5)]) (st' := []) (S := S) rfl (rc_80 0 (S.1 (6, 0, 0) 5)) (s_80 0 (S.1 (6, 0, 0) 5) S) (fun r_6 S_7 => ?_)
      refine q_Sim.steps vc_74 4 (pc' := 78) (lv' := [(6, .inl 0), (5, .inl 0), (0, .inr (.inr (6, 0, 0)))]) (st' := []) (V' := q_V S_7) rfl ?_
      exact q_Sim.sub2 (lv' := [(0, .inr (.inr (6, 0, 0))), (5, .inl 0), (6, .inl 0)]) [0, 5, 6] rfl (by decide) ⟨rfl, rfl, rfl, trivial⟩ (sb_74_78 q_N 0 0 S_7)
    · refine q_Sim.steps vc_74 7 (pc' := 48) (lv' := [(0, .inr (.inr (6, 0, 0))), (5, .inl x5)]) (st' := [.inl x5, .inr (.inr (6, 0, 0)), .inl x5, .inr (.inr (6, 0, 0)), .inl x5, .inr (.inr (34, 0, 0))]) (V' := q_V S) rfl ?_
      refine q_Sim.call vc_74 (as := [.inr (.inr (6, 0, 0)), .inl x5]) (pc' := 51) (lv' := [(0, .inr (.inr (6, 0, 0))), (5, .inl x5)]) (st' := [.inl x5, .inr (.inr (6, 0, 0)), .inl x5, .inr (.inr (34, 0, 0))]) (S := S) rfl (rc_77 x5) (s_77 x5 S) (fun r_14 S_15 => ?_)
      refine q_Sim.call vc_74 (as := [.inr (.inr (6, 0, 0)), .inl x5, .inl r_14]) (pc' := 54) (lv' := [(0, .inr (.inr (6, 0, 0))), (5, .inl x5)]) (st' := [.inl x5, .inr (.inr (34, 0, 0))]) (S := S_15) rfl (rc_78 x5 r_14) (s_78 x5 r_14 S_15) (fun r_16 S_17 => ?_)
      refine q_Sim.ck vc_74 (c := v_in x5 256) (pc' := 55) (lv' := [(0, .inr (.inr (6, 0, 0))), (5, .inl x5)]) (st' := []) (V' := q_V (q_set S_17 (34, 0, 0) x5.toNatClampNeg r_16)) rfl ?_
      refine q_Sim.letS (fun S_18 => ?_)
      refine q_Sim.steps vc_74 2 (pc' := 31) (lv' := [(5, .inl (x5 + (-1))), (0, .inr (.inr (6, 0, 0)))]) (st' := []) (V' := q_V S_18) rfl ?_
      exact q_Sim.sub2 (lv' := [(0, .inr (.inr (6, 0, 0))), (5, .inl (x5 + (-1)))]) [0, 5] rfl (by decide) ⟨rfl, rfl, trivial⟩ (sb_74_31 n (x5 + (-1)) S_18)
def f_74 (i1 : Nat) (x2 : Int32) (x3 : Int32) (S : QS) : Option ((Int32) × QS) := q_bd (f_75 i1 x2 x3 S) (fun r_1 S_2 => q_let ((1 <<< ((S_2.1 (6, 0, 0) 5) &&& 31)) - 1) (fun y_3 => q_ck (v_in y_3 256) (q_let (q_set S_2 (34, 0, 0) y_3.toNatClampNeg 0) (fun S_4 => q_let (y_3 - 1) (fun y_5 => b_74_31 q_N y_5 S_4)))))
theorem s_74 (i1 : Nat) (x2 : Int32) (x3 : Int32) (S : QS) : q_Sim 74 0 [(0, .inr (.inr (6, 0, 0))), (1, .inr (.inr (9, i1, 0))), (2, .inl x2), (3, .inl x3)] [] (q_V S) q_I (f_74 i1 x2 x3 S) := by
  unfold f_74
  refine q_Sim.steps vc_74 4 (pc' := 4) (lv' := [(0, .inr (.inr (6, 0, 0))), (1, .inr (.inr (9, i1, 0))), (2, .inl x2), (3, .inl x3)]) (st' := [.inl x3, .inl x2, .inr (.inr (9, i1, 0)), .inr (.inr (6, 0, 0))]) (V' := q_V S) rfl ?_
  refine q_Sim.call vc_74 (as := [.inr (.inr (6, 0, 0)), .inr (.inr (9, i1, 0)), .inl x2, .inl x3]) (pc' := 7) (lv' := [(0, .inr (.inr (6, 0, 0))), (1, .inr (.inr (9, i1, 0))), (2, .inl x2), (3, .inl x3)]) (st' := []) (S := S) rfl (rc_75 i1 x2 x3) (s_75 i1 x2 x3 S) (fun r_1 S_2 => ?_)
  refine q_Sim.steps vc_74 6 (pc' := 15) (lv' := [(0, .inr (.inr (6, 0, 0))), (1, .inr (.inr (9, i1, 0))), (2, .inl x2), (3, .inl x3)]) (st' := [.inl ((1 <<< ((S_2.1 (6, 0, 0) 5) &&& 31)) - 1)]) (V' := q_V S_2) rfl ?_
  refine q_Sim.letI (fun y_3 => ?_)
  refine q_Sim.steps vc_74 5 (pc' := 24) (lv' := [(4, .inl y_3), (0, .inr (.inr (6, 0, 0))), (1, .inr (.inr (9, i1, 0))), (2, .inl x2), (3, .inl x3)]) (st' := [.inl 0, .inl y_3, .inr (.inr (34, 0, 0))]) (V' := q_V S_2) rfl ?_
  refine q_Sim.ck vc_74 (c := v_in y_3 256) (pc' := 25) (lv' := [(4, .inl y_3), (0, .inr (.inr (6, 0, 0))), (1, .inr (.inr (9, i1, 0))), (2, .inl x2), (3, .inl x3)]) (st' := []) (V' := q_V (q_set S_2 (34, 0, 0) y_3.toNatClampNeg 0)) rfl ?_
  refine q_Sim.letS (fun S_4 => ?_)
  refine q_Sim.steps vc_74 3 (pc' := 29) (lv' := [(4, .inl y_3), (0, .inr (.inr (6, 0, 0))), (1, .inr (.inr (9, i1, 0))), (2, .inl x2), (3, .inl x3)]) (st' := [.inl (y_3 - 1)]) (V' := q_V S_4) rfl ?_
  refine q_Sim.letI (fun y_5 => ?_)
  refine q_Sim.steps vc_74 1 (pc' := 31) (lv' := [(5, .inl y_5), (4, .inl y_3), (0, .inr (.inr (6, 0, 0))), (1, .inr (.inr (9, i1, 0))), (2, .inl x2), (3, .inl x3)]) (st' := []) (V' := q_V S_4) rfl ?_
  exact q_Sim.sub2 (lv' := [(0, .inr (.inr (6, 0, 0))), (5, .inl y_5)]) [0, 5] rfl (by decide) ⟨rfl, rfl, trivial⟩ (sb_74_31 q_N y_5 S_4)
theorem vc_81 : v_code 81 = k_81 := rfl
theorem rc_81 (i0 : Nat) (x1 : Int32) : v_rcv 81 [.inr (.inr (7, i0, 0)), .inl x1] = true := rfl
def b_81_21  (S : QS) : Option ((Int32) × QS) := some (2, S)
theorem sb_81_21  (S : QS) : q_Sim 81 21 [] [] (q_V S) q_I (b_81_21  S) := by
  unfold b_81_21
  refine q_Sim.steps vc_81 2 (pc' := 26) (lv' := []) (st' := [.inl 2]) (V' := q_V S) rfl ?_
  exact q_Sim.ret vc_81 rfl
def f_81 (i0 : Nat) (x1 : Int32) (S : QS) : Option ((Int32) × QS) := if ¬ (S.1 (7, i0, 0) 2) = 0 then (if x1 < 0 then (b_81_21  S) else (if x1 < (S.1 (7, i0, 0) 1) then (some (0, S)) else (b_81_21  S))) else (some (1, S))
theorem s_81 (i0 : Nat) (x1 : Int32) (S : QS) : q_Sim 81 0 [(0, .inr (.inr (7, i0, 0))), (1, .inl x1)] [] (q_V S) q_I (f_81 i0 x1 S) := by
  unfold f_81
  refine q_Sim.steps vc_81 2 (pc' := 4) (lv' := [(0, .inr (.inr (7, i0, 0))), (1, .inl x1)]) (st' := [.inl (S.1 (7, i0, 0) 2)]) (V' := q_V S) rfl ?_
  refine q_Sim.br vc_81 (c := ¬ (S.1 (7, i0, 0) 2) = 0) (t := 9) (f := 7) (lv' := [(0, .inr (.inr (7, i0, 0))), (1, .inl x1)]) (st' := []) (V' := q_V S) rfl ?_ ?_
  · refine q_Sim.steps vc_81 1 (pc' := 10) (lv' := [(0, .inr (.inr (7, i0, 0))), (1, .inl x1)]) (st' := [.inl x1]) (V' := q_V S) rfl ?_
    refine q_Sim.br vc_81 (c := x1 < 0) (t := 21) (f := 13) (lv' := [(0, .inr (.inr (7, i0, 0))), (1, .inl x1)]) (st' := []) (V' := q_V S) rfl ?_ ?_
    · exact q_Sim.sub2 (lv' := []) [] rfl (by decide) trivial (sb_81_21  S)
    · refine q_Sim.steps vc_81 3 (pc' := 18) (lv' := [(0, .inr (.inr (7, i0, 0))), (1, .inl x1)]) (st' := [.inl (S.1 (7, i0, 0) 1), .inl x1]) (V' := q_V S) rfl ?_
      refine q_Sim.br vc_81 (c := x1 < (S.1 (7, i0, 0) 1)) (t := 25) (f := 21) (lv' := [(0, .inr (.inr (7, i0, 0))), (1, .inl x1)]) (st' := []) (V' := q_V S) rfl ?_ ?_
      · refine q_Sim.steps vc_81 1 (pc' := 26) (lv' := [(0, .inr (.inr (7, i0, 0))), (1, .inl x1)]) (st' := [.inl 0]) (V' := q_V S) rfl ?_
        exact q_Sim.ret vc_81 rfl
      · exact q_Sim.sub2 (lv' := []) [] rfl (by decide) trivial (sb_81_21  S)
  · refine q_Sim.steps vc_81 1 (pc' := 8) (lv' := [(0, .inr (.inr (7, i0, 0))), (1, .inl x1)]) (st' := [.inl 1]) (V' := q_V S) rfl ?_
    exact q_Sim.ret vc_81 rfl
theorem vc_83 : v_code 83 = k_83 := rfl
theorem rc_83 (i0 : Nat) (j0 : Nat) (x1 : Int32) : v_rcv 83 [.inr (.inr (8, i0, j0)), .inl x1] = true := rfl
def f_83 (i0 : Nat) (j0 : Nat) (x1 : Int32) (S : QS) : Option ((Unit) × QS) := q_let (q_set S (8, i0, j0) 0 x1) (fun S_1 => q_let (q_set S_1 (8, i0, j0) 1 0) (fun S_2 => q_let (q_set S_2 (8, i0, j0) 2 (-1)) (fun S_3 => q_let (q_set S_3 (8, i0, j0) 3 (-1)) (fun S_4 => q_let (q_set S_4 (8, i0, j0) 4 0) (fun S_5 => q_let (q_set S_5 (8, i0, j0) 5 0) (fun S_6 => q_let (q_set S_6 (8, i0, j0) 6 (-1)) (fun S_7 => q_let (q_set S_7 (8, i0, j0) 7 0) (fun S_8 => q_let (q_set S_8 (8, i0, j0) 8 (-1)) (fun S_9 => some ((), S_9))))))))))
theorem s_83 (i0 : Nat) (j0 : Nat) (x1 : Int32) (S : QS) : q_Sim 83 0 [(0, .inr (.inr (8, i0, j0))), (1, .inl x1)] [] (q_V S) q_U (f_83 i0 j0 x1 S) := by
  unfold f_83
  refine q_Sim.steps vc_83 2 (pc' := 2) (lv' := [(0, .inr (.inr (8, i0, j0))), (1, .inl x1)]) (st' := [.inl x1, .inr (.inr (8, i0, j0))]) (V' := q_V S) rfl ?_
  refine q_Sim.steps vc_83 1 (pc' := 5) (lv' := [(0, .inr (.inr (8, i0, j0))), (1, .inl x1)]) (st' := []) (V' := q_V (q_set S (8, i0, j0) 0 x1)) rfl ?_
  refine q_Sim.letS (fun S_1 => ?_)
  refine q_Sim.steps vc_83 2 (pc' := 7) (lv' := [(0, .inr (.inr (8, i0, j0))), (1, .inl x1)]) (st' := [.inl 0, .inr (.inr (8, i0, j0))]) (V' := q_V S_1) rfl ?_
  refine q_Sim.steps vc_83 1 (pc' := 10) (lv' := [(0, .inr (.inr (8, i0, j0))), (1, .inl x1)]) (st' := []) (V' := q_V (q_set S_1 (8, i0, j0) 1 0)) rfl ?_
  refine q_Sim.letS (fun S_2 => ?_)
  refine q_Sim.steps vc_83 2 (pc' := 12) (lv' := [(0, .inr (.inr (8, i0, j0))), (1, .inl x1)]) (st' := [.inl (-1), .inr (.inr (8, i0, j0))]) (V' := q_V S_2) rfl ?_
  refine q_Sim.steps vc_83 1 (pc' := 15) (lv' := [(0, .inr (.inr (8, i0, j0))), (1, .inl x1)]) (st' := []) (V' := q_V (q_set S_2 (8, i0, j0) 2 (-1))) rfl ?_
  refine q_Sim.letS (fun S_3 => ?_)
  refine q_Sim.steps vc_83 2 (pc' := 17) (lv' := [(0, .inr (.inr (8, i0, j0))), (1, .inl x1)]) (st' := [.inl (-1), .inr (.inr (8, i0, j0))]) (V' := q_V S_3) rfl ?_
  refine q_Sim.steps vc_83 1 (pc' := 20) (lv' := [(0, .inr (.inr (8, i0, j0))), (1, .inl x1)]) (st' := []) (V' := q_V (q_set S_3 (8, i0, j0) 3 (-1))) rfl ?_
  refine q_Sim.letS (fun S_4 => ?_)
  refine q_Sim.steps vc_83 2 (pc' := 22) (lv' := [(0, .inr (.inr (8, i0, j0))), (1, .inl x1)]) (st' := [.inl 0, .inr (.inr (8, i0, j0))]) (V' := q_V S_4) rfl ?_
  refine q_Sim.steps vc_83 1 (pc' := 25) (lv' := [(0, .inr (.inr (8, i0, j0))), (1, .inl x1)]) (st' := []) (V' := q_V (q_set S_4 (8, i0, j0) 4 0)) rfl ?_
  refine q_Sim.letS (fun S_5 => ?_)
  refine q_Sim.steps vc_83 2 (pc' := 27) (lv' := [(0, .inr (.inr (8, i0, j0))), (1, .inl x1)]) (st' := [.inl 0, .inr (.inr (8, i0, j0))]) (V' := q_V S_5) rfl ?_
  refine q_Sim.steps vc_83 1 (pc' := 30) (lv' := [(0, .inr (.inr (8, i0, j0))), (1, .inl x1)]) (st' := []) (V' := q_V (q_set S_5 (8, i0, j0) 5 0)) rfl ?_
  refine q_Sim.letS (fun S_6 => ?_)
  refine q_Sim.steps vc_83 2 (pc' := 32) (lv' := [(0, .inr (.inr (8, i0, j0))), (1, .inl x1)]) (st' := [.inl (-1), .inr (.inr (8, i0, j0))]) (V' := q_V S_6) rfl ?_
  refine q_Sim.steps vc_83 1 (pc' := 35) (lv' := [(0, .inr (.inr (8, i0, j0))), (1, .inl x1)]) (st' := []) (V' := q_V (q_set S_6 (8, i0, j0) 6 (-1))) rfl ?_
  refine q_Sim.letS (fun S_7 => ?_)
  refine q_Sim.steps vc_83 2 (pc' := 37) (lv' := [(0, .inr (.inr (8, i0, j0))), (1, .inl x1)]) (st' := [.inl 0, .inr (.inr (8, i0, j0))]) (V' := q_V S_7) rfl ?_
  refine q_Sim.steps vc_83 1 (pc' := 40) (lv' := [(0, .inr (.inr (8, i0, j0))), (1, .inl x1)]) (st' := []) (V' := q_V (q_set S_7 (8, i0, j0) 7 0)) rfl ?_
  refine q_Sim.letS (fun S_8 => ?_)
  refine q_Sim.steps vc_83 2 (pc' := 42) (lv' := [(0, .inr (.inr (8, i0, j0))), (1, .inl x1)]) (st' := [.inl (-1), .inr (.inr (8, i0, j0))]) (V' := q_V S_8) rfl ?_
  refine q_Sim.steps vc_83 1 (pc' := 45) (lv' := [(0, .inr (.inr (8, i0, j0))), (1, .inl x1)]) (st' := []) (V' := q_V (q_set S_8 (8, i0, j0) 8 (-1))) rfl ?_
  refine q_Sim.letS (fun S_9 => ?_)
  exact q_Sim.ret vc_83 rfl
theorem vc_84 : v_code 84 = k_84 := rfl
theorem rc_84 (i0 : Nat) (j0 : Nat) (i1 : Nat) (j1 : Nat) : v_rcv 84 [.inr (.inr (8, i0, j0)), .inr (.inr (8, i1, j1))] = true := rfl
def f_84 (i0 : Nat) (j0 : Nat) (i1 : Nat) (j1 : Nat) (S : QS) : Option ((Unit) × QS) := q_let (q_set S (8, i0, j0) 0 (S.1 (8, i1, j1) 0)) (fun S_1 => q_let (q_set S_1 (8, i0, j0) 1 (S_1.1 (8, i1, j1) 1)) (fun S_2 => q_let (q_set S_2 (8, i0, j0) 2 (S_2.1 (8, i1, j1) 2)) (fun S_3 => q_let (q_set S_3 (8, i0, j0) 3 (S_3.1 (8, i1, j1) 3)) (fun S_4 => q_let (q_set S_4 (8, i0, j0) 4 (S_4.1 (8, i1, j1) 4)) (fun S_5 => q_let (q_set S_5 (8, i0, j0) 5 (S_5.1 (8, i1, j1) 5)) (fun S_6 => q_let (q_set S_6 (8, i0, j0) 6 (S_6.1 (8, i1, j1) 6)) (fun S_7 => q_let (q_set S_7 (8, i0, j0) 7 (S_7.1 (8, i1, j1) 7)) (fun S_8 => q_let (q_set S_8 (8, i0, j0) 8 (S_8.1 (8, i1, j1) 8)) (fun S_9 => some ((), S_9))))))))))
theorem s_84 (i0 : Nat) (j0 : Nat) (i1 : Nat) (j1 : Nat) (S : QS) : q_Sim 84 0 [(0, .inr (.inr (8, i0, j0))), (1, .inr (.inr (8, i1, j1)))] [] (q_V S) q_U (f_84 i0 j0 i1 j1 S) := by
  unfold f_84
  refine q_Sim.steps vc_84 3 (pc' := 5) (lv' := [(0, .inr (.inr (8, i0, j0))), (1, .inr (.inr (8, i1, j1)))]) (st' := [.inl (S.1 (8, i1, j1) 0), .inr (.inr (8, i0, j0))]) (V' := q_V S) rfl ?_
  refine q_Sim.steps vc_84 1 (pc' := 8) (lv' := [(0, .inr (.inr (8, i0, j0))), (1, .inr (.inr (8, i1, j1)))]) (st' := []) (V' := q_V (q_set S (8, i0, j0) 0 (S.1 (8, i1, j1) 0))) rfl ?_
  refine q_Sim.letS (fun S_1 => ?_)
  refine q_Sim.steps vc_84 3 (pc' := 13) (lv' := [(0, .inr (.inr (8, i0, j0))), (1, .inr (.inr (8, i1, j1)))]) (st' := [.inl (S_1.1 (8, i1, j1) 1), .inr (.inr (8, i0, j0))]) (V' := q_V S_1) rfl ?_
  refine q_Sim.steps vc_84 1 (pc' := 16) (lv' := [(0, .inr (.inr (8, i0, j0))), (1, .inr (.inr (8, i1, j1)))]) (st' := []) (V' := q_V (q_set S_1 (8, i0, j0) 1 (S_1.1 (8, i1, j1) 1))) rfl ?_
  refine q_Sim.letS (fun S_2 => ?_)
  refine q_Sim.steps vc_84 3 (pc' := 21) (lv' := [(0, .inr (.inr (8, i0, j0))), (1, .inr (.inr (8, i1, j1)))]) (st' := [.inl (S_2.1 (8, i1, j1) 2), .inr (.inr (8, i0, j0))]) (V' := q_V S_2) rfl ?_
  refine q_Sim.steps vc_84 1 (pc' := 24) (lv' := [(0, .inr (.inr (8, i0, j0))), (1, .inr (.inr (8, i1, j1)))]) (st' := []) (V' := q_V (q_set S_2 (8, i0, j0) 2 (S_2.1 (8, i1, j1) 2))) rfl ?_
  refine q_Sim.letS (fun S_3 => ?_)
  refine q_Sim.steps vc_84 3 (pc' := 29) (lv' := [(0, .inr (.inr (8, i0, j0))), (1, .inr (.inr (8, i1, j1)))]) (st' := [.inl (S_3.1 (8, i1, j1) 3), .inr (.inr (8, i0, j0))]) (V' := q_V S_3) rfl ?_
  refine q_Sim.steps vc_84 1 (pc' := 32) (lv' := [(0, .inr (.inr (8, i0, j0))), (1, .inr (.inr (8, i1, j1)))]) (st' := []) (V' := q_V (q_set S_3 (8, i0, j0) 3 (S_3.1 (8, i1, j1) 3))) rfl ?_
  refine q_Sim.letS (fun S_4 => ?_)
  refine q_Sim.steps vc_84 3 (pc' := 37) (lv' := [(0, .inr (.inr (8, i0, j0))), (1, .inr (.inr (8, i1, j1)))]) (st' := [.inl (S_4.1 (8, i1, j1) 4), .inr (.inr (8, i0, j0))]) (V' := q_V S_4) rfl ?_
  refine q_Sim.steps vc_84 1 (pc' := 40) (lv' := [(0, .inr (.inr (8, i0, j0))), (1, .inr (.inr (8, i1, j1)))]) (st' := []) (V' := q_V (q_set S_4 (8, i0, j0) 4 (S_4.1 (8, i1, j1) 4))) rfl ?_
  refine q_Sim.letS (fun S_5 => ?_)
  refine q_Sim.steps vc_84 3 (pc' := 45) (lv' := [(0, .inr (.inr (8, i0, j0))), (1, .inr (.inr (8, i1, j1)))]) (st' := [.inl (S_5.1 (8, i1, j1) 5), .inr (.inr (8, i0, j0))]) (V' := q_V S_5) rfl ?_
  refine q_Sim.steps vc_84 1 (pc' := 48) (lv' := [(0, .inr (.inr (8, i0, j0))), (1, .inr (.inr (8, i1, j1)))]) (st' := []) (V' := q_V (q_set S_5 (8, i0, j0) 5 (S_5.1 (8, i1, j1) 5))) rfl ?_
  refine q_Sim.letS (fun S_6 => ?_)
  refine q_Sim.steps vc_84 3 (pc' := 53) (lv' := [(0, .inr (.inr (8, i0, j0))), (1, .inr (.inr (8, i1, j1)))]) (st' := [.inl (S_6.1 (8, i1, j1) 6), .inr (.inr (8, i0, j0))]) (V' := q_V S_6) rfl ?_
  refine q_Sim.steps vc_84 1 (pc' := 56) (lv' := [(0, .inr (.inr (8, i0, j0))), (1, .inr (.inr (8, i1, j1)))]) (st' := []) (V' := q_V (q_set S_6 (8, i0, j0) 6 (S_6.1 (8, i1, j1) 6))) rfl ?_
  refine q_Sim.letS (fun S_7 => ?_)
  refine q_Sim.steps vc_84 3 (pc' := 61) (lv' := [(0, .inr (.inr (8, i0, j0))), (1, .inr (.inr (8, i1, j1)))]) (st' := [.inl (S_7.1 (8, i1, j1) 7), .inr (.inr (8, i0, j0))]) (V' := q_V S_7) rfl ?_
  refine q_Sim.steps vc_84 1 (pc' := 64) (lv' := [(0, .inr (.inr (8, i0, j0))), (1, .inr (.inr (8, i1, j1)))]) (st' := []) (V' := q_V (q_set S_7 (8, i0, j0) 7 (S_7.1 (8, i1, j1) 7))) rfl ?_
  refine q_Sim.letS (fun S_8 => ?_)
  refine q_Sim.steps vc_84 3 (pc' := 69) (lv' := [(0, .inr (.inr (8, i0, j0))), (1, .inr (.inr (8, i1, j1)))]) (st' := [.inl (S_8.1 (8, i1, j1) 8), .inr (.inr (8, i0, j0))]) (V' := q_V S_8) rfl ?_
  refine q_Sim.steps vc_84 1 (pc' := 72) (lv' := [(0, .inr (.inr (8, i0, j0))), (1, .inr (.inr (8, i1, j1)))]) (st' := []) (V' := q_V (q_set S_8 (8, i0, j0) 8 (S_8.1 (8, i1, j1) 8))) rfl ?_
  refine q_Sim.letS (fun S_9 => ?_)
  exact q_Sim.ret vc_84 rfl
theorem vc_85 : v_code 85 = k_85 := rfl
theorem rc_85 (i0 : Nat) (j0 : Nat) (x1 : Int32) : v_rcv 85 [.inr (.inr (8, i0, j0)), .inl x1] = true := rfl
def f_85 (i0 : Nat) (j0 : Nat) (x1 : Int32) (S : QS) : Option ((Unit) × QS) := q_let (q_set S (8, i0, j0) 0 2) (fun S_1 => q_let (q_set S_1 (8, i0, j0) 5 0) (fun S_2 => q_let (q_set S_2 (8, i0, j0) 6 x1) (fun S_3 => some ((), S_3))))
theorem s_85 (i0 : Nat) (j0 : Nat) (x1 : Int32) (S : QS) : q_Sim 85 0 [(0, .inr (.inr (8, i0, j0))), (1, .inl x1)] [] (q_V S) q_U (f_85 i0 j0 x1 S) := by
  unfold f_85
  refine q_Sim.steps vc_85 2 (pc' := 2) (lv' := [(0, .inr (.inr (8, i0, j0))), (1, .inl x1)]) (st' := [.inl 2, .inr (.inr (8, i0, j0))]) (V' := q_V S) rfl ?_
  refine q_Sim.steps vc_85 1 (pc' := 5) (lv' := [(0, .inr (.inr (8, i0, j0))), (1, .inl x1)]) (st' := []) (V' := q_V (q_set S (8, i0, j0) 0 2)) rfl ?_
  refine q_Sim.letS (fun S_1 => ?_)
  refine q_Sim.steps vc_85 2 (pc' := 7) (lv' := [(0, .inr (.inr (8, i0, j0))), (1, .inl x1)]) (st' := [.inl 0, .inr (.inr (8, i0, j0))]) (V' := q_V S_1) rfl ?_
  refine q_Sim.steps vc_85 1 (pc' := 10) (lv' := [(0, .inr (.inr (8, i0, j0))), (1, .inl x1)]) (st' := []) (V' := q_V (q_set S_1 (8, i0, j0) 5 0)) rfl ?_
  refine q_Sim.letS (fun S_2 => ?_)
  refine q_Sim.steps vc_85 2 (pc' := 12) (lv' := [(0, .inr (.inr (8, i0, j0))), (1, .inl x1)]) (st' := [.inl x1, .inr (.inr (8, i0, j0))]) (V' := q_V S_2) rfl ?_
  refine q_Sim.steps vc_85 1 (pc' := 15) (lv' := [(0, .inr (.inr (8, i0, j0))), (1, .inl x1)]) (st' := []) (V' := q_V (q_set S_2 (8, i0, j0) 6 x1)) rfl ?_
  refine q_Sim.letS (fun S_3 => ?_)
  exact q_Sim.ret vc_85 rfl
theorem vc_86 : v_code 86 = k_86 := rfl
theorem rc_86 (i0 : Nat) (j0 : Nat) : v_rcv 86 [.inr (.inr (8, i0, j0))] = true := rfl
def b_86_23  (S : QS) : Option ((Int32) × QS) := some (1, S)
theorem sb_86_23  (S : QS) : q_Sim 86 23 [] [] (q_V S) q_I (b_86_23  S) := by
  unfold b_86_23
  refine q_Sim.steps vc_86 2 (pc' := 28) (lv' := []) (st' := [.inl 1]) (V' := q_V S) rfl ?_
  exact q_Sim.ret vc_86 rfl
def f_86 (i0 : Nat) (j0 : Nat) (S : QS) : Option ((Int32) × QS) := if (S.1 (8, i0, j0) 0) = 0 then (b_86_23  S) else (if (S.1 (8, i0, j0) 0) = 1 then (b_86_23  S) else (if ¬ (S.1 (8, i0, j0) 0) = 2 then (some (0, S)) else (b_86_23  S)))
theorem s_86 (i0 : Nat) (j0 : Nat) (S : QS) : q_Sim 86 0 [(0, .inr (.inr (8, i0, j0)))] [] (q_V S) q_I (f_86 i0 j0 S) := by
  unfold f_86
  refine q_Sim.steps vc_86 2 (pc' := 4) (lv' := [(0, .inr (.inr (8, i0, j0)))]) (st' := [.inl (S.1 (8, i0, j0) 0)]) (V' := q_V S) rfl ?_
  refine q_Sim.br vc_86 (c := (S.1 (8, i0, j0) 0) = 0) (t := 23) (f := 7) (lv' := [(0, .inr (.inr (8, i0, j0)))]) (st' := []) (V' := q_V S) rfl ?_ ?_
  · exact q_Sim.sub2 (lv' := []) [] rfl (by decide) trivial (sb_86_23  S)
  · refine q_Sim.steps vc_86 3 (pc' := 12) (lv' := [(0, .inr (.inr (8, i0, j0)))]) (st' := [.inl 1, .inl (S.1 (8, i0, j0) 0)]) (V' := q_V S) rfl ?_
    refine q_Sim.br vc_86 (c := (S.1 (8, i0, j0) 0) = 1) (t := 23) (f := 15) (lv' := [(0, .inr (.inr (8, i0, j0)))]) (st' := []) (V' := q_V S) rfl ?_ ?_
    · exact q_Sim.sub2 (lv' := []) [] rfl (by decide) trivial (sb_86_23  S)
    · refine q_Sim.steps vc_86 3 (pc' := 20) (lv' := [(0, .inr (.inr (8, i0, j0)))]) (st' := [.inl 2, .inl (S.1 (8, i0, j0) 0)]) (V' := q_V S) rfl ?_
      refine q_Sim.br vc_86 (c := ¬ (S.1 (8, i0, j0) 0) = 2) (t := 27) (f := 23) (lv' := [(0, .inr (.inr (8, i0, j0)))]) (st' := []) (V' := q_V S) rfl ?_ ?_
      · refine q_Sim.steps vc_86 1 (pc' := 28) (lv' := [(0, .inr (.inr (8, i0, j0)))]) (st' := [.inl 0]) (V' := q_V S) rfl ?_
        exact q_Sim.ret vc_86 rfl
      · exact q_Sim.sub2 (lv' := []) [] rfl (by decide) trivial (sb_86_23  S)
theorem vc_87 : v_code 87 = k_87 := rfl
theorem rc_87 (i0 : Nat) (j0 : Nat) : v_rcv 87 [.inr (.inr (8, i0, j0))] = true := rfl
def b_87_16  (S : QS) : Option ((Int32) × QS) := some (1, S)
theorem sb_87_16  (S : QS) : q_Sim 87 16 [] [] (q_V S) q_I (b_87_16  S) := by
  unfold b_87_16
  refine q_Sim.steps vc_87 2 (pc' := 21) (lv' := []) (st' := [.inl 1]) (V' := q_V S) rfl ?_
  exact q_Sim.ret vc_87 rfl
def f_87 (i0 : Nat) (j0 : Nat) (S : QS) : Option ((Int32) × QS) := if (S.1 (8, i0, j0) 0) = 4 then (b_87_16  S) else (if ¬ (S.1 (8, i0, j0) 0) = 5 then (some (0, S)) else (b_87_16  S))
theorem s_87 (i0 : Nat) (j0 : Nat) (S : QS) : q_Sim 87 0 [(0, .inr (.inr (8, i0, j0)))] [] (q_V S) q_I (f_87 i0 j0 S) := by
  unfold f_87
  refine q_Sim.steps vc_87 3 (pc' := 5) (lv' := [(0, .inr (.inr (8, i0, j0)))]) (st' := [.inl 4, .inl (S.1 (8, i0, j0) 0)]) (V' := q_V S) rfl ?_
  refine q_Sim.br vc_87 (c := (S.1 (8, i0, j0) 0) = 4) (t := 16) (f := 8) (lv' := [(0, .inr (.inr (8, i0, j0)))]) (st' := []) (V' := q_V S) rfl ?_ ?_
  · exact q_Sim.sub2 (lv' := []) [] rfl (by decide) trivial (sb_87_16  S)
  · refine q_Sim.steps vc_87 3 (pc' := 13) (lv' := [(0, .inr (.inr (8, i0, j0)))]) (st' := [.inl 5, .inl (S.1 (8, i0, j0) 0)]) (V' := q_V S) rfl ?_
    refine q_Sim.br vc_87 (c := ¬ (S.1 (8, i0, j0) 0) = 5) (t := 20) (f := 16) (lv' := [(0, .inr (.inr (8, i0, j0)))]) (st' := []) (V' := q_V S) rfl ?_ ?_
    · refine q_Sim.steps vc_87 1 (pc' := 21) (lv' := [(0, .inr (.inr (8, i0, j0)))]) (st' := [.inl 0]) (V' := q_V S) rfl ?_
      exact q_Sim.ret vc_87 rfl
    · exact q_Sim.sub2 (lv' := []) [] rfl (by decide) trivial (sb_87_16  S)
theorem vc_88 : v_code 88 = k_88 := rfl
theorem rc_88 (i0 : Nat) (j0 : Nat) (x1 : Int32) : v_rcv 88 [.inr (.inr (8, i0, j0)), .inl x1] = true := rfl
def f_88 (i0 : Nat) (j0 : Nat) (x1 : Int32) (S : QS) : Option ((Int32) × QS) := if x1 = 0 then (some (S.1 (8, i0, j0) 0, S)) else (if x1 = 1 then (some (S.1 (8, i0, j0) 1, S)) else (if x1 = 8 then (some (S.1 (8, i0, j0) 2, S)) else (if x1 = 9 then (some (S.1 (8, i0, j0) 3, S)) else (if x1 = 10 then (some (S.1 (8, i0, j0) 4, S)) else (if x1 = 11 then (some (S.1 (8, i0, j0) 5, S)) else (if x1 = 2 then (some (S.1 (8, i0, j0) 6, S)) else (if x1 = 3 then (some (S.1 (8, i0, j0) 6, S)) else (if x1 = 4 then (some (S.1 (8, i0, j0) 6, S)) else (if x1 = 5 then (some (S.1 (8, i0, j0) 6, S)) else (if x1 = 6 then (some (S.1 (8, i0, j0) 6, S)) else (if x1 = 7 then (some (S.1 (8, i0, j0) 6, S)) else (some (S.1 (8, i0, j0) 6, S)))))))))))))
theorem s_88 (i0 : Nat) (j0 : Nat) (x1 : Int32) (S : QS) : q_Sim 88 0 [(0, .inr (.inr (8, i0, j0))), (1, .inl x1)] [] (q_V S) q_I (f_88 i0 j0 x1 S) := by
  unfold f_88
  refine q_Sim.steps vc_88 1 (pc' := 1) (lv' := [(0, .inr (.inr (8, i0, j0))), (1, .inl x1)]) (st' := [.inl x1]) (V' := q_V S) rfl ?_
  refine q_Sim.ite (c := x1 = 0) (fun h_1 => q_Sim.sw vc_88 (lv' := [(0, .inr (.inr (8, i0, j0))), (1, .inl x1)]) (st' := []) (V' := q_V S) rfl h_1 rfl (t := 64) rfl ?_) (fun h_1 => ?_)
  · refine q_Sim.steps vc_88 2 (pc' := 68) (lv' := [(0, .inr (.inr (8, i0, j0))), (1, .inl x1)]) (st' := [.inl (S.1 (8, i0, j0) 0)]) (V' := q_V S) rfl ?_
    exact q_Sim.ret vc_88 rfl
  refine q_Sim.ite (c := x1 = 1) (fun h_2 => q_Sim.sw vc_88 (lv' := [(0, .inr (.inr (8, i0, j0))), (1, .inl x1)]) (st' := []) (V' := q_V S) rfl h_2 rfl (t := 69) rfl ?_) (fun h_2 => ?_)
  · refine q_Sim.steps vc_88 2 (pc' := 73) (lv' := [(0, .inr (.inr (8, i0, j0))), (1, .inl x1)]) (st' := [.inl (S.1 (8, i0, j0) 1)]) (V' := q_V S) rfl ?_
    exact q_Sim.ret vc_88 rfl
  refine q_Sim.ite (c := x1 = 8) (fun h_3 => q_Sim.sw vc_88 (lv' := [(0, .inr (.inr (8, i0, j0))), (1, .inl x1)]) (st' := []) (V' := q_V S) rfl h_3 rfl (t := 74) rfl ?_) (fun h_3 => ?_)
  · refine q_Sim.steps vc_88 2 (pc' := 78) (lv' := [(0, .inr (.inr (8, i0, j0))), (1, .inl x1)]) (st' := [.inl (S.1 (8, i0, j0) 2)]) (V' := q_V S) rfl ?_
    exact q_Sim.ret vc_88 rfl
  refine q_Sim.ite (c := x1 = 9) (fun h_4 => q_Sim.sw vc_88 (lv' := [(0, .inr (.inr (8, i0, j0))), (1, .inl x1)]) (st' := []) (V' := q_V S) rfl h_4 rfl (t := 79) rfl ?_) (fun h_4 => ?_)
  · refine q_Sim.steps vc_88 2 (pc' := 83) (lv' := [(0, .inr (.inr (8, i0, j0))), (1, .inl x1)]) (st' := [.inl (S.1 (8, i0, j0) 3)]) (V' := q_V S) rfl ?_
    exact q_Sim.ret vc_88 rfl
  refine q_Sim.ite (c := x1 = 10) (fun h_5 => q_Sim.sw vc_88 (lv' := [(0, .inr (.inr (8, i0, j0))), (1, .inl x1)]) (st' := []) (V' := q_V S) rfl h_5 rfl (t := 84) rfl ?_) (fun h_5 => ?_)
  · refine q_Sim.steps vc_88 2 (pc' := 88) (lv' := [(0, .inr (.inr (8, i0, j0))), (1, .inl x1)]) (st' := [.inl (S.1 (8, i0, j0) 4)]) (V' := q_V S) rfl ?_
    exact q_Sim.ret vc_88 rfl
  refine q_Sim.ite (c := x1 = 11) (fun h_6 => q_Sim.sw vc_88 (lv' := [(0, .inr (.inr (8, i0, j0))), (1, .inl x1)]) (st' := []) (V' := q_V S) rfl h_6 rfl (t := 89) rfl ?_) (fun h_6 => ?_)
  · refine q_Sim.steps vc_88 2 (pc' := 93) (lv' := [(0, .inr (.inr (8, i0, j0))), (1, .inl x1)]) (st' := [.inl (S.1 (8, i0, j0) 5)]) (V' := q_V S) rfl ?_
    exact q_Sim.ret vc_88 rfl
  refine q_Sim.ite (c := x1 = 2) (fun h_7 => q_Sim.sw vc_88 (lv' := [(0, .inr (.inr (8, i0, j0))), (1, .inl x1)]) (st' := []) (V' := q_V S) rfl h_7 rfl (t := 94) rfl ?_) (fun h_7 => ?_)
  · refine q_Sim.steps vc_88 2 (pc' := 98) (lv' := [(0, .inr (.inr (8, i0, j0))), (1, .inl x1)]) (st' := [.inl (S.1 (8, i0, j0) 6)]) (V' := q_V S) rfl ?_
    exact q_Sim.ret vc_88 rfl
  refine q_Sim.ite (c := x1 = 3) (fun h_8 => q_Sim.sw vc_88 (lv' := [(0, .inr (.inr (8, i0, j0))), (1, .inl x1)]) (st' := []) (V' := q_V S) rfl h_8 rfl (t := 94) rfl ?_) (fun h_8 => ?_)
  · refine q_Sim.steps vc_88 2 (pc' := 98) (lv' := [(0, .inr (.inr (8, i0, j0))), (1, .inl x1)]) (st' := [.inl (S.1 (8, i0, j0) 6)]) (V' := q_V S) rfl ?_
    exact q_Sim.ret vc_88 rfl
  refine q_Sim.ite (c := x1 = 4) (fun h_9 => q_Sim.sw vc_88 (lv' := [(0, .inr (.inr (8, i0, j0))), (1, .inl x1)]) (st' := []) (V' := q_V S) rfl h_9 rfl (t := 94) rfl ?_) (fun h_9 => ?_)
  · refine q_Sim.steps vc_88 2 (pc' := 98) (lv' := [(0, .inr (.inr (8, i0, j0))), (1, .inl x1)]) (st' := [.inl (S.1 (8, i0, j0) 6)]) (V' := q_V S) rfl ?_
    exact q_Sim.ret vc_88 rfl
  refine q_Sim.ite (c := x1 = 5) (fun h_10 => q_Sim.sw vc_88 (lv' := [(0, .inr (.inr (8, i0, j0))), (1, .inl x1)]) (st' := []) (V' := q_V S) rfl h_10 rfl (t := 94) rfl ?_) (fun h_10 => ?_)
  · refine q_Sim.steps vc_88 2 (pc' := 98) (lv' := [(0, .inr (.inr (8, i0, j0))), (1, .inl x1)]) (st' := [.inl (S.1 (8, i0, j0) 6)]) (V' := q_V S) rfl ?_
    exact q_Sim.ret vc_88 rfl
  refine q_Sim.ite (c := x1 = 6) (fun h_11 => q_Sim.sw vc_88 (lv' := [(0, .inr (.inr (8, i0, j0))), (1, .inl x1)]) (st' := []) (V' := q_V S) rfl h_11 rfl (t := 94) rfl ?_) (fun h_11 => ?_)
  · refine q_Sim.steps vc_88 2 (pc' := 98) (lv' := [(0, .inr (.inr (8, i0, j0))), (1, .inl x1)]) (st' := [.inl (S.1 (8, i0, j0) 6)]) (V' := q_V S) rfl ?_
    exact q_Sim.ret vc_88 rfl
  refine q_Sim.ite (c := x1 = 7) (fun h_12 => q_Sim.sw vc_88 (lv' := [(0, .inr (.inr (8, i0, j0))), (1, .inl x1)]) (st' := []) (V' := q_V S) rfl h_12 rfl (t := 94) rfl ?_) (fun h_12 => ?_)
  · refine q_Sim.steps vc_88 2 (pc' := 98) (lv' := [(0, .inr (.inr (8, i0, j0))), (1, .inl x1)]) (st' := [.inl (S.1 (8, i0, j0) 6)]) (V' := q_V S) rfl ?_
    exact q_Sim.ret vc_88 rfl
  refine q_Sim.swd vc_88 (lv' := [(0, .inr (.inr (8, i0, j0))), (1, .inl x1)]) (st' := []) (V' := q_V S) rfl (fun k h1 h2 => ?_) (t := 94) rfl ?_
  · have h3 : k = 0 ∨ k = 1 ∨ k = 2 ∨ k = 3 ∨ k = 4 ∨ k = 5 ∨ k = 6 ∨ k = 7 ∨ k = 8 ∨ k = 9 ∨ k = 10 ∨ k = 11 := by omega
    rcases h3 with rfl | rfl | rfl | rfl | rfl | rfl | rfl | rfl | rfl | rfl | rfl | rfl
    · exact q_ne h_1 rfl
    · exact q_ne h_2 rfl
    · exact q_ne h_7 rfl
    · exact q_ne h_8 rfl
    · exact q_ne h_9 rfl
    · exact q_ne h_10 rfl
    · exact q_ne h_11 rfl
    · exact q_ne h_12 rfl
    · exact q_ne h_3 rfl
    · exact q_ne h_4 rfl
    · exact q_ne h_5 rfl
    · exact q_ne h_6 rfl
  · refine q_Sim.steps vc_88 2 (pc' := 98) (lv' := [(0, .inr (.inr (8, i0, j0))), (1, .inl x1)]) (st' := [.inl (S.1 (8, i0, j0) 6)]) (V' := q_V S) rfl ?_
    exact q_Sim.ret vc_88 rfl
theorem vc_90 : v_code 90 = k_90 := rfl
theorem rc_90 (i0 : Nat) (i1 : Nat) : v_rcv 90 [.inr (.inr (9, i0, 0)), .inr (.inr (9, i1, 0))] = true := rfl
def b_90_84 : Nat → Nat → Nat → Int32 → QS → Option ((Unit) × QS)
  | 0, _, _, _, _ => none
  | n + 1, i0, i1, x2, S => if (S.1 (9, i0, 0) 7) ≤ x2 then (q_ck (decide (¬ (0 : Int32) < 0) && decide (¬ (0 : Int32) < 0) && decide (¬ (24 : Int32) < 0) && decide ((0 : Int32).toNatClampNeg + (24 : Int32).toNatClampNeg ≤ 24) && decide ((0 : Int32).toNatClampNeg + (24 : Int32).toNatClampNeg ≤ 24)) (q_let (q_row S (39, i0, 0) (va_cpy (S.1 (39, i1, 0)) (S.1 (39, i0, 0)) (0 : Int32).toNatClampNeg (0 : Int32).toNatClampNeg (24 : Int32).toNatClampNeg)) (fun S_4 => q_bd (f_27 i0 i1 S_4) (fun r_5 S_6 => q_let (q_set S_6 (9, i0, 0) 8 (S_6.1 (9, i1, 0) 8)) (fun S_7 => q_let (q_set S_7 (9, i0, 0) 9 (S_7.1 (9, i1, 0) 9)) (fun S_8 => q_let (q_set S_8 (9, i0, 0) 10 (S_8.1 (9, i1, 0) 10)) (fun S_9 => q_let (q_set S_9 (9, i0, 0) 11 (S_9.1 (9, i1, 0) 11)) (fun S_10 => q_let (q_set S_10 (9, i0, 0) 12 (S_10.1 (9, i1, 0) 12)) (fun S_11 => some ((), S_11)))))))))) else (q_bd (f_93 i0 x2 S) (fun r_12 S_13 => q_bd (f_93 i1 x2 S_13) (fun r_14 S_15 => q_bd (f_84 r_12.1 r_12.2 r_14.1 r_14.2 S_15) (fun r_16 S_17 => b_90_84 n i0 i1 (x2 + 1) S_17))))
theorem sb_90_84 : ∀ (n : Nat) (i0 : Nat) (i1 : Nat) (x2 : Int32) (S : QS), q_Sim 90 84 [(0, .inr (.inr (9, i0, 0))), (1, .inr (.inr (9, i1, 0))), (2, .inl x2)] [] (q_V S) q_U (b_90_84 n i0 i1 x2 S)
  | 0, _, _, _, _ => q_Sim.none
  | n + 1, i0, i1, x2, S => by
    rw [b_90_84]
    refine q_Sim.steps vc_90 3 (pc' := 89) (lv' := [(0, .inr (.inr (9, i0, 0))), (1, .inr (.inr (9, i1, 0))), (2, .inl x2)]) (st' := [.inl (S.1 (9, i0, 0) 7), .inl x2]) (V' := q_V S) rfl ?_
    refine q_Sim.br vc_90 (c := (S.1 (9, i0, 0) 7) ≤ x2) (t := 111) (f := 92) (lv' := [(0, .inr (.inr (9, i0, 0))), (1, .inr (.inr (9, i1, 0))), (2, .inl x2)]) (st' := []) (V' := q_V S) rfl ?_ ?_
    · refine q_Sim.steps vc_90 7 (pc' := 123) (lv' := [(0, .inr (.inr (9, i0, 0))), (1, .inr (.inr (9, i1, 0))), (2, .inl x2)]) (st' := [.inl 24, .inl 0, .inr (.inr (39, i0, 0)), .inl 0, .inr (.inr (39, i1, 0))]) (V' := q_V S) rfl ?_
      refine q_Sim.ck vc_90 (c := decide (¬ (0 : Int32) < 0) && decide (¬ (0 : Int32) < 0) && decide (¬ (24 : Int32) < 0) && decide ((0 : Int32).toNatClampNeg + (24 : Int32).toNatClampNeg ≤ 24) && decide ((0 : Int32).toNatClampNeg + (24 : Int32).toNatClampNeg ≤ 24)) (pc' := 126) (lv' := [(0, .inr (.inr (9, i0, 0))), (1, .inr (.inr (9, i1, 0))), (2, .inl x2)]) (st' := []) (V' := q_V (q_row S (39, i0, 0) (va_cpy (S.1 (39, i1, 0)) (S.1 (39, i0, 0)) (0 : Int32).toNatClampNeg (0 : Int32).toNatClampNeg (24 : Int32).toNatClampNeg))) rfl ?_
      refine q_Sim.letS (fun S_4 => ?_)
      refine q_Sim.steps vc_90 4 (pc' := 134) (lv' := [(0, .inr (.inr (9, i0, 0))), (1, .inr (.inr (9, i1, 0))), (2, .inl x2)]) (st' := [.inr (.inr (2, i1, 0)), .inr (.inr (2, i0, 0))]) (V' := q_V S_4) rfl ?_
      refine q_Sim.call vc_90 (as := [.inr (.inr (2, i0, 0)), .inr (.inr (2, i1, 0))]) (pc' := 137) (lv' := [(0, .inr (.inr (9, i0, 0))), (1, .inr (.inr (9, i1, 0))), (2, .inl x2)]) (st' := []) (S := S_4) rfl (rc_27 i0 i1) (s_27 i0 i1 S_4) (fun r_5 S_6 => ?_)
      refine q_Sim.steps vc_90 3 (pc' := 142) (lv' := [(0, .inr (.inr (9, i0, 0))), (1, .inr (.inr (9, i1, 0))), (2, .inl x2)]) (st' := [.inl (S_6.1 (9, i1, 0) 8), .inr (.inr (9, i0, 0))]) (V' := q_V S_6) rfl ?_
      refine q_Sim.steps vc_90 1 (pc' := 145) (lv' := [(0, .inr (.inr (9, i0, 0))), (1, .inr (.inr (9, i1, 0))), (2, .inl x2)]) (st' := []) (V' := q_V (q_set S_6 (9, i0, 0) 8 (S_6.1 (9, i1, 0) 8))) rfl ?_
      refine q_Sim.letS (fun S_7 => ?_)
      refine q_Sim.steps vc_90 3 (pc' := 150) (lv' := [(0, .inr (.inr (9, i0, 0))), (1, .inr (.inr (9, i1, 0))), (2, .inl x2)]) (st' := [.inl (S_7.1 (9, i1, 0) 9), .inr (.inr (9, i0, 0))]) (V' := q_V S_7) rfl ?_
      refine q_Sim.steps vc_90 1 (pc' := 153) (lv' := [(0, .inr (.inr (9, i0, 0))), (1, .inr (.inr (9, i1, 0))), (2, .inl x2)]) (st' := []) (V' := q_V (q_set S_7 (9, i0, 0) 9 (S_7.1 (9, i1, 0) 9))) rfl ?_
      refine q_Sim.letS (fun S_8 => ?_)
      refine q_Sim.steps vc_90 3 (pc' := 158) (lv' := [(0, .inr (.inr (9, i0, 0))), (1, .inr (.inr (9, i1, 0))), (2, .inl x2)]) (st' := [.inl (S_8.1 (9, i1, 0) 10), .inr (.inr (9, i0, 0))]) (V' := q_V S_8) rfl ?_
      refine q_Sim.steps vc_90 1 (pc' := 161) (lv' := [(0, .inr (.inr (9, i0, 0))), (1, .inr (.inr (9, i1, 0))), (2, .inl x2)]) (st' := []) (V' := q_V (q_set S_8 (9, i0, 0) 10 (S_8.1 (9, i1, 0) 10))) rfl ?_
      refine q_Sim.letS (fun S_9 => ?_)
      refine q_Sim.steps vc_90 3 (pc' := 166) (lv' := [(0, .inr (.inr (9, i0, 0))), (1, .inr (.inr (9, i1, 0))), (2, .inl x2)]) (st' := [.inl (S_9.1 (9, i1, 0) 11), .inr (.inr (9, i0, 0))]) (V' := q_V S_9) rfl ?_
      refine q_Sim.steps vc_90 1 (pc' := 169) (lv' := [(0, .inr (.inr (9, i0, 0))), (1, .inr (.inr (9, i1, 0))), (2, .inl x2)]) (st' := []) (V' := q_V (q_set S_9 (9, i0, 0) 11 (S_9.1 (9, i1, 0) 11))) rfl ?_
      refine q_Sim.letS (fun S_10 => ?_)
      refine q_Sim.steps vc_90 3 (pc' := 174) (lv' := [(0, .inr (.inr (9, i0, 0))), (1, .inr (.inr (9, i1, 0))), (2, .inl x2)]) (st' := [.inl (S_10.1 (9, i1, 0) 12), .inr (.inr (9, i0, 0))]) (V' := q_V S_10) rfl ?_
      refine q_Sim.steps vc_90 1 (pc' := 177) (lv' := [(0, .inr (.inr (9, i0, 0))), (1, .inr (.inr (9, i1, 0))), (2, .inl x2)]) (st' := []) (V' := q_V (q_set S_10 (9, i0, 0) 12 (S_10.1 (9, i1, 0) 12))) rfl ?_
      refine q_Sim.letS (fun S_11 => ?_)
      exact q_Sim.ret vc_90 rfl
    · refine q_Sim.steps vc_90 2 (pc' := 94) (lv' := [(0, .inr (.inr (9, i0, 0))), (1, .inr (.inr (9, i1, 0))), (2, .inl x2)]) (st' := [.inl x2, .inr (.inr (9, i0, 0))]) (V' := q_V S) rfl ?_
      refine q_Sim.call vc_90 (as := [.inr (.inr (9, i0, 0)), .inl x2]) (pc' := 97) (lv' := [(0, .inr (.inr (9, i0, 0))), (1, .inr (.inr (9, i1, 0))), (2, .inl x2)]) (st' := []) (S := S) rfl (rc_93 i0 x2) (s_93 i0 x2 S) (fun r_12 S_13 => ?_)
      refine q_Sim.steps vc_90 2 (pc' := 99) (lv' := [(0, .inr (.inr (9, i0, 0))), (1, .inr (.inr (9, i1, 0))), (2, .inl x2)]) (st' := [.inl x2, .inr (.inr (9, i1, 0)), .inr (.inr (8, r_12.1, r_12.2))]) (V' := q_V S_13) rfl ?_
      refine q_Sim.call vc_90 (as := [.inr (.inr (9, i1, 0)), .inl x2]) (pc' := 102) (lv' := [(0, .inr (.inr (9, i0, 0))), (1, .inr (.inr (9, i1, 0))), (2, .inl x2)]) (st' := [.inr (.inr (8, r_12.1, r_12.2))]) (S := S_13) rfl (rc_93 i1 x2) (s_93 i1 x2 S_13) (fun r_14 S_15 => ?_)
      refine q_Sim.call vc_90 (as := [.inr (.inr (8, r_12.1, r_12.2)), .inr (.inr (8, r_14.1, r_14.2))]) (pc' := 105) (lv' := [(0, .inr (.inr (9, i0, 0))), (1, .inr (.inr (9, i1, 0))), (2, .inl x2)]) (st' := []) (S := S_15) rfl (rc_84 r_12.1 r_12.2 r_14.1 r_14.2) (s_84 r_12.1 r_12.2 r_14.1 r_14.2 S_15) (fun r_16 S_17 => ?_)
      refine q_Sim.steps vc_90 2 (pc' := 84) (lv' := [(2, .inl (x2 + 1)), (0, .inr (.inr (9, i0, 0))), (1, .inr (.inr (9, i1, 0)))]) (st' := []) (V' := q_V S_17) rfl ?_
      exact q_Sim.sub2 (lv' := [(0, .inr (.inr (9, i0, 0))), (1, .inr (.inr (9, i1, 0))), (2, .inl (x2 + 1))]) [0, 1, 2] rfl (by decide) ⟨rfl, rfl, rfl, trivial⟩ (sb_90_84 n i0 i1 (x2 + 1) S_17)
def b_90_47 : Nat → Nat → Nat → Int32 → QS → Option ((Unit) × QS)
  | 0, _, _, _, _ => none
  | n + 1, i0, i1, x2, S => if (S.1 (9, i0, 0) 6) ≤ x2 then (q_let (q_set S (9, i0, 0) 7 (S.1 (9, i1, 0) 7)) (fun S_3 => b_90_84 q_N i0 i1 0 S_3)) else (q_bd (f_92 i0 x2 S) (fun r_18 S_19 => q_bd (f_92 i1 x2 S_19) (fun r_20 S_21 => q_bd (f_30 r_18.1 r_18.2 r_20.1 r_20.2 S_21) (fun r_22 S_23 => b_90_47 n i0 i1 (x2 + 1) S_23))))
theorem sb_90_47 : ∀ (n : Nat) (i0 : Nat) (i1 : Nat) (x2 : Int32) (S : QS), q_Sim 90 47 [(0, .inr (.inr (9, i0, 0))), (1, .inr (.inr (9, i1, 0))), (2, .inl x2)] [] (q_V S) q_U (b_90_47 n i0 i1 x2 S)
  | 0, _, _, _, _ => q_Sim.none
  | n + 1, i0, i1, x2, S => by
    rw [b_90_47]
    refine q_Sim.steps vc_90 3 (pc' := 52) (lv' := [(0, .inr (.inr (9, i0, 0))), (1, .inr (.inr (9, i1, 0))), (2, .inl x2)]) (st' := [.inl (S.1 (9, i0, 0) 6), .inl x2]) (V' := q_V S) rfl ?_
    refine q_Sim.br vc_90 (c := (S.1 (9, i0, 0) 6) ≤ x2) (t := 74) (f := 55) (lv' := [(0, .inr (.inr (9, i0, 0))), (1, .inr (.inr (9, i1, 0))), (2, .inl x2)]) (st' := []) (V' := q_V S) rfl ?_ ?_
    · refine q_Sim.steps vc_90 3 (pc' := 79) (lv' := [(0, .inr (.inr (9, i0, 0))), (1, .inr (.inr (9, i1, 0))), (2, .inl x2)]) (st' := [.inl (S.1 (9, i1, 0) 7), .inr (.inr (9, i0, 0))]) (V' := q_V S) rfl ?_
      refine q_Sim.steps vc_90 1 (pc' := 82) (lv' := [(0, .inr (.inr (9, i0, 0))), (1, .inr (.inr (9, i1, 0))), (2, .inl x2)]) (st' := []) (V' := q_V (q_set S (9, i0, 0) 7 (S.1 (9, i1, 0) 7))) rfl ?_
      refine q_Sim.letS (fun S_3 => ?_)
      refine q_Sim.steps vc_90 2 (pc' := 84) (lv' := [(2, .inl 0), (0, .inr (.inr (9, i0, 0))), (1, .inr (.inr (9, i1, 0)))]) (st' := []) (V' := q_V S_3) rfl ?_
      exact q_Sim.sub2 (lv' := [(0, .inr (.inr (9, i0, 0))), (1, .inr (.inr (9, i1, 0))), (2, .inl 0)]) [0, 1, 2] rfl (by decide) ⟨rfl, rfl, rfl, trivial⟩ (sb_90_84 q_N i0 i1 0 S_3)
    · refine q_Sim.steps vc_90 2 (pc' := 57) (lv' := [(0, .inr (.inr (9, i0, 0))), (1, .inr (.inr (9, i1, 0))), (2, .inl x2)]) (st' := [.inl x2, .inr (.inr (9, i0, 0))]) (V' := q_V S) rfl ?_
      refine q_Sim.call vc_90 (as := [.inr (.inr (9, i0, 0)), .inl x2]) (pc' := 60) (lv' := [(0, .inr (.inr (9, i0, 0))), (1, .inr (.inr (9, i1, 0))), (2, .inl x2)]) (st' := []) (S := S) rfl (rc_92 i0 x2) (s_92 i0 x2 S) (fun r_18 S_19 => ?_)
      refine q_Sim.steps vc_90 2 (pc' := 62) (lv' := [(0, .inr (.inr (9, i0, 0))), (1, .inr (.inr (9, i1, 0))), (2, .inl x2)]) (st' := [.inl x2, .inr (.inr (9, i1, 0)), .inr (.inr (3, r_18.1, r_18.2))]) (V' := q_V S_19) rfl ?_
      refine q_Sim.call vc_90 (as := [.inr (.inr (9, i1, 0)), .inl x2]) (pc' := 65) (lv' := [(0, .inr (.inr (9, i0, 0))), (1, .inr (.inr (9, i1, 0))), (2, .inl x2)]) (st' := [.inr (.inr (3, r_18.1, r_18.2))]) (S := S_19) rfl (rc_92 i1 x2) (s_92 i1 x2 S_19) (fun r_20 S_21 => ?_)
      refine q_Sim.call vc_90 (as := [.inr (.inr (3, r_18.1, r_18.2)), .inr (.inr (3, r_20.1, r_20.2))]) (pc' := 68) (lv' := [(0, .inr (.inr (9, i0, 0))), (1, .inr (.inr (9, i1, 0))), (2, .inl x2)]) (st' := []) (S := S_21) rfl (rc_30 r_18.1 r_18.2 r_20.1 r_20.2) (s_30 r_18.1 r_18.2 r_20.1 r_20.2 S_21) (fun r_22 S_23 => ?_)
      refine q_Sim.steps vc_90 2 (pc' := 47) (lv' := [(2, .inl (x2 + 1)), (0, .inr (.inr (9, i0, 0))), (1, .inr (.inr (9, i1, 0)))]) (st' := []) (V' := q_V S_23) rfl ?_
      exact q_Sim.sub2 (lv' := [(0, .inr (.inr (9, i0, 0))), (1, .inr (.inr (9, i1, 0))), (2, .inl (x2 + 1))]) [0, 1, 2] rfl (by decide) ⟨rfl, rfl, rfl, trivial⟩ (sb_90_47 n i0 i1 (x2 + 1) S_23)
def b_90_10 : Nat → Nat → Nat → Int32 → QS → Option ((Unit) × QS)
  | 0, _, _, _, _ => none
  | n + 1, i0, i1, x2, S => if (S.1 (9, i0, 0) 5) ≤ x2 then (q_let (q_set S (9, i0, 0) 6 (S.1 (9, i1, 0) 6)) (fun S_2 => b_90_47 q_N i0 i1 0 S_2)) else (q_bd (f_91 i0 x2 S) (fun r_24 S_25 => q_bd (f_91 i1 x2 S_25) (fun r_26 S_27 => q_bd (f_44 r_24.1 r_24.2 r_26.1 r_26.2 S_27) (fun r_28 S_29 => b_90_10 n i0 i1 (x2 + 1) S_29))))
theorem sb_90_10 : ∀ (n : Nat) (i0 : Nat) (i1 : Nat) (x2 : Int32) (S : QS), q_Sim 90 10 [(0, .inr (.inr (9, i0, 0))), (1, .inr (.inr (9, i1, 0))), (2, .inl x2)] [] (q_V S) q_U (b_90_10 n i0 i1 x2 S)
  | 0, _, _, _, _ => q_Sim.none
  | n + 1, i0, i1, x2, S => by
    rw [b_90_10]
    refine q_Sim.steps vc_90 3 (pc' := 15) (lv' := [(0, .inr (.inr (9, i0, 0))), (1, .inr (.inr (9, i1, 0))), (2, .inl x2)]) (st' := [.inl (S.1 (9, i0, 0) 5), .inl x2]) (V' := q_V S) rfl ?_
    refine q_Sim.br vc_90 (c := (S.1 (9, i0, 0) 5) ≤ x2) (t := 37) (f := 18) (lv' := [(0, .inr (.inr (9, i0, 0))), (1, .inr (.inr (9, i1, 0))), (2, .inl x2)]) (st' := []) (V' := q_V S) rfl ?_ ?_
    · refine q_Sim.steps vc_90 3 (pc' := 42) (lv' := [(0, .inr (.inr (9, i0, 0))), (1, .inr (.inr (9, i1, 0))), (2, .inl x2)]) (st' := [.inl (S.1 (9, i1, 0) 6), .inr (.inr (9, i0, 0))]) (V' := q_V S) rfl ?_
      refine q_Sim.steps vc_90 1 (pc' := 45) (lv' := [(0, .inr (.inr (9, i0, 0))), (1, .inr (.inr (9, i1, 0))), (2, .inl x2)]) (st' := []) (V' := q_V (q_set S (9, i0, 0) 6 (S.1 (9, i1, 0) 6))) rfl ?_
      refine q_Sim.letS (fun S_2 => ?_)
      refine q_Sim.steps vc_90 2 (pc' := 47) (lv' := [(2, .inl 0), (0, .inr (.inr (9, i0, 0))), (1, .inr (.inr (9, i1, 0)))]) (st' := []) (V' := q_V S_2) rfl ?_
      exact q_Sim.sub2 (lv' := [(0, .inr (.inr (9, i0, 0))), (1, .inr (.inr (9, i1, 0))), (2, .inl 0)]) [0, 1, 2] rfl (by decide) ⟨rfl, rfl, rfl, trivial⟩ (sb_90_47 q_N i0 i1 0 S_2)
    · refine q_Sim.steps vc_90 2 (pc' := 20) (lv' := [(0, .inr (.inr (9, i0, 0))), (1, .inr (.inr (9, i1, 0))), (2, .inl x2)]) (st' := [.inl x2, .inr (.inr (9, i0, 0))]) (V' := q_V S) rfl ?_
      refine q_Sim.call vc_90 (as := [.inr (.inr (9, i0, 0)), .inl x2]) (pc' := 23) (lv' := [(0, .inr (.inr (9, i0, 0))), (1, .inr (.inr (9, i1, 0))), (2, .inl x2)]) (st' := []) (S := S) rfl (rc_91 i0 x2) (s_91 i0 x2 S) (fun r_24 S_25 => ?_)
      refine q_Sim.steps vc_90 2 (pc' := 25) (lv' := [(0, .inr (.inr (9, i0, 0))), (1, .inr (.inr (9, i1, 0))), (2, .inl x2)]) (st' := [.inl x2, .inr (.inr (9, i1, 0)), .inr (.inr (4, r_24.1, r_24.2))]) (V' := q_V S_25) rfl ?_
      refine q_Sim.call vc_90 (as := [.inr (.inr (9, i1, 0)), .inl x2]) (pc' := 28) (lv' := [(0, .inr (.inr (9, i0, 0))), (1, .inr (.inr (9, i1, 0))), (2, .inl x2)]) (st' := [.inr (.inr (4, r_24.1, r_24.2))]) (S := S_25) rfl (rc_91 i1 x2) (s_91 i1 x2 S_25) (fun r_26 S_27 => ?_)
      refine q_Sim.call vc_90 (as := [.inr (.inr (4, r_24.1, r_24.2)), .inr (.inr (4, r_26.1, r_26.2))]) (pc' := 31) (lv' := [(0, .inr (.inr (9, i0, 0))), (1, .inr (.inr (9, i1, 0))), (2, .inl x2)]) (st' := []) (S := S_27) rfl (rc_44 r_24.1 r_24.2 r_26.1 r_26.2) (s_44 r_24.1 r_24.2 r_26.1 r_26.2 S_27) (fun r_28 S_29 => ?_)
      refine q_Sim.steps vc_90 2 (pc' := 10) (lv' := [(2, .inl (x2 + 1)), (0, .inr (.inr (9, i0, 0))), (1, .inr (.inr (9, i1, 0)))]) (st' := []) (V' := q_V S_29) rfl ?_
      exact q_Sim.sub2 (lv' := [(0, .inr (.inr (9, i0, 0))), (1, .inr (.inr (9, i1, 0))), (2, .inl (x2 + 1))]) [0, 1, 2] rfl (by decide) ⟨rfl, rfl, rfl, trivial⟩ (sb_90_10 n i0 i1 (x2 + 1) S_29)
def f_90 (i0 : Nat) (i1 : Nat) (S : QS) : Option ((Unit) × QS) := q_let (q_set S (9, i0, 0) 5 (S.1 (9, i1, 0) 5)) (fun S_1 => b_90_10 q_N i0 i1 0 S_1)
theorem s_90 (i0 : Nat) (i1 : Nat) (S : QS) : q_Sim 90 0 [(0, .inr (.inr (9, i0, 0))), (1, .inr (.inr (9, i1, 0)))] [] (q_V S) q_U (f_90 i0 i1 S) := by
  unfold f_90
  refine q_Sim.steps vc_90 3 (pc' := 5) (lv' := [(0, .inr (.inr (9, i0, 0))), (1, .inr (.inr (9, i1, 0)))]) (st' := [.inl (S.1 (9, i1, 0) 5), .inr (.inr (9, i0, 0))]) (V' := q_V S) rfl ?_
  refine q_Sim.steps vc_90 1 (pc' := 8) (lv' := [(0, .inr (.inr (9, i0, 0))), (1, .inr (.inr (9, i1, 0)))]) (st' := []) (V' := q_V (q_set S (9, i0, 0) 5 (S.1 (9, i1, 0) 5))) rfl ?_
  refine q_Sim.letS (fun S_1 => ?_)
  refine q_Sim.steps vc_90 2 (pc' := 10) (lv' := [(2, .inl 0), (0, .inr (.inr (9, i0, 0))), (1, .inr (.inr (9, i1, 0)))]) (st' := []) (V' := q_V S_1) rfl ?_
  exact q_Sim.sub2 (lv' := [(0, .inr (.inr (9, i0, 0))), (1, .inr (.inr (9, i1, 0))), (2, .inl 0)]) [0, 1, 2] rfl (by decide) ⟨rfl, rfl, rfl, trivial⟩ (sb_90_10 q_N i0 i1 0 S_1)
theorem vc_94 : v_code 94 = k_94 := rfl
theorem rc_94 (i0 : Nat) (x1 : Int32) : v_rcv 94 [.inr (.inr (9, i0, 0)), .inl x1] = true := rfl
def f_94 (i0 : Nat) (x1 : Int32) (S : QS) : Option ((Int32) × QS) := q_bd (f_91 i0 (S.1 (9, i0, 0) 5) S) (fun r_1 S_2 => q_bd (f_43 r_1.1 r_1.2 x1 S_2) (fun r_3 S_4 => q_let (q_set S_4 (9, i0, 0) 5 ((S_4.1 (9, i0, 0) 5) + 1)) (fun S_5 => some ((S_5.1 (9, i0, 0) 5) - 1, S_5))))
theorem s_94 (i0 : Nat) (x1 : Int32) (S : QS) : q_Sim 94 0 [(0, .inr (.inr (9, i0, 0))), (1, .inl x1)] [] (q_V S) q_I (f_94 i0 x1 S) := by
  unfold f_94
  refine q_Sim.steps vc_94 3 (pc' := 5) (lv' := [(0, .inr (.inr (9, i0, 0))), (1, .inl x1)]) (st' := [.inl (S.1 (9, i0, 0) 5), .inr (.inr (9, i0, 0))]) (V' := q_V S) rfl ?_
  refine q_Sim.call vc_94 (as := [.inr (.inr (9, i0, 0)), .inl (S.1 (9, i0, 0) 5)]) (pc' := 8) (lv' := [(0, .inr (.inr (9, i0, 0))), (1, .inl x1)]) (st' := []) (S := S) rfl (rc_91 i0 (S.1 (9, i0, 0) 5)) (s_91 i0 (S.1 (9, i0, 0) 5) S) (fun r_1 S_2 => ?_)
  refine q_Sim.steps vc_94 1 (pc' := 9) (lv' := [(0, .inr (.inr (9, i0, 0))), (1, .inl x1)]) (st' := [.inl x1, .inr (.inr (4, r_1.1, r_1.2))]) (V' := q_V S_2) rfl ?_
  refine q_Sim.call vc_94 (as := [.inr (.inr (4, r_1.1, r_1.2)), .inl x1]) (pc' := 12) (lv' := [(0, .inr (.inr (9, i0, 0))), (1, .inl x1)]) (st' := []) (S := S_2) rfl (rc_43 r_1.1 r_1.2 x1) (s_43 r_1.1 r_1.2 x1 S_2) (fun r_3 S_4 => ?_)
  refine q_Sim.steps vc_94 5 (pc' := 19) (lv' := [(0, .inr (.inr (9, i0, 0))), (1, .inl x1)]) (st' := [.inl ((S_4.1 (9, i0, 0) 5) + 1), .inr (.inr (9, i0, 0))]) (V' := q_V S_4) rfl ?_
  refine q_Sim.steps vc_94 1 (pc' := 22) (lv' := [(0, .inr (.inr (9, i0, 0))), (1, .inl x1)]) (st' := []) (V' := q_V (q_set S_4 (9, i0, 0) 5 ((S_4.1 (9, i0, 0) 5) + 1))) rfl ?_
  refine q_Sim.letS (fun S_5 => ?_)
  refine q_Sim.steps vc_94 4 (pc' := 28) (lv' := [(0, .inr (.inr (9, i0, 0))), (1, .inl x1)]) (st' := [.inl ((S_5.1 (9, i0, 0) 5) - 1)]) (V' := q_V S_5) rfl ?_
  exact q_Sim.ret vc_94 rfl
theorem vc_99 : v_code 99 = k_99 := rfl
theorem rc_99 (i0 : Nat) (x1 : Int32) (x2 : Int32) : v_rcv 99 [.inr (.inr (9, i0, 0)), .inl x1, .inl x2] = true := rfl
def f_99 (i0 : Nat) (x1 : Int32) (x2 : Int32) (S : QS) : Option ((Unit) × QS) := q_bd (f_91 i0 (x1 / 96) S) (fun r_1 S_2 => q_ck (v_in (x1 - x1 / 96 * 96) 96) (q_let (q_set S_2 (25, r_1.1, r_1.2) (x1 - x1 / 96 * 96).toNatClampNeg x2) (fun S_3 => some ((), S_3))))
theorem s_99 (i0 : Nat) (x1 : Int32) (x2 : Int32) (S : QS) : q_Sim 99 0 [(0, .inr (.inr (9, i0, 0))), (1, .inl x1), (2, .inl x2)] [] (q_V S) q_U (f_99 i0 x1 x2 S) := by
  unfold f_99
  refine q_Sim.steps vc_99 3 (pc' := 4) (lv' := [(0, .inr (.inr (9, i0, 0))), (1, .inl x1), (2, .inl x2)]) (st' := [.inl 96, .inl x1, .inr (.inr (9, i0, 0))]) (V' := q_V S) rfl ?_
  refine q_Sim.okd vc_99 (c := decide (¬ (96 : Int32) = 0)) (pc' := 5) (lv' := [(0, .inr (.inr (9, i0, 0))), (1, .inl x1), (2, .inl x2)]) (st' := [.inl (x1 / 96), .inr (.inr (9, i0, 0))]) (V' := q_V S) rfl (by decide) ?_
  refine q_Sim.call vc_99 (as := [.inr (.inr (9, i0, 0)), .inl (x1 / 96)]) (pc' := 8) (lv' := [(0, .inr (.inr (9, i0, 0))), (1, .inl x1), (2, .inl x2)]) (st' := []) (S := S) rfl (rc_91 i0 (x1 / 96)) (s_91 i0 (x1 / 96) S) (fun r_1 S_2 => ?_)
  refine q_Sim.steps vc_99 3 (pc' := 14) (lv' := [(0, .inr (.inr (9, i0, 0))), (1, .inl x1), (2, .inl x2)]) (st' := [.inl 96, .inl x1, .inr (.inr (25, r_1.1, r_1.2))]) (V' := q_V S_2) rfl ?_
  refine q_Sim.okd vc_99 (c := decide (¬ (96 : Int32) = 0)) (pc' := 15) (lv' := [(0, .inr (.inr (9, i0, 0))), (1, .inl x1), (2, .inl x2)]) (st' := [.inl (x1 - x1 / 96 * 96), .inr (.inr (25, r_1.1, r_1.2))]) (V' := q_V S_2) rfl (by decide) ?_
  refine q_Sim.steps vc_99 1 (pc' := 16) (lv' := [(0, .inr (.inr (9, i0, 0))), (1, .inl x1), (2, .inl x2)]) (st' := [.inl x2, .inl (x1 - x1 / 96 * 96), .inr (.inr (25, r_1.1, r_1.2))]) (V' := q_V S_2) rfl ?_
  refine q_Sim.ck vc_99 (c := v_in (x1 - x1 / 96 * 96) 96) (pc' := 17) (lv' := [(0, .inr (.inr (9, i0, 0))), (1, .inl x1), (2, .inl x2)]) (st' := []) (V' := q_V (q_set S_2 (25, r_1.1, r_1.2) (x1 - x1 / 96 * 96).toNatClampNeg x2)) rfl ?_
  refine q_Sim.letS (fun S_3 => ?_)
  exact q_Sim.ret vc_99 rfl
theorem vc_95 : v_code 95 = k_95 := rfl
theorem rc_95 (i0 : Nat) (x1 : Int32) (x2 : Int32) : v_rcv 95 [.inr (.inr (9, i0, 0)), .inl x1, .inl x2] = true := rfl
def f_95 (i0 : Nat) (x1 : Int32) (x2 : Int32) (S : QS) : Option ((Int32) × QS) := q_bd (f_92 i0 (S.1 (9, i0, 0) 6) S) (fun r_1 S_2 => q_bd (f_29 r_1.1 r_1.2 x2 S_2) (fun r_3 S_4 => q_bd (f_99 i0 x1 (S_4.1 (9, i0, 0) 6) S_4) (fun r_5 S_6 => q_let (q_set S_6 (9, i0, 0) 6 ((S_6.1 (9, i0, 0) 6) + 1)) (fun S_7 => some ((S_7.1 (9, i0, 0) 6) - 1, S_7)))))
theorem s_95 (i0 : Nat) (x1 : Int32) (x2 : Int32) (S : QS) : q_Sim 95 0 [(0, .inr (.inr (9, i0, 0))), (1, .inl x1), (2, .inl x2)] [] (q_V S) q_I (f_95 i0 x1 x2 S) := by
  unfold f_95
  refine q_Sim.steps vc_95 3 (pc' := 5) (lv' := [(0, .inr (.inr (9, i0, 0))), (1, .inl x1), (2, .inl x2)]) (st' := [.inl (S.1 (9, i0, 0) 6), .inr (.inr (9, i0, 0))]) (V' := q_V S) rfl ?_
  refine q_Sim.call vc_95 (as := [.inr (.inr (9, i0, 0)), .inl (S.1 (9, i0, 0) 6)]) (pc' := 8) (lv' := [(0, .inr (.inr (9, i0, 0))), (1, .inl x1), (2, .inl x2)]) (st' := []) (S := S) rfl (rc_92 i0 (S.1 (9, i0, 0) 6)) (s_92 i0 (S.1 (9, i0, 0) 6) S) (fun r_1 S_2 => ?_)
  refine q_Sim.steps vc_95 1 (pc' := 9) (lv' := [(0, .inr (.inr (9, i0, 0))), (1, .inl x1), (2, .inl x2)]) (st' := [.inl x2, .inr (.inr (3, r_1.1, r_1.2))]) (V' := q_V S_2) rfl ?_
  refine q_Sim.call vc_95 (as := [.inr (.inr (3, r_1.1, r_1.2)), .inl x2]) (pc' := 12) (lv' := [(0, .inr (.inr (9, i0, 0))), (1, .inl x1), (2, .inl x2)]) (st' := []) (S := S_2) rfl (rc_29 r_1.1 r_1.2 x2) (s_29 r_1.1 r_1.2 x2 S_2) (fun r_3 S_4 => ?_)
  refine q_Sim.steps vc_95 4 (pc' := 18) (lv' := [(0, .inr (.inr (9, i0, 0))), (1, .inl x1), (2, .inl x2)]) (st' := [.inl (S_4.1 (9, i0, 0) 6), .inl x1, .inr (.inr (9, i0, 0))]) (V' := q_V S_4) rfl ?_
  refine q_Sim.call vc_95 (as := [.inr (.inr (9, i0, 0)), .inl x1, .inl (S_4.1 (9, i0, 0) 6)]) (pc' := 21) (lv' := [(0, .inr (.inr (9, i0, 0))), (1, .inl x1), (2, .inl x2)]) (st' := []) (S := S_4) rfl (rc_99 i0 x1 (S_4.1 (9, i0, 0) 6)) (s_99 i0 x1 (S_4.1 (9, i0, 0) 6) S_4) (fun r_5 S_6 => ?_)
  refine q_Sim.steps vc_95 5 (pc' := 28) (lv' := [(0, .inr (.inr (9, i0, 0))), (1, .inl x1), (2, .inl x2)]) (st' := [.inl ((S_6.1 (9, i0, 0) 6) + 1), .inr (.inr (9, i0, 0))]) (V' := q_V S_6) rfl ?_
  refine q_Sim.steps vc_95 1 (pc' := 31) (lv' := [(0, .inr (.inr (9, i0, 0))), (1, .inl x1), (2, .inl x2)]) (st' := []) (V' := q_V (q_set S_6 (9, i0, 0) 6 ((S_6.1 (9, i0, 0) 6) + 1))) rfl ?_
  refine q_Sim.letS (fun S_7 => ?_)
  refine q_Sim.steps vc_95 4 (pc' := 37) (lv' := [(0, .inr (.inr (9, i0, 0))), (1, .inl x1), (2, .inl x2)]) (st' := [.inl ((S_7.1 (9, i0, 0) 6) - 1)]) (V' := q_V S_7) rfl ?_
  exact q_Sim.ret vc_95 rfl
theorem vc_96 : v_code 96 = k_96 := rfl
theorem rc_96 (i0 : Nat) (x1 : Int32) : v_rcv 96 [.inr (.inr (9, i0, 0)), .inl x1] = true := rfl
def f_96 (i0 : Nat) (x1 : Int32) (S : QS) : Option ((Int32) × QS) := q_bd (f_93 i0 (S.1 (9, i0, 0) 7) S) (fun r_1 S_2 => q_bd (f_83 r_1.1 r_1.2 x1 S_2) (fun r_3 S_4 => q_let (q_set S_4 (9, i0, 0) 7 ((S_4.1 (9, i0, 0) 7) + 1)) (fun S_5 => some ((S_5.1 (9, i0, 0) 7) - 1, S_5))))
theorem s_96 (i0 : Nat) (x1 : Int32) (S : QS) : q_Sim 96 0 [(0, .inr (.inr (9, i0, 0))), (1, .inl x1)] [] (q_V S) q_I (f_96 i0 x1 S) := by
  unfold f_96
  refine q_Sim.steps vc_96 3 (pc' := 5) (lv' := [(0, .inr (.inr (9, i0, 0))), (1, .inl x1)]) (st' := [.inl (S.1 (9, i0, 0) 7), .inr (.inr (9, i0, 0))]) (V' := q_V S) rfl ?_
  refine q_Sim.call vc_96 (as := [.inr (.inr (9, i0, 0)), .inl (S.1 (9, i0, 0) 7)]) (pc' := 8) (lv' := [(0, .inr (.inr (9, i0, 0))), (1, .inl x1)]) (st' := []) (S := S) rfl (rc_93 i0 (S.1 (9, i0, 0) 7)) (s_93 i0 (S.1 (9, i0, 0) 7) S) (fun r_1 S_2 => ?_)
  refine q_Sim.steps vc_96 1 (pc' := 9) (lv' := [(0, .inr (.inr (9, i0, 0))), (1, .inl x1)]) (st' := [.inl x1, .inr (.inr (8, r_1.1, r_1.2))]) (V' := q_V S_2) rfl ?_
  refine q_Sim.call vc_96 (as := [.inr (.inr (8, r_1.1, r_1.2)), .inl x1]) (pc' := 12) (lv' := [(0, .inr (.inr (9, i0, 0))), (1, .inl x1)]) (st' := []) (S := S_2) rfl (rc_83 r_1.1 r_1.2 x1) (s_83 r_1.1 r_1.2 x1 S_2) (fun r_3 S_4 => ?_)
  refine q_Sim.steps vc_96 5 (pc' := 19) (lv' := [(0, .inr (.inr (9, i0, 0))), (1, .inl x1)]) (st' := [.inl ((S_4.1 (9, i0, 0) 7) + 1), .inr (.inr (9, i0, 0))]) (V' := q_V S_4) rfl ?_
  refine q_Sim.steps vc_96 1 (pc' := 22) (lv' := [(0, .inr (.inr (9, i0, 0))), (1, .inl x1)]) (st' := []) (V' := q_V (q_set S_4 (9, i0, 0) 7 ((S_4.1 (9, i0, 0) 7) + 1))) rfl ?_
  refine q_Sim.letS (fun S_5 => ?_)
  refine q_Sim.steps vc_96 4 (pc' := 28) (lv' := [(0, .inr (.inr (9, i0, 0))), (1, .inl x1)]) (st' := [.inl ((S_5.1 (9, i0, 0) 7) - 1)]) (V' := q_V S_5) rfl ?_
  exact q_Sim.ret vc_96 rfl
theorem vc_97 : v_code 97 = k_97 := rfl
theorem rc_97 (i0 : Nat) (x1 : Int32) : v_rcv 97 [.inr (.inr (9, i0, 0)), .inl x1] = true := rfl
def f_97 (i0 : Nat) (x1 : Int32) (S : QS) : Option ((Int32) × QS) := q_let (x1 / 96) (fun y_1 => if (S.1 (9, i0, 0) 5) ≤ y_1 then (some (0, S)) else (q_bd (f_91 i0 y_1 S) (fun r_2 S_3 => q_bd (f_45 r_2.1 r_2.2 S_3) (fun r_4 S_5 => if r_4 ≤ (x1 - x1 / 96 * 96) then (some (0, S_5)) else (some (1, S_5))))))
theorem s_97 (i0 : Nat) (x1 : Int32) (S : QS) : q_Sim 97 0 [(0, .inr (.inr (9, i0, 0))), (1, .inl x1)] [] (q_V S) q_I (f_97 i0 x1 S) := by
  unfold f_97
  refine q_Sim.steps vc_97 2 (pc' := 3) (lv' := [(0, .inr (.inr (9, i0, 0))), (1, .inl x1)]) (st' := [.inl 96, .inl x1]) (V' := q_V S) rfl ?_
  refine q_Sim.okd vc_97 (c := decide (¬ (96 : Int32) = 0)) (pc' := 4) (lv' := [(0, .inr (.inr (9, i0, 0))), (1, .inl x1)]) (st' := [.inl (x1 / 96)]) (V' := q_V S) rfl (by decide) ?_
  refine q_Sim.letI (fun y_1 => ?_)
  refine q_Sim.steps vc_97 4 (pc' := 10) (lv' := [(2, .inl y_1), (0, .inr (.inr (9, i0, 0))), (1, .inl x1)]) (st' := [.inl (S.1 (9, i0, 0) 5), .inl y_1]) (V' := q_V S) rfl ?_
  refine q_Sim.br vc_97 (c := (S.1 (9, i0, 0) 5) ≤ y_1) (t := 32) (f := 13) (lv' := [(2, .inl y_1), (0, .inr (.inr (9, i0, 0))), (1, .inl x1)]) (st' := []) (V' := q_V S) rfl ?_ ?_
  · refine q_Sim.steps vc_97 1 (pc' := 33) (lv' := [(2, .inl y_1), (0, .inr (.inr (9, i0, 0))), (1, .inl x1)]) (st' := [.inl 0]) (V' := q_V S) rfl ?_
    exact q_Sim.ret vc_97 rfl
  · refine q_Sim.steps vc_97 2 (pc' := 16) (lv' := [(2, .inl y_1), (0, .inr (.inr (9, i0, 0))), (1, .inl x1)]) (st' := [.inl 96, .inl x1]) (V' := q_V S) rfl ?_
    refine q_Sim.okd vc_97 (c := decide (¬ (96 : Int32) = 0)) (pc' := 17) (lv' := [(2, .inl y_1), (0, .inr (.inr (9, i0, 0))), (1, .inl x1)]) (st' := [.inl (x1 - x1 / 96 * 96)]) (V' := q_V S) rfl (by decide) ?_
    refine q_Sim.steps vc_97 2 (pc' := 19) (lv' := [(2, .inl y_1), (0, .inr (.inr (9, i0, 0))), (1, .inl x1)]) (st' := [.inl y_1, .inr (.inr (9, i0, 0)), .inl (x1 - x1 / 96 * 96)]) (V' := q_V S) rfl ?_
    refine q_Sim.call vc_97 (as := [.inr (.inr (9, i0, 0)), .inl y_1]) (pc' := 22) (lv' := [(2, .inl y_1), (0, .inr (.inr (9, i0, 0))), (1, .inl x1)]) (st' := [.inl (x1 - x1 / 96 * 96)]) (S := S) rfl (rc_91 i0 y_1) (s_91 i0 y_1 S) (fun r_2 S_3 => ?_)
    refine q_Sim.call vc_97 (as := [.inr (.inr (4, r_2.1, r_2.2))]) (pc' := 25) (lv' := [(2, .inl y_1), (0, .inr (.inr (9, i0, 0))), (1, .inl x1)]) (st' := [.inl (x1 - x1 / 96 * 96)]) (S := S_3) rfl (rc_45 r_2.1 r_2.2) (s_45 r_2.1 r_2.2 S_3) (fun r_4 S_5 => ?_)
    refine q_Sim.br vc_97 (c := r_4 ≤ (x1 - x1 / 96 * 96)) (t := 32) (f := 28) (lv' := [(2, .inl y_1), (0, .inr (.inr (9, i0, 0))), (1, .inl x1)]) (st' := []) (V' := q_V S_5) rfl ?_ ?_
    · refine q_Sim.steps vc_97 1 (pc' := 33) (lv' := [(2, .inl y_1), (0, .inr (.inr (9, i0, 0))), (1, .inl x1)]) (st' := [.inl 0]) (V' := q_V S_5) rfl ?_
      exact q_Sim.ret vc_97 rfl
    · refine q_Sim.steps vc_97 2 (pc' := 33) (lv' := [(2, .inl y_1), (0, .inr (.inr (9, i0, 0))), (1, .inl x1)]) (st' := [.inl 1]) (V' := q_V S_5) rfl ?_
      exact q_Sim.ret vc_97 rfl
theorem vc_98 : v_code 98 = k_98 := rfl
theorem rc_98 (i0 : Nat) (x1 : Int32) : v_rcv 98 [.inr (.inr (9, i0, 0)), .inl x1] = true := rfl
def f_98 (i0 : Nat) (x1 : Int32) (S : QS) : Option ((Int32) × QS) := q_bd (f_91 i0 (x1 / 96) S) (fun r_1 S_2 => q_ck (v_in (x1 - x1 / 96 * 96) 96) (q_let (S_2.1 (25, r_1.1, r_1.2) (x1 - x1 / 96 * 96).toNatClampNeg) (fun y_3 => some (y_3, S_2))))
theorem s_98 (i0 : Nat) (x1 : Int32) (S : QS) : q_Sim 98 0 [(0, .inr (.inr (9, i0, 0))), (1, .inl x1)] [] (q_V S) q_I (f_98 i0 x1 S) := by
  unfold f_98
  refine q_Sim.steps vc_98 3 (pc' := 4) (lv' := [(0, .inr (.inr (9, i0, 0))), (1, .inl x1)]) (st' := [.inl 96, .inl x1, .inr (.inr (9, i0, 0))]) (V' := q_V S) rfl ?_
  refine q_Sim.okd vc_98 (c := decide (¬ (96 : Int32) = 0)) (pc' := 5) (lv' := [(0, .inr (.inr (9, i0, 0))), (1, .inl x1)]) (st' := [.inl (x1 / 96), .inr (.inr (9, i0, 0))]) (V' := q_V S) rfl (by decide) ?_
  refine q_Sim.call vc_98 (as := [.inr (.inr (9, i0, 0)), .inl (x1 / 96)]) (pc' := 8) (lv' := [(0, .inr (.inr (9, i0, 0))), (1, .inl x1)]) (st' := []) (S := S) rfl (rc_91 i0 (x1 / 96)) (s_91 i0 (x1 / 96) S) (fun r_1 S_2 => ?_)
  refine q_Sim.steps vc_98 3 (pc' := 14) (lv' := [(0, .inr (.inr (9, i0, 0))), (1, .inl x1)]) (st' := [.inl 96, .inl x1, .inr (.inr (25, r_1.1, r_1.2))]) (V' := q_V S_2) rfl ?_
  refine q_Sim.okd vc_98 (c := decide (¬ (96 : Int32) = 0)) (pc' := 15) (lv' := [(0, .inr (.inr (9, i0, 0))), (1, .inl x1)]) (st' := [.inl (x1 - x1 / 96 * 96), .inr (.inr (25, r_1.1, r_1.2))]) (V' := q_V S_2) rfl (by decide) ?_
  refine q_Sim.ck vc_98 (c := v_in (x1 - x1 / 96 * 96) 96) (pc' := 16) (lv' := [(0, .inr (.inr (9, i0, 0))), (1, .inl x1)]) (st' := [.inl (S_2.1 (25, r_1.1, r_1.2) (x1 - x1 / 96 * 96).toNatClampNeg)]) (V' := q_V S_2) rfl ?_
  refine q_Sim.letI (fun y_3 => ?_)
  exact q_Sim.ret vc_98 rfl
theorem vc_100 : v_code 100 = k_100 := rfl
theorem rc_100 (i0 : Nat) (x1 : Int32) : v_rcv 100 [.inr (.inr (9, i0, 0)), .inl x1] = true := rfl
def f_100 (i0 : Nat) (x1 : Int32) (S : QS) : Option ((Nat × Nat) × QS) := q_bd (f_98 i0 x1 S) (fun r_1 S_2 => q_bd (f_92 i0 r_1 S_2) (fun r_3 S_4 => some ((r_3.1, r_3.2), S_4)))
theorem s_100 (i0 : Nat) (x1 : Int32) (S : QS) : q_Sim 100 0 [(0, .inr (.inr (9, i0, 0))), (1, .inl x1)] [] (q_V S) (q_A 3) (f_100 i0 x1 S) := by
  unfold f_100
  refine q_Sim.steps vc_100 3 (pc' := 3) (lv' := [(0, .inr (.inr (9, i0, 0))), (1, .inl x1)]) (st' := [.inl x1, .inr (.inr (9, i0, 0)), .inr (.inr (9, i0, 0))]) (V' := q_V S) rfl ?_
  refine q_Sim.call vc_100 (as := [.inr (.inr (9, i0, 0)), .inl x1]) (pc' := 6) (lv' := [(0, .inr (.inr (9, i0, 0))), (1, .inl x1)]) (st' := [.inr (.inr (9, i0, 0))]) (S := S) rfl (rc_98 i0 x1) (s_98 i0 x1 S) (fun r_1 S_2 => ?_)
  refine q_Sim.call vc_100 (as := [.inr (.inr (9, i0, 0)), .inl r_1]) (pc' := 9) (lv' := [(0, .inr (.inr (9, i0, 0))), (1, .inl x1)]) (st' := []) (S := S_2) rfl (rc_92 i0 r_1) (s_92 i0 r_1 S_2) (fun r_3 S_4 => ?_)
  exact q_Sim.ret vc_100 rfl
theorem vc_102 : v_code 102 = k_102 := rfl
theorem rc_102 (i0 : Nat) (x1 : Int32) : v_rcv 102 [.inr (.inr (9, i0, 0)), .inl x1] = true := rfl
def b_102_2 : Nat → Nat → Int32 → Int32 → QS → Option ((Int32) × QS)
  | 0, _, _, _, _ => none
  | n + 1, i0, x1, x2, S => if 24 ≤ x2 then (some ((-1), S)) else (q_ck (v_in x2 24) (q_let (S.1 (39, i0, 0) x2.toNatClampNeg) (fun y_1 => if ¬ y_1 = x1 then (b_102_2 n i0 x1 (x2 + 1) S) else (some (x2, S)))))
theorem sb_102_2 : ∀ (n : Nat) (i0 : Nat) (x1 : Int32) (x2 : Int32) (S : QS), q_Sim 102 2 [(0, .inr (.inr (9, i0, 0))), (1, .inl x1), (2, .inl x2)] [] (q_V S) q_I (b_102_2 n i0 x1 x2 S)
  | 0, _, _, _, _ => q_Sim.none
  | n + 1, i0, x1, x2, S => by
    rw [b_102_2]
    refine q_Sim.steps vc_102 2 (pc' := 5) (lv' := [(0, .inr (.inr (9, i0, 0))), (1, .inl x1), (2, .inl x2)]) (st' := [.inl 24, .inl x2]) (V' := q_V S) rfl ?_
    refine q_Sim.br vc_102 (c := 24 ≤ x2) (t := 26) (f := 8) (lv' := [(0, .inr (.inr (9, i0, 0))), (1, .inl x1), (2, .inl x2)]) (st' := []) (V' := q_V S) rfl ?_ ?_
    · refine q_Sim.steps vc_102 1 (pc' := 27) (lv' := [(0, .inr (.inr (9, i0, 0))), (1, .inl x1), (2, .inl x2)]) (st' := [.inl (-1)]) (V' := q_V S) rfl ?_
      exact q_Sim.ret vc_102 rfl
    · refine q_Sim.steps vc_102 3 (pc' := 13) (lv' := [(0, .inr (.inr (9, i0, 0))), (1, .inl x1), (2, .inl x2)]) (st' := [.inl x2, .inr (.inr (39, i0, 0))]) (V' := q_V S) rfl ?_
      refine q_Sim.ck vc_102 (c := v_in x2 24) (pc' := 14) (lv' := [(0, .inr (.inr (9, i0, 0))), (1, .inl x1), (2, .inl x2)]) (st' := [.inl (S.1 (39, i0, 0) x2.toNatClampNeg)]) (V' := q_V S) rfl ?_
      refine q_Sim.letI (fun y_1 => ?_)
      refine q_Sim.steps vc_102 1 (pc' := 15) (lv' := [(0, .inr (.inr (9, i0, 0))), (1, .inl x1), (2, .inl x2)]) (st' := [.inl x1, .inl y_1]) (V' := q_V S) rfl ?_
      refine q_Sim.br vc_102 (c := ¬ y_1 = x1) (t := 20) (f := 18) (lv' := [(0, .inr (.inr (9, i0, 0))), (1, .inl x1), (2, .inl x2)]) (st' := []) (V' := q_V S) rfl ?_ ?_
      · refine q_Sim.steps vc_102 2 (pc' := 2) (lv' := [(2, .inl (x2 + 1)), (0, .inr (.inr (9, i0, 0))), (1, .inl x1)]) (st' := []) (V' := q_V S) rfl ?_
        exact q_Sim.sub2 (lv' := [(0, .inr (.inr (9, i0, 0))), (1, .inl x1), (2, .inl (x2 + 1))]) [0, 1, 2] rfl (by decide) ⟨rfl, rfl, rfl, trivial⟩ (sb_102_2 n i0 x1 (x2 + 1) S)
      · refine q_Sim.steps vc_102 1 (pc' := 19) (lv' := [(0, .inr (.inr (9, i0, 0))), (1, .inl x1), (2, .inl x2)]) (st' := [.inl x2]) (V' := q_V S) rfl ?_
        exact q_Sim.ret vc_102 rfl
def f_102 (i0 : Nat) (x1 : Int32) (S : QS) : Option ((Int32) × QS) := b_102_2 q_N i0 x1 0 S
theorem s_102 (i0 : Nat) (x1 : Int32) (S : QS) : q_Sim 102 0 [(0, .inr (.inr (9, i0, 0))), (1, .inl x1)] [] (q_V S) q_I (f_102 i0 x1 S) := by
  unfold f_102
  refine q_Sim.steps vc_102 2 (pc' := 2) (lv' := [(2, .inl 0), (0, .inr (.inr (9, i0, 0))), (1, .inl x1)]) (st' := []) (V' := q_V S) rfl ?_
  exact q_Sim.sub2 (lv' := [(0, .inr (.inr (9, i0, 0))), (1, .inl x1), (2, .inl 0)]) [0, 1, 2] rfl (by decide) ⟨rfl, rfl, rfl, trivial⟩ (sb_102_2 q_N i0 x1 0 S)
theorem vc_101 : v_code 101 = k_101 := rfl
theorem rc_101 (i0 : Nat) : v_rcv 101 [.inr (.inr (9, i0, 0))] = true := rfl
def f_101 (i0 : Nat) (S : QS) : Option ((Int32) × QS) := q_bd (f_102 i0 (-1) S) (fun r_1 S_2 => some (r_1, S_2))
theorem s_101 (i0 : Nat) (S : QS) : q_Sim 101 0 [(0, .inr (.inr (9, i0, 0)))] [] (q_V S) q_I (f_101 i0 S) := by
  unfold f_101
  refine q_Sim.steps vc_101 2 (pc' := 2) (lv' := [(0, .inr (.inr (9, i0, 0)))]) (st' := [.inl (-1), .inr (.inr (9, i0, 0))]) (V' := q_V S) rfl ?_
  refine q_Sim.call vc_101 (as := [.inr (.inr (9, i0, 0)), .inl (-1)]) (pc' := 5) (lv' := [(0, .inr (.inr (9, i0, 0)))]) (st' := []) (S := S) rfl (rc_102 i0 (-1)) (s_102 i0 (-1) S) (fun r_1 S_2 => ?_)
  exact q_Sim.ret vc_101 rfl
theorem vc_103 : v_code 103 = k_103 := rfl
theorem rc_103 (i0 : Nat) (x1 : Int32) : v_rcv 103 [.inr (.inr (9, i0, 0)), .inl x1] = true := rfl
def b_103_19 (back_2 : Nat → Int32 → Int32 → QS → Option ((Int32) × QS)) : Nat → Nat → Int32 → Int32 → Nat → Nat → Int32 → QS → Option ((Int32) × QS)
  | 0, _, _, _, _, _, _, _ => none
  | n + 1, i0, x1, x2, i3, j3, x4, S => q_bd (f_45 i3 j3 S) (fun r_3 S_4 => if r_3 ≤ x4 then (back_2 i0 x1 (x2 + 1) S_4) else (q_ck (v_in x4 96) (q_let (S_4.1 (25, i3, j3) x4.toNatClampNeg) (fun y_5 => if ¬ y_5 = x1 then (b_103_19 back_2 n i0 x1 x2 i3 j3 (x4 + 1) S_4) else (some ((x2 * 96) + x4, S_4))))))
theorem sb_103_19 (back_2 : Nat → Int32 → Int32 → QS → Option ((Int32) × QS)) (hb_2 : ∀ (i0 : Nat) (x1 : Int32) (x2 : Int32) (S : QS), q_Sim 103 2 [(0, .inr (.inr (9, i0, 0))), (1, .inl x1), (2, .inl x2)] [] (q_V S) q_I (back_2 i0 x1 x2 S)) : ∀ (n : Nat) (i0 : Nat) (x1 : Int32) (x2 : Int32) (i3 : Nat) (j3 : Nat) (x4 : Int32) (S : QS), q_Sim 103 19 [(0, .inr (.inr (9, i0, 0))), (1, .inl x1), (2, .inl x2), (3, .inr (.inr (4, i3, j3))), (4, .inl x4)] [] (q_V S) q_I (b_103_19 back_2 n i0 x1 x2 i3 j3 x4 S)
  | 0, _, _, _, _, _, _, _ => q_Sim.none
  | n + 1, i0, x1, x2, i3, j3, x4, S => by
    rw [b_103_19]
    refine q_Sim.steps vc_103 2 (pc' := 22) (lv' := [(0, .inr (.inr (9, i0, 0))), (1, .inl x1), (2, .inl x2), (3, .inr (.inr (4, i3, j3))), (4, .inl x4)]) (st' := [.inr (.inr (4, i3, j3)), .inl x4]) (V' := q_V S) rfl ?_
    refine q_Sim.call vc_103 (as := [.inr (.inr (4, i3, j3))]) (pc' := 25) (lv' := [(0, .inr (.inr (9, i0, 0))), (1, .inl x1), (2, .inl x2), (3, .inr (.inr (4, i3, j3))), (4, .inl x4)]) (st' := [.inl x4]) (S := S) rfl (rc_45 i3 j3) (s_45 i3 j3 S) (fun r_3 S_4 => ?_)
    refine q_Sim.br vc_103 (c := r_3 ≤ x4) (t := 53) (f := 28) (lv' := [(0, .inr (.inr (9, i0, 0))), (1, .inl x1), (2, .inl x2), (3, .inr (.inr (4, i3, j3))), (4, .inl x4)]) (st' := []) (V' := q_V S_4) rfl ?_ ?_
    · refine q_Sim.steps vc_103 2 (pc' := 2) (lv' := [(2, .inl (x2 + 1)), (0, .inr (.inr (9, i0, 0))), (1, .inl x1), (3, .inr (.inr (4, i3, j3))), (4, .inl x4)]) (st' := []) (V' := q_V S_4) rfl ?_
      exact q_Sim.sub2 (lv' := [(0, .inr (.inr (9, i0, 0))), (1, .inl x1), (2, .inl (x2 + 1))]) [0, 1, 2] rfl (by decide) ⟨rfl, rfl, rfl, trivial⟩ (hb_2 i0 x1 (x2 + 1) S_4)
    · refine q_Sim.steps vc_103 3 (pc' := 34) (lv' := [(0, .inr (.inr (9, i0, 0))), (1, .inl x1), (2, .inl x2), (3, .inr (.inr (4, i3, j3))), (4, .inl x4)]) (st' := [.inl x4, .inr (.inr (25, i3, j3))]) (V' := q_V S_4) rfl ?_
      refine q_Sim.ck vc_103 (c := v_in x4 96) (pc' := 35) (lv' := [(0, .inr (.inr (9, i0, 0))), (1, .inl x1), (2, .inl x2), (3, .inr (.inr (4, i3, j3))), (4, .inl x4)]) (st' := [.inl (S_4.1 (25, i3, j3) x4.toNatClampNeg)]) (V' := q_V S_4) rfl ?_
      refine q_Sim.letI (fun y_5 => ?_)
      refine q_Sim.steps vc_103 1 (pc' := 36) (lv' := [(0, .inr (.inr (9, i0, 0))), (1, .inl x1), (2, .inl x2), (3, .inr (.inr (4, i3, j3))), (4, .inl x4)]) (st' := [.inl x1, .inl y_5]) (V' := q_V S_4) rfl ?_
      refine q_Sim.br vc_103 (c := ¬ y_5 = x1) (t := 47) (f := 39) (lv' := [(0, .inr (.inr (9, i0, 0))), (1, .inl x1), (2, .inl x2), (3, .inr (.inr (4, i3, j3))), (4, .inl x4)]) (st' := []) (V' := q_V S_4) rfl ?_ ?_
      · refine q_Sim.steps vc_103 2 (pc' := 19) (lv' := [(4, .inl (x4 + 1)), (0, .inr (.inr (9, i0, 0))), (1, .inl x1), (2, .inl x2), (3, .inr (.inr (4, i3, j3)))]) (st' := []) (V' := q_V S_4) rfl ?_
        exact q_Sim.sub2 (lv' := [(0, .inr (.inr (9, i0, 0))), (1, .inl x1), (2, .inl x2), (3, .inr (.inr (4, i3, j3))), (4, .inl (x4 + 1))]) [0, 1, 2, 3, 4] rfl (by decide) ⟨rfl, rfl, rfl, rfl, rfl, trivial⟩ (sb_103_19 back_2 hb_2 n i0 x1 x2 i3 j3 (x4 + 1) S_4)
      · refine q_Sim.steps vc_103 5 (pc' := 46) (lv' := [(0, .inr (.inr (9, i0, 0))), (1, .inl x1), (2, .inl x2), (3, .inr (.inr (4, i3, j3))), (4, .inl x4)]) (st' := [.inl ((x2 * 96) + x4)]) (V' := q_V S_4) rfl ?_
        exact q_Sim.ret vc_103 rfl
def b_103_2 : Nat → Nat → Int32 → Int32 → QS → Option ((Int32) × QS)
  | 0, _, _, _, _ => none
  | n + 1, i0, x1, x2, S => if (S.1 (9, i0, 0) 5) ≤ x2 then (some ((-1), S)) else (q_bd (f_91 i0 x2 S) (fun r_1 S_2 => b_103_19 (b_103_2 n) q_N i0 x1 x2 r_1.1 r_1.2 0 S_2))
theorem sb_103_2 : ∀ (n : Nat) (i0 : Nat) (x1 : Int32) (x2 : Int32) (S : QS), q_Sim 103 2 [(0, .inr (.inr (9, i0, 0))), (1, .inl x1), (2, .inl x2)] [] (q_V S) q_I (b_103_2 n i0 x1 x2 S)
  | 0, _, _, _, _ => q_Sim.none
  | n + 1, i0, x1, x2, S => by
    rw [b_103_2]
    refine q_Sim.steps vc_103 3 (pc' := 7) (lv' := [(0, .inr (.inr (9, i0, 0))), (1, .inl x1), (2, .inl x2)]) (st' := [.inl (S.1 (9, i0, 0) 5), .inl x2]) (V' := q_V S) rfl ?_
    refine q_Sim.br vc_103 (c := (S.1 (9, i0, 0) 5) ≤ x2) (t := 59) (f := 10) (lv' := [(0, .inr (.inr (9, i0, 0))), (1, .inl x1), (2, .inl x2)]) (st' := []) (V' := q_V S) rfl ?_ ?_
    · refine q_Sim.steps vc_103 1 (pc' := 60) (lv' := [(0, .inr (.inr (9, i0, 0))), (1, .inl x1), (2, .inl x2)]) (st' := [.inl (-1)]) (V' := q_V S) rfl ?_
      exact q_Sim.ret vc_103 rfl
    · refine q_Sim.steps vc_103 2 (pc' := 12) (lv' := [(0, .inr (.inr (9, i0, 0))), (1, .inl x1), (2, .inl x2)]) (st' := [.inl x2, .inr (.inr (9, i0, 0))]) (V' := q_V S) rfl ?_
      refine q_Sim.call vc_103 (as := [.inr (.inr (9, i0, 0)), .inl x2]) (pc' := 15) (lv' := [(0, .inr (.inr (9, i0, 0))), (1, .inl x1), (2, .inl x2)]) (st' := []) (S := S) rfl (rc_91 i0 x2) (s_91 i0 x2 S) (fun r_1 S_2 => ?_)
      refine q_Sim.steps vc_103 3 (pc' := 19) (lv' := [(4, .inl 0), (3, .inr (.inr (4, r_1.1, r_1.2))), (0, .inr (.inr (9, i0, 0))), (1, .inl x1), (2, .inl x2)]) (st' := []) (V' := q_V S_2) rfl ?_
      exact q_Sim.sub2 (lv' := [(0, .inr (.inr (9, i0, 0))), (1, .inl x1), (2, .inl x2), (3, .inr (.inr (4, r_1.1, r_1.2))), (4, .inl 0)]) [0, 1, 2, 3, 4] rfl (by decide) ⟨rfl, rfl, rfl, rfl, rfl, trivial⟩ (sb_103_19 (b_103_2 n) (sb_103_2 n) q_N i0 x1 x2 r_1.1 r_1.2 0 S_2)
def f_103 (i0 : Nat) (x1 : Int32) (S : QS) : Option ((Int32) × QS) := b_103_2 q_N i0 x1 0 S
theorem s_103 (i0 : Nat) (x1 : Int32) (S : QS) : q_Sim 103 0 [(0, .inr (.inr (9, i0, 0))), (1, .inl x1)] [] (q_V S) q_I (f_103 i0 x1 S) := by
  unfold f_103
  refine q_Sim.steps vc_103 2 (pc' := 2) (lv' := [(2, .inl 0), (0, .inr (.inr (9, i0, 0))), (1, .inl x1)]) (st' := []) (V' := q_V S) rfl ?_
  exact q_Sim.sub2 (lv' := [(0, .inr (.inr (9, i0, 0))), (1, .inl x1), (2, .inl 0)]) [0, 1, 2] rfl (by decide) ⟨rfl, rfl, rfl, trivial⟩ (sb_103_2 q_N i0 x1 0 S)
theorem vc_104 : v_code 104 = k_104 := rfl
theorem rc_104 (i0 : Nat) (x1 : Int32) (x2 : Int32) : v_rcv 104 [.inr (.inr (9, i0, 0)), .inl x1, .inl x2] = true := rfl
def b_104_44 (back_2 : Nat → Int32 → Int32 → QS → Option ((Int32) × QS)) (i0 : Nat) (x1 : Int32) (x3 : Int32) (S : QS) : Option ((Int32) × QS) := back_2 i0 x1 (x3 + 1) S
theorem sb_104_44 (back_2 : Nat → Int32 → Int32 → QS → Option ((Int32) × QS)) (hb_2 : ∀ (i0 : Nat) (x1 : Int32) (x3 : Int32) (S : QS), q_Sim 104 2 [(0, .inr (.inr (9, i0, 0))), (1, .inl x1), (3, .inl x3)] [] (q_V S) q_I (back_2 i0 x1 x3 S)) (i0 : Nat) (x1 : Int32) (x3 : Int32) (S : QS) : q_Sim 104 44 [(0, .inr (.inr (9, i0, 0))), (1, .inl x1), (3, .inl x3)] [] (q_V S) q_I (b_104_44 back_2 i0 x1 x3 S) := by
  unfold b_104_44
  refine q_Sim.steps vc_104 2 (pc' := 2) (lv' := [(3, .inl (x3 + 1)), (0, .inr (.inr (9, i0, 0))), (1, .inl x1)]) (st' := []) (V' := q_V S) rfl ?_
  exact q_Sim.sub2 (lv' := [(0, .inr (.inr (9, i0, 0))), (1, .inl x1), (3, .inl (x3 + 1))]) [0, 1, 3] rfl (by decide) ⟨rfl, rfl, rfl, trivial⟩ (hb_2 i0 x1 (x3 + 1) S)
def b_104_2 : Nat → Nat → Int32 → Int32 → QS → Option ((Int32) × QS)
  | 0, _, _, _, _ => none
  | n + 1, i0, x1, x3, S => if ((S.1 (9, i0, 0) 5) * 96) ≤ x3 then (some ((-1), S)) else (q_bd (f_97 i0 x3 S) (fun r_1 S_2 => if r_1 = 0 then (b_104_44 (b_104_2 n) i0 x1 x3 S_2) else (q_bd (f_98 i0 x3 S_2) (fun r_3 S_4 => if r_3 = (-1) then (b_104_44 (b_104_2 n) i0 x1 x3 S_4) else (q_bd (f_100 i0 x3 S_4) (fun r_5 S_6 => q_bd (f_31 r_5.1 r_5.2 x1 S_6) (fun r_7 S_8 => if r_7 = 0 then (b_104_44 (b_104_2 n) i0 x1 x3 S_8) else (some (x3, S_8)))))))))
theorem sb_104_2 : ∀ (n : Nat) (i0 : Nat) (x1 : Int32) (x3 : Int32) (S : QS), q_Sim 104 2 [(0, .inr (.inr (9, i0, 0))), (1, .inl x1), (3, .inl x3)] [] (q_V S) q_I (b_104_2 n i0 x1 x3 S)
  | 0, _, _, _, _ => q_Sim.none
  | n + 1, i0, x1, x3, S => by
    rw [b_104_2]
    refine q_Sim.steps vc_104 5 (pc' := 10) (lv' := [(0, .inr (.inr (9, i0, 0))), (1, .inl x1), (3, .inl x3)]) (st' := [.inl ((S.1 (9, i0, 0) 5) * 96), .inl x3]) (V' := q_V S) rfl ?_
    refine q_Sim.br vc_104 (c := ((S.1 (9, i0, 0) 5) * 96) ≤ x3) (t := 50) (f := 13) (lv' := [(0, .inr (.inr (9, i0, 0))), (1, .inl x1), (3, .inl x3)]) (st' := []) (V' := q_V S) rfl ?_ ?_
    · refine q_Sim.steps vc_104 1 (pc' := 51) (lv' := [(0, .inr (.inr (9, i0, 0))), (1, .inl x1), (3, .inl x3)]) (st' := [.inl (-1)]) (V' := q_V S) rfl ?_
      exact q_Sim.ret vc_104 rfl
    · refine q_Sim.steps vc_104 2 (pc' := 15) (lv' := [(0, .inr (.inr (9, i0, 0))), (1, .inl x1), (3, .inl x3)]) (st' := [.inl x3, .inr (.inr (9, i0, 0))]) (V' := q_V S) rfl ?_
      refine q_Sim.call vc_104 (as := [.inr (.inr (9, i0, 0)), .inl x3]) (pc' := 18) (lv' := [(0, .inr (.inr (9, i0, 0))), (1, .inl x1), (3, .inl x3)]) (st' := []) (S := S) rfl (rc_97 i0 x3) (s_97 i0 x3 S) (fun r_1 S_2 => ?_)
      refine q_Sim.br vc_104 (c := r_1 = 0) (t := 44) (f := 21) (lv' := [(0, .inr (.inr (9, i0, 0))), (1, .inl x1), (3, .inl x3)]) (st' := []) (V' := q_V S_2) rfl ?_ ?_
      · exact q_Sim.sub2 (lv' := [(0, .inr (.inr (9, i0, 0))), (1, .inl x1), (3, .inl x3)]) [0, 1, 3] rfl (by decide) ⟨rfl, rfl, rfl, trivial⟩ (sb_104_44 (b_104_2 n) (sb_104_2 n) i0 x1 x3 S_2)
      · refine q_Sim.steps vc_104 2 (pc' := 23) (lv' := [(0, .inr (.inr (9, i0, 0))), (1, .inl x1), (3, .inl x3)]) (st' := [.inl x3, .inr (.inr (9, i0, 0))]) (V' := q_V S_2) rfl ?_
        refine q_Sim.call vc_104 (as := [.inr (.inr (9, i0, 0)), .inl x3]) (pc' := 26) (lv' := [(0, .inr (.inr (9, i0, 0))), (1, .inl x1), (3, .inl x3)]) (st' := []) (S := S_2) rfl (rc_98 i0 x3) (s_98 i0 x3 S_2) (fun r_3 S_4 => ?_)
        refine q_Sim.steps vc_104 1 (pc' := 27) (lv' := [(0, .inr (.inr (9, i0, 0))), (1, .inl x1), (3, .inl x3)]) (st' := [.inl (-1), .inl r_3]) (V' := q_V S_4) rfl ?_
        refine q_Sim.br vc_104 (c := r_3 = (-1)) (t := 44) (f := 30) (lv' := [(0, .inr (.inr (9, i0, 0))), (1, .inl x1), (3, .inl x3)]) (st' := []) (V' := q_V S_4) rfl ?_ ?_
        · exact q_Sim.sub2 (lv' := [(0, .inr (.inr (9, i0, 0))), (1, .inl x1), (3, .inl x3)]) [0, 1, 3] rfl (by decide) ⟨rfl, rfl, rfl, trivial⟩ (sb_104_44 (b_104_2 n) (sb_104_2 n) i0 x1 x3 S_4)
        · refine q_Sim.steps vc_104 2 (pc' := 32) (lv' := [(0, .inr (.inr (9, i0, 0))), (1, .inl x1), (3, .inl x3)]) (st' := [.inl x3, .inr (.inr (9, i0, 0))]) (V' := q_V S_4) rfl ?_
          refine q_Sim.call vc_104 (as := [.inr (.inr (9, i0, 0)), .inl x3]) (pc' := 35) (lv' := [(0, .inr (.inr (9, i0, 0))), (1, .inl x1), (3, .inl x3)]) (st' := []) (S := S_4) rfl (rc_100 i0 x3) (s_100 i0 x3 S_4) (fun r_5 S_6 => ?_)
          refine q_Sim.steps vc_104 1 (pc' := 36) (lv' := [(0, .inr (.inr (9, i0, 0))), (1, .inl x1), (3, .inl x3)]) (st' := [.inl x1, .inr (.inr (3, r_5.1, r_5.2))]) (V' := q_V S_6) rfl ?_
          refine q_Sim.call vc_104 (as := [.inr (.inr (3, r_5.1, r_5.2)), .inl x1]) (pc' := 39) (lv' := [(0, .inr (.inr (9, i0, 0))), (1, .inl x1), (3, .inl x3)]) (st' := []) (S := S_6) rfl (rc_31 r_5.1 r_5.2 x1) (s_31 r_5.1 r_5.2 x1 S_6) (fun r_7 S_8 => ?_)
          refine q_Sim.br vc_104 (c := r_7 = 0) (t := 44) (f := 42) (lv' := [(0, .inr (.inr (9, i0, 0))), (1, .inl x1), (3, .inl x3)]) (st' := []) (V' := q_V S_8) rfl ?_ ?_
          · exact q_Sim.sub2 (lv' := [(0, .inr (.inr (9, i0, 0))), (1, .inl x1), (3, .inl x3)]) [0, 1, 3] rfl (by decide) ⟨rfl, rfl, rfl, trivial⟩ (sb_104_44 (b_104_2 n) (sb_104_2 n) i0 x1 x3 S_8)
          · refine q_Sim.steps vc_104 1 (pc' := 43) (lv' := [(0, .inr (.inr (9, i0, 0))), (1, .inl x1), (3, .inl x3)]) (st' := [.inl x3]) (V' := q_V S_8) rfl ?_
            exact q_Sim.ret vc_104 rfl
def f_104 (i0 : Nat) (x1 : Int32) (x2 : Int32) (S : QS) : Option ((Int32) × QS) := b_104_2 q_N i0 x1 x2 S
theorem s_104 (i0 : Nat) (x1 : Int32) (x2 : Int32) (S : QS) : q_Sim 104 0 [(0, .inr (.inr (9, i0, 0))), (1, .inl x1), (2, .inl x2)] [] (q_V S) q_I (f_104 i0 x1 x2 S) := by
  unfold f_104
  refine q_Sim.steps vc_104 2 (pc' := 2) (lv' := [(3, .inl x2), (0, .inr (.inr (9, i0, 0))), (1, .inl x1), (2, .inl x2)]) (st' := []) (V' := q_V S) rfl ?_
  exact q_Sim.sub2 (lv' := [(0, .inr (.inr (9, i0, 0))), (1, .inl x1), (3, .inl x2)]) [0, 1, 3] rfl (by decide) ⟨rfl, rfl, rfl, trivial⟩ (sb_104_2 q_N i0 x1 x2 S)
theorem vc_105 : v_code 105 = k_105 := rfl
theorem rc_105 (i0 : Nat) (x1 : Int32) (x2 : Int32) : v_rcv 105 [.inr (.inr (9, i0, 0)), .inl x1, .inl x2] = true := rfl
def f_105 (i0 : Nat) (x1 : Int32) (x2 : Int32) (S : QS) : Option ((Unit) × QS) := if x1 = x2 then (some ((), S)) else (q_bd (f_100 i0 x1 S) (fun r_1 S_2 => q_bd (f_100 i0 x2 S_2) (fun r_3 S_4 => q_bd (f_36 r_1.1 r_1.2 r_3.1 r_3.2 S_4) (fun r_5 S_6 => q_let (q_set S_6 (9, i0, 0) 11 ((S.1 (9, i0, 0) 11) + r_5)) (fun S_7 => some ((), S_7))))))
theorem s_105 (i0 : Nat) (x1 : Int32) (x2 : Int32) (S : QS) : q_Sim 105 0 [(0, .inr (.inr (9, i0, 0))), (1, .inl x1), (2, .inl x2)] [] (q_V S) q_U (f_105 i0 x1 x2 S) := by
  unfold f_105
  refine q_Sim.steps vc_105 2 (pc' := 2) (lv' := [(0, .inr (.inr (9, i0, 0))), (1, .inl x1), (2, .inl x2)]) (st' := [.inl x2, .inl x1]) (V' := q_V S) rfl ?_
  refine q_Sim.br vc_105 (c := x1 = x2) (t := 27) (f := 5) (lv' := [(0, .inr (.inr (9, i0, 0))), (1, .inl x1), (2, .inl x2)]) (st' := []) (V' := q_V S) rfl ?_ ?_
  · exact q_Sim.ret vc_105 rfl
  · refine q_Sim.steps vc_105 5 (pc' := 12) (lv' := [(0, .inr (.inr (9, i0, 0))), (1, .inl x1), (2, .inl x2)]) (st' := [.inl x1, .inr (.inr (9, i0, 0)), .inl (S.1 (9, i0, 0) 11), .inr (.inr (9, i0, 0))]) (V' := q_V S) rfl ?_
    refine q_Sim.call vc_105 (as := [.inr (.inr (9, i0, 0)), .inl x1]) (pc' := 15) (lv' := [(0, .inr (.inr (9, i0, 0))), (1, .inl x1), (2, .inl x2)]) (st' := [.inl (S.1 (9, i0, 0) 11), .inr (.inr (9, i0, 0))]) (S := S) rfl (rc_100 i0 x1) (s_100 i0 x1 S) (fun r_1 S_2 => ?_)
    refine q_Sim.steps vc_105 2 (pc' := 17) (lv' := [(0, .inr (.inr (9, i0, 0))), (1, .inl x1), (2, .inl x2)]) (st' := [.inl x2, .inr (.inr (9, i0, 0)), .inr (.inr (3, r_1.1, r_1.2)), .inl (S.1 (9, i0, 0) 11), .inr (.inr (9, i0, 0))]) (V' := q_V S_2) rfl ?_
    refine q_Sim.call vc_105 (as := [.inr (.inr (9, i0, 0)), .inl x2]) (pc' := 20) (lv' := [(0, .inr (.inr (9, i0, 0))), (1, .inl x1), (2, .inl x2)]) (st' := [.inr (.inr (3, r_1.1, r_1.2)), .inl (S.1 (9, i0, 0) 11), .inr (.inr (9, i0, 0))]) (S := S_2) rfl (rc_100 i0 x2) (s_100 i0 x2 S_2) (fun r_3 S_4 => ?_)
    refine q_Sim.call vc_105 (as := [.inr (.inr (3, r_1.1, r_1.2)), .inr (.inr (3, r_3.1, r_3.2))]) (pc' := 23) (lv' := [(0, .inr (.inr (9, i0, 0))), (1, .inl x1), (2, .inl x2)]) (st' := [.inl (S.1 (9, i0, 0) 11), .inr (.inr (9, i0, 0))]) (S := S_4) rfl (rc_36 r_1.1 r_1.2 r_3.1 r_3.2) (s_36 r_1.1 r_1.2 r_3.1 r_3.2 S_4) (fun r_5 S_6 => ?_)
    refine q_Sim.steps vc_105 1 (pc' := 24) (lv' := [(0, .inr (.inr (9, i0, 0))), (1, .inl x1), (2, .inl x2)]) (st' := [.inl ((S.1 (9, i0, 0) 11) + r_5), .inr (.inr (9, i0, 0))]) (V' := q_V S_6) rfl ?_
    refine q_Sim.steps vc_105 1 (pc' := 27) (lv' := [(0, .inr (.inr (9, i0, 0))), (1, .inl x1), (2, .inl x2)]) (st' := []) (V' := q_V (q_set S_6 (9, i0, 0) 11 ((S.1 (9, i0, 0) 11) + r_5))) rfl ?_
    refine q_Sim.letS (fun S_7 => ?_)
    exact q_Sim.ret vc_105 rfl
theorem vc_106 : v_code 106 = k_106 := rfl
theorem rc_106 (i0 : Nat) (i1 : Nat) (j1 : Nat) (x2 : Int32) : v_rcv 106 [.inr (.inr (9, i0, 0)), .inr (.inr (4, i1, j1)), .inl x2] = true := rfl
def b_106_50 (back_5 : Nat → Nat → Nat → Int32 → Int32 → Int32 → QS → Option ((Int32) × QS)) (i0 : Nat) (i1 : Nat) (j1 : Nat) (x2 : Int32) (x3 : Int32) (x4 : Int32) (S : QS) : Option ((Int32) × QS) := back_5 i0 i1 j1 x2 x3 (x4 + 1) S
theorem sb_106_50 (back_5 : Nat → Nat → Nat → Int32 → Int32 → Int32 → QS → Option ((Int32) × QS)) (hb_5 : ∀ (i0 : Nat) (i1 : Nat) (j1 : Nat) (x2 : Int32) (x3 : Int32) (x4 : Int32) (S : QS), q_Sim 106 5 [(0, .inr (.inr (9, i0, 0))), (1, .inr (.inr (4, i1, j1))), (2, .inl x2), (3, .inl x3), (4, .inl x4)] [] (q_V S) q_I (back_5 i0 i1 j1 x2 x3 x4 S)) (i0 : Nat) (i1 : Nat) (j1 : Nat) (x2 : Int32) (x3 : Int32) (x4 : Int32) (S : QS) : q_Sim 106 50 [(0, .inr (.inr (9, i0, 0))), (1, .inr (.inr (4, i1, j1))), (2, .inl x2), (3, .inl x3), (4, .inl x4)] [] (q_V S) q_I (b_106_50 back_5 i0 i1 j1 x2 x3 x4 S) := by
  unfold b_106_50
  refine q_Sim.steps vc_106 2 (pc' := 5) (lv' := [(4, .inl (x4 + 1)), (0, .inr (.inr (9, i0, 0))), (1, .inr (.inr (4, i1, j1))), (2, .inl x2), (3, .inl x3)]) (st' := []) (V' := q_V S) rfl ?_
  exact q_Sim.sub2 (lv' := [(0, .inr (.inr (9, i0, 0))), (1, .inr (.inr (4, i1, j1))), (2, .inl x2), (3, .inl x3), (4, .inl (x4 + 1))]) [0, 1, 2, 3, 4] rfl (by decide) ⟨rfl, rfl, rfl, rfl, rfl, trivial⟩ (hb_5 i0 i1 j1 x2 x3 (x4 + 1) S)
def b_106_5 : Nat → Nat → Nat → Nat → Int32 → Int32 → Int32 → QS → Option ((Int32) × QS)
  | 0, _, _, _, _, _, _, _ => none
  | n + 1, i0, i1, j1, x2, x3, x4, S => q_bd (f_45 i1 j1 S) (fun r_1 S_2 => if r_1 ≤ x4 then (some (x3, S_2)) else (if x2 ≤ x3 then (some (x3, S_2)) else (q_ck (v_in x4 96) (q_let (S_2.1 (25, i1, j1) x4.toNatClampNeg) (fun y_3 => if y_3 = (-1) then (b_106_50 (b_106_5 n) i0 i1 j1 x2 x3 x4 S_2) else (q_ck (v_in x4 96) (q_let (S_2.1 (25, i1, j1) x4.toNatClampNeg) (fun y_4 => q_bd (f_92 i0 y_4 S_2) (fun r_5 S_6 => q_bd (f_33 r_5.1 r_5.2 (x2 - x3) S_6) (fun r_7 S_8 => q_let (x3 + r_7) (fun y_9 => b_106_50 (b_106_5 n) i0 i1 j1 x2 y_9 x4 S_8)))))))))))
theorem sb_106_5 : ∀ (n : Nat) (i0 : Nat) (i1 : Nat) (j1 : Nat) (x2 : Int32) (x3 : Int32) (x4 : Int32) (S : QS), q_Sim 106 5 [(0, .inr (.inr (9, i0, 0))), (1, .inr (.inr (4, i1, j1))), (2, .inl x2), (3, .inl x3), (4, .inl x4)] [] (q_V S) q_I (b_106_5 n i0 i1 j1 x2 x3 x4 S)
  | 0, _, _, _, _, _, _, _ => q_Sim.none
  | n + 1, i0, i1, j1, x2, x3, x4, S => by
    rw [b_106_5]
    refine q_Sim.steps vc_106 2 (pc' := 8) (lv' := [(0, .inr (.inr (9, i0, 0))), (1, .inr (.inr (4, i1, j1))), (2, .inl x2), (3, .inl x3), (4, .inl x4)]) (st' := [.inr (.inr (4, i1, j1)), .inl x4]) (V' := q_V S) rfl ?_
    refine q_Sim.call vc_106 (as := [.inr (.inr (4, i1, j1))]) (pc' := 11) (lv' := [(0, .inr (.inr (9, i0, 0))), (1, .inr (.inr (4, i1, j1))), (2, .inl x2), (3, .inl x3), (4, .inl x4)]) (st' := [.inl x4]) (S := S) rfl (rc_45 i1 j1) (s_45 i1 j1 S) (fun r_1 S_2 => ?_)
    refine q_Sim.br vc_106 (c := r_1 ≤ x4) (t := 56) (f := 14) (lv' := [(0, .inr (.inr (9, i0, 0))), (1, .inr (.inr (4, i1, j1))), (2, .inl x2), (3, .inl x3), (4, .inl x4)]) (st' := []) (V' := q_V S_2) rfl ?_ ?_
    · refine q_Sim.steps vc_106 1 (pc' := 57) (lv' := [(0, .inr (.inr (9, i0, 0))), (1, .inr (.inr (4, i1, j1))), (2, .inl x2), (3, .inl x3), (4, .inl x4)]) (st' := [.inl x3]) (V' := q_V S_2) rfl ?_
      exact q_Sim.ret vc_106 rfl
    · refine q_Sim.steps vc_106 2 (pc' := 16) (lv' := [(0, .inr (.inr (9, i0, 0))), (1, .inr (.inr (4, i1, j1))), (2, .inl x2), (3, .inl x3), (4, .inl x4)]) (st' := [.inl x2, .inl x3]) (V' := q_V S_2) rfl ?_
      refine q_Sim.br vc_106 (c := x2 ≤ x3) (t := 56) (f := 19) (lv' := [(0, .inr (.inr (9, i0, 0))), (1, .inr (.inr (4, i1, j1))), (2, .inl x2), (3, .inl x3), (4, .inl x4)]) (st' := []) (V' := q_V S_2) rfl ?_ ?_
      · refine q_Sim.steps vc_106 1 (pc' := 57) (lv' := [(0, .inr (.inr (9, i0, 0))), (1, .inr (.inr (4, i1, j1))), (2, .inl x2), (3, .inl x3), (4, .inl x4)]) (st' := [.inl x3]) (V' := q_V S_2) rfl ?_
        exact q_Sim.ret vc_106 rfl
      · refine q_Sim.steps vc_106 3 (pc' := 25) (lv' := [(0, .inr (.inr (9, i0, 0))), (1, .inr (.inr (4, i1, j1))), (2, .inl x2), (3, .inl x3), (4, .inl x4)]) (st' := [.inl x4, .inr (.inr (25, i1, j1))]) (V' := q_V S_2) rfl ?_
        refine q_Sim.ck vc_106 (c := v_in x4 96) (pc' := 26) (lv' := [(0, .inr (.inr (9, i0, 0))), (1, .inr (.inr (4, i1, j1))), (2, .inl x2), (3, .inl x3), (4, .inl x4)]) (st' := [.inl (S_2.1 (25, i1, j1) x4.toNatClampNeg)]) (V' := q_V S_2) rfl ?_
        refine q_Sim.letI (fun y_3 => ?_)
        refine q_Sim.steps vc_106 1 (pc' := 27) (lv' := [(0, .inr (.inr (9, i0, 0))), (1, .inr (.inr (4, i1, j1))), (2, .inl x2), (3, .inl x3), (4, .inl x4)]) (st' := [.inl (-1), .inl y_3]) (V' := q_V S_2) rfl ?_
        refine q_Sim.br vc_106 (c := y_3 = (-1)) (t := 50) (f := 30) (lv' := [(0, .inr (.inr (9, i0, 0))), (1, .inr (.inr (4, i1, j1))), (2, .inl x2), (3, .inl x3), (4, .inl x4)]) (st' := []) (V' := q_V S_2) rfl ?_ ?_
        · exact q_Sim.sub2 (lv' := [(0, .inr (.inr (9, i0, 0))), (1, .inr (.inr (4, i1, j1))), (2, .inl x2), (3, .inl x3), (4, .inl x4)]) [0, 1, 2, 3, 4] rfl (by decide) ⟨rfl, rfl, rfl, rfl, rfl, trivial⟩ (sb_106_50 (b_106_5 n) (sb_106_5 n) i0 i1 j1 x2 x3 x4 S_2)
        · refine q_Sim.steps vc_106 5 (pc' := 38) (lv' := [(0, .inr (.inr (9, i0, 0))), (1, .inr (.inr (4, i1, j1))), (2, .inl x2), (3, .inl x3), (4, .inl x4)]) (st' := [.inl x4, .inr (.inr (25, i1, j1)), .inr (.inr (9, i0, 0)), .inl x3]) (V' := q_V S_2) rfl ?_
          refine q_Sim.ck vc_106 (c := v_in x4 96) (pc' := 39) (lv' := [(0, .inr (.inr (9, i0, 0))), (1, .inr (.inr (4, i1, j1))), (2, .inl x2), (3, .inl x3), (4, .inl x4)]) (st' := [.inl (S_2.1 (25, i1, j1) x4.toNatClampNeg), .inr (.inr (9, i0, 0)), .inl x3]) (V' := q_V S_2) rfl ?_
          refine q_Sim.letI (fun y_4 => ?_)
          refine q_Sim.call vc_106 (as := [.inr (.inr (9, i0, 0)), .inl y_4]) (pc' := 42) (lv' := [(0, .inr (.inr (9, i0, 0))), (1, .inr (.inr (4, i1, j1))), (2, .inl x2), (3, .inl x3), (4, .inl x4)]) (st' := [.inl x3]) (S := S_2) rfl (rc_92 i0 y_4) (s_92 i0 y_4 S_2) (fun r_5 S_6 => ?_)
          refine q_Sim.steps vc_106 3 (pc' := 45) (lv' := [(0, .inr (.inr (9, i0, 0))), (1, .inr (.inr (4, i1, j1))), (2, .inl x2), (3, .inl x3), (4, .inl x4)]) (st' := [.inl (x2 - x3), .inr (.inr (3, r_5.1, r_5.2)), .inl x3]) (V' := q_V S_6) rfl ?_
          refine q_Sim.call vc_106 (as := [.inr (.inr (3, r_5.1, r_5.2)), .inl (x2 - x3)]) (pc' := 48) (lv' := [(0, .inr (.inr (9, i0, 0))), (1, .inr (.inr (4, i1, j1))), (2, .inl x2), (3, .inl x3), (4, .inl x4)]) (st' := [.inl x3]) (S := S_6) rfl (rc_33 r_5.1 r_5.2 (x2 - x3)) (s_33 r_5.1 r_5.2 (x2 - x3) S_6) (fun r_7 S_8 => ?_)
          refine q_Sim.steps vc_106 1 (pc' := 49) (lv' := [(0, .inr (.inr (9, i0, 0))), (1, .inr (.inr (4, i1, j1))), (2, .inl x2), (3, .inl x3), (4, .inl x4)]) (st' := [.inl (x3 + r_7)]) (V' := q_V S_8) rfl ?_
          refine q_Sim.letI (fun y_9 => ?_)
          refine q_Sim.steps vc_106 1 (pc' := 50) (lv' := [(3, .inl y_9), (0, .inr (.inr (9, i0, 0))), (1, .inr (.inr (4, i1, j1))), (2, .inl x2), (4, .inl x4)]) (st' := []) (V' := q_V S_8) rfl ?_
          exact q_Sim.sub2 (lv' := [(0, .inr (.inr (9, i0, 0))), (1, .inr (.inr (4, i1, j1))), (2, .inl x2), (3, .inl y_9), (4, .inl x4)]) [0, 1, 2, 3, 4] rfl (by decide) ⟨rfl, rfl, rfl, rfl, rfl, trivial⟩ (sb_106_50 (b_106_5 n) (sb_106_5 n) i0 i1 j1 x2 y_9 x4 S_8)
def f_106 (i0 : Nat) (i1 : Nat) (j1 : Nat) (x2 : Int32) (S : QS) : Option ((Int32) × QS) := b_106_5 q_N i0 i1 j1 x2 0 0 S
theorem s_106 (i0 : Nat) (i1 : Nat) (j1 : Nat) (x2 : Int32) (S : QS) : q_Sim 106 0 [(0, .inr (.inr (9, i0, 0))), (1, .inr (.inr (4, i1, j1))), (2, .inl x2)] [] (q_V S) q_I (f_106 i0 i1 j1 x2 S) := by
  unfold f_106
  refine q_Sim.steps vc_106 4 (pc' := 5) (lv' := [(4, .inl 0), (3, .inl 0), (0, .inr (.inr (9, i0, 0))), (1, .inr (.inr (4, i1, j1))), (2, .inl x2)]) (st' := []) (V' := q_V S) rfl ?_
  exact q_Sim.sub2 (lv' := [(0, .inr (.inr (9, i0, 0))), (1, .inr (.inr (4, i1, j1))), (2, .inl x2), (3, .inl 0), (4, .inl 0)]) [0, 1, 2, 3, 4] rfl (by decide) ⟨rfl, rfl, rfl, rfl, rfl, trivial⟩ (sb_106_5 q_N i0 i1 j1 x2 0 0 S)
theorem vc_108 : v_code 108 = k_108 := rfl
theorem rc_108 (i0 : Nat) : v_rcv 108 [.inr (.inr (9, i0, 0))] = true := rfl
def b_108_4 : Nat → Nat → Int32 → Int32 → QS → Option ((Int32) × QS)
  | 0, _, _, _, _ => none
  | n + 1, i0, x1, x2, S => if (S.1 (9, i0, 0) 6) ≤ x2 then (some (x1, S)) else (q_bd (f_92 i0 x2 S) (fun r_1 S_2 => q_bd (f_32 r_1.1 r_1.2 S_2) (fun r_3 S_4 => q_let (x1 + r_3) (fun y_5 => b_108_4 n i0 y_5 (x2 + 1) S_4))))
theorem sb_108_4 : ∀ (n : Nat) (i0 : Nat) (x1 : Int32) (x2 : Int32) (S : QS), q_Sim 108 4 [(0, .inr (.inr (9, i0, 0))), (1, .inl x1), (2, .inl x2)] [] (q_V S) q_I (b_108_4 n i0 x1 x2 S)
  | 0, _, _, _, _ => q_Sim.none
  | n + 1, i0, x1, x2, S => by
    rw [b_108_4]
    refine q_Sim.steps vc_108 3 (pc' := 9) (lv' := [(0, .inr (.inr (9, i0, 0))), (1, .inl x1), (2, .inl x2)]) (st' := [.inl (S.1 (9, i0, 0) 6), .inl x2]) (V' := q_V S) rfl ?_
    refine q_Sim.br vc_108 (c := (S.1 (9, i0, 0) 6) ≤ x2) (t := 29) (f := 12) (lv' := [(0, .inr (.inr (9, i0, 0))), (1, .inl x1), (2, .inl x2)]) (st' := []) (V' := q_V S) rfl ?_ ?_
    · refine q_Sim.steps vc_108 1 (pc' := 30) (lv' := [(0, .inr (.inr (9, i0, 0))), (1, .inl x1), (2, .inl x2)]) (st' := [.inl x1]) (V' := q_V S) rfl ?_
      exact q_Sim.ret vc_108 rfl
    · refine q_Sim.steps vc_108 3 (pc' := 15) (lv' := [(0, .inr (.inr (9, i0, 0))), (1, .inl x1), (2, .inl x2)]) (st' := [.inl x2, .inr (.inr (9, i0, 0)), .inl x1]) (V' := q_V S) rfl ?_
      refine q_Sim.call vc_108 (as := [.inr (.inr (9, i0, 0)), .inl x2]) (pc' := 18) (lv' := [(0, .inr (.inr (9, i0, 0))), (1, .inl x1), (2, .inl x2)]) (st' := [.inl x1]) (S := S) rfl (rc_92 i0 x2) (s_92 i0 x2 S) (fun r_1 S_2 => ?_)
      refine q_Sim.call vc_108 (as := [.inr (.inr (3, r_1.1, r_1.2))]) (pc' := 21) (lv' := [(0, .inr (.inr (9, i0, 0))), (1, .inl x1), (2, .inl x2)]) (st' := [.inl x1]) (S := S_2) rfl (rc_32 r_1.1 r_1.2) (s_32 r_1.1 r_1.2 S_2) (fun r_3 S_4 => ?_)
      refine q_Sim.steps vc_108 1 (pc' := 22) (lv' := [(0, .inr (.inr (9, i0, 0))), (1, .inl x1), (2, .inl x2)]) (st' := [.inl (x1 + r_3)]) (V' := q_V S_4) rfl ?_
      refine q_Sim.letI (fun y_5 => ?_)
      refine q_Sim.steps vc_108 3 (pc' := 4) (lv' := [(2, .inl (x2 + 1)), (1, .inl y_5), (0, .inr (.inr (9, i0, 0)))]) (st' := []) (V' := q_V S_4) rfl ?_
      exact q_Sim.sub2 (lv' := [(0, .inr (.inr (9, i0, 0))), (1, .inl y_5), (2, .inl (x2 + 1))]) [0, 1, 2] rfl (by decide) ⟨rfl, rfl, rfl, trivial⟩ (sb_108_4 n i0 y_5 (x2 + 1) S_4)
def f_108 (i0 : Nat) (S : QS) : Option ((Int32) × QS) := b_108_4 q_N i0 0 0 S
theorem s_108 (i0 : Nat) (S : QS) : q_Sim 108 0 [(0, .inr (.inr (9, i0, 0)))] [] (q_V S) q_I (f_108 i0 S) := by
  unfold f_108
  refine q_Sim.steps vc_108 4 (pc' := 4) (lv' := [(2, .inl 0), (1, .inl 0), (0, .inr (.inr (9, i0, 0)))]) (st' := []) (V' := q_V S) rfl ?_
  exact q_Sim.sub2 (lv' := [(0, .inr (.inr (9, i0, 0))), (1, .inl 0), (2, .inl 0)]) [0, 1, 2] rfl (by decide) ⟨rfl, rfl, rfl, trivial⟩ (sb_108_4 q_N i0 0 0 S)
theorem vc_107 : v_code 107 = k_107 := rfl
theorem rc_107 (i0 : Nat) (x1 : Int32) : v_rcv 107 [.inr (.inr (9, i0, 0)), .inl x1] = true := rfl
def f_107 (i0 : Nat) (x1 : Int32) (S : QS) : Option ((Int32) × QS) := if x1 = 0 then (q_bd (f_108 i0 S) (fun r_2 S_3 => some (r_2, S_3))) else (if x1 = 1 then (some (S.1 (9, i0, 0) 9, S)) else (if x1 = 2 then (some (S.1 (9, i0, 0) 10, S)) else (if x1 = 3 then (some (S.1 (9, i0, 0) 11, S)) else (some (S.1 (9, i0, 0) 12, S)))))
theorem s_107 (i0 : Nat) (x1 : Int32) (S : QS) : q_Sim 107 0 [(0, .inr (.inr (9, i0, 0))), (1, .inl x1)] [] (q_V S) q_I (f_107 i0 x1 S) := by
  unfold f_107
  refine q_Sim.steps vc_107 1 (pc' := 1) (lv' := [(0, .inr (.inr (9, i0, 0))), (1, .inl x1)]) (st' := [.inl x1]) (V' := q_V S) rfl ?_
  refine q_Sim.ite (c := x1 = 0) (fun h_1 => q_Sim.sw vc_107 (lv' := [(0, .inr (.inr (9, i0, 0))), (1, .inl x1)]) (st' := []) (V' := q_V S) rfl h_1 rfl (t := 32) rfl ?_) (fun h_1 => ?_)
  · refine q_Sim.steps vc_107 1 (pc' := 33) (lv' := [(0, .inr (.inr (9, i0, 0))), (1, .inl x1)]) (st' := [.inr (.inr (9, i0, 0))]) (V' := q_V S) rfl ?_
    refine q_Sim.call vc_107 (as := [.inr (.inr (9, i0, 0))]) (pc' := 36) (lv' := [(0, .inr (.inr (9, i0, 0))), (1, .inl x1)]) (st' := []) (S := S) rfl (rc_108 i0) (s_108 i0 S) (fun r_2 S_3 => ?_)
    exact q_Sim.ret vc_107 rfl
  refine q_Sim.ite (c := x1 = 1) (fun h_4 => q_Sim.sw vc_107 (lv' := [(0, .inr (.inr (9, i0, 0))), (1, .inl x1)]) (st' := []) (V' := q_V S) rfl h_4 rfl (t := 37) rfl ?_) (fun h_4 => ?_)
  · refine q_Sim.steps vc_107 2 (pc' := 41) (lv' := [(0, .inr (.inr (9, i0, 0))), (1, .inl x1)]) (st' := [.inl (S.1 (9, i0, 0) 9)]) (V' := q_V S) rfl ?_
    exact q_Sim.ret vc_107 rfl
  refine q_Sim.ite (c := x1 = 2) (fun h_5 => q_Sim.sw vc_107 (lv' := [(0, .inr (.inr (9, i0, 0))), (1, .inl x1)]) (st' := []) (V' := q_V S) rfl h_5 rfl (t := 42) rfl ?_) (fun h_5 => ?_)
  · refine q_Sim.steps vc_107 2 (pc' := 46) (lv' := [(0, .inr (.inr (9, i0, 0))), (1, .inl x1)]) (st' := [.inl (S.1 (9, i0, 0) 10)]) (V' := q_V S) rfl ?_
    exact q_Sim.ret vc_107 rfl
  refine q_Sim.ite (c := x1 = 3) (fun h_6 => q_Sim.sw vc_107 (lv' := [(0, .inr (.inr (9, i0, 0))), (1, .inl x1)]) (st' := []) (V' := q_V S) rfl h_6 rfl (t := 47) rfl ?_) (fun h_6 => ?_)
  · refine q_Sim.steps vc_107 2 (pc' := 51) (lv' := [(0, .inr (.inr (9, i0, 0))), (1, .inl x1)]) (st' := [.inl (S.1 (9, i0, 0) 11)]) (V' := q_V S) rfl ?_
    exact q_Sim.ret vc_107 rfl
  refine q_Sim.swd vc_107 (lv' := [(0, .inr (.inr (9, i0, 0))), (1, .inl x1)]) (st' := []) (V' := q_V S) rfl (fun k h1 h2 => ?_) (t := 52) rfl ?_
  · have h3 : k = 0 ∨ k = 1 ∨ k = 2 ∨ k = 3 := by omega
    rcases h3 with rfl | rfl | rfl | rfl
    · exact q_ne h_1 rfl
    · exact q_ne h_4 rfl
    · exact q_ne h_5 rfl
    · exact q_ne h_6 rfl
  · refine q_Sim.steps vc_107 2 (pc' := 56) (lv' := [(0, .inr (.inr (9, i0, 0))), (1, .inl x1)]) (st' := [.inl (S.1 (9, i0, 0) 12)]) (V' := q_V S) rfl ?_
    exact q_Sim.ret vc_107 rfl
theorem vc_109 : v_code 109 = k_109 := rfl
theorem rc_109 (i0 : Nat) (i1 : Nat) (j1 : Nat) (x2 : Int32) : v_rcv 109 [.inr (.inr (9, i0, 0)), .inr (.inr (4, i1, j1)), .inl x2] = true := rfl
def b_109_43 (back_5 : Nat → Nat → Nat → Int32 → Int32 → Int32 → QS → Option ((Int32) × QS)) (i0 : Nat) (i1 : Nat) (j1 : Nat) (x2 : Int32) (x3 : Int32) (x4 : Int32) (S : QS) : Option ((Int32) × QS) := back_5 i0 i1 j1 x2 x3 (x4 + 1) S
theorem sb_109_43 (back_5 : Nat → Nat → Nat → Int32 → Int32 → Int32 → QS → Option ((Int32) × QS)) (hb_5 : ∀ (i0 : Nat) (i1 : Nat) (j1 : Nat) (x2 : Int32) (x3 : Int32) (x4 : Int32) (S : QS), q_Sim 109 5 [(0, .inr (.inr (9, i0, 0))), (1, .inr (.inr (4, i1, j1))), (2, .inl x2), (3, .inl x3), (4, .inl x4)] [] (q_V S) q_I (back_5 i0 i1 j1 x2 x3 x4 S)) (i0 : Nat) (i1 : Nat) (j1 : Nat) (x2 : Int32) (x3 : Int32) (x4 : Int32) (S : QS) : q_Sim 109 43 [(0, .inr (.inr (9, i0, 0))), (1, .inr (.inr (4, i1, j1))), (2, .inl x2), (3, .inl x3), (4, .inl x4)] [] (q_V S) q_I (b_109_43 back_5 i0 i1 j1 x2 x3 x4 S) := by
  unfold b_109_43
  refine q_Sim.steps vc_109 2 (pc' := 5) (lv' := [(4, .inl (x4 + 1)), (0, .inr (.inr (9, i0, 0))), (1, .inr (.inr (4, i1, j1))), (2, .inl x2), (3, .inl x3)]) (st' := []) (V' := q_V S) rfl ?_
  exact q_Sim.sub2 (lv' := [(0, .inr (.inr (9, i0, 0))), (1, .inr (.inr (4, i1, j1))), (2, .inl x2), (3, .inl x3), (4, .inl (x4 + 1))]) [0, 1, 2, 3, 4] rfl (by decide) ⟨rfl, rfl, rfl, rfl, rfl, trivial⟩ (hb_5 i0 i1 j1 x2 x3 (x4 + 1) S)
def b_109_5 : Nat → Nat → Nat → Nat → Int32 → Int32 → Int32 → QS → Option ((Int32) × QS)
  | 0, _, _, _, _, _, _, _ => none
  | n + 1, i0, i1, j1, x2, x3, x4, S => q_bd (f_45 i1 j1 S) (fun r_1 S_2 => if r_1 ≤ x4 then (some (x3, S_2)) else (q_ck (v_in x4 96) (q_let (S_2.1 (25, i1, j1) x4.toNatClampNeg) (fun y_3 => if y_3 = (-1) then (b_109_43 (b_109_5 n) i0 i1 j1 x2 x3 x4 S_2) else (q_ck (v_in x4 96) (q_let (S_2.1 (25, i1, j1) x4.toNatClampNeg) (fun y_4 => q_bd (f_92 i0 y_4 S_2) (fun r_5 S_6 => q_bd (f_39 r_5.1 r_5.2 x2 S_6) (fun r_7 S_8 => q_let (x3 + r_7) (fun y_9 => b_109_43 (b_109_5 n) i0 i1 j1 x2 y_9 x4 S_8))))))))))
theorem sb_109_5 : ∀ (n : Nat) (i0 : Nat) (i1 : Nat) (j1 : Nat) (x2 : Int32) (x3 : Int32) (x4 : Int32) (S : QS), q_Sim 109 5 [(0, .inr (.inr (9, i0, 0))), (1, .inr (.inr (4, i1, j1))), (2, .inl x2), (3, .inl x3), (4, .inl x4)] [] (q_V S) q_I (b_109_5 n i0 i1 j1 x2 x3 x4 S)
  | 0, _, _, _, _, _, _, _ => q_Sim.none
  | n + 1, i0, i1, j1, x2, x3, x4, S => by
    rw [b_109_5]
    refine q_Sim.steps vc_109 2 (pc' := 8) (lv' := [(0, .inr (.inr (9, i0, 0))), (1, .inr (.inr (4, i1, j1))), (2, .inl x2), (3, .inl x3), (4, .inl x4)]) (st' := [.inr (.inr (4, i1, j1)), .inl x4]) (V' := q_V S) rfl ?_
    refine q_Sim.call vc_109 (as := [.inr (.inr (4, i1, j1))]) (pc' := 11) (lv' := [(0, .inr (.inr (9, i0, 0))), (1, .inr (.inr (4, i1, j1))), (2, .inl x2), (3, .inl x3), (4, .inl x4)]) (st' := [.inl x4]) (S := S) rfl (rc_45 i1 j1) (s_45 i1 j1 S) (fun r_1 S_2 => ?_)
    refine q_Sim.br vc_109 (c := r_1 ≤ x4) (t := 49) (f := 14) (lv' := [(0, .inr (.inr (9, i0, 0))), (1, .inr (.inr (4, i1, j1))), (2, .inl x2), (3, .inl x3), (4, .inl x4)]) (st' := []) (V' := q_V S_2) rfl ?_ ?_
    · refine q_Sim.steps vc_109 1 (pc' := 50) (lv' := [(0, .inr (.inr (9, i0, 0))), (1, .inr (.inr (4, i1, j1))), (2, .inl x2), (3, .inl x3), (4, .inl x4)]) (st' := [.inl x3]) (V' := q_V S_2) rfl ?_
      exact q_Sim.ret vc_109 rfl
    · refine q_Sim.steps vc_109 3 (pc' := 20) (lv' := [(0, .inr (.inr (9, i0, 0))), (1, .inr (.inr (4, i1, j1))), (2, .inl x2), (3, .inl x3), (4, .inl x4)]) (st' := [.inl x4, .inr (.inr (25, i1, j1))]) (V' := q_V S_2) rfl ?_
      refine q_Sim.ck vc_109 (c := v_in x4 96) (pc' := 21) (lv' := [(0, .inr (.inr (9, i0, 0))), (1, .inr (.inr (4, i1, j1))), (2, .inl x2), (3, .inl x3), (4, .inl x4)]) (st' := [.inl (S_2.1 (25, i1, j1) x4.toNatClampNeg)]) (V' := q_V S_2) rfl ?_
      refine q_Sim.letI (fun y_3 => ?_)
      refine q_Sim.steps vc_109 1 (pc' := 22) (lv' := [(0, .inr (.inr (9, i0, 0))), (1, .inr (.inr (4, i1, j1))), (2, .inl x2), (3, .inl x3), (4, .inl x4)]) (st' := [.inl (-1), .inl y_3]) (V' := q_V S_2) rfl ?_
      refine q_Sim.br vc_109 (c := y_3 = (-1)) (t := 43) (f := 25) (lv' := [(0, .inr (.inr (9, i0, 0))), (1, .inr (.inr (4, i1, j1))), (2, .inl x2), (3, .inl x3), (4, .inl x4)]) (st' := []) (V' := q_V S_2) rfl ?_ ?_
      · exact q_Sim.sub2 (lv' := [(0, .inr (.inr (9, i0, 0))), (1, .inr (.inr (4, i1, j1))), (2, .inl x2), (3, .inl x3), (4, .inl x4)]) [0, 1, 2, 3, 4] rfl (by decide) ⟨rfl, rfl, rfl, rfl, rfl, trivial⟩ (sb_109_43 (b_109_5 n) (sb_109_5 n) i0 i1 j1 x2 x3 x4 S_2)
      · refine q_Sim.steps vc_109 5 (pc' := 33) (lv' := [(0, .inr (.inr (9, i0, 0))), (1, .inr (.inr (4, i1, j1))), (2, .inl x2), (3, .inl x3), (4, .inl x4)]) (st' := [.inl x4, .inr (.inr (25, i1, j1)), .inr (.inr (9, i0, 0)), .inl x3]) (V' := q_V S_2) rfl ?_
        refine q_Sim.ck vc_109 (c := v_in x4 96) (pc' := 34) (lv' := [(0, .inr (.inr (9, i0, 0))), (1, .inr (.inr (4, i1, j1))), (2, .inl x2), (3, .inl x3), (4, .inl x4)]) (st' := [.inl (S_2.1 (25, i1, j1) x4.toNatClampNeg), .inr (.inr (9, i0, 0)), .inl x3]) (V' := q_V S_2) rfl ?_
        refine q_Sim.letI (fun y_4 => ?_)
        refine q_Sim.call vc_109 (as := [.inr (.inr (9, i0, 0)), .inl y_4]) (pc' := 37) (lv' := [(0, .inr (.inr (9, i0, 0))), (1, .inr (.inr (4, i1, j1))), (2, .inl x2), (3, .inl x3), (4, .inl x4)]) (st' := [.inl x3]) (S := S_2) rfl (rc_92 i0 y_4) (s_92 i0 y_4 S_2) (fun r_5 S_6 => ?_)
        refine q_Sim.steps vc_109 1 (pc' := 38) (lv' := [(0, .inr (.inr (9, i0, 0))), (1, .inr (.inr (4, i1, j1))), (2, .inl x2), (3, .inl x3), (4, .inl x4)]) (st' := [.inl x2, .inr (.inr (3, r_5.1, r_5.2)), .inl x3]) (V' := q_V S_6) rfl ?_
        refine q_Sim.call vc_109 (as := [.inr (.inr (3, r_5.1, r_5.2)), .inl x2]) (pc' := 41) (lv' := [(0, .inr (.inr (9, i0, 0))), (1, .inr (.inr (4, i1, j1))), (2, .inl x2), (3, .inl x3), (4, .inl x4)]) (st' := [.inl x3]) (S := S_6) rfl (rc_39 r_5.1 r_5.2 x2) (s_39 r_5.1 r_5.2 x2 S_6) (fun r_7 S_8 => ?_)
        refine q_Sim.steps vc_109 1 (pc' := 42) (lv' := [(0, .inr (.inr (9, i0, 0))), (1, .inr (.inr (4, i1, j1))), (2, .inl x2), (3, .inl x3), (4, .inl x4)]) (st' := [.inl (x3 + r_7)]) (V' := q_V S_8) rfl ?_
        refine q_Sim.letI (fun y_9 => ?_)
        refine q_Sim.steps vc_109 1 (pc' := 43) (lv' := [(3, .inl y_9), (0, .inr (.inr (9, i0, 0))), (1, .inr (.inr (4, i1, j1))), (2, .inl x2), (4, .inl x4)]) (st' := []) (V' := q_V S_8) rfl ?_
        exact q_Sim.sub2 (lv' := [(0, .inr (.inr (9, i0, 0))), (1, .inr (.inr (4, i1, j1))), (2, .inl x2), (3, .inl y_9), (4, .inl x4)]) [0, 1, 2, 3, 4] rfl (by decide) ⟨rfl, rfl, rfl, rfl, rfl, trivial⟩ (sb_109_43 (b_109_5 n) (sb_109_5 n) i0 i1 j1 x2 y_9 x4 S_8)
def f_109 (i0 : Nat) (i1 : Nat) (j1 : Nat) (x2 : Int32) (S : QS) : Option ((Int32) × QS) := b_109_5 q_N i0 i1 j1 x2 0 0 S
theorem s_109 (i0 : Nat) (i1 : Nat) (j1 : Nat) (x2 : Int32) (S : QS) : q_Sim 109 0 [(0, .inr (.inr (9, i0, 0))), (1, .inr (.inr (4, i1, j1))), (2, .inl x2)] [] (q_V S) q_I (f_109 i0 i1 j1 x2 S) := by
  unfold f_109
  refine q_Sim.steps vc_109 4 (pc' := 5) (lv' := [(4, .inl 0), (3, .inl 0), (0, .inr (.inr (9, i0, 0))), (1, .inr (.inr (4, i1, j1))), (2, .inl x2)]) (st' := []) (V' := q_V S) rfl ?_
  exact q_Sim.sub2 (lv' := [(0, .inr (.inr (9, i0, 0))), (1, .inr (.inr (4, i1, j1))), (2, .inl x2), (3, .inl 0), (4, .inl 0)]) [0, 1, 2, 3, 4] rfl (by decide) ⟨rfl, rfl, rfl, rfl, rfl, trivial⟩ (sb_109_5 q_N i0 i1 j1 x2 0 0 S)
theorem vc_110 : v_code 110 = k_110 := rfl
theorem rc_110 (i0 : Nat) (x1 : Int32) : v_rcv 110 [.inr (.inr (9, i0, 0)), .inl x1] = true := rfl
def b_110_2 : Nat → Nat → Int32 → Int32 → QS → Option ((Int32) × QS)
  | 0, _, _, _, _ => none
  | n + 1, i0, x1, x2, S => if (S.1 (9, i0, 0) 5) ≤ x2 then (some ((-1), S)) else (q_bd (f_91 i0 x2 S) (fun r_1 S_2 => if ¬ (S_2.1 (4, r_1.1, r_1.2) 5) = x1 then (b_110_2 n i0 x1 (x2 + 1) S_2) else (some (x2, S_2))))
theorem sb_110_2 : ∀ (n : Nat) (i0 : Nat) (x1 : Int32) (x2 : Int32) (S : QS), q_Sim 110 2 [(0, .inr (.inr (9, i0, 0))), (1, .inl x1), (2, .inl x2)] [] (q_V S) q_I (b_110_2 n i0 x1 x2 S)
  | 0, _, _, _, _ => q_Sim.none
  | n + 1, i0, x1, x2, S => by
    rw [b_110_2]
    refine q_Sim.steps vc_110 3 (pc' := 7) (lv' := [(0, .inr (.inr (9, i0, 0))), (1, .inl x1), (2, .inl x2)]) (st' := [.inl (S.1 (9, i0, 0) 5), .inl x2]) (V' := q_V S) rfl ?_
    refine q_Sim.br vc_110 (c := (S.1 (9, i0, 0) 5) ≤ x2) (t := 30) (f := 10) (lv' := [(0, .inr (.inr (9, i0, 0))), (1, .inl x1), (2, .inl x2)]) (st' := []) (V' := q_V S) rfl ?_ ?_
    · refine q_Sim.steps vc_110 1 (pc' := 31) (lv' := [(0, .inr (.inr (9, i0, 0))), (1, .inl x1), (2, .inl x2)]) (st' := [.inl (-1)]) (V' := q_V S) rfl ?_
      exact q_Sim.ret vc_110 rfl
    · refine q_Sim.steps vc_110 2 (pc' := 12) (lv' := [(0, .inr (.inr (9, i0, 0))), (1, .inl x1), (2, .inl x2)]) (st' := [.inl x2, .inr (.inr (9, i0, 0))]) (V' := q_V S) rfl ?_
      refine q_Sim.call vc_110 (as := [.inr (.inr (9, i0, 0)), .inl x2]) (pc' := 15) (lv' := [(0, .inr (.inr (9, i0, 0))), (1, .inl x1), (2, .inl x2)]) (st' := []) (S := S) rfl (rc_91 i0 x2) (s_91 i0 x2 S) (fun r_1 S_2 => ?_)
      refine q_Sim.steps vc_110 2 (pc' := 19) (lv' := [(0, .inr (.inr (9, i0, 0))), (1, .inl x1), (2, .inl x2)]) (st' := [.inl x1, .inl (S_2.1 (4, r_1.1, r_1.2) 5)]) (V' := q_V S_2) rfl ?_
      refine q_Sim.br vc_110 (c := ¬ (S_2.1 (4, r_1.1, r_1.2) 5) = x1) (t := 24) (f := 22) (lv' := [(0, .inr (.inr (9, i0, 0))), (1, .inl x1), (2, .inl x2)]) (st' := []) (V' := q_V S_2) rfl ?_ ?_
      · refine q_Sim.steps vc_110 2 (pc' := 2) (lv' := [(2, .inl (x2 + 1)), (0, .inr (.inr (9, i0, 0))), (1, .inl x1)]) (st' := []) (V' := q_V S_2) rfl ?_
        exact q_Sim.sub2 (lv' := [(0, .inr (.inr (9, i0, 0))), (1, .inl x1), (2, .inl (x2 + 1))]) [0, 1, 2] rfl (by decide) ⟨rfl, rfl, rfl, trivial⟩ (sb_110_2 n i0 x1 (x2 + 1) S_2)
      · refine q_Sim.steps vc_110 1 (pc' := 23) (lv' := [(0, .inr (.inr (9, i0, 0))), (1, .inl x1), (2, .inl x2)]) (st' := [.inl x2]) (V' := q_V S_2) rfl ?_
        exact q_Sim.ret vc_110 rfl
def f_110 (i0 : Nat) (x1 : Int32) (S : QS) : Option ((Int32) × QS) := b_110_2 q_N i0 x1 0 S
theorem s_110 (i0 : Nat) (x1 : Int32) (S : QS) : q_Sim 110 0 [(0, .inr (.inr (9, i0, 0))), (1, .inl x1)] [] (q_V S) q_I (f_110 i0 x1 S) := by
  unfold f_110
  refine q_Sim.steps vc_110 2 (pc' := 2) (lv' := [(2, .inl 0), (0, .inr (.inr (9, i0, 0))), (1, .inl x1)]) (st' := []) (V' := q_V S) rfl ?_
  exact q_Sim.sub2 (lv' := [(0, .inr (.inr (9, i0, 0))), (1, .inl x1), (2, .inl 0)]) [0, 1, 2] rfl (by decide) ⟨rfl, rfl, rfl, trivial⟩ (sb_110_2 q_N i0 x1 0 S)
theorem vc_111 : v_code 111 = k_111 := rfl
theorem rc_111 (i0 : Nat) (x1 : Int32) : v_rcv 111 [.inr (.inr (9, i0, 0)), .inl x1] = true := rfl
def b_111_2 : Nat → Nat → Int32 → Int32 → QS → Option ((Int32) × QS)
  | 0, _, _, _, _ => none
  | n + 1, i0, x1, x2, S => if (S.1 (9, i0, 0) 7) ≤ x2 then (some ((-1), S)) else (q_bd (f_93 i0 x2 S) (fun r_1 S_2 => if ¬ (S_2.1 (8, r_1.1, r_1.2) 8) = x1 then (b_111_2 n i0 x1 (x2 + 1) S_2) else (some (x2, S_2))))
theorem sb_111_2 : ∀ (n : Nat) (i0 : Nat) (x1 : Int32) (x2 : Int32) (S : QS), q_Sim 111 2 [(0, .inr (.inr (9, i0, 0))), (1, .inl x1), (2, .inl x2)] [] (q_V S) q_I (b_111_2 n i0 x1 x2 S)
  | 0, _, _, _, _ => q_Sim.none
  | n + 1, i0, x1, x2, S => by
    rw [b_111_2]
    refine q_Sim.steps vc_111 3 (pc' := 7) (lv' := [(0, .inr (.inr (9, i0, 0))), (1, .inl x1), (2, .inl x2)]) (st' := [.inl (S.1 (9, i0, 0) 7), .inl x2]) (V' := q_V S) rfl ?_
    refine q_Sim.br vc_111 (c := (S.1 (9, i0, 0) 7) ≤ x2) (t := 30) (f := 10) (lv' := [(0, .inr (.inr (9, i0, 0))), (1, .inl x1), (2, .inl x2)]) (st' := []) (V' := q_V S) rfl ?_ ?_
    · refine q_Sim.steps vc_111 1 (pc' := 31) (lv' := [(0, .inr (.inr (9, i0, 0))), (1, .inl x1), (2, .inl x2)]) (st' := [.inl (-1)]) (V' := q_V S) rfl ?_
      exact q_Sim.ret vc_111 rfl
    · refine q_Sim.steps vc_111 2 (pc' := 12) (lv' := [(0, .inr (.inr (9, i0, 0))), (1, .inl x1), (2, .inl x2)]) (st' := [.inl x2, .inr (.inr (9, i0, 0))]) (V' := q_V S) rfl ?_
      refine q_Sim.call vc_111 (as := [.inr (.inr (9, i0, 0)), .inl x2]) (pc' := 15) (lv' := [(0, .inr (.inr (9, i0, 0))), (1, .inl x1), (2, .inl x2)]) (st' := []) (S := S) rfl (rc_93 i0 x2) (s_93 i0 x2 S) (fun r_1 S_2 => ?_)
      refine q_Sim.steps vc_111 2 (pc' := 19) (lv' := [(0, .inr (.inr (9, i0, 0))), (1, .inl x1), (2, .inl x2)]) (st' := [.inl x1, .inl (S_2.1 (8, r_1.1, r_1.2) 8)]) (V' := q_V S_2) rfl ?_
      refine q_Sim.br vc_111 (c := ¬ (S_2.1 (8, r_1.1, r_1.2) 8) = x1) (t := 24) (f := 22) (lv' := [(0, .inr (.inr (9, i0, 0))), (1, .inl x1), (2, .inl x2)]) (st' := []) (V' := q_V S_2) rfl ?_ ?_
      · refine q_Sim.steps vc_111 2 (pc' := 2) (lv' := [(2, .inl (x2 + 1)), (0, .inr (.inr (9, i0, 0))), (1, .inl x1)]) (st' := []) (V' := q_V S_2) rfl ?_
        exact q_Sim.sub2 (lv' := [(0, .inr (.inr (9, i0, 0))), (1, .inl x1), (2, .inl (x2 + 1))]) [0, 1, 2] rfl (by decide) ⟨rfl, rfl, rfl, trivial⟩ (sb_111_2 n i0 x1 (x2 + 1) S_2)
      · refine q_Sim.steps vc_111 1 (pc' := 23) (lv' := [(0, .inr (.inr (9, i0, 0))), (1, .inl x1), (2, .inl x2)]) (st' := [.inl x2]) (V' := q_V S_2) rfl ?_
        exact q_Sim.ret vc_111 rfl
def f_111 (i0 : Nat) (x1 : Int32) (S : QS) : Option ((Int32) × QS) := b_111_2 q_N i0 x1 0 S
theorem s_111 (i0 : Nat) (x1 : Int32) (S : QS) : q_Sim 111 0 [(0, .inr (.inr (9, i0, 0))), (1, .inl x1)] [] (q_V S) q_I (f_111 i0 x1 S) := by
  unfold f_111
  refine q_Sim.steps vc_111 2 (pc' := 2) (lv' := [(2, .inl 0), (0, .inr (.inr (9, i0, 0))), (1, .inl x1)]) (st' := []) (V' := q_V S) rfl ?_
  exact q_Sim.sub2 (lv' := [(0, .inr (.inr (9, i0, 0))), (1, .inl x1), (2, .inl 0)]) [0, 1, 2] rfl (by decide) ⟨rfl, rfl, rfl, trivial⟩ (sb_111_2 q_N i0 x1 0 S)
theorem vc_112 : v_code 112 = k_112 := rfl
theorem rc_112 (i0 : Nat) (x1 : Int32) : v_rcv 112 [.inr (.inr (9, i0, 0)), .inl x1] = true := rfl
def b_112_18  (S : QS) : Option ((Int32) × QS) := some (1, S)
theorem sb_112_18  (S : QS) : q_Sim 112 18 [] [] (q_V S) q_I (b_112_18  S) := by
  unfold b_112_18
  refine q_Sim.steps vc_112 2 (pc' := 23) (lv' := []) (st' := [.inl 1]) (V' := q_V S) rfl ?_
  exact q_Sim.ret vc_112 rfl
def f_112 (i0 : Nat) (x1 : Int32) (S : QS) : Option ((Int32) × QS) := q_bd (f_110 i0 x1 S) (fun r_1 S_2 => if ¬ r_1 = (-1) then (b_112_18  S_2) else (q_bd (f_111 i0 x1 S_2) (fun r_3 S_4 => if r_3 = (-1) then (some (0, S_4)) else (b_112_18  S_4))))
theorem s_112 (i0 : Nat) (x1 : Int32) (S : QS) : q_Sim 112 0 [(0, .inr (.inr (9, i0, 0))), (1, .inl x1)] [] (q_V S) q_I (f_112 i0 x1 S) := by
  unfold f_112
  refine q_Sim.steps vc_112 2 (pc' := 2) (lv' := [(0, .inr (.inr (9, i0, 0))), (1, .inl x1)]) (st' := [.inl x1, .inr (.inr (9, i0, 0))]) (V' := q_V S) rfl ?_
  refine q_Sim.call vc_112 (as := [.inr (.inr (9, i0, 0)), .inl x1]) (pc' := 5) (lv' := [(0, .inr (.inr (9, i0, 0))), (1, .inl x1)]) (st' := []) (S := S) rfl (rc_110 i0 x1) (s_110 i0 x1 S) (fun r_1 S_2 => ?_)
  refine q_Sim.steps vc_112 1 (pc' := 6) (lv' := [(0, .inr (.inr (9, i0, 0))), (1, .inl x1)]) (st' := [.inl (-1), .inl r_1]) (V' := q_V S_2) rfl ?_
  refine q_Sim.br vc_112 (c := ¬ r_1 = (-1)) (t := 18) (f := 9) (lv' := [(0, .inr (.inr (9, i0, 0))), (1, .inl x1)]) (st' := []) (V' := q_V S_2) rfl ?_ ?_
  · exact q_Sim.sub2 (lv' := []) [] rfl (by decide) trivial (sb_112_18  S_2)
  · refine q_Sim.steps vc_112 2 (pc' := 11) (lv' := [(0, .inr (.inr (9, i0, 0))), (1, .inl x1)]) (st' := [.inl x1, .inr (.inr (9, i0, 0))]) (V' := q_V S_2) rfl ?_
    refine q_Sim.call vc_112 (as := [.inr (.inr (9, i0, 0)), .inl x1]) (pc' := 14) (lv' := [(0, .inr (.inr (9, i0, 0))), (1, .inl x1)]) (st' := []) (S := S_2) rfl (rc_111 i0 x1) (s_111 i0 x1 S_2) (fun r_3 S_4 => ?_)
    refine q_Sim.steps vc_112 1 (pc' := 15) (lv' := [(0, .inr (.inr (9, i0, 0))), (1, .inl x1)]) (st' := [.inl (-1), .inl r_3]) (V' := q_V S_4) rfl ?_
    refine q_Sim.br vc_112 (c := r_3 = (-1)) (t := 22) (f := 18) (lv' := [(0, .inr (.inr (9, i0, 0))), (1, .inl x1)]) (st' := []) (V' := q_V S_4) rfl ?_ ?_
    · refine q_Sim.steps vc_112 1 (pc' := 23) (lv' := [(0, .inr (.inr (9, i0, 0))), (1, .inl x1)]) (st' := [.inl 0]) (V' := q_V S_4) rfl ?_
      exact q_Sim.ret vc_112 rfl
    · exact q_Sim.sub2 (lv' := []) [] rfl (by decide) trivial (sb_112_18  S_4)
theorem vc_113 : v_code 113 = k_113 := rfl
theorem rc_113 (i0 : Nat) : v_rcv 113 [.inr (.inr (9, i0, 0))] = true := rfl
def b_113_26 (back_4 : Nat → Int32 → Int32 → QS → Option ((Int32) × QS)) (i0 : Nat) (x1 : Int32) (x2 : Int32) (S : QS) : Option ((Int32) × QS) := back_4 i0 x1 (x2 + 1) S
theorem sb_113_26 (back_4 : Nat → Int32 → Int32 → QS → Option ((Int32) × QS)) (hb_4 : ∀ (i0 : Nat) (x1 : Int32) (x2 : Int32) (S : QS), q_Sim 113 4 [(0, .inr (.inr (9, i0, 0))), (1, .inl x1), (2, .inl x2)] [] (q_V S) q_I (back_4 i0 x1 x2 S)) (i0 : Nat) (x1 : Int32) (x2 : Int32) (S : QS) : q_Sim 113 26 [(0, .inr (.inr (9, i0, 0))), (1, .inl x1), (2, .inl x2)] [] (q_V S) q_I (b_113_26 back_4 i0 x1 x2 S) := by
  unfold b_113_26
  refine q_Sim.steps vc_113 2 (pc' := 4) (lv' := [(2, .inl (x2 + 1)), (0, .inr (.inr (9, i0, 0))), (1, .inl x1)]) (st' := []) (V' := q_V S) rfl ?_
  exact q_Sim.sub2 (lv' := [(0, .inr (.inr (9, i0, 0))), (1, .inl x1), (2, .inl (x2 + 1))]) [0, 1, 2] rfl (by decide) ⟨rfl, rfl, rfl, trivial⟩ (hb_4 i0 x1 (x2 + 1) S)
def b_113_4 : Nat → Nat → Int32 → Int32 → QS → Option ((Int32) × QS)
  | 0, _, _, _, _ => none
  | n + 1, i0, x1, x2, S => if (S.1 (9, i0, 0) 5) ≤ x2 then (some (x1, S)) else (q_bd (f_91 i0 x2 S) (fun r_1 S_2 => if (S_2.1 (4, r_1.1, r_1.2) 9) ≤ 0 then (b_113_26 (b_113_4 n) i0 x1 x2 S_2) else (b_113_26 (b_113_4 n) i0 (x1 + 1) x2 S_2)))
theorem sb_113_4 : ∀ (n : Nat) (i0 : Nat) (x1 : Int32) (x2 : Int32) (S : QS), q_Sim 113 4 [(0, .inr (.inr (9, i0, 0))), (1, .inl x1), (2, .inl x2)] [] (q_V S) q_I (b_113_4 n i0 x1 x2 S)
  | 0, _, _, _, _ => q_Sim.none
  | n + 1, i0, x1, x2, S => by
    rw [b_113_4]
    refine q_Sim.steps vc_113 3 (pc' := 9) (lv' := [(0, .inr (.inr (9, i0, 0))), (1, .inl x1), (2, .inl x2)]) (st' := [.inl (S.1 (9, i0, 0) 5), .inl x2]) (V' := q_V S) rfl ?_
    refine q_Sim.br vc_113 (c := (S.1 (9, i0, 0) 5) ≤ x2) (t := 32) (f := 12) (lv' := [(0, .inr (.inr (9, i0, 0))), (1, .inl x1), (2, .inl x2)]) (st' := []) (V' := q_V S) rfl ?_ ?_
    · refine q_Sim.steps vc_113 1 (pc' := 33) (lv' := [(0, .inr (.inr (9, i0, 0))), (1, .inl x1), (2, .inl x2)]) (st' := [.inl x1]) (V' := q_V S) rfl ?_
      exact q_Sim.ret vc_113 rfl
    · refine q_Sim.steps vc_113 2 (pc' := 14) (lv' := [(0, .inr (.inr (9, i0, 0))), (1, .inl x1), (2, .inl x2)]) (st' := [.inl x2, .inr (.inr (9, i0, 0))]) (V' := q_V S) rfl ?_
      refine q_Sim.call vc_113 (as := [.inr (.inr (9, i0, 0)), .inl x2]) (pc' := 17) (lv' := [(0, .inr (.inr (9, i0, 0))), (1, .inl x1), (2, .inl x2)]) (st' := []) (S := S) rfl (rc_91 i0 x2) (s_91 i0 x2 S) (fun r_1 S_2 => ?_)
      refine q_Sim.steps vc_113 1 (pc' := 20) (lv' := [(0, .inr (.inr (9, i0, 0))), (1, .inl x1), (2, .inl x2)]) (st' := [.inl (S_2.1 (4, r_1.1, r_1.2) 9)]) (V' := q_V S_2) rfl ?_
      refine q_Sim.br vc_113 (c := (S_2.1 (4, r_1.1, r_1.2) 9) ≤ 0) (t := 26) (f := 23) (lv' := [(0, .inr (.inr (9, i0, 0))), (1, .inl x1), (2, .inl x2)]) (st' := []) (V' := q_V S_2) rfl ?_ ?_
      · exact q_Sim.sub2 (lv' := [(0, .inr (.inr (9, i0, 0))), (1, .inl x1), (2, .inl x2)]) [0, 1, 2] rfl (by decide) ⟨rfl, rfl, rfl, trivial⟩ (sb_113_26 (b_113_4 n) (sb_113_4 n) i0 x1 x2 S_2)
      · refine q_Sim.steps vc_113 1 (pc' := 26) (lv' := [(1, .inl (x1 + 1)), (0, .inr (.inr (9, i0, 0))), (2, .inl x2)]) (st' := []) (V' := q_V S_2) rfl ?_
        exact q_Sim.sub2 (lv' := [(0, .inr (.inr (9, i0, 0))), (1, .inl (x1 + 1)), (2, .inl x2)]) [0, 1, 2] rfl (by decide) ⟨rfl, rfl, rfl, trivial⟩ (sb_113_26 (b_113_4 n) (sb_113_4 n) i0 (x1 + 1) x2 S_2)
def f_113 (i0 : Nat) (S : QS) : Option ((Int32) × QS) := b_113_4 q_N i0 0 0 S
theorem s_113 (i0 : Nat) (S : QS) : q_Sim 113 0 [(0, .inr (.inr (9, i0, 0)))] [] (q_V S) q_I (f_113 i0 S) := by
  unfold f_113
  refine q_Sim.steps vc_113 4 (pc' := 4) (lv' := [(2, .inl 0), (1, .inl 0), (0, .inr (.inr (9, i0, 0)))]) (st' := []) (V' := q_V S) rfl ?_
  exact q_Sim.sub2 (lv' := [(0, .inr (.inr (9, i0, 0))), (1, .inl 0), (2, .inl 0)]) [0, 1, 2] rfl (by decide) ⟨rfl, rfl, rfl, trivial⟩ (sb_113_4 q_N i0 0 0 S)
theorem vc_114 : v_code 114 = k_114 := rfl
theorem rc_114 (i0 : Nat) : v_rcv 114 [.inr (.inr (9, i0, 0))] = true := rfl
def b_114_34 (back_2 : Nat → Int32 → QS → Option ((Int32) × QS)) (i0 : Nat) (x1 : Int32) (S : QS) : Option ((Int32) × QS) := back_2 i0 (x1 + 1) S
theorem sb_114_34 (back_2 : Nat → Int32 → QS → Option ((Int32) × QS)) (hb_2 : ∀ (i0 : Nat) (x1 : Int32) (S : QS), q_Sim 114 2 [(0, .inr (.inr (9, i0, 0))), (1, .inl x1)] [] (q_V S) q_I (back_2 i0 x1 S)) (i0 : Nat) (x1 : Int32) (S : QS) : q_Sim 114 34 [(0, .inr (.inr (9, i0, 0))), (1, .inl x1)] [] (q_V S) q_I (b_114_34 back_2 i0 x1 S) := by
  unfold b_114_34
  refine q_Sim.steps vc_114 2 (pc' := 2) (lv' := [(1, .inl (x1 + 1)), (0, .inr (.inr (9, i0, 0)))]) (st' := []) (V' := q_V S) rfl ?_
  exact q_Sim.sub2 (lv' := [(0, .inr (.inr (9, i0, 0))), (1, .inl (x1 + 1))]) [0, 1] rfl (by decide) ⟨rfl, rfl, trivial⟩ (hb_2 i0 (x1 + 1) S)
def b_114_2 : Nat → Nat → Int32 → QS → Option ((Int32) × QS)
  | 0, _, _, _ => none
  | n + 1, i0, x1, S => if (S.1 (9, i0, 0) 5) ≤ x1 then (some (0, S)) else (q_bd (f_91 i0 x1 S) (fun r_1 S_2 => if (S_2.1 (4, r_1.1, r_1.2) 9) ≤ 0 then (b_114_34 (b_114_2 n) i0 x1 S_2) else (q_bd (f_91 i0 x1 S_2) (fun r_3 S_4 => if ¬ (S_4.1 (4, r_3.1, r_3.2) 8) = 0 then (b_114_34 (b_114_2 n) i0 x1 S_4) else (some (1, S_4))))))
theorem sb_114_2 : ∀ (n : Nat) (i0 : Nat) (x1 : Int32) (S : QS), q_Sim 114 2 [(0, .inr (.inr (9, i0, 0))), (1, .inl x1)] [] (q_V S) q_I (b_114_2 n i0 x1 S)
  | 0, _, _, _ => q_Sim.none
  | n + 1, i0, x1, S => by
    rw [b_114_2]
    refine q_Sim.steps vc_114 3 (pc' := 7) (lv' := [(0, .inr (.inr (9, i0, 0))), (1, .inl x1)]) (st' := [.inl (S.1 (9, i0, 0) 5), .inl x1]) (V' := q_V S) rfl ?_
    refine q_Sim.br vc_114 (c := (S.1 (9, i0, 0) 5) ≤ x1) (t := 40) (f := 10) (lv' := [(0, .inr (.inr (9, i0, 0))), (1, .inl x1)]) (st' := []) (V' := q_V S) rfl ?_ ?_
    · refine q_Sim.steps vc_114 1 (pc' := 41) (lv' := [(0, .inr (.inr (9, i0, 0))), (1, .inl x1)]) (st' := [.inl 0]) (V' := q_V S) rfl ?_
      exact q_Sim.ret vc_114 rfl
    · refine q_Sim.steps vc_114 2 (pc' := 12) (lv' := [(0, .inr (.inr (9, i0, 0))), (1, .inl x1)]) (st' := [.inl x1, .inr (.inr (9, i0, 0))]) (V' := q_V S) rfl ?_
      refine q_Sim.call vc_114 (as := [.inr (.inr (9, i0, 0)), .inl x1]) (pc' := 15) (lv' := [(0, .inr (.inr (9, i0, 0))), (1, .inl x1)]) (st' := []) (S := S) rfl (rc_91 i0 x1) (s_91 i0 x1 S) (fun r_1 S_2 => ?_)
      refine q_Sim.steps vc_114 1 (pc' := 18) (lv' := [(0, .inr (.inr (9, i0, 0))), (1, .inl x1)]) (st' := [.inl (S_2.1 (4, r_1.1, r_1.2) 9)]) (V' := q_V S_2) rfl ?_
      refine q_Sim.br vc_114 (c := (S_2.1 (4, r_1.1, r_1.2) 9) ≤ 0) (t := 34) (f := 21) (lv' := [(0, .inr (.inr (9, i0, 0))), (1, .inl x1)]) (st' := []) (V' := q_V S_2) rfl ?_ ?_
      · exact q_Sim.sub2 (lv' := [(0, .inr (.inr (9, i0, 0))), (1, .inl x1)]) [0, 1] rfl (by decide) ⟨rfl, rfl, trivial⟩ (sb_114_34 (b_114_2 n) (sb_114_2 n) i0 x1 S_2)
      · refine q_Sim.steps vc_114 2 (pc' := 23) (lv' := [(0, .inr (.inr (9, i0, 0))), (1, .inl x1)]) (st' := [.inl x1, .inr (.inr (9, i0, 0))]) (V' := q_V S_2) rfl ?_
        refine q_Sim.call vc_114 (as := [.inr (.inr (9, i0, 0)), .inl x1]) (pc' := 26) (lv' := [(0, .inr (.inr (9, i0, 0))), (1, .inl x1)]) (st' := []) (S := S_2) rfl (rc_91 i0 x1) (s_91 i0 x1 S_2) (fun r_3 S_4 => ?_)
        refine q_Sim.steps vc_114 1 (pc' := 29) (lv' := [(0, .inr (.inr (9, i0, 0))), (1, .inl x1)]) (st' := [.inl (S_4.1 (4, r_3.1, r_3.2) 8)]) (V' := q_V S_4) rfl ?_
        refine q_Sim.br vc_114 (c := ¬ (S_4.1 (4, r_3.1, r_3.2) 8) = 0) (t := 34) (f := 32) (lv' := [(0, .inr (.inr (9, i0, 0))), (1, .inl x1)]) (st' := []) (V' := q_V S_4) rfl ?_ ?_
        · exact q_Sim.sub2 (lv' := [(0, .inr (.inr (9, i0, 0))), (1, .inl x1)]) [0, 1] rfl (by decide) ⟨rfl, rfl, trivial⟩ (sb_114_34 (b_114_2 n) (sb_114_2 n) i0 x1 S_4)
        · refine q_Sim.steps vc_114 1 (pc' := 33) (lv' := [(0, .inr (.inr (9, i0, 0))), (1, .inl x1)]) (st' := [.inl 1]) (V' := q_V S_4) rfl ?_
          exact q_Sim.ret vc_114 rfl
def f_114 (i0 : Nat) (S : QS) : Option ((Int32) × QS) := b_114_2 q_N i0 0 S
theorem s_114 (i0 : Nat) (S : QS) : q_Sim 114 0 [(0, .inr (.inr (9, i0, 0)))] [] (q_V S) q_I (f_114 i0 S) := by
  unfold f_114
  refine q_Sim.steps vc_114 2 (pc' := 2) (lv' := [(1, .inl 0), (0, .inr (.inr (9, i0, 0)))]) (st' := []) (V' := q_V S) rfl ?_
  exact q_Sim.sub2 (lv' := [(0, .inr (.inr (9, i0, 0))), (1, .inl 0)]) [0, 1] rfl (by decide) ⟨rfl, rfl, trivial⟩ (sb_114_2 q_N i0 0 S)
theorem vc_116 : v_code 116 = k_116 := rfl
theorem rc_116 (i0 : Nat) (i1 : Nat) (j1 : Nat) : v_rcv 116 [.inr (.inr (9, i0, 0)), .inr (.inr (4, i1, j1))] = true := rfl
def b_116_34 (back_2 : Nat → Nat → Nat → Int32 → QS → Option ((Unit) × QS)) (i0 : Nat) (i1 : Nat) (j1 : Nat) (x2 : Int32) (S : QS) : Option ((Unit) × QS) := back_2 i0 i1 j1 (x2 + 1) S
theorem sb_116_34 (back_2 : Nat → Nat → Nat → Int32 → QS → Option ((Unit) × QS)) (hb_2 : ∀ (i0 : Nat) (i1 : Nat) (j1 : Nat) (x2 : Int32) (S : QS), q_Sim 116 2 [(0, .inr (.inr (9, i0, 0))), (1, .inr (.inr (4, i1, j1))), (2, .inl x2)] [] (q_V S) q_U (back_2 i0 i1 j1 x2 S)) (i0 : Nat) (i1 : Nat) (j1 : Nat) (x2 : Int32) (S : QS) : q_Sim 116 34 [(0, .inr (.inr (9, i0, 0))), (1, .inr (.inr (4, i1, j1))), (2, .inl x2)] [] (q_V S) q_U (b_116_34 back_2 i0 i1 j1 x2 S) := by
  unfold b_116_34
  refine q_Sim.steps vc_116 2 (pc' := 2) (lv' := [(2, .inl (x2 + 1)), (0, .inr (.inr (9, i0, 0))), (1, .inr (.inr (4, i1, j1)))]) (st' := []) (V' := q_V S) rfl ?_
  exact q_Sim.sub2 (lv' := [(0, .inr (.inr (9, i0, 0))), (1, .inr (.inr (4, i1, j1))), (2, .inl (x2 + 1))]) [0, 1, 2] rfl (by decide) ⟨rfl, rfl, rfl, trivial⟩ (hb_2 i0 i1 j1 (x2 + 1) S)
def b_116_2 : Nat → Nat → Nat → Nat → Int32 → QS → Option ((Unit) × QS)
  | 0, _, _, _, _, _ => none
  | n + 1, i0, i1, j1, x2, S => q_bd (f_45 i1 j1 S) (fun r_1 S_2 => if r_1 ≤ x2 then (some ((), S_2)) else (q_ck (v_in x2 96) (q_let (S_2.1 (25, i1, j1) x2.toNatClampNeg) (fun y_3 => if y_3 = (-1) then (b_116_34 (b_116_2 n) i0 i1 j1 x2 S_2) else (q_ck (v_in x2 96) (q_let (S_2.1 (25, i1, j1) x2.toNatClampNeg) (fun y_4 => q_bd (f_92 i0 y_4 S_2) (fun r_5 S_6 => q_bd (f_37 r_5.1 r_5.2 i1 j1 S_6) (fun r_7 S_8 => b_116_34 (b_116_2 n) i0 i1 j1 x2 S_8)))))))))
theorem sb_116_2 : ∀ (n : Nat) (i0 : Nat) (i1 : Nat) (j1 : Nat) (x2 : Int32) (S : QS), q_Sim 116 2 [(0, .inr (.inr (9, i0, 0))), (1, .inr (.inr (4, i1, j1))), (2, .inl x2)] [] (q_V S) q_U (b_116_2 n i0 i1 j1 x2 S)
  | 0, _, _, _, _, _ => q_Sim.none
  | n + 1, i0, i1, j1, x2, S => by
    rw [b_116_2]
    refine q_Sim.steps vc_116 2 (pc' := 4) (lv' := [(0, .inr (.inr (9, i0, 0))), (1, .inr (.inr (4, i1, j1))), (2, .inl x2)]) (st' := [.inr (.inr (4, i1, j1)), .inl x2]) (V' := q_V S) rfl ?_
    refine q_Sim.call vc_116 (as := [.inr (.inr (4, i1, j1))]) (pc' := 7) (lv' := [(0, .inr (.inr (9, i0, 0))), (1, .inr (.inr (4, i1, j1))), (2, .inl x2)]) (st' := [.inl x2]) (S := S) rfl (rc_45 i1 j1) (s_45 i1 j1 S) (fun r_1 S_2 => ?_)
    refine q_Sim.br vc_116 (c := r_1 ≤ x2) (t := 40) (f := 10) (lv' := [(0, .inr (.inr (9, i0, 0))), (1, .inr (.inr (4, i1, j1))), (2, .inl x2)]) (st' := []) (V' := q_V S_2) rfl ?_ ?_
    · exact q_Sim.ret vc_116 rfl
    · refine q_Sim.steps vc_116 3 (pc' := 15) (lv' := [(0, .inr (.inr (9, i0, 0))), (1, .inr (.inr (4, i1, j1))), (2, .inl x2)]) (st' := [.inl x2, .inr (.inr (25, i1, j1))]) (V' := q_V S_2) rfl ?_
      refine q_Sim.ck vc_116 (c := v_in x2 96) (pc' := 16) (lv' := [(0, .inr (.inr (9, i0, 0))), (1, .inr (.inr (4, i1, j1))), (2, .inl x2)]) (st' := [.inl (S_2.1 (25, i1, j1) x2.toNatClampNeg)]) (V' := q_V S_2) rfl ?_
      refine q_Sim.letI (fun y_3 => ?_)
      refine q_Sim.steps vc_116 1 (pc' := 17) (lv' := [(0, .inr (.inr (9, i0, 0))), (1, .inr (.inr (4, i1, j1))), (2, .inl x2)]) (st' := [.inl (-1), .inl y_3]) (V' := q_V S_2) rfl ?_
      refine q_Sim.br vc_116 (c := y_3 = (-1)) (t := 34) (f := 20) (lv' := [(0, .inr (.inr (9, i0, 0))), (1, .inr (.inr (4, i1, j1))), (2, .inl x2)]) (st' := []) (V' := q_V S_2) rfl ?_ ?_
      · exact q_Sim.sub2 (lv' := [(0, .inr (.inr (9, i0, 0))), (1, .inr (.inr (4, i1, j1))), (2, .inl x2)]) [0, 1, 2] rfl (by decide) ⟨rfl, rfl, rfl, trivial⟩ (sb_116_34 (b_116_2 n) (sb_116_2 n) i0 i1 j1 x2 S_2)
      · refine q_Sim.steps vc_116 4 (pc' := 26) (lv' := [(0, .inr (.inr (9, i0, 0))), (1, .inr (.inr (4, i1, j1))), (2, .inl x2)]) (st' := [.inl x2, .inr (.inr (25, i1, j1)), .inr (.inr (9, i0, 0))]) (V' := q_V S_2) rfl ?_
        refine q_Sim.ck vc_116 (c := v_in x2 96) (pc' := 27) (lv' := [(0, .inr (.inr (9, i0, 0))), (1, .inr (.inr (4, i1, j1))), (2, .inl x2)]) (st' := [.inl (S_2.1 (25, i1, j1) x2.toNatClampNeg), .inr (.inr (9, i0, 0))]) (V' := q_V S_2) rfl ?_
        refine q_Sim.letI (fun y_4 => ?_)
        refine q_Sim.call vc_116 (as := [.inr (.inr (9, i0, 0)), .inl y_4]) (pc' := 30) (lv' := [(0, .inr (.inr (9, i0, 0))), (1, .inr (.inr (4, i1, j1))), (2, .inl x2)]) (st' := []) (S := S_2) rfl (rc_92 i0 y_4) (s_92 i0 y_4 S_2) (fun r_5 S_6 => ?_)
        refine q_Sim.steps vc_116 1 (pc' := 31) (lv' := [(0, .inr (.inr (9, i0, 0))), (1, .inr (.inr (4, i1, j1))), (2, .inl x2)]) (st' := [.inr (.inr (4, i1, j1)), .inr (.inr (3, r_5.1, r_5.2))]) (V' := q_V S_6) rfl ?_
        refine q_Sim.call vc_116 (as := [.inr (.inr (3, r_5.1, r_5.2)), .inr (.inr (4, i1, j1))]) (pc' := 34) (lv' := [(0, .inr (.inr (9, i0, 0))), (1, .inr (.inr (4, i1, j1))), (2, .inl x2)]) (st' := []) (S := S_6) rfl (rc_37 r_5.1 r_5.2 i1 j1) (s_37 r_5.1 r_5.2 i1 j1 S_6) (fun r_7 S_8 => ?_)
        exact q_Sim.sub2 (lv' := [(0, .inr (.inr (9, i0, 0))), (1, .inr (.inr (4, i1, j1))), (2, .inl x2)]) [0, 1, 2] rfl (by decide) ⟨rfl, rfl, rfl, trivial⟩ (sb_116_34 (b_116_2 n) (sb_116_2 n) i0 i1 j1 x2 S_8)
def f_116 (i0 : Nat) (i1 : Nat) (j1 : Nat) (S : QS) : Option ((Unit) × QS) := b_116_2 q_N i0 i1 j1 0 S
theorem s_116 (i0 : Nat) (i1 : Nat) (j1 : Nat) (S : QS) : q_Sim 116 0 [(0, .inr (.inr (9, i0, 0))), (1, .inr (.inr (4, i1, j1)))] [] (q_V S) q_U (f_116 i0 i1 j1 S) := by
  unfold f_116
  refine q_Sim.steps vc_116 2 (pc' := 2) (lv' := [(2, .inl 0), (0, .inr (.inr (9, i0, 0))), (1, .inr (.inr (4, i1, j1)))]) (st' := []) (V' := q_V S) rfl ?_
  exact q_Sim.sub2 (lv' := [(0, .inr (.inr (9, i0, 0))), (1, .inr (.inr (4, i1, j1))), (2, .inl 0)]) [0, 1, 2] rfl (by decide) ⟨rfl, rfl, rfl, trivial⟩ (sb_116_2 q_N i0 i1 j1 0 S)
theorem vc_117 : v_code 117 = k_117 := rfl
theorem rc_117 (i0 : Nat) (i1 : Nat) (j1 : Nat) : v_rcv 117 [.inr (.inr (9, i0, 0)), .inr (.inr (4, i1, j1)), .inr (.inr (1, 0, 0))] = true := rfl
def f_117 (i0 : Nat) (i1 : Nat) (j1 : Nat) (S : QS) : Option ((Int32) × QS) := if ¬ (S.1 (4, i1, j1) 5) = (-1) then (q_bd (f_93 i0 (S.1 (4, i1, j1) 5) S) (fun r_1 S_2 => q_bd (f_86 r_1.1 r_1.2 S_2) (fun r_3 S_4 => if ¬ r_3 = 0 then (q_let (q_set S_4 (4, i1, j1) 11 0) (fun S_5 => q_bd (f_5 r_1.1 r_1.2 S_5) (fun r_6 S_7 => some (r_6, S_7)))) else (q_let (q_set S_4 (4, i1, j1) 11 3) (fun S_8 => some (0, S_8)))))) else (q_let (q_set S (4, i1, j1) 11 1) (fun S_9 => some (0, S_9)))
theorem s_117 (i0 : Nat) (i1 : Nat) (j1 : Nat) (S : QS) : q_Sim 117 0 [(0, .inr (.inr (9, i0, 0))), (1, .inr (.inr (4, i1, j1))), (2, .inr (.inr (1, 0, 0)))] [] (q_V S) q_I (f_117 i0 i1 j1 S) := by
  unfold f_117
  refine q_Sim.steps vc_117 3 (pc' := 5) (lv' := [(0, .inr (.inr (9, i0, 0))), (1, .inr (.inr (4, i1, j1))), (2, .inr (.inr (1, 0, 0)))]) (st' := [.inl (-1), .inl (S.1 (4, i1, j1) 5)]) (V' := q_V S) rfl ?_
  refine q_Sim.br vc_117 (c := ¬ (S.1 (4, i1, j1) 5) = (-1)) (t := 15) (f := 8) (lv' := [(0, .inr (.inr (9, i0, 0))), (1, .inr (.inr (4, i1, j1))), (2, .inr (.inr (1, 0, 0)))]) (st' := []) (V' := q_V S) rfl ?_ ?_
  · refine q_Sim.steps vc_117 3 (pc' := 20) (lv' := [(0, .inr (.inr (9, i0, 0))), (1, .inr (.inr (4, i1, j1))), (2, .inr (.inr (1, 0, 0)))]) (st' := [.inl (S.1 (4, i1, j1) 5), .inr (.inr (9, i0, 0))]) (V' := q_V S) rfl ?_
    refine q_Sim.call vc_117 (as := [.inr (.inr (9, i0, 0)), .inl (S.1 (4, i1, j1) 5)]) (pc' := 23) (lv' := [(0, .inr (.inr (9, i0, 0))), (1, .inr (.inr (4, i1, j1))), (2, .inr (.inr (1, 0, 0)))]) (st' := []) (S := S) rfl (rc_93 i0 (S.1 (4, i1, j1) 5)) (s_93 i0 (S.1 (4, i1, j1) 5) S) (fun r_1 S_2 => ?_)
    refine q_Sim.steps vc_117 2 (pc' := 25) (lv' := [(3, .inr (.inr (8, r_1.1, r_1.2))), (0, .inr (.inr (9, i0, 0))), (1, .inr (.inr (4, i1, j1))), (2, .inr (.inr (1, 0, 0)))]) (st' := [.inr (.inr (8, r_1.1, r_1.2))]) (V' := q_V S_2) rfl ?_
    refine q_Sim.call vc_117 (as := [.inr (.inr (8, r_1.1, r_1.2))]) (pc' := 28) (lv' := [(3, .inr (.inr (8, r_1.1, r_1.2))), (0, .inr (.inr (9, i0, 0))), (1, .inr (.inr (4, i1, j1))), (2, .inr (.inr (1, 0, 0)))]) (st' := []) (S := S_2) rfl (rc_86 r_1.1 r_1.2) (s_86 r_1.1 r_1.2 S_2) (fun r_3 S_4 => ?_)
    refine q_Sim.br vc_117 (c := ¬ r_3 = 0) (t := 38) (f := 31) (lv' := [(3, .inr (.inr (8, r_1.1, r_1.2))), (0, .inr (.inr (9, i0, 0))), (1, .inr (.inr (4, i1, j1))), (2, .inr (.inr (1, 0, 0)))]) (st' := []) (V' := q_V S_4) rfl ?_ ?_
    · refine q_Sim.steps vc_117 2 (pc' := 40) (lv' := [(3, .inr (.inr (8, r_1.1, r_1.2))), (0, .inr (.inr (9, i0, 0))), (1, .inr (.inr (4, i1, j1))), (2, .inr (.inr (1, 0, 0)))]) (st' := [.inl 0, .inr (.inr (4, i1, j1))]) (V' := q_V S_4) rfl ?_
      refine q_Sim.steps vc_117 1 (pc' := 43) (lv' := [(3, .inr (.inr (8, r_1.1, r_1.2))), (0, .inr (.inr (9, i0, 0))), (1, .inr (.inr (4, i1, j1))), (2, .inr (.inr (1, 0, 0)))]) (st' := []) (V' := q_V (q_set S_4 (4, i1, j1) 11 0)) rfl ?_
      refine q_Sim.letS (fun S_5 => ?_)
      refine q_Sim.steps vc_117 2 (pc' := 45) (lv' := [(3, .inr (.inr (8, r_1.1, r_1.2))), (0, .inr (.inr (9, i0, 0))), (1, .inr (.inr (4, i1, j1))), (2, .inr (.inr (1, 0, 0)))]) (st' := [.inr (.inr (8, r_1.1, r_1.2)), .inr (.inr (1, 0, 0))]) (V' := q_V S_5) rfl ?_
      refine q_Sim.call vc_117 (as := [.inr (.inr (1, 0, 0)), .inr (.inr (8, r_1.1, r_1.2))]) (pc' := 48) (lv' := [(3, .inr (.inr (8, r_1.1, r_1.2))), (0, .inr (.inr (9, i0, 0))), (1, .inr (.inr (4, i1, j1))), (2, .inr (.inr (1, 0, 0)))]) (st' := []) (S := S_5) rfl (rc_5 r_1.1 r_1.2) (s_5 r_1.1 r_1.2 S_5) (fun r_6 S_7 => ?_)
      exact q_Sim.ret vc_117 rfl
    · refine q_Sim.steps vc_117 2 (pc' := 33) (lv' := [(3, .inr (.inr (8, r_1.1, r_1.2))), (0, .inr (.inr (9, i0, 0))), (1, .inr (.inr (4, i1, j1))), (2, .inr (.inr (1, 0, 0)))]) (st' := [.inl 3, .inr (.inr (4, i1, j1))]) (V' := q_V S_4) rfl ?_
      refine q_Sim.steps vc_117 1 (pc' := 36) (lv' := [(3, .inr (.inr (8, r_1.1, r_1.2))), (0, .inr (.inr (9, i0, 0))), (1, .inr (.inr (4, i1, j1))), (2, .inr (.inr (1, 0, 0)))]) (st' := []) (V' := q_V (q_set S_4 (4, i1, j1) 11 3)) rfl ?_
      refine q_Sim.letS (fun S_8 => ?_)
      refine q_Sim.steps vc_117 1 (pc' := 37) (lv' := [(3, .inr (.inr (8, r_1.1, r_1.2))), (0, .inr (.inr (9, i0, 0))), (1, .inr (.inr (4, i1, j1))), (2, .inr (.inr (1, 0, 0)))]) (st' := [.inl 0]) (V' := q_V S_8) rfl ?_
      exact q_Sim.ret vc_117 rfl
  · refine q_Sim.steps vc_117 2 (pc' := 10) (lv' := [(0, .inr (.inr (9, i0, 0))), (1, .inr (.inr (4, i1, j1))), (2, .inr (.inr (1, 0, 0)))]) (st' := [.inl 1, .inr (.inr (4, i1, j1))]) (V' := q_V S) rfl ?_
    refine q_Sim.steps vc_117 1 (pc' := 13) (lv' := [(0, .inr (.inr (9, i0, 0))), (1, .inr (.inr (4, i1, j1))), (2, .inr (.inr (1, 0, 0)))]) (st' := []) (V' := q_V (q_set S (4, i1, j1) 11 1)) rfl ?_
    refine q_Sim.letS (fun S_9 => ?_)
    refine q_Sim.steps vc_117 1 (pc' := 14) (lv' := [(0, .inr (.inr (9, i0, 0))), (1, .inr (.inr (4, i1, j1))), (2, .inr (.inr (1, 0, 0)))]) (st' := [.inl 0]) (V' := q_V S_9) rfl ?_
    exact q_Sim.ret vc_117 rfl
theorem vc_118 : v_code 118 = k_118 := rfl
theorem rc_118 (i0 : Nat) (i1 : Nat) (j1 : Nat) (x2 : Int32) : v_rcv 118 [.inr (.inr (9, i0, 0)), .inr (.inr (4, i1, j1)), .inl x2] = true := rfl
def b_118_100 (back_29 : Nat → Nat → Nat → Int32 → Int32 → Int32 → QS → Option ((Unit) × QS)) (i0 : Nat) (i1 : Nat) (j1 : Nat) (x3 : Int32) (x4 : Int32) (x5 : Int32) (S : QS) : Option ((Unit) × QS) := back_29 i0 i1 j1 x3 x4 (x5 + 1) S
theorem sb_118_100 (back_29 : Nat → Nat → Nat → Int32 → Int32 → Int32 → QS → Option ((Unit) × QS)) (hb_29 : ∀ (i0 : Nat) (i1 : Nat) (j1 : Nat) (x3 : Int32) (x4 : Int32) (x5 : Int32) (S : QS), q_Sim 118 29 [(0, .inr (.inr (9, i0, 0))), (1, .inr (.inr (4, i1, j1))), (3, .inl x3), (4, .inl x4), (5, .inl x5)] [] (q_V S) q_U (back_29 i0 i1 j1 x3 x4 x5 S)) (i0 : Nat) (i1 : Nat) (j1 : Nat) (x3 : Int32) (x4 : Int32) (x5 : Int32) (S : QS) : q_Sim 118 100 [(0, .inr (.inr (9, i0, 0))), (1, .inr (.inr (4, i1, j1))), (3, .inl x3), (4, .inl x4), (5, .inl x5)] [] (q_V S) q_U (b_118_100 back_29 i0 i1 j1 x3 x4 x5 S) := by
  unfold b_118_100
  refine q_Sim.steps vc_118 2 (pc' := 29) (lv' := [(5, .inl (x5 + 1)), (0, .inr (.inr (9, i0, 0))), (1, .inr (.inr (4, i1, j1))), (3, .inl x3), (4, .inl x4)]) (st' := []) (V' := q_V S) rfl ?_
  exact q_Sim.sub2 (lv' := [(0, .inr (.inr (9, i0, 0))), (1, .inr (.inr (4, i1, j1))), (3, .inl x3), (4, .inl x4), (5, .inl (x5 + 1))]) [0, 1, 3, 4, 5] rfl (by decide) ⟨rfl, rfl, rfl, rfl, rfl, trivial⟩ (hb_29 i0 i1 j1 x3 x4 (x5 + 1) S)
def b_118_29 : Nat → Nat → Nat → Nat → Int32 → Int32 → Int32 → QS → Option ((Unit) × QS)
  | 0, _, _, _, _, _, _, _ => none
  | n + 1, i0, i1, j1, x3, x4, x5, S => q_bd (f_45 i1 j1 S) (fun r_1 S_2 => if r_1 ≤ x5 then (some ((), S_2)) else (if x4 ≤ 0 then (some ((), S_2)) else (q_let (x5 / 12) (fun y_3 => q_bd (f_183 6 (x5 - x5 / 12 * 12) S_2) (fun r_4 S_5 => q_ck (v_in ((y_3 * 12) + r_4) 96) (q_let (S_5.1 (25, i1, j1) ((y_3 * 12) + r_4).toNatClampNeg) (fun y_6 => if y_6 = (-1) then (b_118_100 (b_118_29 n) i0 i1 j1 x3 x4 x5 S_5) else (q_bd (f_92 i0 y_6 S_5) (fun r_7 S_8 => q_bd (f_38 r_7.1 r_7.2 x3 x4 S_8) (fun r_9 S_10 => q_let (x4 - r_9) (fun y_11 => b_118_100 (b_118_29 n) i0 i1 j1 x3 y_11 x5 S_10)))))))))))
theorem sb_118_29 : ∀ (n : Nat) (i0 : Nat) (i1 : Nat) (j1 : Nat) (x3 : Int32) (x4 : Int32) (x5 : Int32) (S : QS), q_Sim 118 29 [(0, .inr (.inr (9, i0, 0))), (1, .inr (.inr (4, i1, j1))), (3, .inl x3), (4, .inl x4), (5, .inl x5)] [] (q_V S) q_U (b_118_29 n i0 i1 j1 x3 x4 x5 S)
  | 0, _, _, _, _, _, _, _ => q_Sim.none
  | n + 1, i0, i1, j1, x3, x4, x5, S => by
    rw [b_118_29]
    refine q_Sim.steps vc_118 2 (pc' := 32) (lv' := [(0, .inr (.inr (9, i0, 0))), (1, .inr (.inr (4, i1, j1))), (3, .inl x3), (4, .inl x4), (5, .inl x5)]) (st' := [.inr (.inr (4, i1, j1)), .inl x5]) (V' := q_V S) rfl ?_
    refine q_Sim.call vc_118 (as := [.inr (.inr (4, i1, j1))]) (pc' := 35) (lv' := [(0, .inr (.inr (9, i0, 0))), (1, .inr (.inr (4, i1, j1))), (3, .inl x3), (4, .inl x4), (5, .inl x5)]) (st' := [.inl x5]) (S := S) rfl (rc_45 i1 j1) (s_45 i1 j1 S) (fun r_1 S_2 => ?_)
    refine q_Sim.br vc_118 (c := r_1 ≤ x5) (t := 106) (f := 38) (lv' := [(0, .inr (.inr (9, i0, 0))), (1, .inr (.inr (4, i1, j1))), (3, .inl x3), (4, .inl x4), (5, .inl x5)]) (st' := []) (V' := q_V S_2) rfl ?_ ?_
    · exact q_Sim.ret vc_118 rfl
    · refine q_Sim.steps vc_118 1 (pc' := 40) (lv' := [(0, .inr (.inr (9, i0, 0))), (1, .inr (.inr (4, i1, j1))), (3, .inl x3), (4, .inl x4), (5, .inl x5)]) (st' := [.inl x4]) (V' := q_V S_2) rfl ?_
      refine q_Sim.br vc_118 (c := x4 ≤ 0) (t := 106) (f := 43) (lv' := [(0, .inr (.inr (9, i0, 0))), (1, .inr (.inr (4, i1, j1))), (3, .inl x3), (4, .inl x4), (5, .inl x5)]) (st' := []) (V' := q_V S_2) rfl ?_ ?_
      · exact q_Sim.ret vc_118 rfl
      · refine q_Sim.steps vc_118 2 (pc' := 47) (lv' := [(0, .inr (.inr (9, i0, 0))), (1, .inr (.inr (4, i1, j1))), (3, .inl x3), (4, .inl x4), (5, .inl x5)]) (st' := [.inl 12, .inl x5]) (V' := q_V S_2) rfl ?_
        refine q_Sim.okd vc_118 (c := decide (¬ (12 : Int32) = 0)) (pc' := 48) (lv' := [(0, .inr (.inr (9, i0, 0))), (1, .inr (.inr (4, i1, j1))), (3, .inl x3), (4, .inl x4), (5, .inl x5)]) (st' := [.inl (x5 / 12)]) (V' := q_V S_2) rfl (by decide) ?_
        refine q_Sim.letI (fun y_3 => ?_)
        refine q_Sim.steps vc_118 4 (pc' := 56) (lv' := [(6, .inl y_3), (0, .inr (.inr (9, i0, 0))), (1, .inr (.inr (4, i1, j1))), (3, .inl x3), (4, .inl x4), (5, .inl x5)]) (st' := [.inl 12, .inl x5, .inl 6]) (V' := q_V S_2) rfl ?_
        refine q_Sim.okd vc_118 (c := decide (¬ (12 : Int32) = 0)) (pc' := 57) (lv' := [(6, .inl y_3), (0, .inr (.inr (9, i0, 0))), (1, .inr (.inr (4, i1, j1))), (3, .inl x3), (4, .inl x4), (5, .inl x5)]) (st' := [.inl (x5 - x5 / 12 * 12), .inl 6]) (V' := q_V S_2) rfl (by decide) ?_
        refine q_Sim.call vc_118 (as := [.inl 6, .inl (x5 - x5 / 12 * 12)]) (pc' := 60) (lv' := [(6, .inl y_3), (0, .inr (.inr (9, i0, 0))), (1, .inr (.inr (4, i1, j1))), (3, .inl x3), (4, .inl x4), (5, .inl x5)]) (st' := []) (S := S_2) rfl (rc_183 6 (x5 - x5 / 12 * 12)) (s_183 6 (x5 - x5 / 12 * 12) S_2) (fun r_4 S_5 => ?_)
        refine q_Sim.steps vc_118 8 (pc' := 74) (lv' := [(7, .inl r_4), (6, .inl y_3), (0, .inr (.inr (9, i0, 0))), (1, .inr (.inr (4, i1, j1))), (3, .inl x3), (4, .inl x4), (5, .inl x5)]) (st' := [.inl ((y_3 * 12) + r_4), .inr (.inr (25, i1, j1))]) (V' := q_V S_5) rfl ?_
        refine q_Sim.ck vc_118 (c := v_in ((y_3 * 12) + r_4) 96) (pc' := 75) (lv' := [(7, .inl r_4), (6, .inl y_3), (0, .inr (.inr (9, i0, 0))), (1, .inr (.inr (4, i1, j1))), (3, .inl x3), (4, .inl x4), (5, .inl x5)]) (st' := [.inl (S_5.1 (25, i1, j1) ((y_3 * 12) + r_4).toNatClampNeg)]) (V' := q_V S_5) rfl ?_
        refine q_Sim.letI (fun y_6 => ?_)
        refine q_Sim.steps vc_118 3 (pc' := 80) (lv' := [(8, .inl y_6), (7, .inl r_4), (6, .inl y_3), (0, .inr (.inr (9, i0, 0))), (1, .inr (.inr (4, i1, j1))), (3, .inl x3), (4, .inl x4), (5, .inl x5)]) (st' := [.inl (-1), .inl y_6]) (V' := q_V S_5) rfl ?_
        refine q_Sim.br vc_118 (c := y_6 = (-1)) (t := 100) (f := 83) (lv' := [(8, .inl y_6), (7, .inl r_4), (6, .inl y_3), (0, .inr (.inr (9, i0, 0))), (1, .inr (.inr (4, i1, j1))), (3, .inl x3), (4, .inl x4), (5, .inl x5)]) (st' := []) (V' := q_V S_5) rfl ?_ ?_
        · exact q_Sim.sub2 (lv' := [(0, .inr (.inr (9, i0, 0))), (1, .inr (.inr (4, i1, j1))), (3, .inl x3), (4, .inl x4), (5, .inl x5)]) [0, 1, 3, 4, 5] rfl (by decide) ⟨rfl, rfl, rfl, rfl, rfl, trivial⟩ (sb_118_100 (b_118_29 n) (sb_118_29 n) i0 i1 j1 x3 x4 x5 S_5)
        · refine q_Sim.steps vc_118 3 (pc' := 88) (lv' := [(8, .inl y_6), (7, .inl r_4), (6, .inl y_3), (0, .inr (.inr (9, i0, 0))), (1, .inr (.inr (4, i1, j1))), (3, .inl x3), (4, .inl x4), (5, .inl x5)]) (st' := [.inl y_6, .inr (.inr (9, i0, 0)), .inl x4]) (V' := q_V S_5) rfl ?_
          refine q_Sim.call vc_118 (as := [.inr (.inr (9, i0, 0)), .inl y_6]) (pc' := 91) (lv' := [(8, .inl y_6), (7, .inl r_4), (6, .inl y_3), (0, .inr (.inr (9, i0, 0))), (1, .inr (.inr (4, i1, j1))), (3, .inl x3), (4, .inl x4), (5, .inl x5)]) (st' := [.inl x4]) (S := S_5) rfl (rc_92 i0 y_6) (s_92 i0 y_6 S_5) (fun r_7 S_8 => ?_)
          refine q_Sim.steps vc_118 2 (pc' := 94) (lv' := [(8, .inl y_6), (7, .inl r_4), (6, .inl y_3), (0, .inr (.inr (9, i0, 0))), (1, .inr (.inr (4, i1, j1))), (3, .inl x3), (4, .inl x4), (5, .inl x5)]) (st' := [.inl x4, .inl x3, .inr (.inr (3, r_7.1, r_7.2)), .inl x4]) (V' := q_V S_8) rfl ?_
          refine q_Sim.call vc_118 (as := [.inr (.inr (3, r_7.1, r_7.2)), .inl x3, .inl x4]) (pc' := 97) (lv' := [(8, .inl y_6), (7, .inl r_4), (6, .inl y_3), (0, .inr (.inr (9, i0, 0))), (1, .inr (.inr (4, i1, j1))), (3, .inl x3), (4, .inl x4), (5, .inl x5)]) (st' := [.inl x4]) (S := S_8) rfl (rc_38 r_7.1 r_7.2 x3 x4) (s_38 r_7.1 r_7.2 x3 x4 S_8) (fun r_9 S_10 => ?_)
          refine q_Sim.steps vc_118 1 (pc' := 98) (lv' := [(8, .inl y_6), (7, .inl r_4), (6, .inl y_3), (0, .inr (.inr (9, i0, 0))), (1, .inr (.inr (4, i1, j1))), (3, .inl x3), (4, .inl x4), (5, .inl x5)]) (st' := [.inl (x4 - r_9)]) (V' := q_V S_10) rfl ?_
          refine q_Sim.letI (fun y_11 => ?_)
          refine q_Sim.steps vc_118 1 (pc' := 100) (lv' := [(4, .inl y_11), (8, .inl y_6), (7, .inl r_4), (6, .inl y_3), (0, .inr (.inr (9, i0, 0))), (1, .inr (.inr (4, i1, j1))), (3, .inl x3), (5, .inl x5)]) (st' := []) (V' := q_V S_10) rfl ?_
          exact q_Sim.sub2 (lv' := [(0, .inr (.inr (9, i0, 0))), (1, .inr (.inr (4, i1, j1))), (3, .inl x3), (4, .inl y_11), (5, .inl x5)]) [0, 1, 3, 4, 5] rfl (by decide) ⟨rfl, rfl, rfl, rfl, rfl, trivial⟩ (sb_118_100 (b_118_29 n) (sb_118_29 n) i0 i1 j1 x3 y_11 x5 S_10)
def b_118_24 (i0 : Nat) (i1 : Nat) (j1 : Nat) (x3 : Int32) (xs0 : Int32) (S : QS) : Option ((Unit) × QS) := b_118_29 q_N i0 i1 j1 x3 xs0 0 S
theorem sb_118_24 (i0 : Nat) (i1 : Nat) (j1 : Nat) (x3 : Int32) (xs0 : Int32) (S : QS) : q_Sim 118 24 [(0, .inr (.inr (9, i0, 0))), (1, .inr (.inr (4, i1, j1))), (3, .inl x3)] [.inl xs0] (q_V S) q_U (b_118_24 i0 i1 j1 x3 xs0 S) := by
  unfold b_118_24
  refine q_Sim.steps vc_118 3 (pc' := 29) (lv' := [(5, .inl 0), (4, .inl xs0), (0, .inr (.inr (9, i0, 0))), (1, .inr (.inr (4, i1, j1))), (3, .inl x3)]) (st' := []) (V' := q_V S) rfl ?_
  exact q_Sim.sub2 (lv' := [(0, .inr (.inr (9, i0, 0))), (1, .inr (.inr (4, i1, j1))), (3, .inl x3), (4, .inl xs0), (5, .inl 0)]) [0, 1, 3, 4, 5] rfl (by decide) ⟨rfl, rfl, rfl, rfl, rfl, trivial⟩ (sb_118_29 q_N i0 i1 j1 x3 xs0 0 S)
def b_118_13 (i0 : Nat) (i1 : Nat) (j1 : Nat) (x2 : Int32) (xs0 : Int32) (S : QS) : Option ((Unit) × QS) := if 0 ≤ x2 then (b_118_24 i0 i1 j1 xs0 x2 S) else (b_118_24 i0 i1 j1 xs0 (-x2) S)
theorem sb_118_13 (i0 : Nat) (i1 : Nat) (j1 : Nat) (x2 : Int32) (xs0 : Int32) (S : QS) : q_Sim 118 13 [(0, .inr (.inr (9, i0, 0))), (1, .inr (.inr (4, i1, j1))), (2, .inl x2)] [.inl xs0] (q_V S) q_U (b_118_13 i0 i1 j1 x2 xs0 S) := by
  unfold b_118_13
  refine q_Sim.steps vc_118 2 (pc' := 15) (lv' := [(3, .inl xs0), (0, .inr (.inr (9, i0, 0))), (1, .inr (.inr (4, i1, j1))), (2, .inl x2)]) (st' := [.inl x2]) (V' := q_V S) rfl ?_
  refine q_Sim.br vc_118 (c := 0 ≤ x2) (t := 23) (f := 18) (lv' := [(3, .inl xs0), (0, .inr (.inr (9, i0, 0))), (1, .inr (.inr (4, i1, j1))), (2, .inl x2)]) (st' := []) (V' := q_V S) rfl ?_ ?_
  · refine q_Sim.steps vc_118 1 (pc' := 24) (lv' := [(3, .inl xs0), (0, .inr (.inr (9, i0, 0))), (1, .inr (.inr (4, i1, j1))), (2, .inl x2)]) (st' := [.inl x2]) (V' := q_V S) rfl ?_
    exact q_Sim.sub2 (lv' := [(0, .inr (.inr (9, i0, 0))), (1, .inr (.inr (4, i1, j1))), (3, .inl xs0)]) [0, 1, 3] rfl (by decide) ⟨rfl, rfl, rfl, trivial⟩ (sb_118_24 i0 i1 j1 xs0 x2 S)
  · refine q_Sim.steps vc_118 3 (pc' := 24) (lv' := [(3, .inl xs0), (0, .inr (.inr (9, i0, 0))), (1, .inr (.inr (4, i1, j1))), (2, .inl x2)]) (st' := [.inl (-x2)]) (V' := q_V S) rfl ?_
    exact q_Sim.sub2 (lv' := [(0, .inr (.inr (9, i0, 0))), (1, .inr (.inr (4, i1, j1))), (3, .inl xs0)]) [0, 1, 3] rfl (by decide) ⟨rfl, rfl, rfl, trivial⟩ (sb_118_24 i0 i1 j1 xs0 (-x2) S)
def f_118 (i0 : Nat) (i1 : Nat) (j1 : Nat) (x2 : Int32) (S : QS) : Option ((Unit) × QS) := if 0 ≤ x2 then (b_118_13 i0 i1 j1 x2 300 S) else (b_118_13 i0 i1 j1 x2 400 S)
theorem s_118 (i0 : Nat) (i1 : Nat) (j1 : Nat) (x2 : Int32) (S : QS) : q_Sim 118 0 [(0, .inr (.inr (9, i0, 0))), (1, .inr (.inr (4, i1, j1))), (2, .inl x2)] [] (q_V S) q_U (f_118 i0 i1 j1 x2 S) := by
  unfold f_118
  refine q_Sim.steps vc_118 1 (pc' := 1) (lv' := [(0, .inr (.inr (9, i0, 0))), (1, .inr (.inr (4, i1, j1))), (2, .inl x2)]) (st' := [.inl x2]) (V' := q_V S) rfl ?_
  refine q_Sim.br vc_118 (c := 0 ≤ x2) (t := 10) (f := 4) (lv' := [(0, .inr (.inr (9, i0, 0))), (1, .inr (.inr (4, i1, j1))), (2, .inl x2)]) (st' := []) (V' := q_V S) rfl ?_ ?_
  · refine q_Sim.steps vc_118 1 (pc' := 13) (lv' := [(0, .inr (.inr (9, i0, 0))), (1, .inr (.inr (4, i1, j1))), (2, .inl x2)]) (st' := [.inl 300]) (V' := q_V S) rfl ?_
    exact q_Sim.sub2 (lv' := [(0, .inr (.inr (9, i0, 0))), (1, .inr (.inr (4, i1, j1))), (2, .inl x2)]) [0, 1, 2] rfl (by decide) ⟨rfl, rfl, rfl, trivial⟩ (sb_118_13 i0 i1 j1 x2 300 S)
  · refine q_Sim.steps vc_118 2 (pc' := 13) (lv' := [(0, .inr (.inr (9, i0, 0))), (1, .inr (.inr (4, i1, j1))), (2, .inl x2)]) (st' := [.inl 400]) (V' := q_V S) rfl ?_
    exact q_Sim.sub2 (lv' := [(0, .inr (.inr (9, i0, 0))), (1, .inr (.inr (4, i1, j1))), (2, .inl x2)]) [0, 1, 2] rfl (by decide) ⟨rfl, rfl, rfl, trivial⟩ (sb_118_13 i0 i1 j1 x2 400 S)
theorem vc_119 : v_code 119 = k_119 := rfl
theorem rc_119 (i0 : Nat) (i1 : Nat) (j1 : Nat) : v_rcv 119 [.inr (.inr (9, i0, 0)), .inr (.inr (4, i1, j1))] = true := rfl
def b_119_95 (i0 : Nat) (i1 : Nat) (j1 : Nat) (x2 : Int32) (x3 : Int32) (S : QS) : Option ((Unit) × QS) := q_let (q_set S (9, i0, 0) 10 ((S.1 (9, i0, 0) 10) + x3)) (fun S_6 => q_let (if ((x2 - x3) * 100) < (S_6.1 (4, i1, j1) 2) then ((x2 - x3) * 100) else (S_6.1 (4, i1, j1) 2)) (fun y_7 => q_let (q_set S_6 (4, i1, j1) 2 ((S_6.1 (4, i1, j1) 2) - y_7)) (fun S_8 => some ((), S_8))))
theorem sb_119_95 (i0 : Nat) (i1 : Nat) (j1 : Nat) (x2 : Int32) (x3 : Int32) (S : QS) : q_Sim 119 95 [(0, .inr (.inr (9, i0, 0))), (1, .inr (.inr (4, i1, j1))), (2, .inl x2), (3, .inl x3)] [] (q_V S) q_U (b_119_95 i0 i1 j1 x2 x3 S) := by
  unfold b_119_95
  refine q_Sim.steps vc_119 5 (pc' := 102) (lv' := [(0, .inr (.inr (9, i0, 0))), (1, .inr (.inr (4, i1, j1))), (2, .inl x2), (3, .inl x3)]) (st' := [.inl ((S.1 (9, i0, 0) 10) + x3), .inr (.inr (9, i0, 0))]) (V' := q_V S) rfl ?_
  refine q_Sim.steps vc_119 1 (pc' := 105) (lv' := [(0, .inr (.inr (9, i0, 0))), (1, .inr (.inr (4, i1, j1))), (2, .inl x2), (3, .inl x3)]) (st' := []) (V' := q_V (q_set S (9, i0, 0) 10 ((S.1 (9, i0, 0) 10) + x3))) rfl ?_
  refine q_Sim.letS (fun S_6 => ?_)
  refine q_Sim.steps vc_119 11 (pc' := 123) (lv' := [(0, .inr (.inr (9, i0, 0))), (1, .inr (.inr (4, i1, j1))), (2, .inl x2), (3, .inl x3)]) (st' := [.inl (if ((x2 - x3) * 100) < (S_6.1 (4, i1, j1) 2) then ((x2 - x3) * 100) else (S_6.1 (4, i1, j1) 2)), .inl (S_6.1 (4, i1, j1) 2), .inr (.inr (4, i1, j1))]) (V' := q_V S_6) rfl ?_
  refine q_Sim.letI (fun y_7 => ?_)
  refine q_Sim.steps vc_119 1 (pc' := 124) (lv' := [(0, .inr (.inr (9, i0, 0))), (1, .inr (.inr (4, i1, j1))), (2, .inl x2), (3, .inl x3)]) (st' := [.inl ((S_6.1 (4, i1, j1) 2) - y_7), .inr (.inr (4, i1, j1))]) (V' := q_V S_6) rfl ?_
  refine q_Sim.steps vc_119 1 (pc' := 127) (lv' := [(0, .inr (.inr (9, i0, 0))), (1, .inr (.inr (4, i1, j1))), (2, .inl x2), (3, .inl x3)]) (st' := []) (V' := q_V (q_set S_6 (4, i1, j1) 2 ((S_6.1 (4, i1, j1) 2) - y_7))) rfl ?_
  refine q_Sim.letS (fun S_8 => ?_)
  exact q_Sim.ret vc_119 rfl
def b_119_89 (back_44 : Nat → Nat → Nat → Int32 → Int32 → Int32 → QS → Option ((Unit) × QS)) (i0 : Nat) (i1 : Nat) (j1 : Nat) (x2 : Int32) (x3 : Int32) (x4 : Int32) (S : QS) : Option ((Unit) × QS) := back_44 i0 i1 j1 x2 x3 (x4 + 1) S
theorem sb_119_89 (back_44 : Nat → Nat → Nat → Int32 → Int32 → Int32 → QS → Option ((Unit) × QS)) (hb_44 : ∀ (i0 : Nat) (i1 : Nat) (j1 : Nat) (x2 : Int32) (x3 : Int32) (x4 : Int32) (S : QS), q_Sim 119 44 [(0, .inr (.inr (9, i0, 0))), (1, .inr (.inr (4, i1, j1))), (2, .inl x2), (3, .inl x3), (4, .inl x4)] [] (q_V S) q_U (back_44 i0 i1 j1 x2 x3 x4 S)) (i0 : Nat) (i1 : Nat) (j1 : Nat) (x2 : Int32) (x3 : Int32) (x4 : Int32) (S : QS) : q_Sim 119 89 [(0, .inr (.inr (9, i0, 0))), (1, .inr (.inr (4, i1, j1))), (2, .inl x2), (3, .inl x3), (4, .inl x4)] [] (q_V S) q_U (b_119_89 back_44 i0 i1 j1 x2 x3 x4 S) := by
  unfold b_119_89
  refine q_Sim.steps vc_119 2 (pc' := 44) (lv' := [(4, .inl (x4 + 1)), (0, .inr (.inr (9, i0, 0))), (1, .inr (.inr (4, i1, j1))), (2, .inl x2), (3, .inl x3)]) (st' := []) (V' := q_V S) rfl ?_
  exact q_Sim.sub2 (lv' := [(0, .inr (.inr (9, i0, 0))), (1, .inr (.inr (4, i1, j1))), (2, .inl x2), (3, .inl x3), (4, .inl (x4 + 1))]) [0, 1, 2, 3, 4] rfl (by decide) ⟨rfl, rfl, rfl, rfl, rfl, trivial⟩ (hb_44 i0 i1 j1 x2 x3 (x4 + 1) S)
def b_119_44 : Nat → Nat → Nat → Nat → Int32 → Int32 → Int32 → QS → Option ((Unit) × QS)
  | 0, _, _, _, _, _, _, _ => none
  | n + 1, i0, i1, j1, x2, x3, x4, S => q_bd (f_45 i1 j1 S) (fun r_4 S_5 => if r_4 ≤ x4 then (b_119_95 i0 i1 j1 x2 x3 S_5) else (if x2 ≤ x3 then (b_119_95 i0 i1 j1 x2 x3 S_5) else (q_ck (v_in x4 96) (q_let (S_5.1 (25, i1, j1) x4.toNatClampNeg) (fun y_9 => if y_9 = (-1) then (b_119_89 (b_119_44 n) i0 i1 j1 x2 x3 x4 S_5) else (q_ck (v_in x4 96) (q_let (S_5.1 (25, i1, j1) x4.toNatClampNeg) (fun y_10 => q_bd (f_92 i0 y_10 S_5) (fun r_11 S_12 => q_bd (f_34 r_11.1 r_11.2 (x2 - x3) S_12) (fun r_13 S_14 => q_let (x3 + r_13) (fun y_15 => b_119_89 (b_119_44 n) i0 i1 j1 x2 y_15 x4 S_14)))))))))))
theorem sb_119_44 : ∀ (n : Nat) (i0 : Nat) (i1 : Nat) (j1 : Nat) (x2 : Int32) (x3 : Int32) (x4 : Int32) (S : QS), q_Sim 119 44 [(0, .inr (.inr (9, i0, 0))), (1, .inr (.inr (4, i1, j1))), (2, .inl x2), (3, .inl x3), (4, .inl x4)] [] (q_V S) q_U (b_119_44 n i0 i1 j1 x2 x3 x4 S)
  | 0, _, _, _, _, _, _, _ => q_Sim.none
  | n + 1, i0, i1, j1, x2, x3, x4, S => by
    rw [b_119_44]
    refine q_Sim.steps vc_119 2 (pc' := 47) (lv' := [(0, .inr (.inr (9, i0, 0))), (1, .inr (.inr (4, i1, j1))), (2, .inl x2), (3, .inl x3), (4, .inl x4)]) (st' := [.inr (.inr (4, i1, j1)), .inl x4]) (V' := q_V S) rfl ?_
    refine q_Sim.call vc_119 (as := [.inr (.inr (4, i1, j1))]) (pc' := 50) (lv' := [(0, .inr (.inr (9, i0, 0))), (1, .inr (.inr (4, i1, j1))), (2, .inl x2), (3, .inl x3), (4, .inl x4)]) (st' := [.inl x4]) (S := S) rfl (rc_45 i1 j1) (s_45 i1 j1 S) (fun r_4 S_5 => ?_)
    refine q_Sim.br vc_119 (c := r_4 ≤ x4) (t := 95) (f := 53) (lv' := [(0, .inr (.inr (9, i0, 0))), (1, .inr (.inr (4, i1, j1))), (2, .inl x2), (3, .inl x3), (4, .inl x4)]) (st' := []) (V' := q_V S_5) rfl ?_ ?_
    · exact q_Sim.sub2 (lv' := [(0, .inr (.inr (9, i0, 0))), (1, .inr (.inr (4, i1, j1))), (2, .inl x2), (3, .inl x3)]) [0, 1, 2, 3] rfl (by decide) ⟨rfl, rfl, rfl, rfl, trivial⟩ (sb_119_95 i0 i1 j1 x2 x3 S_5)
    · refine q_Sim.steps vc_119 2 (pc' := 55) (lv' := [(0, .inr (.inr (9, i0, 0))), (1, .inr (.inr (4, i1, j1))), (2, .inl x2), (3, .inl x3), (4, .inl x4)]) (st' := [.inl x2, .inl x3]) (V' := q_V S_5) rfl ?_
      refine q_Sim.br vc_119 (c := x2 ≤ x3) (t := 95) (f := 58) (lv' := [(0, .inr (.inr (9, i0, 0))), (1, .inr (.inr (4, i1, j1))), (2, .inl x2), (3, .inl x3), (4, .inl x4)]) (st' := []) (V' := q_V S_5) rfl ?_ ?_
      · exact q_Sim.sub2 (lv' := [(0, .inr (.inr (9, i0, 0))), (1, .inr (.inr (4, i1, j1))), (2, .inl x2), (3, .inl x3)]) [0, 1, 2, 3] rfl (by decide) ⟨rfl, rfl, rfl, rfl, trivial⟩ (sb_119_95 i0 i1 j1 x2 x3 S_5)
      · refine q_Sim.steps vc_119 3 (pc' := 64) (lv' := [(0, .inr (.inr (9, i0, 0))), (1, .inr (.inr (4, i1, j1))), (2, .inl x2), (3, .inl x3), (4, .inl x4)]) (st' := [.inl x4, .inr (.inr (25, i1, j1))]) (V' := q_V S_5) rfl ?_
        refine q_Sim.ck vc_119 (c := v_in x4 96) (pc' := 65) (lv' := [(0, .inr (.inr (9, i0, 0))), (1, .inr (.inr (4, i1, j1))), (2, .inl x2), (3, .inl x3), (4, .inl x4)]) (st' := [.inl (S_5.1 (25, i1, j1) x4.toNatClampNeg)]) (V' := q_V S_5) rfl ?_
        refine q_Sim.letI (fun y_9 => ?_)
        refine q_Sim.steps vc_119 1 (pc' := 66) (lv' := [(0, .inr (.inr (9, i0, 0))), (1, .inr (.inr (4, i1, j1))), (2, .inl x2), (3, .inl x3), (4, .inl x4)]) (st' := [.inl (-1), .inl y_9]) (V' := q_V S_5) rfl ?_
        refine q_Sim.br vc_119 (c := y_9 = (-1)) (t := 89) (f := 69) (lv' := [(0, .inr (.inr (9, i0, 0))), (1, .inr (.inr (4, i1, j1))), (2, .inl x2), (3, .inl x3), (4, .inl x4)]) (st' := []) (V' := q_V S_5) rfl ?_ ?_
        · exact q_Sim.sub2 (lv' := [(0, .inr (.inr (9, i0, 0))), (1, .inr (.inr (4, i1, j1))), (2, .inl x2), (3, .inl x3), (4, .inl x4)]) [0, 1, 2, 3, 4] rfl (by decide) ⟨rfl, rfl, rfl, rfl, rfl, trivial⟩ (sb_119_89 (b_119_44 n) (sb_119_44 n) i0 i1 j1 x2 x3 x4 S_5)
        · refine q_Sim.steps vc_119 5 (pc' := 77) (lv' := [(0, .inr (.inr (9, i0, 0))), (1, .inr (.inr (4, i1, j1))), (2, .inl x2), (3, .inl x3), (4, .inl x4)]) (st' := [.inl x4, .inr (.inr (25, i1, j1)), .inr (.inr (9, i0, 0)), .inl x3]) (V' := q_V S_5) rfl ?_
          refine q_Sim.ck vc_119 (c := v_in x4 96) (pc' := 78) (lv' := [(0, .inr (.inr (9, i0, 0))), (1, .inr (.inr (4, i1, j1))), (2, .inl x2), (3, .inl x3), (4, .inl x4)]) (st' := [.inl (S_5.1 (25, i1, j1) x4.toNatClampNeg), .inr (.inr (9, i0, 0)), .inl x3]) (V' := q_V S_5) rfl ?_
          refine q_Sim.letI (fun y_10 => ?_)
          refine q_Sim.call vc_119 (as := [.inr (.inr (9, i0, 0)), .inl y_10]) (pc' := 81) (lv' := [(0, .inr (.inr (9, i0, 0))), (1, .inr (.inr (4, i1, j1))), (2, .inl x2), (3, .inl x3), (4, .inl x4)]) (st' := [.inl x3]) (S := S_5) rfl (rc_92 i0 y_10) (s_92 i0 y_10 S_5) (fun r_11 S_12 => ?_)
          refine q_Sim.steps vc_119 3 (pc' := 84) (lv' := [(0, .inr (.inr (9, i0, 0))), (1, .inr (.inr (4, i1, j1))), (2, .inl x2), (3, .inl x3), (4, .inl x4)]) (st' := [.inl (x2 - x3), .inr (.inr (3, r_11.1, r_11.2)), .inl x3]) (V' := q_V S_12) rfl ?_
          refine q_Sim.call vc_119 (as := [.inr (.inr (3, r_11.1, r_11.2)), .inl (x2 - x3)]) (pc' := 87) (lv' := [(0, .inr (.inr (9, i0, 0))), (1, .inr (.inr (4, i1, j1))), (2, .inl x2), (3, .inl x3), (4, .inl x4)]) (st' := [.inl x3]) (S := S_12) rfl (rc_34 r_11.1 r_11.2 (x2 - x3)) (s_34 r_11.1 r_11.2 (x2 - x3) S_12) (fun r_13 S_14 => ?_)
          refine q_Sim.steps vc_119 1 (pc' := 88) (lv' := [(0, .inr (.inr (9, i0, 0))), (1, .inr (.inr (4, i1, j1))), (2, .inl x2), (3, .inl x3), (4, .inl x4)]) (st' := [.inl (x3 + r_13)]) (V' := q_V S_14) rfl ?_
          refine q_Sim.letI (fun y_15 => ?_)
          refine q_Sim.steps vc_119 1 (pc' := 89) (lv' := [(3, .inl y_15), (0, .inr (.inr (9, i0, 0))), (1, .inr (.inr (4, i1, j1))), (2, .inl x2), (4, .inl x4)]) (st' := []) (V' := q_V S_14) rfl ?_
          exact q_Sim.sub2 (lv' := [(0, .inr (.inr (9, i0, 0))), (1, .inr (.inr (4, i1, j1))), (2, .inl x2), (3, .inl y_15), (4, .inl x4)]) [0, 1, 2, 3, 4] rfl (by decide) ⟨rfl, rfl, rfl, rfl, rfl, trivial⟩ (sb_119_89 (b_119_44 n) (sb_119_44 n) i0 i1 j1 x2 y_15 x4 S_14)
def f_119 (i0 : Nat) (i1 : Nat) (j1 : Nat) (S : QS) : Option ((Unit) × QS) := q_let (q_set S (4, i1, j1) 4 ((S.1 (4, i1, j1) 4) + ((S.1 (4, i1, j1) 2) + (S.1 (4, i1, j1) 3)))) (fun S_1 => q_let ((S_1.1 (4, i1, j1) 4) / 100) (fun y_2 => q_let (q_set S_1 (4, i1, j1) 4 ((S_1.1 (4, i1, j1) 4) - (y_2 * 100))) (fun S_3 => b_119_44 q_N i0 i1 j1 y_2 0 0 S_3)))
theorem s_119 (i0 : Nat) (i1 : Nat) (j1 : Nat) (S : QS) : q_Sim 119 0 [(0, .inr (.inr (9, i0, 0))), (1, .inr (.inr (4, i1, j1)))] [] (q_V S) q_U (f_119 i0 i1 j1 S) := by
  unfold f_119
  refine q_Sim.steps vc_119 9 (pc' := 15) (lv' := [(0, .inr (.inr (9, i0, 0))), (1, .inr (.inr (4, i1, j1)))]) (st' := [.inl ((S.1 (4, i1, j1) 4) + ((S.1 (4, i1, j1) 2) + (S.1 (4, i1, j1) 3))), .inr (.inr (4, i1, j1))]) (V' := q_V S) rfl ?_
  refine q_Sim.steps vc_119 1 (pc' := 18) (lv' := [(0, .inr (.inr (9, i0, 0))), (1, .inr (.inr (4, i1, j1)))]) (st' := []) (V' := q_V (q_set S (4, i1, j1) 4 ((S.1 (4, i1, j1) 4) + ((S.1 (4, i1, j1) 2) + (S.1 (4, i1, j1) 3))))) rfl ?_
  refine q_Sim.letS (fun S_1 => ?_)
  refine q_Sim.steps vc_119 3 (pc' := 24) (lv' := [(0, .inr (.inr (9, i0, 0))), (1, .inr (.inr (4, i1, j1)))]) (st' := [.inl 100, .inl (S_1.1 (4, i1, j1) 4)]) (V' := q_V S_1) rfl ?_
  refine q_Sim.okd vc_119 (c := decide (¬ (100 : Int32) = 0)) (pc' := 25) (lv' := [(0, .inr (.inr (9, i0, 0))), (1, .inr (.inr (4, i1, j1)))]) (st' := [.inl ((S_1.1 (4, i1, j1) 4) / 100)]) (V' := q_V S_1) rfl (by decide) ?_
  refine q_Sim.letI (fun y_2 => ?_)
  refine q_Sim.steps vc_119 8 (pc' := 36) (lv' := [(2, .inl y_2), (0, .inr (.inr (9, i0, 0))), (1, .inr (.inr (4, i1, j1)))]) (st' := [.inl ((S_1.1 (4, i1, j1) 4) - (y_2 * 100)), .inr (.inr (4, i1, j1))]) (V' := q_V S_1) rfl ?_
  refine q_Sim.steps vc_119 1 (pc' := 39) (lv' := [(2, .inl y_2), (0, .inr (.inr (9, i0, 0))), (1, .inr (.inr (4, i1, j1)))]) (st' := []) (V' := q_V (q_set S_1 (4, i1, j1) 4 ((S_1.1 (4, i1, j1) 4) - (y_2 * 100)))) rfl ?_
  refine q_Sim.letS (fun S_3 => ?_)
  refine q_Sim.steps vc_119 4 (pc' := 44) (lv' := [(4, .inl 0), (3, .inl 0), (2, .inl y_2), (0, .inr (.inr (9, i0, 0))), (1, .inr (.inr (4, i1, j1)))]) (st' := []) (V' := q_V S_3) rfl ?_
  exact q_Sim.sub2 (lv' := [(0, .inr (.inr (9, i0, 0))), (1, .inr (.inr (4, i1, j1))), (2, .inl y_2), (3, .inl 0), (4, .inl 0)]) [0, 1, 2, 3, 4] rfl (by decide) ⟨rfl, rfl, rfl, rfl, rfl, trivial⟩ (sb_119_44 q_N i0 i1 j1 y_2 0 0 S_3)
