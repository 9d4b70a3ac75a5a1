/-! ===== the methods that make cells, by hand ===== -/
/-- the rounds that a loop may take -/
def q_N : Nat := 20000
theorem q_Sim.sub2 {T : Type} {m pc : Nat} {lv lv' : VL} {st : List VV} {V : VH} {tv : T → Option VV} {e : Option (T × QS)} (ks : List Nat) (hk : lv'.map (fun q => q.1) = ks) (hn : ks.Nodup) (h : q_has lv lv') (g : q_Sim m pc lv' st V tv e) : q_Sim m pc lv st V tv e := q_Sim.sub (by rw [hk]; exact hn) h g
def q_mk (S : QS) (a : VA) (n : Nat) : QS := (fun b => if b = a then fun _ => 0 else S.1 b, fun b => if b = a then fun _ => 0 else S.2.1 b, S.2.2.1, S.2.2.2.1 + 1, S.2.2.2.2 + n)
def q_dH (S : QS) (y n : Nat) : QS := (S.1, S.2.1, (S.2.2.1.1, S.2.2.1.2.1, fun a b => if a = y ∧ b = n then true else S.2.2.1.2.2.1 a b, S.2.2.1.2.2.2), S.2.2.2)
def q_dF (S : QS) (y n : Nat) : QS := (S.1, S.2.1, (S.2.2.1.1, S.2.2.1.2.1, S.2.2.1.2.2.1, fun a b => if a = y ∧ b = n then true else S.2.2.1.2.2.2.1 a b, S.2.2.1.2.2.2.2), S.2.2.2)
def q_dT (S : QS) (y n : Nat) : QS := (S.1, S.2.1, (S.2.2.1.1, S.2.2.1.2.1, S.2.2.1.2.2.1, S.2.2.1.2.2.2.1, fun a b => if a = y ∧ b = n then true else S.2.2.1.2.2.2.2.1 a b, S.2.2.1.2.2.2.2.2), S.2.2.2)
def q_dP (S : QS) (n : Nat) : QS := (S.1, S.2.1, (S.2.2.1.1, S.2.2.1.2.1, S.2.2.1.2.2.1, S.2.2.1.2.2.2.1, S.2.2.1.2.2.2.2.1, n, fun a => if a = n then true else S.2.2.1.2.2.2.2.2.2 a), S.2.2.2)
/-- a new hive: its row of places, its numbers -/
def q_newH (S : QS) (y n : Nat) : QS := q_row (q_dH (q_mk (q_mk S (4, y, n) 12) (25, y, n) 96) y n) (4, y, n) (fun k => if k = 5 then -1 else 0)
def q_newF (S : QS) (y n : Nat) : QS := q_dF (q_mk (q_mk S (3, y, n) 2) (24, y, n) 64) y n
def q_newT (S : QS) (y n : Nat) : QS := q_row (q_dT (q_mk S (8, y, n) 9) y n) (8, y, n) (fun k => if k = 2 ∨ k = 3 ∨ k = 6 ∨ k = 8 then -1 else 0)
def f_91 (i0 : Nat) (x1 : Int32) (S : QS) : Option ((Nat × Nat) × QS) := q_ck (v_in x1 40) (if S.2.2.1.2.2.1 i0 x1.toNatClampNeg = true then some ((i0, x1.toNatClampNeg), S) else some ((i0, x1.toNatClampNeg), q_newH S i0 x1.toNatClampNeg))
def f_92 (i0 : Nat) (x1 : Int32) (S : QS) : Option ((Nat × Nat) × QS) := q_ck (v_in x1 200) (if S.2.2.1.2.2.2.1 i0 x1.toNatClampNeg = true then some ((i0, x1.toNatClampNeg), S) else some ((i0, x1.toNatClampNeg), q_newF S i0 x1.toNatClampNeg))
def f_93 (i0 : Nat) (x1 : Int32) (S : QS) : Option ((Nat × Nat) × QS) := q_ck (v_in x1 200) (if S.2.2.1.2.2.2.2.1 i0 x1.toNatClampNeg = true then some ((i0, x1.toNatClampNeg), S) else some ((i0, x1.toNatClampNeg), q_newT S i0 x1.toNatClampNeg))
theorem rc_91 (i0 : Nat) (x1 : Int32) : v_rcv 91 [.inr (.inr (9, i0, 0)), .inl x1] = true := rfl
theorem rc_92 (i0 : Nat) (x1 : Int32) : v_rcv 92 [.inr (.inr (9, i0, 0)), .inl x1] = true := rfl
theorem rc_93 (i0 : Nat) (x1 : Int32) : v_rcv 93 [.inr (.inr (9, i0, 0)), .inl x1] = true := rfl
theorem s_91 (i0 : Nat) (x1 : Int32) (S : QS) : q_Sim 91 0 [(0, .inr (.inr (9, i0, 0))), (1, .inl x1)] [] (q_V S) (q_A 4) (f_91 i0 x1 S) := sorry
theorem s_92 (i0 : Nat) (x1 : Int32) (S : QS) : q_Sim 92 0 [(0, .inr (.inr (9, i0, 0))), (1, .inl x1)] [] (q_V S) (q_A 3) (f_92 i0 x1 S) := sorry
theorem s_93 (i0 : Nat) (x1 : Int32) (S : QS) : q_Sim 93 0 [(0, .inr (.inr (9, i0, 0))), (1, .inl x1)] [] (q_V S) (q_A 8) (f_93 i0 x1 S) := sorry
/-- the pairs' row, made anew if it is too short -/
def f_69 (S : QS) : Option (Unit × QS) := q_let (S.1 (5, 0, 0) 4 * (S.1 (5, 0, 0) 4 - 1) / 2) (fun x => if Int32.ofNat S.2.2.1.2.2.2.2.2.1 < x then q_ck (decide (¬ x * 2 < 0) && decide ((x * 2).toNatClampNeg ≤ 50000) && !(S.2.2.1.2.2.2.2.2.2 (x * 2).toNatClampNeg)) (some ((), q_dP (q_mk S (30, (x * 2).toNatClampNeg, 0) (x * 2).toNatClampNeg) (x * 2).toNatClampNeg)) else some ((), S))
theorem rc_69 : v_rcv 69 [.inr (.inr (5, 0, 0))] = true := rfl
theorem s_69 (S : QS) : q_Sim 69 0 [(0, .inr (.inr (5, 0, 0)))] [] (q_V S) q_U (f_69 S) := sorry
