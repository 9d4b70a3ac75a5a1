def q_p1 (I : VA → Nat → Int32) (k : Nat) : VA → Nat → Int32 := fun a => if a = (11, 0, 0) then upd (I (11, 0, 0)) k (-1) else I a
theorem z_p1 {I : VA → Nat → Int32} {k : Nat} {a : VA} (h : a ≠ (11, 0, 0)) : q_p1 I k a = I a := if_neg h
/-- the reference's places and bench are empty at first -/
def q_pl (I : VA → Nat → Int32) : VA → Nat → Int32 := fun a => if a = (40, 0, 0) then (fun k => if 16850 ≤ k ∧ k < 16874 then -1 else if 10 ≤ k ∧ k < 3850 then -1 else I (40, 0, 0) k) else I a
theorem vc_185 : v_code 185 = k_185 := rfl
theorem ct_pl2 {R : VA → Nat → VA} (hR : R (11, 0, 0) 0 = (40, 0, 0)) (l : List VA) (cn sn : Nat) : ∀ (n j : Nat) (J : VA → Nat → Int32), j ≤ 24 → 24 - j < n → q_run 185 156 [(1, .inl (nI j)), (0, .inr (.inr (11, 0, 0)))] [] (q_C J R l cn sn) none (q_C (fun a => if a = (40, 0, 0) then (fun k => if 16850 + j ≤ k ∧ k < 16874 then -1 else J (40, 0, 0) k) else J a) R l cn sn) := by
  intro n
  induction n with
  | zero => intro j J _ h; omega
  | succ n ih =>
    intro j J hj hn
    refine q_run.steps vc_185 2 (pc' := 159) (lv' := [(1, .inl (nI j)), (0, .inr (.inr (11, 0, 0)))]) (st' := [.inl 24, .inl (nI j)]) (V' := q_C J R l cn sn) rfl ?_
    by_cases hc : j = 24
    · subst hc
      refine q_run.brT vc_185 (c := (24 : Int32) ≤ nI 24) (t := 179) (f := 162) (lv' := [(1, .inl (nI 24)), (0, .inr (.inr (11, 0, 0)))]) (st' := []) (V' := q_C J R l cn sn) rfl (by decide) ?_
      have e : (fun a => if a = (40, 0, 0) then (fun k => if 16850 + 24 ≤ k ∧ k < 16874 then -1 else J (40, 0, 0) k) else J a) = J := by
        funext a
        split
        · rename_i h
          subst h
          funext k
          rw [if_neg (by omega)]
        · rfl
      rw [e]
      exact q_run.ret vc_185 rfl
    · refine q_run.brF vc_185 (c := (24 : Int32) ≤ nI j) (t := 179) (f := 162) (lv' := [(1, .inl (nI j)), (0, .inr (.inr (11, 0, 0)))]) (st' := []) (V' := q_C J R l cn sn) rfl (by
        rw [show (24 : Int32) = nI 24 from rfl, nI_leI (by omega) (by omega)]
        omega) ?_
      refine q_run.steps vc_185 6 (pc' := 172) (lv' := [(1, .inl (nI j)), (0, .inr (.inr (11, 0, 0)))]) (st' := [.inl (-1), .inl (16850 + nI j), .inr (.inr (R (11, 0, 0) 0))]) (V' := q_C J R l cn sn) rfl ?_
      rw [hR, show (16850 : Int32) = nI 16850 from rfl, nI_add]
      refine q_run.okd vc_185 (c := v_in (nI (16850 + j)) 19520) (s' := (173, [(1, .inl (nI j)), (0, .inr (.inr (11, 0, 0)))], [], v_setI (q_C J R l cn sn) (40, 0, 0) (nI (16850 + j)).toNatClampNeg (-1))) rfl (w_in (by omega) (by omega)) ?_
      rw [nI_clamp (by omega)]
      refine q_run.steps vc_185 2 (pc' := 156) (lv' := [(1, .inl (nI j + 1)), (0, .inr (.inr (11, 0, 0)))]) (st' := []) (V' := v_setI (q_C J R l cn sn) (40, 0, 0) (16850 + j) (-1)) rfl ?_
      rw [nI_1]
      have h2 := ih (j + 1) (fun a => if a = (40, 0, 0) then upd (J (40, 0, 0)) (16850 + j) (-1) else J a) (by omega) (by omega)
      have e : (fun a => if a = (40, 0, 0) then (fun k => if 16850 + (j + 1) ≤ k ∧ k < 16874 then -1 else (if ((40, 0, 0) : VA) = (40, 0, 0) then upd (J (40, 0, 0)) (16850 + j) (-1) else J (40, 0, 0)) k) else (if a = (40, 0, 0) then upd (J (40, 0, 0)) (16850 + j) (-1) else J a)) = (fun a => if a = (40, 0, 0) then (fun k => if 16850 + j ≤ k ∧ k < 16874 then -1 else J (40, 0, 0) k) else J a) := by
        funext a
        by_cases ha : a = (40, 0, 0)
        · rw [if_pos ha, if_pos ha]
          funext k
          rw [if_pos rfl]
          unfold upd
          by_cases hk : k = 16850 + j
          · subst hk
            rw [if_neg (by omega), if_pos rfl, if_pos (by omega)]
          · by_cases h3 : 16850 + (j + 1) ≤ k ∧ k < 16874
            · rw [if_pos h3, if_pos (by omega)]
            · rw [if_neg h3, if_neg hk, if_neg (by omega)]
        · rw [if_neg ha, if_neg ha, if_neg ha]
      rw [e] at h2
      exact h2
theorem ct_pl1 {R : VA → Nat → VA} (hR : R (11, 0, 0) 0 = (40, 0, 0)) (l : List VA) (cn sn : Nat) : ∀ (n j : Nat) (J : VA → Nat → Int32), j ≤ 3840 → 3840 - j < n → q_run 185 131 [(1, .inl (nI j)), (0, .inr (.inr (11, 0, 0)))] [] (q_C J R l cn sn) none (q_C (fun a => if a = (40, 0, 0) then (fun k => if 16850 ≤ k ∧ k < 16874 then -1 else if 10 + j ≤ k ∧ k < 3850 then -1 else J (40, 0, 0) k) else J a) R l cn sn) := by
  intro n
  induction n with
  | zero => intro j J _ h; omega
  | succ n ih =>
    intro j J hj hn
    refine q_run.steps vc_185 2 (pc' := 135) (lv' := [(1, .inl (nI j)), (0, .inr (.inr (11, 0, 0)))]) (st' := [.inl 3840, .inl (nI j)]) (V' := q_C J R l cn sn) rfl ?_
    by_cases hc : j = 3840
    · subst hc
      refine q_run.brT vc_185 (c := (3840 : Int32) ≤ nI 3840) (t := 154) (f := 138) (lv' := [(1, .inl (nI 3840)), (0, .inr (.inr (11, 0, 0)))]) (st' := []) (V' := q_C J R l cn sn) rfl (by decide) ?_
      refine q_run.steps vc_185 2 (pc' := 156) (lv' := [(1, .inl 0), (0, .inr (.inr (11, 0, 0)))]) (st' := []) (V' := q_C J R l cn sn) rfl ?_
      have h2 := ct_pl2 hR l cn sn 25 0 J (by omega) (by omega)
      have e : (fun a => if a = (40, 0, 0) then (fun k => if 16850 + 0 ≤ k ∧ k < 16874 then -1 else J (40, 0, 0) k) else J a) = (fun a => if a = (40, 0, 0) then (fun k => if 16850 ≤ k ∧ k < 16874 then -1 else if 10 + 3840 ≤ k ∧ k < 3850 then -1 else J (40, 0, 0) k) else J a) := by
        funext a
        split
        · funext k
          rw [if_neg (show ¬ (10 + 3840 ≤ k ∧ k < 3850) by omega)]
        · rfl
      rw [e] at h2
      exact h2
    · refine q_run.brF vc_185 (c := (3840 : Int32) ≤ nI j) (t := 154) (f := 138) (lv' := [(1, .inl (nI j)), (0, .inr (.inr (11, 0, 0)))]) (st' := []) (V' := q_C J R l cn sn) rfl (by
        rw [show (3840 : Int32) = nI 3840 from rfl, nI_leI (by omega) (by omega)]
        omega) ?_
      refine q_run.steps vc_185 6 (pc' := 147) (lv' := [(1, .inl (nI j)), (0, .inr (.inr (11, 0, 0)))]) (st' := [.inl (-1), .inl (10 + nI j), .inr (.inr (R (11, 0, 0) 0))]) (V' := q_C J R l cn sn) rfl ?_
      rw [hR, show (10 : Int32) = nI 10 from rfl, nI_add]
      refine q_run.okd vc_185 (c := v_in (nI (10 + j)) 19520) (s' := (148, [(1, .inl (nI j)), (0, .inr (.inr (11, 0, 0)))], [], v_setI (q_C J R l cn sn) (40, 0, 0) (nI (10 + j)).toNatClampNeg (-1))) rfl (w_in (by omega) (by omega)) ?_
      rw [nI_clamp (by omega)]
      refine q_run.steps vc_185 2 (pc' := 131) (lv' := [(1, .inl (nI j + 1)), (0, .inr (.inr (11, 0, 0)))]) (st' := []) (V' := v_setI (q_C J R l cn sn) (40, 0, 0) (10 + j) (-1)) rfl ?_
      rw [nI_1]
      have h2 := ih (j + 1) (fun a => if a = (40, 0, 0) then upd (J (40, 0, 0)) (10 + j) (-1) else J a) (by omega) (by omega)
      have e : (fun a => if a = (40, 0, 0) then (fun k => if 16850 ≤ k ∧ k < 16874 then -1 else if 10 + (j + 1) ≤ k ∧ k < 3850 then -1 else (if ((40, 0, 0) : VA) = (40, 0, 0) then upd (J (40, 0, 0)) (10 + j) (-1) else J (40, 0, 0)) k) else (if a = (40, 0, 0) then upd (J (40, 0, 0)) (10 + j) (-1) else J a)) = (fun a => if a = (40, 0, 0) then (fun k => if 16850 ≤ k ∧ k < 16874 then -1 else if 10 + j ≤ k ∧ k < 3850 then -1 else J (40, 0, 0) k) else J a) := by
        funext a
        by_cases ha : a = (40, 0, 0)
        · rw [if_pos ha, if_pos ha]
          funext k
          rw [if_pos rfl]
          by_cases h0 : 16850 ≤ k ∧ k < 16874
          · rw [if_pos h0, if_pos h0]
          · rw [if_neg h0, if_neg h0]
            unfold upd
            by_cases hk : k = 10 + j
            · subst hk
              rw [if_neg (by omega), if_pos rfl, if_pos (by omega)]
            · by_cases h3 : 10 + (j + 1) ≤ k ∧ k < 3850
              · rw [if_pos h3, if_pos (by omega)]
              · rw [if_neg h3, if_neg hk, if_neg (by omega)]
        · rw [if_neg ha, if_neg ha, if_neg ha]
      rw [e] at h2
      exact h2
theorem ct_places {R : VA → Nat → VA} (hR : R (11, 0, 0) 0 = (40, 0, 0)) (l : List VA) (cn sn : Nat) (J : VA → Nat → Int32) : q_run 185 131 [(1, .inl 0), (0, .inr (.inr (11, 0, 0)))] [] (q_C J R l cn sn) none (q_C (q_pl J) R l cn sn) := ct_pl1 hR l cn sn 3841 0 J (by omega) (by omega)
