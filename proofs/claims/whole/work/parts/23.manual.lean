/-! ===== the methods that make cells, by hand ===== -/
/-- the rounds that a loop may take -/
def q_N : Nat := 20000
theorem q_Sim.sub2 {T : Type} {m pc : Nat} {lv lv' : VL} {st : List VV} {V : VH} {tv : T → Option VV} {e : Option (T × QS)} (ks : List Nat) (hk : lv'.map (fun q => q.1) = ks) (hn : ks.Nodup) (h : q_has lv lv') (g : q_Sim m pc lv' st V tv e) : q_Sim m pc lv st V tv e := q_Sim.sub (by rw [hk]; exact hn) h g
def q_mk (S : QS) (a : VA) (n : Nat) : QS := (fun b => if b = a then fun _ => 0 else S.1 b, fun b => if b = a then fun _ => 0 else S.2.1 b, S.2.2.1, S.2.2.2.1 + 1, S.2.2.2.2 + n)
def q_dH (S : QS) (y n : Nat) : QS := (S.1, S.2.1, (S.2.2.1.1, S.2.2.1.2.1, fun a b => if a = y ∧ b = n then true else S.2.2.1.2.2.1 a b, S.2.2.1.2.2.2), S.2.2.2)
def q_dF (S : QS) (y n : Nat) : QS := (S.1, S.2.1, (S.2.2.1.1, S.2.2.1.2.1, S.2.2.1.2.2.1, fun a b => if a = y ∧ b = n then true else S.2.2.1.2.2.2.1 a b, S.2.2.1.2.2.2.2), S.2.2.2)
def q_dT (S : QS) (y n : Nat) : QS := (S.1, S.2.1, (S.2.2.1.1, S.2.2.1.2.1, S.2.2.1.2.2.1, S.2.2.1.2.2.2.1, fun a b => if a = y ∧ b = n then true else S.2.2.1.2.2.2.2.1 a b, S.2.2.1.2.2.2.2.2), S.2.2.2)
def q_dP (S : QS) (n : Nat) : QS := (S.1, S.2.1, (S.2.2.1.1, S.2.2.1.2.1, S.2.2.1.2.2.1, S.2.2.1.2.2.2.1, S.2.2.1.2.2.2.2.1, n, fun a => if a = n then true else S.2.2.1.2.2.2.2.2.2 a), S.2.2.2)
/-- a new hive: its row of places, its numbers -/
def q_newH (S : QS) (y n : Nat) : QS := q_row (q_dH (q_mk (q_mk S (4, y, n) 12) (25, y, n) 96) y n) (4, y, n) (fun k => if k = 5 then -1 else 0)
def q_newF (S : QS) (y n : Nat) : QS := q_dF (q_mk (q_mk S (3, y, n) 2) (24, y, n) 64) y n
def q_newT (S : QS) (y n : Nat) : QS := q_row (q_dT (q_mk S (8, y, n) 9) y n) (8, y, n) (fun k => if k = 2 ∨ k = 3 ∨ k = 6 ∨ k = 8 then -1 else 0)
def f_91 (i0 : Nat) (x1 : Int32) (S : QS) : Option ((Nat × Nat) × QS) := q_ck (v_in x1 40) (if S.2.2.1.2.2.1 i0 x1.toNatClampNeg = true then some ((i0, x1.toNatClampNeg), S) else some ((i0, x1.toNatClampNeg), q_newH S i0 x1.toNatClampNeg))
def f_92 (i0 : Nat) (x1 : Int32) (S : QS) : Option ((Nat × Nat) × QS) := q_ck (v_in x1 200) (if S.2.2.1.2.2.2.1 i0 x1.toNatClampNeg = true then some ((i0, x1.toNatClampNeg), S) else some ((i0, x1.toNatClampNeg), q_newF S i0 x1.toNatClampNeg))
def f_93 (i0 : Nat) (x1 : Int32) (S : QS) : Option ((Nat × Nat) × QS) := q_ck (v_in x1 200) (if S.2.2.1.2.2.2.2.1 i0 x1.toNatClampNeg = true then some ((i0, x1.toNatClampNeg), S) else some ((i0, x1.toNatClampNeg), q_newT S i0 x1.toNatClampNeg))
theorem rc_91 (i0 : Nat) (x1 : Int32) : v_rcv 91 [.inr (.inr (9, i0, 0)), .inl x1] = true := rfl
theorem rc_92 (i0 : Nat) (x1 : Int32) : v_rcv 92 [.inr (.inr (9, i0, 0)), .inl x1] = true := rfl
theorem rc_93 (i0 : Nat) (x1 : Int32) : v_rcv 93 [.inr (.inr (9, i0, 0)), .inl x1] = true := rfl
theorem q_Sim.ckh {T : Type} {m pc : Nat} {lv : VL} {st : List VV} {V : VH} {tv : T → Option VV} {e : Option (T × QS)} {cd : List VE} (hc : v_code m = cd) {c : Bool} {pc' : Nat} {lv' : VL} {st' : List VV} {V' : VH} (h : v_1 cd (pc, lv, st, V) = v_ok c (.inl (pc', lv', st', V'))) (g : c = true → q_Sim m pc' lv' st' V' tv e) : q_Sim m pc lv st V tv (q_ck c e) := by
  cases c with
  | true => exact q_Sim.one hc h (g rfl)
  | false => intro r S' he; cases he
/-- a run, from any heap -/
def q_run (m pc : Nat) (lv : VL) (st : List VV) (V : VH) (r : Option VV) (V1 : VH) : Prop := ∃ n, v_go n m (pc, lv, st, V) = some (r, V1)
theorem q_run.steps {m pc : Nat} {lv : VL} {st : List VV} {V V1 : VH} {r : Option VV} {cd : List VE} (hc : v_code m = cd) (k : Nat) {pc' : Nat} {lv' : VL} {st' : List VV} {V' : VH} (h : v_n k cd (pc, lv, st, V) = some (pc', lv', st', V')) (g : q_run m pc' lv' st' V' r V1) : q_run m pc lv st V r V1 := by
  obtain ⟨n, hn⟩ := g
  exact ⟨n + k, v_n_go hc h hn⟩
theorem q_run.okd {m pc : Nat} {lv : VL} {st : List VV} {V V1 : VH} {r : Option VV} {cd : List VE} (hc : v_code m = cd) {c : Bool} {s' : VS} (h : v_1 cd (pc, lv, st, V) = v_ok c (.inl s')) (hcc : c = true) (g : q_run m s'.1 s'.2.1 s'.2.2.1 s'.2.2.2 r V1) : q_run m pc lv st V r V1 := by
  subst hcc
  obtain ⟨n, hn⟩ := g
  refine ⟨n + 1, ?_⟩
  unfold v_go
  rw [hc, h]
  exact hn
theorem q_run.ret {m pc : Nat} {lv : VL} {st : List VV} {V : VH} {r : Option VV} {cd : List VE} (hc : v_code m = cd) (h : v_1 cd (pc, lv, st, V) = some (.inr (.inl (r, V)))) : q_run m pc lv st V r V := by
  refine ⟨1, ?_⟩
  unfold v_go
  rw [hc, h]
theorem q_Sim.callV {T : Type} {m pc : Nat} {lv : VL} {st : List VV} {V : VH} {tv : T → Option VV} {e : Option (T × QS)} {cd : List VE} (hc : v_code m = cd) {m2 : Nat} {as : List VV} {pc' : Nat} {lv' : VL} {st' : List VV} {r : Option VV} {V1 : VH} (h : v_1 cd (pc, lv, st, V) = some (.inr (.inr (m2, as, (pc', lv', st', V))))) (hr : v_rcv m2 as = true) (c : q_run m2 0 (v_args 0 as) [] V r V1) (g : q_Sim m pc' lv' (r.toList ++ st') V1 tv e) : q_Sim m pc lv st V tv e := by
  intro r' S' he
  obtain ⟨n1, h1⟩ := c
  obtain ⟨n2, h2⟩ := g r' S' he
  refine ⟨n1 + n2 + 1, ?_⟩
  unfold v_go
  rw [hc, h]
  dsimp only
  rw [hr]
  dsimp only
  rw [v_go_mono n2 h1]
  dsimp only
  have h3 := v_go_mono n1 h2
  rw [Nat.add_comm] at h3
  exact h3
theorem q_R_cong {d d' : QD} {t i j k : Nat} (h1 : d.1 = d'.1) (h2 : d.2.1 = d'.2.1) (h3 : d.2.2.2.2.2.1 = d'.2.2.2.2.2.1) (hH : t ≠ 36 ∨ (t = 36 ∧ d.2.2.1 = d'.2.2.1)) (hF : t ≠ 37 ∨ (t = 37 ∧ d.2.2.2.1 = d'.2.2.2.1)) (hT : t ≠ 38 ∨ (t = 38 ∧ d.2.2.2.2.1 = d'.2.2.2.2.1)) : q_R d (t, i, j) k = q_R d' (t, i, j) k := by
  by_cases g10 : t = 10
  · subst g10
    show q_g i j (q_R9 d k) = q_g i j (q_R9 d' k)
    unfold q_R9
    rw [h1, h2]
  by_cases g5 : t = 5
  · subst g5
    show q_R5 d.2.2.2.2.2.1 i j k = q_R5 d'.2.2.2.2.2.1 i j k
    rw [h3]
  by_cases g36 : t = 36
  · subst g36
    rcases hH with h | ⟨-, h⟩
    · exact absurd rfl h
    · show q_o ((j == 0) && d.2.2.1 i k) (4, i, k) = q_o ((j == 0) && d'.2.2.1 i k) (4, i, k)
      rw [h]
  by_cases g37 : t = 37
  · subst g37
    rcases hF with h | ⟨-, h⟩
    · exact absurd rfl h
    · show q_o ((j == 0) && d.2.2.2.1 i k) (3, i, k) = q_o ((j == 0) && d'.2.2.2.1 i k) (3, i, k)
      rw [h]
  by_cases g38 : t = 38
  · subst g38
    rcases hT with h | ⟨-, h⟩
    · exact absurd rfl h
    · show q_o ((j == 0) && d.2.2.2.2.1 i k) (8, i, k) = q_o ((j == 0) && d'.2.2.2.2.1 i k) (8, i, k)
      rw [h]
  unfold q_R
  dsimp only
  split <;> first | rfl | (exfalso; omega) | (split <;> first | rfl | (exfalso; simp_all; done))
theorem q_al_cong {d d' : QD} {t i j : Nat} (hH : (t ≠ 4 ∧ t ≠ 25) ∨ d.2.2.1 i j = d'.2.2.1 i j) (hF : (t ≠ 3 ∧ t ≠ 24) ∨ d.2.2.2.1 i j = d'.2.2.2.1 i j) (hT : t ≠ 8 ∨ d.2.2.2.2.1 i j = d'.2.2.2.2.1 i j) (hP : t ≠ 30 ∨ d.2.2.2.2.2.2 i = d'.2.2.2.2.2.2 i) : q_al d (t, i, j) = q_al d' (t, i, j) := by
  unfold q_al
  dsimp only
  split
  · rcases hH with h | h
    · exact absurd rfl h.1
    · exact h
  · rcases hH with h | h
    · exact absurd rfl h.2
    · exact h
  · rcases hF with h | h
    · exact absurd rfl h.1
    · exact h
  · rcases hF with h | h
    · exact absurd rfl h.2
    · exact h
  · rcases hT with h | h
    · exact absurd rfl h
    · exact h
  · rcases hP with h | h
    · exact absurd rfl h
    · rw [h]
  · rfl
theorem vc_42 : v_code 42 = k_42 := rfl
theorem vc_91 : v_code 91 = k_91 := rfl
def q_c42 (V : VH) (i j : Nat) : VH := v_setI (v_setI (v_setI (v_setI (v_setI (v_setI (v_setI (v_setI (v_setI (v_setI (v_setI (v_setR (v_make V (25, i, j) 96) (4, i, j) 0 (25, i, j)) (4, i, j) 1 0) (4, i, j) 2 0) (4, i, j) 3 0) (4, i, j) 4 0) (4, i, j) 5 (-1)) (4, i, j) 6 0) (4, i, j) 7 0) (4, i, j) 8 0) (4, i, j) 9 0) (4, i, j) 10 0) (4, i, j) 11 0
theorem s_42 (V : VH) (i j : Nat) (h : V.2.2.2.1 (25, i, j) = false) : q_run 42 0 [(0, .inr (.inr (4, i, j)))] [] V none (q_c42 V i j) := by
  refine q_run.steps vc_42 4 (pc' := 7) (lv' := [(0, .inr (.inr (4, i, j)))]) (st' := [.inl 96, .inr (.inr (4, i, j))]) (V' := V) rfl ?_
  refine q_run.okd vc_42 (c := !(V.2.2.2.1 (25, i, j)) && true && true) (s' := (9, [(0, .inr (.inr (4, i, j)))], [.inr (.inr (25, i, j)), .inr (.inr (4, i, j))], v_make V (25, i, j) 96)) rfl (by rw [h]; rfl) ?_
  refine q_run.steps vc_42 34 (pc' := 67) (lv' := [(0, .inr (.inr (4, i, j)))]) (st' := []) (V' := q_c42 V i j) rfl ?_
  exact q_run.ret vc_42 rfl
theorem q_al_H (d : QD) (i j : Nat) : q_al d (4, i, j) = d.2.2.1 i j ∧ q_al d (25, i, j) = d.2.2.1 i j := ⟨rfl, rfl⟩
theorem q_R_dH (S : QS) (y n : Nat) (b : VA) (k : Nat) : q_R (q_dH S y n).2.2.1 b k = if b = (36, y, 0) ∧ k = n then (4, y, n) else q_R S.2.2.1 b k := by
  obtain ⟨t, i, j⟩ := b
  by_cases h36 : t = 36
  · subst h36
    show q_o ((j == 0) && (if i = y ∧ k = n then true else S.2.2.1.2.2.1 i k)) (4, i, k) = if ((36, i, j) : VA) = (36, y, 0) ∧ k = n then (4, y, n) else q_o ((j == 0) && S.2.2.1.2.2.1 i k) (4, i, k)
    by_cases hj : j = 0
    · subst hj
      by_cases hi : i = y ∧ k = n
      · obtain ⟨rfl, rfl⟩ := hi
        simp [q_o]
      · rw [if_neg hi, if_neg (fun h => hi ⟨by simpa using h.1, h.2⟩)]
    · have hb : (j == 0) = false := beq_eq_false_iff_ne.mpr hj
      have hq : ¬ (((36, i, j) : VA) = (36, y, 0) ∧ k = n) := fun h => hj (congrArg (fun q : VA => q.2.2) h.1)
      rw [hb, Bool.false_and, Bool.false_and, if_neg hq]
  · rw [if_neg (fun h => h36 (congrArg (fun q : VA => q.1) h.1))]
    exact q_R_cong rfl rfl rfl (Or.inl h36) (by by_cases h : t = 37 <;> simp [h, q_dH]) (by by_cases h : t = 38 <;> simp [h, q_dH])
theorem q_al_dH (S : QS) (y n : Nat) (b : VA) : q_al (q_dH S y n).2.2.1 b = if b = (25, y, n) then true else if b = (4, y, n) then true else q_al S.2.2.1 b := by
  obtain ⟨t, i, j⟩ := b
  by_cases h4 : t = 4 ∨ t = 25
  · have e : q_al (q_dH S y n).2.2.1 (t, i, j) = (if i = y ∧ j = n then true else q_al S.2.2.1 (t, i, j)) := by
      rcases h4 with rfl | rfl <;> rfl
    rw [e]
    by_cases hi : i = y ∧ j = n
    · obtain ⟨rfl, rfl⟩ := hi
      rcases h4 with rfl | rfl <;> simp
    · rw [if_neg hi, if_neg (fun h => hi (by simpa using congrArg (fun q : VA => q.2) h)), if_neg (fun h => hi (by simpa using congrArg (fun q : VA => q.2) h))]
  · rw [if_neg (fun h => h4 (Or.inr (congrArg (fun q : VA => q.1) h))), if_neg (fun h => h4 (Or.inl (congrArg (fun q : VA => q.1) h)))]
    exact q_al_cong (Or.inl ⟨fun h => h4 (Or.inl h), fun h => h4 (Or.inr h)⟩) (Or.inr rfl) (Or.inr rfl) (Or.inr rfl)
theorem s_91 (i0 : Nat) (x1 : Int32) (S : QS) : q_Sim 91 0 [(0, .inr (.inr (9, i0, 0))), (1, .inl x1)] [] (q_V S) (q_A 4) (f_91 i0 x1 S) := by
  unfold f_91
  refine q_Sim.steps vc_91 3 (pc' := 5) (lv' := [(0, .inr (.inr (9, i0, 0))), (1, .inl x1)]) (st' := [.inl x1, .inr (.inr (36, i0, 0))]) (V' := q_V S) rfl ?_
  refine q_Sim.ckh vc_91 (c := v_in x1 40) (pc' := 6) (lv' := [(0, .inr (.inr (9, i0, 0))), (1, .inl x1)]) (st' := [.inr (.inr (q_R S.2.2.1 (36, i0, 0) x1.toNatClampNeg))]) (V' := q_V S) rfl (fun hin => ?_)
  generalize hn : x1.toNatClampNeg = n
  have last : ∀ S2 : QS, S2.2.2.1.2.2.1 i0 n = true → q_Sim 91 22 [(0, .inr (.inr (9, i0, 0))), (1, .inl x1)] [] (q_V S2) (q_A 4) (some ((i0, n), S2)) := by
    intro S2 h2
    refine q_Sim.steps vc_91 3 (pc' := 27) (lv' := [(0, .inr (.inr (9, i0, 0))), (1, .inl x1)]) (st' := [.inl x1, .inr (.inr (36, i0, 0))]) (V' := q_V S2) rfl ?_
    refine q_Sim.okd vc_91 (c := v_in x1 40) (pc' := 28) (lv' := [(0, .inr (.inr (9, i0, 0))), (1, .inl x1)]) (st' := [.inr (.inr (q_R S2.2.2.1 (36, i0, 0) x1.toNatClampNeg))]) (V' := q_V S2) rfl hin ?_
    have e : q_R S2.2.2.1 (36, i0, 0) x1.toNatClampNeg = (4, i0, n) := by
      show q_o (S2.2.2.1.2.2.1 i0 x1.toNatClampNeg) (4, i0, x1.toNatClampNeg) = _
      rw [hn, h2]
      rfl
    rw [e]
    exact q_Sim.ret vc_91 rfl
  refine q_Sim.ite (fun h => ?_) (fun h => ?_)
  · have e : q_R S.2.2.1 (36, i0, 0) n = (4, i0, n) := by
      show q_o (S.2.2.1.2.2.1 i0 n) (4, i0, n) = _
      rw [h]
      rfl
    rw [e]
    refine q_Sim.steps vc_91 1 (pc' := 22) (lv' := [(0, .inr (.inr (9, i0, 0))), (1, .inl x1)]) (st' := []) (V' := q_V S) rfl ?_
    exact last S h
  · have hf : S.2.2.1.2.2.1 i0 n = false := by simpa using h
    have e : q_R S.2.2.1 (36, i0, 0) n = (0, 0, 0) := by
      show q_o (S.2.2.1.2.2.1 i0 n) (4, i0, n) = _
      rw [hf]
      rfl
    rw [e]
    refine q_Sim.steps vc_91 4 (pc' := 14) (lv' := [(0, .inr (.inr (9, i0, 0))), (1, .inl x1)]) (st' := [.inl x1, .inr (.inr (36, i0, 0))]) (V' := q_V S) rfl ?_
    subst hn
    refine q_Sim.okd vc_91 (c := !(S.2.2.1.2.2.1 i0 x1.toNatClampNeg) && true && true) (pc' := 17) (lv' := [(0, .inr (.inr (9, i0, 0))), (1, .inl x1)]) (st' := [.inr (.inr (4, i0, x1.toNatClampNeg)), .inl x1, .inr (.inr (36, i0, 0))]) (V' := v_make (q_V S) (4, i0, x1.toNatClampNeg) 12) rfl (by rw [hf]; rfl) ?_
    generalize hn : x1.toNatClampNeg = n at *
    refine q_Sim.steps vc_91 1 (pc' := 18) (lv' := [(0, .inr (.inr (9, i0, 0))), (1, .inl x1)]) (st' := [.inr (.inr (4, i0, n)), .inr (.inr (4, i0, n)), .inl x1, .inr (.inr (36, i0, 0))]) (V' := v_make (q_V S) (4, i0, n) 12) rfl ?_
    refine q_Sim.callV vc_91 (m2 := 42) (as := [.inr (.inr (4, i0, n))]) (pc' := 21) (lv' := [(0, .inr (.inr (9, i0, 0))), (1, .inl x1)]) (st' := [.inr (.inr (4, i0, n)), .inl x1, .inr (.inr (36, i0, 0))]) rfl rfl (s_42 _ i0 n ?_) ?_
    · show (if ((25, i0, n) : VA) = (4, i0, n) then true else q_al S.2.2.1 (25, i0, n)) = false
      rw [if_neg (by simp)]
      exact hf
    · refine q_Sim.okd vc_91 (c := v_in x1 40 && true) (pc' := 22) (lv' := [(0, .inr (.inr (9, i0, 0))), (1, .inl x1)]) (st' := []) (V' := v_setR (q_c42 (v_make (q_V S) (4, i0, n) 12) i0 n) (36, i0, 0) x1.toNatClampNeg (4, i0, n)) rfl (by rw [hin]; rfl) ?_
      rw [hn]
      have ev : v_setR (q_c42 (v_make (q_V S) (4, i0, n) 12) i0 n) (36, i0, 0) n (4, i0, n) = q_V (q_newH S i0 n) := by
        refine Prod.ext ?_ (Prod.ext ?_ (Prod.ext ?_ (Prod.ext ?_ (Prod.ext rfl rfl))))
        · funext b
          by_cases h4 : b = (4, i0, n)
          · subst h4
            funext k
            by_cases h5 : k = 5
            · subst h5
              simp [v_setR, v_rowR, q_c42, v_setI, v_rowI, v_make, q_V, q_newH, q_row, q_dH, q_mk, upd]
            · simp [v_setR, v_rowR, q_c42, v_setI, v_rowI, v_make, q_V, q_newH, q_row, q_dH, q_mk, upd, h5]
          · simp [v_setR, v_rowR, q_c42, v_setI, v_rowI, v_make, q_V, q_newH, q_row, q_dH, q_mk, h4]
        · funext b k
          show _ = q_R (q_dH (q_mk (q_mk S (4, i0, n) 12) (25, i0, n) 96) i0 n).2.2.1 b k
          rw [q_R_dH]
          by_cases h36 : b = (36, i0, 0)
          · subst h36
            by_cases hk : k = n
            · subst hk
              simp [v_setR, v_rowR, va_up]
            · simp [v_setR, v_rowR, va_up, hk, q_c42, v_setI, v_rowI, v_make, q_V, q_mk]
          · rw [if_neg (fun h => h36 h.1)]
            by_cases h4 : b = (4, i0, n)
            · subst h4
              by_cases hk : k = 0
              · subst hk
                simp [v_setR, v_rowR, va_up, q_c42, v_setI, v_rowI, v_make, q_V, q_mk]
                rfl
              · have e : q_R S.2.2.1 (4, i0, n) k = (0, 0, 0) := by
                  show q_t [25] k (i0, n) = (0, 0, 0)
                  obtain ⟨j, rfl⟩ : ∃ j, k = j + 1 := ⟨k - 1, by omega⟩
                  rfl
                simp [v_setR, v_rowR, va_up, q_c42, v_setI, v_rowI, v_make, q_V, q_mk, hk, e]
            · by_cases h25 : b = (25, i0, n)
              · subst h25
                have e : q_R S.2.2.1 (25, i0, n) k = (0, 0, 0) := rfl
                simp [v_setR, v_rowR, q_c42, v_setI, v_rowI, v_make, q_V, q_mk, e]
              · simp [v_setR, v_rowR, q_c42, v_setI, v_rowI, v_make, q_V, q_mk, h36, h4, h25]
        · funext b
          by_cases h4 : b = (4, i0, n)
          · subst h4
            simp [v_setR, v_rowR, q_c42, v_setI, v_rowI, v_make, q_V, q_newH, q_row, q_dH, q_mk]
          · simp [v_setR, v_rowR, q_c42, v_setI, v_rowI, v_make, q_V, q_newH, q_row, q_dH, q_mk, h4]
        · funext b
          show _ = q_al (q_dH (q_mk (q_mk S (4, i0, n) 12) (25, i0, n) 96) i0 n).2.2.1 b
          rw [q_al_dH]
          rfl
      rw [ev]
      exact last _ (by show (if i0 = i0 ∧ n = n then true else _) = true; simp)
theorem vc_28 : v_code 28 = k_28 := rfl
theorem vc_92 : v_code 92 = k_92 := rfl
def q_c28 (V : VH) (i j : Nat) : VH := v_setI (v_setR (v_make V (24, i, j) 64) (3, i, j) 0 (24, i, j)) (3, i, j) 1 0
theorem s_28 (V : VH) (i j : Nat) (h : V.2.2.2.1 (24, i, j) = false) : q_run 28 0 [(0, .inr (.inr (3, i, j)))] [] V none (q_c28 V i j) := by
  refine q_run.steps vc_28 4 (pc' := 7) (lv' := [(0, .inr (.inr (3, i, j)))]) (st' := [.inl 64, .inr (.inr (3, i, j))]) (V' := V) rfl ?_
  refine q_run.okd vc_28 (c := !(V.2.2.2.1 (24, i, j)) && true && true) (s' := (9, [(0, .inr (.inr (3, i, j)))], [.inr (.inr (24, i, j)), .inr (.inr (3, i, j))], v_make V (24, i, j) 64)) rfl (by rw [h]; rfl) ?_
  refine q_run.steps vc_28 4 (pc' := 17) (lv' := [(0, .inr (.inr (3, i, j)))]) (st' := []) (V' := q_c28 V i j) rfl ?_
  exact q_run.ret vc_28 rfl
theorem q_al_F (d : QD) (i j : Nat) : q_al d (3, i, j) = d.2.2.2.1 i j ∧ q_al d (24, i, j) = d.2.2.2.1 i j := ⟨rfl, rfl⟩
theorem q_R_dF (S : QS) (y n : Nat) (b : VA) (k : Nat) : q_R (q_dF S y n).2.2.1 b k = if b = (37, y, 0) ∧ k = n then (3, y, n) else q_R S.2.2.1 b k := by
  obtain ⟨t, i, j⟩ := b
  by_cases h37 : t = 37
  · subst h37
    show q_o ((j == 0) && (if i = y ∧ k = n then true else S.2.2.1.2.2.2.1 i k)) (3, i, k) = if ((37, i, j) : VA) = (37, y, 0) ∧ k = n then (3, y, n) else q_o ((j == 0) && S.2.2.1.2.2.2.1 i k) (3, i, k)
    by_cases hj : j = 0
    · subst hj
      by_cases hi : i = y ∧ k = n
      · obtain ⟨rfl, rfl⟩ := hi
        simp [q_o]
      · rw [if_neg hi, if_neg (fun h => hi ⟨by simpa using h.1, h.2⟩)]
    · have hb : (j == 0) = false := beq_eq_false_iff_ne.mpr hj
      have hq : ¬ (((37, i, j) : VA) = (37, y, 0) ∧ k = n) := fun h => hj (congrArg (fun q : VA => q.2.2) h.1)
      rw [hb, Bool.false_and, Bool.false_and, if_neg hq]
  · rw [if_neg (fun h => h37 (congrArg (fun q : VA => q.1) h.1))]
    exact q_R_cong rfl rfl rfl (by by_cases h : t = 36 <;> simp [h, q_dF]) (Or.inl h37) (by by_cases h : t = 38 <;> simp [h, q_dF])
theorem q_al_dF (S : QS) (y n : Nat) (b : VA) : q_al (q_dF S y n).2.2.1 b = if b = (24, y, n) then true else if b = (3, y, n) then true else q_al S.2.2.1 b := by
  obtain ⟨t, i, j⟩ := b
  by_cases h3 : t = 3 ∨ t = 24
  · have e : q_al (q_dF S y n).2.2.1 (t, i, j) = (if i = y ∧ j = n then true else q_al S.2.2.1 (t, i, j)) := by
      rcases h3 with rfl | rfl <;> rfl
    rw [e]
    by_cases hi : i = y ∧ j = n
    · obtain ⟨rfl, rfl⟩ := hi
      rcases h3 with rfl | rfl <;> simp
    · rw [if_neg hi, if_neg (fun h => hi (by simpa using congrArg (fun q : VA => q.2) h)), if_neg (fun h => hi (by simpa using congrArg (fun q : VA => q.2) h))]
  · rw [if_neg (fun h => h3 (Or.inr (congrArg (fun q : VA => q.1) h))), if_neg (fun h => h3 (Or.inl (congrArg (fun q : VA => q.1) h)))]
    exact q_al_cong (Or.inr rfl) (Or.inl ⟨fun h => h3 (Or.inl h), fun h => h3 (Or.inr h)⟩) (Or.inr rfl) (Or.inr rfl)
theorem s_92 (i0 : Nat) (x1 : Int32) (S : QS) : q_Sim 92 0 [(0, .inr (.inr (9, i0, 0))), (1, .inl x1)] [] (q_V S) (q_A 3) (f_92 i0 x1 S) := by
  unfold f_92
  refine q_Sim.steps vc_92 3 (pc' := 5) (lv' := [(0, .inr (.inr (9, i0, 0))), (1, .inl x1)]) (st' := [.inl x1, .inr (.inr (37, i0, 0))]) (V' := q_V S) rfl ?_
  refine q_Sim.ckh vc_92 (c := v_in x1 200) (pc' := 6) (lv' := [(0, .inr (.inr (9, i0, 0))), (1, .inl x1)]) (st' := [.inr (.inr (q_R S.2.2.1 (37, i0, 0) x1.toNatClampNeg))]) (V' := q_V S) rfl (fun hin => ?_)
  generalize hn : x1.toNatClampNeg = n
  have last : ∀ S2 : QS, S2.2.2.1.2.2.2.1 i0 n = true → q_Sim 92 22 [(0, .inr (.inr (9, i0, 0))), (1, .inl x1)] [] (q_V S2) (q_A 3) (some ((i0, n), S2)) := by
    intro S2 h2
    refine q_Sim.steps vc_92 3 (pc' := 27) (lv' := [(0, .inr (.inr (9, i0, 0))), (1, .inl x1)]) (st' := [.inl x1, .inr (.inr (37, i0, 0))]) (V' := q_V S2) rfl ?_
    refine q_Sim.okd vc_92 (c := v_in x1 200) (pc' := 28) (lv' := [(0, .inr (.inr (9, i0, 0))), (1, .inl x1)]) (st' := [.inr (.inr (q_R S2.2.2.1 (37, i0, 0) x1.toNatClampNeg))]) (V' := q_V S2) rfl hin ?_
    have e : q_R S2.2.2.1 (37, i0, 0) x1.toNatClampNeg = (3, i0, n) := by
      show q_o (S2.2.2.1.2.2.2.1 i0 x1.toNatClampNeg) (3, i0, x1.toNatClampNeg) = _
      rw [hn, h2]
      rfl
    rw [e]
    exact q_Sim.ret vc_92 rfl
  refine q_Sim.ite (fun h => ?_) (fun h => ?_)
  · have e : q_R S.2.2.1 (37, i0, 0) n = (3, i0, n) := by
      show q_o (S.2.2.1.2.2.2.1 i0 n) (3, i0, n) = _
      rw [h]
      rfl
    rw [e]
    refine q_Sim.steps vc_92 1 (pc' := 22) (lv' := [(0, .inr (.inr (9, i0, 0))), (1, .inl x1)]) (st' := []) (V' := q_V S) rfl ?_
    exact last S h
  · have hf : S.2.2.1.2.2.2.1 i0 n = false := by simpa using h
    have e : q_R S.2.2.1 (37, i0, 0) n = (0, 0, 0) := by
      show q_o (S.2.2.1.2.2.2.1 i0 n) (3, i0, n) = _
      rw [hf]
      rfl
    rw [e]
    refine q_Sim.steps vc_92 4 (pc' := 14) (lv' := [(0, .inr (.inr (9, i0, 0))), (1, .inl x1)]) (st' := [.inl x1, .inr (.inr (37, i0, 0))]) (V' := q_V S) rfl ?_
    subst hn
    refine q_Sim.okd vc_92 (c := !(S.2.2.1.2.2.2.1 i0 x1.toNatClampNeg) && true && true) (pc' := 17) (lv' := [(0, .inr (.inr (9, i0, 0))), (1, .inl x1)]) (st' := [.inr (.inr (3, i0, x1.toNatClampNeg)), .inl x1, .inr (.inr (37, i0, 0))]) (V' := v_make (q_V S) (3, i0, x1.toNatClampNeg) 2) rfl (by rw [hf]; rfl) ?_
    generalize hn : x1.toNatClampNeg = n at *
    refine q_Sim.steps vc_92 1 (pc' := 18) (lv' := [(0, .inr (.inr (9, i0, 0))), (1, .inl x1)]) (st' := [.inr (.inr (3, i0, n)), .inr (.inr (3, i0, n)), .inl x1, .inr (.inr (37, i0, 0))]) (V' := v_make (q_V S) (3, i0, n) 2) rfl ?_
    refine q_Sim.callV vc_92 (m2 := 28) (as := [.inr (.inr (3, i0, n))]) (pc' := 21) (lv' := [(0, .inr (.inr (9, i0, 0))), (1, .inl x1)]) (st' := [.inr (.inr (3, i0, n)), .inl x1, .inr (.inr (37, i0, 0))]) rfl rfl (s_28 _ i0 n ?_) ?_
    · show (if ((24, i0, n) : VA) = (3, i0, n) then true else q_al S.2.2.1 (24, i0, n)) = false
      rw [if_neg (by simp)]
      exact hf
    · refine q_Sim.okd vc_92 (c := v_in x1 200 && true) (pc' := 22) (lv' := [(0, .inr (.inr (9, i0, 0))), (1, .inl x1)]) (st' := []) (V' := v_setR (q_c28 (v_make (q_V S) (3, i0, n) 2) i0 n) (37, i0, 0) x1.toNatClampNeg (3, i0, n)) rfl (by rw [hin]; rfl) ?_
      rw [hn]
      have ev : v_setR (q_c28 (v_make (q_V S) (3, i0, n) 2) i0 n) (37, i0, 0) n (3, i0, n) = q_V (q_newF S i0 n) := by
        refine Prod.ext ?_ (Prod.ext ?_ (Prod.ext ?_ (Prod.ext ?_ (Prod.ext rfl rfl))))
        · funext b
          by_cases h3 : b = (3, i0, n)
          · subst h3
            funext k
            simp [v_setR, v_rowR, q_c28, v_setI, v_rowI, v_make, q_V, q_newF, q_row, q_dF, q_mk, upd]
          · simp [v_setR, v_rowR, q_c28, v_setI, v_rowI, v_make, q_V, q_newF, q_row, q_dF, q_mk, h3]
        · funext b k
          show _ = q_R (q_dF (q_mk (q_mk S (3, i0, n) 2) (24, i0, n) 64) i0 n).2.2.1 b k
          rw [q_R_dF]
          by_cases h37 : b = (37, i0, 0)
          · subst h37
            by_cases hk : k = n
            · subst hk
              simp [v_setR, v_rowR, va_up]
            · simp [v_setR, v_rowR, va_up, hk, q_c28, v_setI, v_rowI, v_make, q_V, q_mk]
          · rw [if_neg (fun h => h37 h.1)]
            by_cases h3 : b = (3, i0, n)
            · subst h3
              by_cases hk : k = 0
              · subst hk
                simp [v_setR, v_rowR, va_up, q_c28, v_setI, v_rowI, v_make, q_V, q_mk]
                rfl
              · have e : q_R S.2.2.1 (3, i0, n) k = (0, 0, 0) := by
                  show q_t [24] k (i0, n) = (0, 0, 0)
                  obtain ⟨j, rfl⟩ : ∃ j, k = j + 1 := ⟨k - 1, by omega⟩
                  rfl
                simp [v_setR, v_rowR, va_up, q_c28, v_setI, v_rowI, v_make, q_V, q_mk, hk, e]
            · by_cases h24 : b = (24, i0, n)
              · subst h24
                have e : q_R S.2.2.1 (24, i0, n) k = (0, 0, 0) := rfl
                simp [v_setR, v_rowR, q_c28, v_setI, v_rowI, v_make, q_V, q_mk, e]
              · simp [v_setR, v_rowR, q_c28, v_setI, v_rowI, v_make, q_V, q_mk, h37, h3, h24]
        · funext b
          by_cases h3 : b = (3, i0, n)
          · subst h3
            simp [v_setR, v_rowR, q_c28, v_setI, v_rowI, v_make, q_V, q_newF, q_row, q_dF, q_mk]
          · simp [v_setR, v_rowR, q_c28, v_setI, v_rowI, v_make, q_V, q_newF, q_row, q_dF, q_mk, h3]
        · funext b
          show _ = q_al (q_dF (q_mk (q_mk S (3, i0, n) 2) (24, i0, n) 64) i0 n).2.2.1 b
          rw [q_al_dF]
          rfl
      rw [ev]
      exact last _ (by show (if i0 = i0 ∧ n = n then true else _) = true; simp)
theorem vc_82 : v_code 82 = k_82 := rfl
theorem vc_93 : v_code 93 = k_93 := rfl
def q_c82 (V : VH) (i j : Nat) : VH := v_setI (v_setI (v_setI (v_setI (v_setI (v_setI (v_setI (v_setI (v_setI (V) (8, i, j) 0 0) (8, i, j) 1 0) (8, i, j) 2 (-1)) (8, i, j) 3 (-1)) (8, i, j) 4 0) (8, i, j) 5 0) (8, i, j) 6 (-1)) (8, i, j) 7 0) (8, i, j) 8 (-1)
theorem s_82 (V : VH) (i j : Nat) : q_run 82 0 [(0, .inr (.inr (8, i, j)))] [] V none (q_c82 V i j) := by
  refine q_run.steps vc_82 29 (pc' := 49) (lv' := [(0, .inr (.inr (8, i, j)))]) (st' := []) (V' := q_c82 V i j) rfl ?_
  exact q_run.ret vc_82 rfl
theorem q_R_dT (S : QS) (y n : Nat) (b : VA) (k : Nat) : q_R (q_dT S y n).2.2.1 b k = if b = (38, y, 0) ∧ k = n then (8, y, n) else q_R S.2.2.1 b k := by
  obtain ⟨t, i, j⟩ := b
  by_cases h38 : t = 38
  · subst h38
    show q_o ((j == 0) && (if i = y ∧ k = n then true else S.2.2.1.2.2.2.2.1 i k)) (8, i, k) = if ((38, i, j) : VA) = (38, y, 0) ∧ k = n then (8, y, n) else q_o ((j == 0) && S.2.2.1.2.2.2.2.1 i k) (8, i, k)
    by_cases hj : j = 0
    · subst hj
      by_cases hi : i = y ∧ k = n
      · obtain ⟨rfl, rfl⟩ := hi
        simp [q_o]
      · rw [if_neg hi, if_neg (fun h => hi ⟨by simpa using h.1, h.2⟩)]
    · have hb : (j == 0) = false := beq_eq_false_iff_ne.mpr hj
      have hq : ¬ (((38, i, j) : VA) = (38, y, 0) ∧ k = n) := fun h => hj (congrArg (fun q : VA => q.2.2) h.1)
      rw [hb, Bool.false_and, Bool.false_and, if_neg hq]
  · rw [if_neg (fun h => h38 (congrArg (fun q : VA => q.1) h.1))]
    exact q_R_cong rfl rfl rfl (by by_cases h : t = 36 <;> simp [h, q_dT]) (by by_cases h : t = 37 <;> simp [h, q_dT]) (Or.inl h38)
theorem q_al_dT (S : QS) (y n : Nat) (b : VA) : q_al (q_dT S y n).2.2.1 b = if b = (8, y, n) then true else q_al S.2.2.1 b := by
  obtain ⟨t, i, j⟩ := b
  by_cases h4 : t = 8
  · subst h4
    have e : q_al (q_dT S y n).2.2.1 (8, i, j) = (if i = y ∧ j = n then true else q_al S.2.2.1 (8, i, j)) := rfl
    rw [e]
    by_cases hi : i = y ∧ j = n
    · obtain ⟨rfl, rfl⟩ := hi
      simp
    · rw [if_neg hi, if_neg (fun h => hi (by simpa using congrArg (fun q : VA => q.2) h))]
  · rw [if_neg (fun h => h4 (congrArg (fun q : VA => q.1) h))]
    exact q_al_cong (Or.inr rfl) (Or.inr rfl) (Or.inl h4) (Or.inr rfl)
theorem s_93 (i0 : Nat) (x1 : Int32) (S : QS) : q_Sim 93 0 [(0, .inr (.inr (9, i0, 0))), (1, .inl x1)] [] (q_V S) (q_A 8) (f_93 i0 x1 S) := by
  unfold f_93
  refine q_Sim.steps vc_93 3 (pc' := 5) (lv' := [(0, .inr (.inr (9, i0, 0))), (1, .inl x1)]) (st' := [.inl x1, .inr (.inr (38, i0, 0))]) (V' := q_V S) rfl ?_
  refine q_Sim.ckh vc_93 (c := v_in x1 200) (pc' := 6) (lv' := [(0, .inr (.inr (9, i0, 0))), (1, .inl x1)]) (st' := [.inr (.inr (q_R S.2.2.1 (38, i0, 0) x1.toNatClampNeg))]) (V' := q_V S) rfl (fun hin => ?_)
  generalize hn : x1.toNatClampNeg = n
  have last : ∀ S2 : QS, S2.2.2.1.2.2.2.2.1 i0 n = true → q_Sim 93 22 [(0, .inr (.inr (9, i0, 0))), (1, .inl x1)] [] (q_V S2) (q_A 8) (some ((i0, n), S2)) := by
    intro S2 h2
    refine q_Sim.steps vc_93 3 (pc' := 27) (lv' := [(0, .inr (.inr (9, i0, 0))), (1, .inl x1)]) (st' := [.inl x1, .inr (.inr (38, i0, 0))]) (V' := q_V S2) rfl ?_
    refine q_Sim.okd vc_93 (c := v_in x1 200) (pc' := 28) (lv' := [(0, .inr (.inr (9, i0, 0))), (1, .inl x1)]) (st' := [.inr (.inr (q_R S2.2.2.1 (38, i0, 0) x1.toNatClampNeg))]) (V' := q_V S2) rfl hin ?_
    have e : q_R S2.2.2.1 (38, i0, 0) x1.toNatClampNeg = (8, i0, n) := by
      show q_o (S2.2.2.1.2.2.2.2.1 i0 x1.toNatClampNeg) (8, i0, x1.toNatClampNeg) = _
      rw [hn, h2]
      rfl
    rw [e]
    exact q_Sim.ret vc_93 rfl
  refine q_Sim.ite (fun h => ?_) (fun h => ?_)
  · have e : q_R S.2.2.1 (38, i0, 0) n = (8, i0, n) := by
      show q_o (S.2.2.1.2.2.2.2.1 i0 n) (8, i0, n) = _
      rw [h]
      rfl
    rw [e]
    refine q_Sim.steps vc_93 1 (pc' := 22) (lv' := [(0, .inr (.inr (9, i0, 0))), (1, .inl x1)]) (st' := []) (V' := q_V S) rfl ?_
    exact last S h
  · have hf : S.2.2.1.2.2.2.2.1 i0 n = false := by simpa using h
    have e : q_R S.2.2.1 (38, i0, 0) n = (0, 0, 0) := by
      show q_o (S.2.2.1.2.2.2.2.1 i0 n) (8, i0, n) = _
      rw [hf]
      rfl
    rw [e]
    refine q_Sim.steps vc_93 4 (pc' := 14) (lv' := [(0, .inr (.inr (9, i0, 0))), (1, .inl x1)]) (st' := [.inl x1, .inr (.inr (38, i0, 0))]) (V' := q_V S) rfl ?_
    subst hn
    refine q_Sim.okd vc_93 (c := !(S.2.2.1.2.2.2.2.1 i0 x1.toNatClampNeg) && true && true) (pc' := 17) (lv' := [(0, .inr (.inr (9, i0, 0))), (1, .inl x1)]) (st' := [.inr (.inr (8, i0, x1.toNatClampNeg)), .inl x1, .inr (.inr (38, i0, 0))]) (V' := v_make (q_V S) (8, i0, x1.toNatClampNeg) 9) rfl (by rw [hf]; rfl) ?_
    generalize hn : x1.toNatClampNeg = n at *
    refine q_Sim.steps vc_93 1 (pc' := 18) (lv' := [(0, .inr (.inr (9, i0, 0))), (1, .inl x1)]) (st' := [.inr (.inr (8, i0, n)), .inr (.inr (8, i0, n)), .inl x1, .inr (.inr (38, i0, 0))]) (V' := v_make (q_V S) (8, i0, n) 9) rfl ?_
    refine q_Sim.callV vc_93 (m2 := 82) (as := [.inr (.inr (8, i0, n))]) (pc' := 21) (lv' := [(0, .inr (.inr (9, i0, 0))), (1, .inl x1)]) (st' := [.inr (.inr (8, i0, n)), .inl x1, .inr (.inr (38, i0, 0))]) rfl rfl (s_82 _ i0 n) ?_
    · refine q_Sim.okd vc_93 (c := v_in x1 200 && true) (pc' := 22) (lv' := [(0, .inr (.inr (9, i0, 0))), (1, .inl x1)]) (st' := []) (V' := v_setR (q_c82 (v_make (q_V S) (8, i0, n) 9) i0 n) (38, i0, 0) x1.toNatClampNeg (8, i0, n)) rfl (by rw [hin]; rfl) ?_
      rw [hn]
      have ev : v_setR (q_c82 (v_make (q_V S) (8, i0, n) 9) i0 n) (38, i0, 0) n (8, i0, n) = q_V (q_newT S i0 n) := by
        refine Prod.ext ?_ (Prod.ext ?_ (Prod.ext ?_ (Prod.ext ?_ (Prod.ext rfl rfl))))
        · funext b
          by_cases h4 : b = (8, i0, n)
          · subst h4
            funext k
            by_cases hk : k = 2 ∨ k = 3 ∨ k = 6 ∨ k = 8
            · rcases hk with rfl | rfl | rfl | rfl <;> simp [v_setR, v_rowR, q_c82, v_setI, v_rowI, v_make, q_V, q_newT, q_row, q_dT, q_mk, upd]
            · have h2 : ¬ k = 2 := fun h => hk (Or.inl h)
              have h3 : ¬ k = 3 := fun h => hk (Or.inr (Or.inl h))
              have h6 : ¬ k = 6 := fun h => hk (Or.inr (Or.inr (Or.inl h)))
              have h8 : ¬ k = 8 := fun h => hk (Or.inr (Or.inr (Or.inr h)))
              simp [v_setR, v_rowR, q_c82, v_setI, v_rowI, v_make, q_V, q_newT, q_row, q_dT, q_mk, upd, h2, h3, h6, h8]
          · simp [v_setR, v_rowR, q_c82, v_setI, v_rowI, v_make, q_V, q_newT, q_row, q_dT, q_mk, h4]
        · funext b k
          show _ = q_R (q_dT (q_mk S (8, i0, n) 9) i0 n).2.2.1 b k
          rw [q_R_dT]
          by_cases h38 : b = (38, i0, 0)
          · subst h38
            by_cases hk : k = n
            · subst hk
              simp [v_setR, v_rowR, va_up]
            · simp [v_setR, v_rowR, va_up, hk, q_c82, v_setI, v_rowI, v_make, q_V, q_mk]
          · rw [if_neg (fun h => h38 h.1)]
            by_cases h4 : b = (8, i0, n)
            · subst h4
              have e : q_R S.2.2.1 (8, i0, n) k = (0, 0, 0) := rfl
              simp [v_setR, v_rowR, q_c82, v_setI, v_rowI, v_make, q_V, q_mk, e]
            · simp [v_setR, v_rowR, q_c82, v_setI, v_rowI, v_make, q_V, q_mk, h38, h4]
        · funext b
          by_cases h4 : b = (8, i0, n)
          · subst h4
            simp [v_setR, v_rowR, q_c82, v_setI, v_rowI, v_make, q_V, q_newT, q_row, q_dT, q_mk]
          · simp [v_setR, v_rowR, q_c82, v_setI, v_rowI, v_make, q_V, q_newT, q_row, q_dT, q_mk, h4]
        · funext b
          show _ = q_al (q_dT (q_mk S (8, i0, n) 9) i0 n).2.2.1 b
          rw [q_al_dT]
          rfl
      rw [ev]
      exact last _ (by show (if i0 = i0 ∧ n = n then true else _) = true; simp)
/-- the pairs' row, made anew if it is too short -/
def f_69 (S : QS) : Option (Unit × QS) := q_let ((S.1 (5, 0, 0) 4 * (S.1 (5, 0, 0) 4 - 1)) / 2) (fun x => if x ≤ Int32.ofNat S.2.2.1.2.2.2.2.2.1 then some ((), S) else q_ck (decide (¬ x * 2 < 0) && decide ((x * 2).toNatClampNeg ≤ 50000) && !(S.2.2.1.2.2.2.2.2.2 (x * 2).toNatClampNeg)) (some ((), q_dP (q_mk S (30, (x * 2).toNatClampNeg, 0) (x * 2).toNatClampNeg) (x * 2).toNatClampNeg)))
theorem rc_69 : v_rcv 69 [.inr (.inr (5, 0, 0))] = true := rfl
theorem vc_69 : v_code 69 = k_69 := rfl
theorem q_R_dP (S : QS) (n : Nat) (b : VA) (k : Nat) : q_R (q_dP S n).2.2.1 b k = if b = (5, 0, 0) ∧ k = 5 then (30, n, 0) else q_R S.2.2.1 b k := by
  obtain ⟨t, i, j⟩ := b
  by_cases h5 : t = 5
  · subst h5
    show q_R5 n i j k = if ((5, i, j) : VA) = (5, 0, 0) ∧ k = 5 then (30, n, 0) else q_R5 S.2.2.1.2.2.2.2.2.1 i j k
    by_cases hk : k = 5
    · subst hk
      by_cases hi : i = 0 ∧ j = 0
      · obtain ⟨rfl, rfl⟩ := hi
        rw [if_pos ⟨rfl, rfl⟩]
        rfl
      · have hq : ¬ (((5, i, j) : VA) = (5, 0, 0) ∧ 5 = 5) := fun h => hi (by simpa using h.1)
        rw [if_neg hq]
        have e : ((i == 0) && (j == 0)) = false := by
          rw [Bool.and_eq_false_iff]
          by_cases g : i = 0
          · exact Or.inr (beq_eq_false_iff_ne.mpr (fun g2 => hi ⟨g, g2⟩))
          · exact Or.inl (beq_eq_false_iff_ne.mpr g)
        show q_g i j _ = q_g i j _
        unfold q_g
        rw [e]
    · rw [if_neg (fun h => hk h.2)]
      unfold q_R5
      rw [beq_eq_false_iff_ne.mpr hk]
  · rw [if_neg (fun h => h5 (congrArg (fun q : VA => q.1) h.1))]
    by_cases g10 : t = 10
    · subst g10
      rfl
    by_cases g36 : t = 36
    · subst g36
      rfl
    by_cases g37 : t = 37
    · subst g37
      rfl
    by_cases g38 : t = 38
    · subst g38
      rfl
    unfold q_R
    dsimp only
    split <;> first | rfl | (exfalso; omega) | (split <;> first | rfl | (exfalso; simp_all; done))
theorem q_al_dP (S : QS) (n : Nat) (b : VA) : q_al (q_dP S n).2.2.1 b = if b = (30, n, 0) then true else q_al S.2.2.1 b := by
  obtain ⟨t, i, j⟩ := b
  by_cases h4 : t = 30
  · subst h4
    have e : q_al (q_dP S n).2.2.1 (30, i, j) = ((if i = n then true else S.2.2.1.2.2.2.2.2.2 i) && (j == 0)) := rfl
    have e2 : q_al S.2.2.1 (30, i, j) = (S.2.2.1.2.2.2.2.2.2 i && (j == 0)) := rfl
    rw [e, e2]
    by_cases hj : j = 0
    · subst hj
      by_cases hi : i = n
      · subst hi
        simp
      · rw [if_neg hi, if_neg (fun h => hi (congrArg (fun q : VA => q.2.1) h))]
    · have hb : (j == 0) = false := beq_eq_false_iff_ne.mpr hj
      rw [hb, Bool.and_false, Bool.and_false, if_neg (fun h => hj (congrArg (fun q : VA => q.2.2) h))]
  · rw [if_neg (fun h => h4 (congrArg (fun q : VA => q.1) h))]
    exact q_al_cong (Or.inr rfl) (Or.inr rfl) (Or.inr rfl) (Or.inl h4)
theorem s_69 (S : QS) : q_Sim 69 0 [(0, .inr (.inr (5, 0, 0)))] [] (q_V S) q_U (f_69 S) := by
  unfold f_69
  refine q_Sim.steps vc_69 8 (pc' := 12) (lv' := [(0, .inr (.inr (5, 0, 0)))]) (st' := [.inl 2, .inl (S.1 (5, 0, 0) 4 * (S.1 (5, 0, 0) 4 - 1))]) (V' := q_V S) rfl ?_
  refine q_Sim.okd vc_69 (c := decide (¬ (2 : Int32) = 0)) (pc' := 13) (lv' := [(0, .inr (.inr (5, 0, 0)))]) (st' := [.inl ((S.1 (5, 0, 0) 4 * (S.1 (5, 0, 0) 4 - 1)) / 2)]) (V' := q_V S) rfl (by decide) ?_
  refine q_Sim.letI (fun x => ?_)
  refine q_Sim.steps vc_69 5 (pc' := 20) (lv' := [(1, .inl x), (0, .inr (.inr (5, 0, 0)))]) (st' := [.inl x, .inl (Int32.ofNat S.2.2.1.2.2.2.2.2.1)]) (V' := q_V S) rfl ?_
  refine q_Sim.br vc_69 (c := x ≤ Int32.ofNat S.2.2.1.2.2.2.2.2.1) (t := 32) (f := 23) (lv' := [(1, .inl x), (0, .inr (.inr (5, 0, 0)))]) (st' := []) (V' := q_V S) rfl ?_ ?_
  · exact q_Sim.ret vc_69 rfl
  · refine q_Sim.steps vc_69 4 (pc' := 27) (lv' := [(1, .inl x), (0, .inr (.inr (5, 0, 0)))]) (st' := [.inl (x * 2), .inr (.inr (5, 0, 0))]) (V' := q_V S) rfl ?_
    generalize x * 2 = z
    by_cases hC : (decide (¬ z < 0) && decide (z.toNatClampNeg ≤ 50000) && !(S.2.2.1.2.2.2.2.2.2 z.toNatClampNeg)) = true
    · rw [hC]
      simp only [Bool.and_eq_true, decide_eq_true_eq, Bool.not_eq_true'] at hC
      obtain ⟨⟨h1, h2⟩, h3⟩ := hC
      have e : v_1 k_69 (27, [(1, .inl x), (0, .inr (.inr (5, 0, 0)))], [.inl z, .inr (.inr (5, 0, 0))], q_V S) = some (.inl (29, [(1, .inl x), (0, .inr (.inr (5, 0, 0)))], [.inr (.inr (30, z.toNatClampNeg, 0)), .inr (.inr (5, 0, 0))], v_make (q_V S) (30, z.toNatClampNeg, 0) z.toNatClampNeg)) := by
        show (match decide (¬ z < 0) && (z.toNatClampNeg == z.toNatClampNeg) && decide (z.toNatClampNeg ≤ 50000) with
          | true => v_ok (!(S.2.2.1.2.2.2.2.2.2 z.toNatClampNeg && ((0 : Nat) == 0)) && true && true) (Sum.inl (29, [(1, .inl x), (0, .inr (.inr (5, 0, 0)))], [.inr (.inr (30, z.toNatClampNeg, 0)), .inr (.inr (5, 0, 0))], v_make (q_V S) (30, z.toNatClampNeg, 0) z.toNatClampNeg))
          | false => none) = _
        rw [decide_eq_true h1, decide_eq_true h2, beq_self_eq_true, h3]
        rfl
      refine q_Sim.one vc_69 e ?_
      refine q_Sim.steps vc_69 1 (pc' := 32) (lv' := [(1, .inl x), (0, .inr (.inr (5, 0, 0)))]) (st' := []) (V' := v_setR (v_make (q_V S) (30, z.toNatClampNeg, 0) z.toNatClampNeg) (5, 0, 0) 5 (30, z.toNatClampNeg, 0)) rfl ?_
      generalize z.toNatClampNeg = n
      have ev : v_setR (v_make (q_V S) (30, n, 0) n) (5, 0, 0) 5 (30, n, 0) = q_V (q_dP (q_mk S (30, n, 0) n) n) := by
        refine Prod.ext rfl (Prod.ext ?_ (Prod.ext rfl (Prod.ext ?_ (Prod.ext rfl rfl))))
        · funext b k
          show _ = q_R (q_dP (q_mk S (30, n, 0) n) n).2.2.1 b k
          rw [q_R_dP]
          by_cases h5 : b = (5, 0, 0)
          · subst h5
            by_cases hk : k = 5
            · subst hk
              simp [v_setR, v_rowR, va_up]
            · simp [v_setR, v_rowR, va_up, hk, v_make, q_V, q_mk]
          · rw [if_neg (fun h => h5 h.1)]
            by_cases h30 : b = (30, n, 0)
            · subst h30
              have e : q_R S.2.2.1 (30, n, 0) k = (0, 0, 0) := rfl
              simp [v_setR, v_rowR, v_make, q_V, q_mk, e]
            · simp [v_setR, v_rowR, v_make, q_V, q_mk, h5, h30]
        · funext b
          show _ = q_al (q_dP (q_mk S (30, n, 0) n) n).2.2.1 b
          rw [q_al_dP]
          rfl
      rw [ev]
      exact q_Sim.ret vc_69 rfl
    · have hC2 := Bool.eq_false_iff.mpr hC
      rw [hC2]
      exact q_Sim.none
def q_nw (S : QS) (y : Nat) : QS := (S.1, S.2.1, (y, S.2.2.1.2), S.2.2.2)
def q_bf (S : QS) (y : Nat) : QS := (S.1, S.2.1, (S.2.2.1.1, y, S.2.2.1.2.2), S.2.2.2)
theorem q_R_nb {d d' : QD} (h3 : d.2.2 = d'.2.2) {b : VA} {k : Nat} (h : b ≠ (10, 0, 0) ∨ q_R9 d k = q_R9 d' k) : q_R d b k = q_R d' b k := by
  obtain ⟨t, i, j⟩ := b
  by_cases g10 : t = 10
  · subst g10
    show q_g i j (q_R9 d k) = q_g i j (q_R9 d' k)
    rcases h with h | h
    · have e : ((i == 0) && (j == 0)) = false := by
        rw [Bool.and_eq_false_iff]
        by_cases g : i = 0
        · exact Or.inr (beq_eq_false_iff_ne.mpr (fun g2 => h (by rw [g, g2])))
        · exact Or.inl (beq_eq_false_iff_ne.mpr g)
      unfold q_g
      rw [e]
    · rw [h]
  by_cases g5 : t = 5
  · subst g5
    show q_R5 d.2.2.2.2.2.1 i j k = q_R5 d'.2.2.2.2.2.1 i j k
    rw [h3]
  by_cases g36 : t = 36
  · subst g36
    show q_o ((j == 0) && d.2.2.1 i k) (4, i, k) = q_o ((j == 0) && d'.2.2.1 i k) (4, i, k)
    rw [h3]
  by_cases g37 : t = 37
  · subst g37
    show q_o ((j == 0) && d.2.2.2.1 i k) (3, i, k) = q_o ((j == 0) && d'.2.2.2.1 i k) (3, i, k)
    rw [h3]
  by_cases g38 : t = 38
  · subst g38
    show q_o ((j == 0) && d.2.2.2.2.1 i k) (8, i, k) = q_o ((j == 0) && d'.2.2.2.2.1 i k) (8, i, k)
    rw [h3]
  unfold q_R
  dsimp only
  split <;> first | rfl | (exfalso; omega) | (split <;> first | rfl | (exfalso; simp_all; done))
theorem q_R9_c {d d' : QD} {k : Nat} (h0 : k = 0 → d.1 = d'.1) (h1 : k = 1 → d.2.1 = d'.2.1) : q_R9 d k = q_R9 d' k := by
  by_cases g0 : k = 0
  · subst g0
    show ((9, d.1, 0) : VA) = (9, d'.1, 0)
    rw [h0 rfl]
  by_cases g1 : k = 1
  · subst g1
    show ((9, d.2.1, 0) : VA) = (9, d'.2.1, 0)
    rw [h1 rfl]
  unfold q_R9
  split <;> first | rfl | (exfalso; omega) | (split <;> first | rfl | (exfalso; simp_all; done))
theorem q_V_nw (S : QS) (y : Nat) : v_setR (q_V S) (10, 0, 0) 0 (9, y, 0) = q_V (q_nw S y) := by
  refine Prod.ext rfl (Prod.ext ?_ (Prod.ext rfl (Prod.ext rfl (Prod.ext rfl rfl))))
  funext b k
  show (if b = (10, 0, 0) then va_up (q_R S.2.2.1 (10, 0, 0)) 0 (9, y, 0) else q_R S.2.2.1 b) k = q_R (q_nw S y).2.2.1 b k
  by_cases hb : b = (10, 0, 0)
  · subst hb
    rw [if_pos rfl]
    unfold va_up
    by_cases hk : k = 0
    · subst hk
      rfl
    · rw [if_neg hk]
      refine q_R_nb (d := S.2.2.1) (d' := (q_nw S y).2.2.1) rfl (Or.inr ?_)
      exact q_R9_c (fun h => absurd h hk) (fun _ => rfl)
  · rw [if_neg hb]
    exact q_R_nb (d := S.2.2.1) (d' := (q_nw S y).2.2.1) rfl (Or.inl hb)
theorem q_V_bf (S : QS) (y : Nat) : v_setR (q_V S) (10, 0, 0) 1 (9, y, 0) = q_V (q_bf S y) := by
  refine Prod.ext rfl (Prod.ext ?_ (Prod.ext rfl (Prod.ext rfl (Prod.ext rfl rfl))))
  funext b k
  show (if b = (10, 0, 0) then va_up (q_R S.2.2.1 (10, 0, 0)) 1 (9, y, 0) else q_R S.2.2.1 b) k = q_R (q_bf S y).2.2.1 b k
  by_cases hb : b = (10, 0, 0)
  · subst hb
    rw [if_pos rfl]
    unfold va_up
    by_cases hk : k = 1
    · subst hk
      rfl
    · rw [if_neg hk]
      refine q_R_nb (d := S.2.2.1) (d' := (q_bf S y).2.2.1) rfl (Or.inr ?_)
      exact q_R9_c (fun _ => rfl) (fun h => absurd h hk)
  · rw [if_neg hb]
    exact q_R_nb (d := S.2.2.1) (d' := (q_bf S y).2.2.1) rfl (Or.inl hb)
