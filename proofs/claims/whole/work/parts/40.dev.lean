theorem q_Sim.ckh {T : Type} {m pc : Nat} {lv : VL} {st : List VV} {V : VH} {tv : T → Option VV} {e : Option (T × QS)} {cd : List VE} (hc : v_code m = cd) {c : Bool} {pc' : Nat} {lv' : VL} {st' : List VV} {V' : VH} (h : v_1 cd (pc, lv, st, V) = v_ok c (.inl (pc', lv', st', V'))) (g : c = true → q_Sim m pc' lv' st' V' tv e) : q_Sim m pc lv st V tv (q_ck c e) := by
  cases c with
  | true => exact q_Sim.one hc h (g rfl)
  | false => intro r S' he; cases he
/-- a run, from any heap -/
def q_run (m pc : Nat) (lv : VL) (st : List VV) (V : VH) (r : Option VV) (V1 : VH) : Prop := ∃ n, v_go n m (pc, lv, st, V) = some (r, V1)
theorem q_run.steps {m pc : Nat} {lv : VL} {st : List VV} {V V1 : VH} {r : Option VV} {cd : List VE} (hc : v_code m = cd) (k : Nat) {pc' : Nat} {lv' : VL} {st' : List VV} {V' : VH} (h : v_n k cd (pc, lv, st, V) = some (pc', lv', st', V')) (g : q_run m pc' lv' st' V' r V1) : q_run m pc lv st V r V1 := by
  obtain ⟨n, hn⟩ := g
  exact ⟨n + k, v_n_go hc h hn⟩
theorem q_run.okd {m pc : Nat} {lv : VL} {st : List VV} {V V1 : VH} {r : Option VV} {cd : List VE} (hc : v_code m = cd) {c : Bool} {s' : VS} (h : v_1 cd (pc, lv, st, V) = v_ok c (.inl s')) (hcc : c = true) (g : q_run m s'.1 s'.2.1 s'.2.2.1 s'.2.2.2 r V1) : q_run m pc lv st V r V1 := by
  subst hcc
  obtain ⟨n, hn⟩ := g
  refine ⟨n + 1, ?_⟩
  unfold v_go
  rw [hc, h]
  exact hn
theorem q_run.ret {m pc : Nat} {lv : VL} {st : List VV} {V : VH} {r : Option VV} {cd : List VE} (hc : v_code m = cd) (h : v_1 cd (pc, lv, st, V) = some (.inr (.inl (r, V)))) : q_run m pc lv st V r V := by
  refine ⟨1, ?_⟩
  unfold v_go
  rw [hc, h]
theorem q_Sim.callV {T : Type} {m pc : Nat} {lv : VL} {st : List VV} {V : VH} {tv : T → Option VV} {e : Option (T × QS)} {cd : List VE} (hc : v_code m = cd) {m2 : Nat} {as : List VV} {pc' : Nat} {lv' : VL} {st' : List VV} {r : Option VV} {V1 : VH} (h : v_1 cd (pc, lv, st, V) = some (.inr (.inr (m2, as, (pc', lv', st', V))))) (hr : v_rcv m2 as = true) (c : q_run m2 0 (v_args 0 as) [] V r V1) (g : q_Sim m pc' lv' (r.toList ++ st') V1 tv e) : q_Sim m pc lv st V tv e := by
  intro r' S' he
  obtain ⟨n1, h1⟩ := c
  obtain ⟨n2, h2⟩ := g r' S' he
  refine ⟨n1 + n2 + 1, ?_⟩
  unfold v_go
  rw [hc, h]
  dsimp only
  rw [hr]
  dsimp only
  rw [v_go_mono n2 h1]
  dsimp only
  have h3 := v_go_mono n1 h2
  rw [Nat.add_comm] at h3
  exact h3
theorem vc_42 : v_code 42 = k_42 := rfl
theorem vc_91 : v_code 91 = k_91 := rfl
def q_c42 (V : VH) (i j : Nat) : VH := v_setI (v_setI (v_setI (v_setI (v_setI (v_setI (v_setI (v_setI (v_setI (v_setI (v_setI (v_setR (v_make V (25, i, j) 96) (4, i, j) 0 (25, i, j)) (4, i, j) 1 0) (4, i, j) 2 0) (4, i, j) 3 0) (4, i, j) 4 0) (4, i, j) 5 (-1)) (4, i, j) 6 0) (4, i, j) 7 0) (4, i, j) 8 0) (4, i, j) 9 0) (4, i, j) 10 0) (4, i, j) 11 0
theorem s_42 (V : VH) (i j : Nat) (h : V.2.2.2.1 (25, i, j) = false) : q_run 42 0 [(0, .inr (.inr (4, i, j)))] [] V none (q_c42 V i j) := by
  refine q_run.steps vc_42 4 (pc' := 7) (lv' := [(0, .inr (.inr (4, i, j)))]) (st' := [.inl 96, .inr (.inr (4, i, j))]) (V' := V) rfl ?_
  refine q_run.okd vc_42 (c := !(V.2.2.2.1 (25, i, j)) && true && true) (s' := (9, [(0, .inr (.inr (4, i, j)))], [.inr (.inr (25, i, j)), .inr (.inr (4, i, j))], v_make V (25, i, j) 96)) rfl (by rw [h]; rfl) ?_
  refine q_run.steps vc_42 34 (pc' := 67) (lv' := [(0, .inr (.inr (4, i, j)))]) (st' := []) (V' := q_c42 V i j) rfl ?_
  exact q_run.ret vc_42 rfl
theorem q_al_H (d : QD) (i j : Nat) : q_al d (4, i, j) = d.2.2.1 i j ∧ q_al d (25, i, j) = d.2.2.1 i j := ⟨rfl, rfl⟩
theorem q_R_cong {d d' : QD} {t i j k : Nat} (h1 : d.1 = d'.1) (h2 : d.2.1 = d'.2.1) (h3 : d.2.2.2.2.2.1 = d'.2.2.2.2.2.1) (hH : t ≠ 36 ∨ (t = 36 ∧ d.2.2.1 = d'.2.2.1)) (hF : t ≠ 37 ∨ (t = 37 ∧ d.2.2.2.1 = d'.2.2.2.1)) (hT : t ≠ 38 ∨ (t = 38 ∧ d.2.2.2.2.1 = d'.2.2.2.2.1)) : q_R d (t, i, j) k = q_R d' (t, i, j) k := by
  by_cases g10 : t = 10
  · subst g10
    show q_R9 d k = q_R9 d' k
    unfold q_R9
    rw [h1, h2]
  by_cases g5 : t = 5
  · subst g5
    show (match k with | 5 => ((30, d.2.2.2.2.2.1, 0) : VA) | _ => q_t [26, 27, 28, 29] k (i, j)) = (match k with | 5 => ((30, d'.2.2.2.2.2.1, 0) : VA) | _ => q_t [26, 27, 28, 29] k (i, j))
    rw [h3]
  by_cases g36 : t = 36
  · subst g36
    rcases hH with h | ⟨-, h⟩
    · exact absurd rfl h
    · show q_o ((j == 0) && d.2.2.1 i k) (4, i, k) = q_o ((j == 0) && d'.2.2.1 i k) (4, i, k)
      rw [h]
  by_cases g37 : t = 37
  · subst g37
    rcases hF with h | ⟨-, h⟩
    · exact absurd rfl h
    · show q_o ((j == 0) && d.2.2.2.1 i k) (3, i, k) = q_o ((j == 0) && d'.2.2.2.1 i k) (3, i, k)
      rw [h]
  by_cases g38 : t = 38
  · subst g38
    rcases hT with h | ⟨-, h⟩
    · exact absurd rfl h
    · show q_o ((j == 0) && d.2.2.2.2.1 i k) (8, i, k) = q_o ((j == 0) && d'.2.2.2.2.1 i k) (8, i, k)
      rw [h]
  unfold q_R
  dsimp only
  split <;> first | rfl | (exfalso; omega) | (split <;> first | rfl | (exfalso; simp_all; done))
theorem q_R_dH (S : QS) (y n : Nat) (b : VA) (k : Nat) : q_R (q_dH S y n).2.2.1 b k = if b = (36, y, 0) ∧ k = n then (4, y, n) else q_R S.2.2.1 b k := by
  obtain ⟨t, i, j⟩ := b
  by_cases h36 : t = 36
  · subst h36
    show q_o ((j == 0) && (if i = y ∧ k = n then true else S.2.2.1.2.2.1 i k)) (4, i, k) = if ((36, i, j) : VA) = (36, y, 0) ∧ k = n then (4, y, n) else q_o ((j == 0) && S.2.2.1.2.2.1 i k) (4, i, k)
    by_cases hj : j = 0
    · subst hj
      by_cases hi : i = y ∧ k = n
      · obtain ⟨rfl, rfl⟩ := hi
        simp [q_o]
      · rw [if_neg hi, if_neg (fun h => hi ⟨by simpa using h.1, h.2⟩)]
    · have hb : (j == 0) = false := beq_eq_false_iff_ne.mpr hj
      have hq : ¬ (((36, i, j) : VA) = (36, y, 0) ∧ k = n) := fun h => hj (congrArg (fun q : VA => q.2.2) h.1)
      rw [hb, Bool.false_and, Bool.false_and, if_neg hq]
  · rw [if_neg (fun h => h36 (congrArg (fun q : VA => q.1) h.1))]
    exact q_R_cong rfl rfl rfl (Or.inl h36) (by by_cases h : t = 37 <;> simp [h, q_dH]) (by by_cases h : t = 38 <;> simp [h, q_dH])
theorem q_al_cong {d d' : QD} {t i j : Nat} (hH : (t ≠ 4 ∧ t ≠ 25) ∨ d.2.2.1 i j = d'.2.2.1 i j) (hF : (t ≠ 3 ∧ t ≠ 24) ∨ d.2.2.2.1 i j = d'.2.2.2.1 i j) (hT : t ≠ 8 ∨ d.2.2.2.2.1 i j = d'.2.2.2.2.1 i j) (hP : t ≠ 30 ∨ d.2.2.2.2.2.2 i = d'.2.2.2.2.2.2 i) : q_al d (t, i, j) = q_al d' (t, i, j) := by
  unfold q_al
  dsimp only
  split
  · rcases hH with h | h
    · exact absurd rfl h.1
    · exact h
  · rcases hH with h | h
    · exact absurd rfl h.2
    · exact h
  · rcases hF with h | h
    · exact absurd rfl h.1
    · exact h
  · rcases hF with h | h
    · exact absurd rfl h.2
    · exact h
  · rcases hT with h | h
    · exact absurd rfl h
    · exact h
  · rcases hP with h | h
    · exact absurd rfl h
    · rw [h]
  · rfl
theorem q_al_dH (S : QS) (y n : Nat) (b : VA) : q_al (q_dH S y n).2.2.1 b = if b = (25, y, n) then true else if b = (4, y, n) then true else q_al S.2.2.1 b := by
  obtain ⟨t, i, j⟩ := b
  by_cases h4 : t = 4 ∨ t = 25
  · have e : q_al (q_dH S y n).2.2.1 (t, i, j) = (if i = y ∧ j = n then true else q_al S.2.2.1 (t, i, j)) := by
      rcases h4 with rfl | rfl <;> rfl
    rw [e]
    by_cases hi : i = y ∧ j = n
    · obtain ⟨rfl, rfl⟩ := hi
      rcases h4 with rfl | rfl <;> simp
    · rw [if_neg hi, if_neg (fun h => hi (by simpa using congrArg (fun q : VA => q.2) h)), if_neg (fun h => hi (by simpa using congrArg (fun q : VA => q.2) h))]
  · rw [if_neg (fun h => h4 (Or.inr (congrArg (fun q : VA => q.1) h))), if_neg (fun h => h4 (Or.inl (congrArg (fun q : VA => q.1) h)))]
    exact q_al_cong (Or.inl ⟨fun h => h4 (Or.inl h), fun h => h4 (Or.inr h)⟩) (Or.inr rfl) (Or.inr rfl) (Or.inr rfl)
theorem s_91' (i0 : Nat) (x1 : Int32) (S : QS) : q_Sim 91 0 [(0, .inr (.inr (9, i0, 0))), (1, .inl x1)] [] (q_V S) (q_A 4) (f_91 i0 x1 S) := by
  unfold f_91
  refine q_Sim.steps vc_91 3 (pc' := 5) (lv' := [(0, .inr (.inr (9, i0, 0))), (1, .inl x1)]) (st' := [.inl x1, .inr (.inr (36, i0, 0))]) (V' := q_V S) rfl ?_
  refine q_Sim.ckh vc_91 (c := v_in x1 40) (pc' := 6) (lv' := [(0, .inr (.inr (9, i0, 0))), (1, .inl x1)]) (st' := [.inr (.inr (q_R S.2.2.1 (36, i0, 0) x1.toNatClampNeg))]) (V' := q_V S) rfl (fun hin => ?_)
  generalize hn : x1.toNatClampNeg = n
  have last : ∀ S2 : QS, S2.2.2.1.2.2.1 i0 n = true → q_Sim 91 22 [(0, .inr (.inr (9, i0, 0))), (1, .inl x1)] [] (q_V S2) (q_A 4) (some ((i0, n), S2)) := by
    intro S2 h2
    refine q_Sim.steps vc_91 3 (pc' := 27) (lv' := [(0, .inr (.inr (9, i0, 0))), (1, .inl x1)]) (st' := [.inl x1, .inr (.inr (36, i0, 0))]) (V' := q_V S2) rfl ?_
    refine q_Sim.okd vc_91 (c := v_in x1 40) (pc' := 28) (lv' := [(0, .inr (.inr (9, i0, 0))), (1, .inl x1)]) (st' := [.inr (.inr (q_R S2.2.2.1 (36, i0, 0) x1.toNatClampNeg))]) (V' := q_V S2) rfl hin ?_
    have e : q_R S2.2.2.1 (36, i0, 0) x1.toNatClampNeg = (4, i0, n) := by
      show q_o (S2.2.2.1.2.2.1 i0 x1.toNatClampNeg) (4, i0, x1.toNatClampNeg) = _
      rw [hn, h2]
      rfl
    rw [e]
    exact q_Sim.ret vc_91 rfl
  refine q_Sim.ite (fun h => ?_) (fun h => ?_)
  · have e : q_R S.2.2.1 (36, i0, 0) n = (4, i0, n) := by
      show q_o (S.2.2.1.2.2.1 i0 n) (4, i0, n) = _
      rw [h]
      rfl
    rw [e]
    refine q_Sim.steps vc_91 1 (pc' := 22) (lv' := [(0, .inr (.inr (9, i0, 0))), (1, .inl x1)]) (st' := []) (V' := q_V S) rfl ?_
    exact last S h
  · have hf : S.2.2.1.2.2.1 i0 n = false := by simpa using h
    have e : q_R S.2.2.1 (36, i0, 0) n = (0, 0, 0) := by
      show q_o (S.2.2.1.2.2.1 i0 n) (4, i0, n) = _
      rw [hf]
      rfl
    rw [e]
    refine q_Sim.steps vc_91 4 (pc' := 14) (lv' := [(0, .inr (.inr (9, i0, 0))), (1, .inl x1)]) (st' := [.inl x1, .inr (.inr (36, i0, 0))]) (V' := q_V S) rfl ?_
    subst hn
    refine q_Sim.okd vc_91 (c := !(S.2.2.1.2.2.1 i0 x1.toNatClampNeg) && true && true) (pc' := 17) (lv' := [(0, .inr (.inr (9, i0, 0))), (1, .inl x1)]) (st' := [.inr (.inr (4, i0, x1.toNatClampNeg)), .inl x1, .inr (.inr (36, i0, 0))]) (V' := v_make (q_V S) (4, i0, x1.toNatClampNeg) 12) rfl (by rw [hf]; rfl) ?_
    generalize hn : x1.toNatClampNeg = n at *
    refine q_Sim.steps vc_91 1 (pc' := 18) (lv' := [(0, .inr (.inr (9, i0, 0))), (1, .inl x1)]) (st' := [.inr (.inr (4, i0, n)), .inr (.inr (4, i0, n)), .inl x1, .inr (.inr (36, i0, 0))]) (V' := v_make (q_V S) (4, i0, n) 12) rfl ?_
    refine q_Sim.callV vc_91 (m2 := 42) (as := [.inr (.inr (4, i0, n))]) (pc' := 21) (lv' := [(0, .inr (.inr (9, i0, 0))), (1, .inl x1)]) (st' := [.inr (.inr (4, i0, n)), .inl x1, .inr (.inr (36, i0, 0))]) rfl rfl (s_42 _ i0 n ?_) ?_
    · show (if ((25, i0, n) : VA) = (4, i0, n) then true else q_al S.2.2.1 (25, i0, n)) = false
      rw [if_neg (by simp)]
      exact hf
    · refine q_Sim.okd vc_91 (c := v_in x1 40 && true) (pc' := 22) (lv' := [(0, .inr (.inr (9, i0, 0))), (1, .inl x1)]) (st' := []) (V' := v_setR (q_c42 (v_make (q_V S) (4, i0, n) 12) i0 n) (36, i0, 0) x1.toNatClampNeg (4, i0, n)) rfl (by rw [hin]; rfl) ?_
      rw [hn]
      have ev : v_setR (q_c42 (v_make (q_V S) (4, i0, n) 12) i0 n) (36, i0, 0) n (4, i0, n) = q_V (q_newH S i0 n) := by
        refine Prod.ext ?_ (Prod.ext ?_ (Prod.ext ?_ (Prod.ext ?_ (Prod.ext rfl rfl))))
        · funext b
          by_cases h4 : b = (4, i0, n)
          · subst h4
            funext k
            by_cases h5 : k = 5
            · subst h5
              simp [v_setR, v_rowR, q_c42, v_setI, v_rowI, v_make, q_V, q_newH, q_row, q_dH, q_mk, upd]
            · simp [v_setR, v_rowR, q_c42, v_setI, v_rowI, v_make, q_V, q_newH, q_row, q_dH, q_mk, upd, h5]
          · simp [v_setR, v_rowR, q_c42, v_setI, v_rowI, v_make, q_V, q_newH, q_row, q_dH, q_mk, h4]
        · funext b k
          show _ = q_R (q_dH (q_mk (q_mk S (4, i0, n) 12) (25, i0, n) 96) i0 n).2.2.1 b k
          rw [q_R_dH]
          by_cases h36 : b = (36, i0, 0)
          · subst h36
            by_cases hk : k = n
            · subst hk
              simp [v_setR, v_rowR, va_up]
            · simp [v_setR, v_rowR, va_up, hk, q_c42, v_setI, v_rowI, v_make, q_V, q_mk]
          · rw [if_neg (fun h => h36 h.1)]
            by_cases h4 : b = (4, i0, n)
            · subst h4
              by_cases hk : k = 0
              · subst hk
                simp [v_setR, v_rowR, va_up, q_c42, v_setI, v_rowI, v_make, q_V, q_mk]
                rfl
              · have e : q_R S.2.2.1 (4, i0, n) k = (0, 0, 0) := by
                  show q_t [25] k (i0, n) = (0, 0, 0)
                  obtain ⟨j, rfl⟩ : ∃ j, k = j + 1 := ⟨k - 1, by omega⟩
                  rfl
                simp [v_setR, v_rowR, va_up, q_c42, v_setI, v_rowI, v_make, q_V, q_mk, hk, e]
            · by_cases h25 : b = (25, i0, n)
              · subst h25
                have e : q_R S.2.2.1 (25, i0, n) k = (0, 0, 0) := rfl
                simp [v_setR, v_rowR, q_c42, v_setI, v_rowI, v_make, q_V, q_mk, e]
              · simp [v_setR, v_rowR, q_c42, v_setI, v_rowI, v_make, q_V, q_mk, h36, h4, h25]
        · funext b
          by_cases h4 : b = (4, i0, n)
          · subst h4
            simp [v_setR, v_rowR, q_c42, v_setI, v_rowI, v_make, q_V, q_newH, q_row, q_dH, q_mk]
          · simp [v_setR, v_rowR, q_c42, v_setI, v_rowI, v_make, q_V, q_newH, q_row, q_dH, q_mk, h4]
        · funext b
          show _ = q_al (q_dH (q_mk (q_mk S (4, i0, n) 12) (25, i0, n) 96) i0 n).2.2.1 b
          rw [q_al_dH]
          rfl
      rw [ev]
      exact last _ (by show (if i0 = i0 ∧ n = n then true else _) = true; simp)
