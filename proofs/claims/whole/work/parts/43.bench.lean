theorem q_run.brT {m pc : Nat} {lv : VL} {st : List VV} {V V1 : VH} {r : Option VV} {cd : List VE} (hc : v_code m = cd) {c : Prop} [Decidable c] {t f : Nat} {lv' : VL} {st' : List VV} {V' : VH} (h : v_1 cd (pc, lv, st, V) = some (.inl (v_br (decide c) t f, lv', st', V'))) (hcc : c) (g : q_run m t lv' st' V' r V1) : q_run m pc lv st V r V1 := by
  obtain ⟨n, hn⟩ := g
  refine ⟨n + 1, ?_⟩
  rw [decide_eq_true hcc] at h
  unfold v_go
  rw [hc, h]
  exact hn
theorem q_run.brF {m pc : Nat} {lv : VL} {st : List VV} {V V1 : VH} {r : Option VV} {cd : List VE} (hc : v_code m = cd) {c : Prop} [Decidable c] {t f : Nat} {lv' : VL} {st' : List VV} {V' : VH} (h : v_1 cd (pc, lv, st, V) = some (.inl (v_br (decide c) t f, lv', st', V'))) (hcc : ¬ c) (g : q_run m f lv' st' V' r V1) : q_run m pc lv st V r V1 := by
  obtain ⟨n, hn⟩ := g
  refine ⟨n + 1, ?_⟩
  rw [decide_eq_false hcc] at h
  unfold v_go
  rw [hc, h]
  exact hn
theorem q_run.sub {m pc : Nat} {lv lv' : VL} {st : List VV} {V V1 : VH} {r : Option VV} (ks : List Nat) (hk : lv'.map (fun q => q.1) = ks) (hn : ks.Nodup) (h : q_has lv lv') (g : q_run m pc lv' st V r V1) : q_run m pc lv st V r V1 := by
  obtain ⟨n, h1⟩ := g
  exact ⟨n, v_go_sub ⟨by unfold v_nd; rw [hk]; exact hn, q_has_sub h⟩ h1⟩
theorem vc_89 : v_code 89 = k_89 := rfl
/-- a yard's bench becomes empty -/
theorem ct_bench (y : Nat) {R : VA → Nat → VA} (hR : R (9, y, 0) 3 = (39, y, 0)) (l : List VA) (cn sn : Nat) : ∀ (n j : Nat) (J : VA → Nat → Int32), j ≤ 24 → 24 - j < n → q_run 89 94 [(1, .inl (nI j)), (0, .inr (.inr (9, y, 0)))] [] (q_C J R l cn sn) none (q_C (fun a => if a = (39, y, 0) then (fun k => if j ≤ k ∧ k < 24 then -1 else J (39, y, 0) k) else J a) R l cn sn) := by
  intro n
  induction n with
  | zero => intro j J _ h; omega
  | succ n ih =>
    intro j J hj hn
    refine q_run.steps vc_89 2 (pc' := 97) (lv' := [(1, .inl (nI j)), (0, .inr (.inr (9, y, 0)))]) (st' := [.inl 24, .inl (nI j)]) (V' := q_C J R l cn sn) rfl ?_
    by_cases hc : j = 24
    · subst hc
      refine q_run.brT vc_89 (c := (24 : Int32) ≤ nI 24) (t := 113) (f := 100) (lv' := [(1, .inl (nI 24)), (0, .inr (.inr (9, y, 0)))]) (st' := []) (V' := q_C J R l cn sn) rfl (by decide) ?_
      have e : (fun a => if a = (39, y, 0) then (fun k => if 24 ≤ k ∧ k < 24 then -1 else J (39, y, 0) k) else J a) = J := by
        funext a
        split
        · rename_i h
          subst h
          funext k
          rw [if_neg (by omega)]
        · rfl
      rw [e]
      exact q_run.ret vc_89 rfl
    · refine q_run.brF vc_89 (c := (24 : Int32) ≤ nI j) (t := 113) (f := 100) (lv' := [(1, .inl (nI j)), (0, .inr (.inr (9, y, 0)))]) (st' := []) (V' := q_C J R l cn sn) rfl (by
        rw [show (24 : Int32) = nI 24 from rfl, nI_leI (by omega) (by omega)]
        omega) ?_
      refine q_run.steps vc_89 4 (pc' := 106) (lv' := [(1, .inl (nI j)), (0, .inr (.inr (9, y, 0)))]) (st' := [.inl (-1), .inl (nI j), .inr (.inr (R (9, y, 0) 3))]) (V' := q_C J R l cn sn) rfl ?_
      rw [hR]
      refine q_run.okd vc_89 (c := v_in (nI j) 24) (s' := (107, [(1, .inl (nI j)), (0, .inr (.inr (9, y, 0)))], [], v_setI (q_C J R l cn sn) (39, y, 0) (nI j).toNatClampNeg (-1))) rfl (w_in (by omega) (by omega)) ?_
      rw [nI_clamp (by omega)]
      refine q_run.steps vc_89 2 (pc' := 94) (lv' := [(1, .inl (nI j + 1)), (0, .inr (.inr (9, y, 0)))]) (st' := []) (V' := v_setI (q_C J R l cn sn) (39, y, 0) j (-1)) rfl ?_
      rw [nI_1]
      have h2 := ih (j + 1) (fun a => if a = (39, y, 0) then upd (J (39, y, 0)) j (-1) else J a) (by omega) (by omega)
      have e : (fun a => if a = (39, y, 0) then (fun k => if j + 1 ≤ k ∧ k < 24 then -1 else (if ((39, y, 0) : VA) = (39, y, 0) then upd (J (39, y, 0)) j (-1) else J (39, y, 0)) k) else (if a = (39, y, 0) then upd (J (39, y, 0)) j (-1) else J a)) = (fun a => if a = (39, y, 0) then (fun k => if j ≤ k ∧ k < 24 then -1 else J (39, y, 0) k) else J a) := by
        funext a
        by_cases ha : a = (39, y, 0)
        · rw [if_pos ha, if_pos ha]
          funext k
          rw [if_pos rfl]
          unfold upd
          by_cases hk : k = j
          · subst hk
            rw [if_neg (by omega), if_pos rfl, if_pos (by omega)]
          · by_cases h3 : j + 1 ≤ k ∧ k < 24
            · rw [if_pos h3, if_pos (by omega)]
            · rw [if_neg h3, if_neg hk, if_neg (by omega)]
        · rw [if_neg ha, if_neg ha, if_neg ha]
      rw [e] at h2
      exact h2
