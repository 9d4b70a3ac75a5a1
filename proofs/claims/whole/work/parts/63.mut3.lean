/-! ===== out, back, undo ===== -/
theorem l_213 {c y : Nat} {Y V : GA} {X Z S T : QS} (h : g_R c y Y V X Z S T) (x1 r : Int32) : ∀ (m i p q : Nat), i + m = 24 → m < p → m < q → (b_102_2 p y (-1) (nI i) S = some (-1, S) ∧ b_213_8 q x1 r (nI i) T = b_213_33 x1 r (nI 24) T) ∨ ∃ k, k < 24 ∧ Y 5 k 0 = -1 ∧ b_102_2 p y (-1) (nI i) S = some (nI k, S) ∧ b_213_8 q x1 r (nI i) T = b_213_33 x1 r (nI k) T
  | m, i, 0, _, _, h1, _ => by omega
  | m, i, _, 0, _, _, h2 => by omega
  | m, i, p + 1, q + 1, hm, h1, h2 => by
    rw [b_102_2, b_213_8]
    cases m with
    | zero =>
      have e : i = 24 := by omega
      subst e
      rw [if_pos (show (24 : Int32) ≤ nI 24 from by decide), if_pos (show (24 : Int32) ≤ nI 24 from by decide)]
      exact Or.inl ⟨rfl, rfl⟩
    | succ m =>
      have e : ¬ (24 : Int32) ≤ nI i := by rw [show (24 : Int32) = nI 24 from rfl]; exact nI_ge (by omega) (by omega)
      rw [if_neg e, if_neg e, w_in (show i < 24 by omega) (by omega), show (16850 : Int32) + nI i = nI (16850 + i) from nI_add 16850 i, w_in (show 16850 + i < 19520 by omega) (by omega), nI_clamp (show i < 2 ^ 31 by omega), nI_clamp (show 16850 + i < 2 ^ 31 by omega), x_ck, x_let, x_ck, x_let, c_b h.1 (by omega), t_b h.2.1 (by omega), nI_1]
      have hM := h.2.2.1.2.2.2.2.2.1 i (by omega)
      have n1 := h.2.2.1.2.1.2.1.2
      by_cases e2 : Y 5 i 0 = -1
      · rw [if_neg (fun q => q e2), if_pos ((g_M_lt hM (by omega)).2 e2)]
        exact Or.inr ⟨i, by omega, e2, rfl, rfl⟩
      · rw [if_pos e2, if_neg (fun q => e2 ((g_M_lt hM (by omega)).1 q))]
        exact l_213 h x1 r m (i + 1) p q (by omega) (by omega) (by omega)
theorem g_10p (k i : Nat) : (10 : Int32) + nI (96 * k + i) = nI (10 + (96 * k + i)) := nI_add 10 (96 * k + i)
theorem g_16b (k : Nat) : (16850 : Int32) + nI k = nI (16850 + k) := nI_add 16850 k
theorem jj_125 {c y : Nat} {Y V : GA} {X Z S T : QS} (h : g_R c y Y V X Z S T) (x : Int32) : g_Ok c X Z (f_125 x S) (f_213 x T) := by
  obtain ⟨hC, hT, hW, hV, hU⟩ := id h
  unfold f_125 f_213 f_101
  rw [c_176 hC hW, t_201 hT hW]
  simp only [x_bd, w_eta]
  rcases g_fw_cases hW x with q | ⟨q, k, i, n, a1, a2, a3, a4, a5, a6, a7, rfl⟩
  · rw [if_neg (g_12a q)]
    have key : ∀ j, b_213_33 x (g_fw Y x) j T = f_186 (g_fw Y x) T := by
      intro j
      unfold b_213_33 b_213_46
      rw [if_pos (g_12a q), if_neg (g_12b q), w_eta]
    rcases l_213 h x (g_fw Y x) 24 0 q_N q_N (by omega) (by unfold q_N; omega) (by unfold q_N; omega) with ⟨_, e⟩ | ⟨j, _, _, _, e⟩
    · rw [show b_213_8 q_N x (g_fw Y x) 0 T = _ from e, key]
      exact g_refuse h _
    · rw [show b_213_8 q_N x (g_fw Y x) 0 T = _ from e, key]
      exact g_refuse h _
  · rw [if_pos q, c_now hC]
    rcases l_213 h (nI (96 * k + i)) (g_fw Y (nI (96 * k + i))) 24 0 q_N q_N (by omega) (by unfold q_N; omega) (by unfold q_N; omega) with ⟨e1, e2⟩ | ⟨b, hb, hb1, e1, e2⟩
    · rw [show b_213_8 q_N (nI (96 * k + i)) (g_fw Y (nI (96 * k + i))) 0 T = _ from e2, show f_102 y (-1) S = _ from e1, x_bd, if_neg (show ¬ ¬ (-1 : Int32) = -1 from by decide)]
      unfold b_213_33 b_213_46
      rw [if_neg (show ¬ ¬ g_fw Y (nI (96 * k + i)) = 0 from fun p => p q), if_neg (show ¬ ¬ nI 24 = 24 from by decide), if_neg (show ¬ (6 : Int32) ≤ 0 from by decide), w_eta]
      exact g_refuse h _
    · rw [show b_213_8 q_N (nI (96 * k + i)) (g_fw Y (nI (96 * k + i))) 0 T = _ from e2, show f_102 y (-1) S = _ from e1, x_bd, if_pos (g_nI_m1 (by omega))]
      unfold b_213_33 b_213_46
      rw [if_neg (show ¬ ¬ g_fw Y (nI (96 * k + i)) = 0 from fun p => p q), if_pos (show ¬ nI b = 24 from by rw [show (24 : Int32) = nI 24 from rfl, nI_eq (by omega) (by omega)]; omega), if_pos (g_12c q)]
      obtain ⟨S1, T1, f1, f2, hk⟩ := k_keep h
      obtain ⟨kC, kT, kW, _, _⟩ := id hk
      have a7' : g_up Y 10 3 0 1 2 k i = nI n := a7
      rw [f1, f2, x_bd, x_bd, c_now kC, c_98 kC a1 a2 a3 a4, x_bd, t_194 kT a2 a4, x_bd, a7', w_in hb (by omega), nI_clamp (show b < 2 ^ 31 by omega), x_ck, g_16b, w_in (show 16850 + b < 19520 by omega) (by omega), nI_clamp (show 16850 + b < 2 ^ 31 by omega), x_ck, g_10p, w_in (show 10 + (96 * k + i) < 19520 by omega) (by omega), nI_clamp (show 10 + (96 * k + i) < 2 ^ 31 by omega)]
      obtain ⟨S2, g1, hC2⟩ := cs_b kC hb (nI n)
      obtain ⟨T2, g2, hT2⟩ := ts_b kT hb (nI n)
      rw [g1, x_let, g2, x_let, x_ck, c_now hC2]
      obtain ⟨S3, g3, hC3⟩ := c_99 hC2 (k := k) (i := i) a1 a2 a4 (-1)
      obtain ⟨T3, g4, hT3⟩ := ts_p hT2 (k := k) (i := i) a2 a4 (-1)
      rw [g3, x_bd, g4, x_let, w_eta]
      have wU := hW.2.2.2.2.2.2.1
      have w1 : g_W c (g_up (g_up Y 10 3 0 1) 2 k i (-1)) := g_W_p kW a2 a4 (Or.inl rfl)
      have w2 : g_W c (g_up (g_up (g_up Y 10 3 0 1) 2 k i (-1)) 5 b 0 (nI n)) := by
        refine g_W_b w1 hb (Or.inr ⟨⟨n, a5, rfl⟩, ?_, ?_⟩)
        · intro k' j' h1 h2 q1
          by_cases e : k' = k ∧ j' = i
          · obtain ⟨rfl, rfl⟩ := e
            rw [g_up_same] at q1
            exact g_nI_m1 (n := n) (by omega) q1.symm
          · rw [g_up_ne (fun p => e p.2)] at q1
            have q2 : Y 2 k' j' = nI n := q1
            exact e (wU.1 k' j' k i h1 h2 a2 a4 (by rw [q2, a7]) (by rw [q2]; exact g_nI_m1 (by omega)))
        · intro b' hb' q1
          have q2 : Y 5 b' 0 = nI n := q1
          have := wU.2.2 k i b' a2 a4 hb' (by rw [q2, a7])
          rw [a7] at this
          exact g_nI_m1 (n := n) (by omega) this
      rw [g_up_comm (fun p => by omega)] at hC3 hT3
      exact g_fin hC3 hT3 w2 hW (Nat.le_refl c) rfl _
theorem jj_126 {c y : Nat} {Y V : GA} {X Z S T : QS} (h : g_R c y Y V X Z S T) (x z : Int32) : g_Ok c X Z (f_126 x z S) (f_214 x z T) := by
  obtain ⟨hC, hT, hW, hV, hU⟩ := id h
  unfold f_126 f_214 f_189 b_126_10
  simp only [w_eta]
  have no : ∀ e, ¬ e = 0 → ¬ e ≤ 0 → b_214_36 x z e T = f_186 e T := by
    intro e h1 h2
    unfold b_214_36 b_214_52
    rw [if_pos h1, if_neg h2, w_eta]
  by_cases h1 : x < 0
  · rw [if_pos h1, if_pos h1, x_bd, if_neg (show ¬ ¬ (0 : Int32) = 0 from by decide), no 2 (by decide) (by decide)]
    exact g_refuse h _
  · rw [if_neg h1, if_neg h1]
    by_cases h2 : x < 24
    · rw [if_pos h2, if_neg ((g_ltT x 24 23 (by decide)).1 h2), x_bd, if_pos (show ¬ (1 : Int32) = 0 from by decide)]
      obtain ⟨b, hb, rfl⟩ := g_ixl (n := 24) (by decide) h1 h2 (by omega)
      rw [w_in hb (by omega), nI_clamp (show b < 2 ^ 31 by omega), g_16b, w_in (show 16850 + b < 19520 by omega) (by omega), nI_clamp (show 16850 + b < 2 ^ 31 by omega), c_now hC, c_b hC hb, t_b hT hb]
      rw [x_ck, x_ck, x_let, x_let]
      have n12 := hW.2.1.2.1.2
      rcases hW.2.2.2.2.2.1 b hb with e | ⟨n, hn, e⟩
      · rw [e, if_neg (show ¬ ¬ (-1 : Int32) = -1 from by decide), if_neg (show ¬ (0 : Int32) ≤ -1 from by decide), no 1 (by decide) (by decide)]
        exact g_refuse h _
      · rw [e, if_pos (g_nI_m1 (by omega)), if_pos (nI_pos' (by omega)), c_175 hC hW, t_200 hT hW, x_bd, x_bd]
        rcases g_pw_cases hW z with q | ⟨q, k, i, a1, a2, a3, a4, rfl⟩
        · rw [if_neg (g_12a q), no _ (g_12a q) (g_12b q)]
          exact g_refuse h _
        · rw [if_pos q, c_now hC, c_98 hC a1 a2 a3 a4, x_bd]
          unfold b_214_36
          rw [if_neg (show ¬ ¬ g_pw Y (nI (96 * k + i)) = 0 from fun p => p q), t_194 hT a2 a4, x_bd]
          unfold b_214_52
          have wU := hW.2.2.2.2.2.2.1
          rcases hW.2.2.2.2.1 k i a2 a4 with e2 | ⟨_, _, m, hm, e2⟩
          · rw [e2, if_pos rfl, if_pos (show (-1 : Int32) < 0 from by decide), if_pos (g_12c q)]
            obtain ⟨S1, T1, f1, f2, hk⟩ := k_keep h
            obtain ⟨kC, kT, kW, _, _⟩ := id hk
            have e' : g_up Y 10 3 0 1 5 b 0 = nI n := e
            rw [f1, f2, x_bd, x_bd, c_now kC, x_ck, c_b kC hb, x_let, g_16b, w_in (show 16850 + b < 19520 by omega) (by omega), nI_clamp (show 16850 + b < 2 ^ 31 by omega), x_ck, t_b kT hb, x_let, e', g_10p, w_in (show 10 + (96 * k + i) < 19520 by omega) (by omega), nI_clamp (show 10 + (96 * k + i) < 2 ^ 31 by omega), x_ck]
            obtain ⟨S2, g1, hC2⟩ := c_99 kC (k := k) (i := i) a1 a2 a4 (nI n)
            obtain ⟨T2, g2, hT2⟩ := ts_p kT (k := k) (i := i) a2 a4 (nI n)
            rw [g1, g2]
            simp only [x_bd, x_let, x_ck, w_eta]
            rw [c_now hC2]
            obtain ⟨S3, g3, hC3⟩ := cs_b hC2 hb (-1)
            obtain ⟨T3, g4, hT3⟩ := ts_b hT2 hb (-1)
            rw [g3, g4]
            have w1 : g_W c (g_up (g_up Y 10 3 0 1) 5 b 0 (-1)) := g_W_b kW hb (Or.inl rfl)
            have w2 : g_W c (g_up (g_up (g_up Y 10 3 0 1) 5 b 0 (-1)) 2 k i (nI n)) := by
              refine g_W_p w1 a2 a4 (Or.inr ⟨a1, a3, ⟨n, hn, rfl⟩, ?_, ?_⟩)
              · intro k' j' h1 h2 q1
                have q2 : Y 2 k' j' = nI n := q1
                have := wU.2.2 k' j' b h1 h2 hb (by rw [q2, e])
                rw [q2] at this
                exact g_nI_m1 (n := n) (by omega) this
              · intro b' hb' q1
                by_cases eb : b' = b
                · subst eb
                  rw [g_up_same] at q1
                  exact g_nI_m1 (n := n) (by omega) q1.symm
                · rw [g_up_ne (fun p => eb p.2.1)] at q1
                  have q2 : Y 5 b' 0 = nI n := q1
                  exact eb (wU.2.1 b' b hb' hb (by rw [q2, e]) (by rw [q2]; exact g_nI_m1 (by omega)))
            rw [g_up_comm (fun p => by omega)] at hC3 hT3
            exact g_fin hC3 hT3 w2 hW (Nat.le_refl c) rfl _
          · rw [e2, if_neg (g_nI_m1 (by omega)), if_neg (nI_pos (by omega)), if_neg (show ¬ (6 : Int32) ≤ 0 from by decide), w_eta]
            exact g_refuse h _
    · rw [if_neg h2, if_pos (by rw [g_ltT x 24 23 (by decide)] at h2; exact Decidable.not_not.1 h2), x_bd, if_neg (show ¬ ¬ (0 : Int32) = 0 from by decide), no 2 (by decide) (by decide)]
      exact g_refuse h _
/-- one step back -/
theorem r_284 : ∀ (n j : Nat) (T : QS), j ≤ 19520 → 19520 - j < n → ∃ T', b_284_15 n (nI j) T = f_187 1 (q_set T' (11, 0, 0) 2 0) ∧ (∀ a, a ≠ (40, 0, 0) → T'.1 a = T.1 a) ∧ (∀ k, T'.1 (40, 0, 0) k = if j ≤ k ∧ k < 19520 then T.1 (41, 0, 0) k else T.1 (40, 0, 0) k) ∧ T'.2 = T.2
  | 0, j, T, _, h => by omega
  | n + 1, j, T, hj, hn => by
    rw [b_284_15]
    by_cases e : j = 19520
    · subst e
      rw [if_pos (show (19520 : Int32) ≤ nI 19520 from by decide), x_let, w_eta]
      refine ⟨T, rfl, fun _ _ => rfl, ?_, rfl⟩
      intro k
      rw [if_neg (by omega)]
    · rw [if_neg (show ¬ (19520 : Int32) ≤ nI j from nI_ge (b := 19520) (by omega) (by omega)), w_in (show j < 19520 by omega) (by omega), nI_clamp (by omega), x_ck, x_let, x_ck, x_let, nI_1]
      obtain ⟨T', e1, h1, h2, h3⟩ := r_284 n (j + 1) (q_set T (40, 0, 0) j (T.1 (41, 0, 0) j)) (by omega) (by omega)
      rw [e1]
      refine ⟨T', rfl, ?_, ?_, h3⟩
      · intro a ha
        rw [h1 a ha, g_set_a ha]
      · intro k
        rw [h2 k, g_set_a (by decide), g_set1]
        by_cases e2 : k = j
        · subst e2
          rw [if_neg (by omega), if_pos ⟨rfl, rfl⟩, if_pos (by omega)]
        · rw [if_neg (show ¬ ((40, 0, 0) = ((40, 0, 0) : VA) ∧ k = j) from fun q => e2 q.2)]
          by_cases e3 : j + 1 ≤ k ∧ k < 19520
          · rw [if_pos e3, if_pos (by omega)]
          · rw [if_neg e3, if_neg (by omega)]
def g_ub (Y V : GA) : GA := fun r i j => if r ≤ 8 then V r i j else if r = 10 ∧ i = 3 ∧ j = 0 then 0 else Y r i j
theorem g_cl_ind {y z r i j : Nat} (h : 9 ≤ r) : g_cl y r i j = g_cl z r i j := by
  obtain ⟨k, rfl⟩ : ∃ k, r = k + 9 := ⟨r - 9, by omega⟩
  match k with
  | 0 => rfl
  | 1 => rfl
  | 2 => rfl
  | 3 => rfl
  | 4 => rfl
  | n + 5 => rfl
theorem jj_166 {c y : Nat} {Y V : GA} {X Z S T : QS} (h : g_R c y Y V X Z S T) : g_Ok c X Z (f_166 S) (f_284 T) := by
  obtain ⟨hC, hT, hW, hV, hU⟩ := id h
  unfold f_166 f_284
  rw [c_z3 hC, t_z3 hT]
  simp only [w_eta]
  rcases hU with hU | hU
  · rw [hU, if_neg (show ¬ ¬ (0 : Int32) = 0 from by decide), if_neg (show ¬ ¬ (0 : Int32) = 0 from by decide)]
    exact g_accept h _
  · rw [hU, if_pos (show ¬ (1 : Int32) = 0 from by decide), if_pos (show ¬ (1 : Int32) = 0 from by decide)]
    obtain ⟨T', e1, h1, h2, h3⟩ := r_284 q_N 0 T (by omega) (by unfold q_N; omega)
    rw [show b_284_15 q_N 0 T = _ from e1, x_let, x_let, x_let, c_bef hC, c_now hC]
    obtain ⟨b1, b2, b3, b4, b5, b6, b7, b8⟩ := hC
    obtain ⟨t1, t2, t3, t4⟩ := hT
    have hy := b1.2.2
    have u8 : ∀ r, r ≤ 8 → g_ub Y V r = V r := fun r hr => by funext i j; exact if_pos hr
    have u9 : ∀ r i j, 9 ≤ r → ¬ (r = 10 ∧ i = 3 ∧ j = 0) → g_ub Y V r i j = Y r i j := fun r i j hr hn => by
      unfold g_ub
      rw [if_neg (by omega), if_neg hn]
    have u10 : g_ub Y V 10 3 0 = 0 := rfl
    have lv : ∀ r i j, r ≤ 8 → g_lv (g_ub Y V) r i j = g_lv V r i j := by
      intro r i j _
      unfold g_lv
      rw [u8 0 (by omega), u8 1 (by omega), u8 3 (by omega)]
    have cs : ∀ a k, (q_set (q_bf (q_nw S (1 - y)) y) (10, 0, 0) 2 0).1 a k = if a = (10, 0, 0) ∧ k = 2 then 0 else S.1 a k := fun a k => g_set1 _ _ _ _ _ _
    have hR : g_R c (1 - y) (g_ub Y V) V X Z (q_set (q_bf (q_nw S (1 - y)) y) (10, 0, 0) 2 0) (q_set T' (11, 0, 0) 2 0) := by
      refine ⟨⟨⟨rfl, by show y = 1 - (1 - y); omega, by omega⟩, ?_, ?_, ?_, ?_, ?_, ?_, b8⟩, ⟨?_, ?_, ?_, ?_⟩, ?_, ?_, Or.inl u10⟩
      · intro r i j hr hv hl
        rw [cs]
        by_cases e : r = 10 ∧ i = 3 ∧ j = 0
        · obtain ⟨rfl, rfl, rfl⟩ := e
          rw [if_pos ⟨rfl, rfl⟩, u10]
        · rw [if_neg]
          · by_cases h8 : r ≤ 8
            · rw [u8 r h8]
              rw [lv r i j h8] at hl
              exact b3 hU r i j h8 hv hl
            · rw [u9 r i j (by omega) e, g_cl_ind (y := 1 - y) (z := y) (by omega)]
              refine b2 r i j hr hv ?_
              obtain ⟨k, rfl⟩ : ∃ k, r = k + 9 := ⟨r - 9, by omega⟩
              exact trivial
          · intro q
            have e1 := g_uc_cl (y := 1 - y) hr hv
            have e2 := g_uc_cl (y := 1 - y) (r := 10) (i := 3) (j := 0) (by omega) ⟨by omega, rfl⟩
            rw [show g_cl (1 - y) r i j = g_cl (1 - y) 10 3 0 from Prod.ext q.1 q.2, e2] at e1
            injection e1 with p1 p2
            injection p2 with p2 p3
            exact e ⟨p1.symm, p2.symm, p3.symm⟩
      · intro q
        rw [u10] at q
        exact absurd q (by decide)
      · have q := b5 hU
        unfold g_md at q ⊢
        rw [u8 0 (by omega)]
        exact q
      · intro q
        rw [u10] at q
        exact absurd q (by decide)
      · intro k hk
        rw [u9 14 k 0 (by omega) (by omega)]
        exact g_rw_set (by decide) (b6 k hk)
      · intro a ha
        rw [g_set_a (fun q => by rw [q] at ha; cases ha)]
        exact b7 a ha
      · intro r i j hr hv
        have hRR := g_rf_R hr hv
        rw [g_set1]
        by_cases e : r = 10 ∧ i = 3 ∧ j = 0
        · obtain ⟨rfl, rfl, rfl⟩ := e
          rw [if_pos ⟨rfl, rfl⟩, u10]
        · rw [if_neg]
          · by_cases h8 : r ≤ 7
            · have e40 : (g_rf r i j).1 = (40, 0, 0) ∧ (g_rf r i j).2 < 19520 := by
                match r, h8, hv with
                | 0, _, hv => exact ⟨rfl, by have := hv.1; show i < 19520; omega⟩
                | 1, _, hv => exact ⟨rfl, by have := hv.1; have := hv.2; show 16880 + 11 * i + j < 19520; omega⟩
                | 2, _, hv => exact ⟨rfl, by have := hv.1; have := hv.2; show 10 + (96 * i + j) < 19520; omega⟩
                | 3, _, hv => exact ⟨rfl, by have := hv.1; have := hv.2; show 3850 + i < 19520; omega⟩
                | 4, _, hv => exact ⟨rfl, by have := hv.1; have := hv.2; show 4050 + 64 * i + j < 19520; omega⟩
                | 5, _, hv => exact ⟨rfl, by have := hv.1; have := hv.2; show 16850 + i < 19520; omega⟩
                | 6, _, hv => exact ⟨rfl, by have := hv.1; have := hv.2; show 17320 + 8 * i + j < 19520; omega⟩
                | 7, _, hv => exact ⟨rfl, by have := hv.1; have := hv.2; show 18920 + 3 * i + j < 19520; omega⟩
                | n + 8, h, _ => omega
              rw [e40.1, h2, if_pos ⟨by omega, e40.2⟩, u8 r (by omega)]
              exact t2 hU r i j h8 hv
            · rw [u9 r i j (by omega) e, h1 _ (fun q => by
                have e2 := g_ur_rf hr hv
                have e3 : g_ur (g_rf r i j) = g_u40 (g_rf r i j).2 := by
                  unfold g_ur
                  rw [q]
                  rfl
                rw [e3] at e2
                unfold g_u40 at e2
                have : r ≤ 7 := by
                  split at e2
                  · injection e2 with p1 p2; omega
                  · split at e2
                    · injection e2 with p1 p2; omega
                    · split at e2
                      · injection e2 with p1 p2; omega
                      · split at e2
                        · injection e2 with p1 p2; omega
                        · split at e2
                          · injection e2 with p1 p2; omega
                          · split at e2
                            · injection e2 with p1 p2; omega
                            · split at e2
                              · injection e2 with p1 p2; omega
                              · injection e2 with p1 p2; omega
                exact h8 this)]
              exact t1 r i j hr hv
          · intro q
            have e1 := g_ur_rf hr hv
            have e2 := g_ur_rf (r := 10) (i := 3) (j := 0) (by omega) ⟨by omega, rfl⟩
            rw [show g_rf r i j = g_rf 10 3 0 from Prod.ext q.1 q.2, e2] at e1
            injection e1 with p1 p2
            injection p2 with p2 p3
            exact e ⟨p1.symm, p2.symm, p3.symm⟩
      · intro q
        rw [u10] at q
        exact absurd q (by decide)
      · intro a ha
        rw [g_set_a, h1 a]
        · exact t3 a ha
        · intro q
          subst q
          rcases ha with ha | ha
          · cases ha
          · exact absurd ha (by decide)
        · intro q
          subst q
          rcases ha with ha | ha
          · cases ha
          · exact absurd ha (by decide)
      · show T'.2.2 = Z.2.2
        rw [h3]
        exact t4
      · unfold g_W
        rw [u8 0 (by omega), u8 1 (by omega), u8 2 (by omega), u8 3 (by omega), u8 4 (by omega), u8 5 (by omega), u8 6 (by omega), u8 8 (by omega)]
        exact hV hU
      · intro q
        rw [u10] at q
        exact absurd q (by decide)
    exact g_accept hR _
