/-! ===== keep, both sides ===== -/
theorem c_90 {c y : Nat} {Y V : GA} {X S : QS} (hC : g_C y Y V X S) (hW : g_W c Y) : ∃ S', f_90 (1 - y) y S = some ((), S') ∧ (∀ a : VA, ¬ (a.2.1 = 1 - y ∧ g_yt a.1 = true) → S'.1 a = S.1 a) ∧ (∀ r i j, r ≤ 8 → g_vd r i j → g_lv Y r i j → S'.1 (g_cl (1 - y) r i j).1 (g_cl (1 - y) r i j).2 = Y r i j) ∧ g_md S' (1 - y) Y ∧ g_D S S' := by
  obtain ⟨z, hz⟩ : ∃ z, z = 1 - y := ⟨_, rfl⟩
  have hy2 : y < 2 := hC.1.2.2
  rw [← hz]
  have hz2 : z < 2 := by omega
  have hyz : y ≠ z := by omega
  obtain ⟨w5, w0, wB, wL, wP, wK, wU, wF, wT, wS, wI, wD, wN⟩ := hW
  obtain ⟨n0, n1, n2, n8⟩ := w0
  have md := hC.2.2.2.1
  unfold f_90
  obtain ⟨S1, e1, a1, a2, a3, a4⟩ := n_cps S (9, z, 0) (9, y, 0) 5
  rw [e1, w_let, show (0 : Int32) = nI 0 from rfl]
  have d1 : g_D S S1 := g_D_eq a4
  obtain ⟨S2, e2, b1, b2, b3⟩ := n_90_10 hz2 hyz n0.2 q_N 0 S1 (by omega) (by have := n0.2; unfold q_N; omega) (by rw [a2, c_n0 hC]; exact n0.1) (fun h q => d1.2.2.1 y h (md.1 h q))
  rw [e2]
  have d2 : g_D S S2 := g_D_trans d1 b3
  have k2 : ∀ t, t ≠ 4 → t ≠ 25 → ∀ i j, S2.1 (t, i, j) = S1.1 (t, i, j) := fun t q1 q2 i j => b1 _ (fun h _ _ => ⟨fun q => by injection q with q3 q4; omega, fun q => by injection q with q3 q4; omega⟩)
  have k2y : ∀ t j, S2.1 (t, y, j) = S1.1 (t, y, j) := fun t j => b1 _ (fun h _ _ => ⟨fun q => hyz (by injection q with q3 q4; injection q4), fun q => hyz (by injection q with q3 q4; injection q4)⟩)
  have k1y : ∀ t j, S1.1 (t, y, j) = S.1 (t, y, j) := fun t j => a1 _ (fun q => hyz (by injection q with q3 q4; injection q4))
  obtain ⟨S3, e3, c1, c2, c3, c4⟩ := n_cps S2 (9, z, 0) (9, y, 0) 6
  rw [e3, w_let, show (0 : Int32) = nI 0 from rfl]
  have d3 : g_D S S3 := g_D_trans d2 (g_D_eq c4)
  have k3y : ∀ t j, S3.1 (t, y, j) = S.1 (t, y, j) := fun t j => by rw [c1 _ (fun q => hyz (by injection q with q3 q4; injection q4)), k2y, k1y]
  obtain ⟨S4, e4, f1, f2, f3⟩ := n_90_47 hz2 hyz n1.2 q_N 0 S3 (by omega) (by have := n1.2; unfold q_N; omega) (by rw [c2, k2y, k1y, c_n1 hC]; exact n1.1) (fun h q => ⟨d3.2.2.2.1 y h (md.2.1 h q), ⟨g_n (Y 3 h 0), (wL h q).2, by rw [k3y, c_l hC q (by have := n1.2; omega)]; exact (wL h q).1⟩⟩)
  rw [e4]
  have d4 : g_D S S4 := g_D_trans d3 f3
  have k4y : ∀ t j, S4.1 (t, y, j) = S.1 (t, y, j) := fun t j => by rw [f1 _ (fun h _ _ => ⟨fun q => hyz (by injection q with q3 q4; injection q4), fun q => hyz (by injection q with q3 q4; injection q4)⟩), k3y]
  have k4 : ∀ t, t ≠ 3 → t ≠ 24 → ∀ i j, S4.1 (t, i, j) = S3.1 (t, i, j) := fun t q1 q2 i j => f1 _ (fun h _ _ => ⟨fun q => by injection q with q3 q4; omega, fun q => by injection q with q3 q4; omega⟩)
  obtain ⟨S5, e5, g1, g2, g3, g4⟩ := n_cps S4 (9, z, 0) (9, y, 0) 7
  rw [e5, w_let, show (0 : Int32) = nI 0 from rfl]
  have d5 : g_D S S5 := g_D_trans d4 (g_D_eq g4)
  have k5y : ∀ t j, S5.1 (t, y, j) = S.1 (t, y, j) := fun t j => by rw [g1 _ (fun q => hyz (by injection q with q3 q4; injection q4)), k4y]
  obtain ⟨S6, e6, h1, h2, h3, h4⟩ := n_90_84 hz2 hyz n2.2 q_N 0 S5 (by omega) (by have := n2.2; unfold q_N; omega) (by rw [g2, k4y, c_n2 hC]; exact n2.1) (fun h q => d5.2.2.2.2.1 y h (md.2.2 h q))
  rw [e6]
  have d6 : g_D S S6 := g_D_trans d5 h3
  have k6y : ∀ t j, S6.1 (t, y, j) = S.1 (t, y, j) := fun t j => by rw [h1 _ (fun h _ _ => fun q => hyz (by injection q with q3 q4; injection q4)), k5y]
  have k6 : ∀ t, t ≠ 8 → ∀ i j, S6.1 (t, i, j) = S5.1 (t, i, j) := fun t q1 i j => h1 _ (fun h _ _ => fun q => by injection q with q3 q4; omega)
  obtain ⟨S7, e7, i1, i2, i3, i4, i5, i6, i7⟩ := n_90_end (y := y) (z := z) hyz n8.2 n2.2 S6 h4 (by rw [k6y, c_n8 hC]; exact n8.1)
  rw [e7]
  have d7 : g_D S S7 := g_D_trans d6 (g_D_eq i7)
  refine ⟨S7, rfl, ?_, ?_, ?_, d7⟩
  · intro a ha
    obtain ⟨t, i, j⟩ := a
    have key : ∀ u, u = 2 ∨ u = 3 ∨ u = 4 ∨ u = 8 ∨ u = 9 ∨ u = 21 ∨ u = 22 ∨ u = 23 ∨ u = 24 ∨ u = 25 ∨ u = 39 → ¬ (i = z ∧ t = u) := by
      intro u hu q
      apply ha
      refine ⟨q.1, ?_⟩
      obtain ⟨_, rfl⟩ := q
      rcases hu with hu | hu | hu | hu | hu | hu | hu | hu | hu | hu | hu <;> (subst hu; rfl)
    have q2 := key 2 (by omega)
    have q3 := key 3 (by omega)
    have q4 := key 4 (by omega)
    have q8 := key 8 (by omega)
    have q9 := key 9 (by omega)
    have q21 := key 21 (by omega)
    have q22 := key 22 (by omega)
    have q23 := key 23 (by omega)
    have q24 := key 24 (by omega)
    have q25 := key 25 (by omega)
    have q39 := key 39 (by omega)
    rw [i1 _ (fun q => by dsimp only at q; omega), h1 _ (fun h _ _ => fun q => by injection q with p1 p2; injection p2 with p2 p3; omega), g1 _ (fun q => by injection q with p1 p2; injection p2 with p2 p3; omega), f1 _ (fun h _ _ => ⟨fun q => by injection q with p1 p2; injection p2 with p2 p3; omega, fun q => by injection q with p1 p2; injection p2 with p2 p3; omega⟩), c1 _ (fun q => by injection q with p1 p2; injection p2 with p2 p3; omega), b1 _ (fun h _ _ => ⟨fun q => by injection q with p1 p2; injection p2 with p2 p3; omega, fun q => by injection q with p1 p2; injection p2 with p2 p3; omega⟩), a1 _ (fun q => by injection q with p1 p2; injection p2 with p2 p3; omega)]
  · intro r i j hr hv hl
    have hY := hC.2.1 r i j (by omega) hv hl
    match r, hr, hv, hl, hY with
    | 0, _, hv, _, hY =>
      obtain ⟨hi, hj⟩ := hv
      subst hj
      by_cases e8 : i = 8
      · subst e8
        show S7.1 (2, z, 0) 3 = Y 0 8 0
        rw [i5]
        exact n8.1.symm
      · have ec : ∀ u, g_cl u 0 i 0 = ((9, u, 0), i + 5) := fun u => if_neg e8
        rw [ec] at hY ⊢
        show S7.1 (9, z, 0) (i + 5) = Y 0 i 0
        by_cases e3 : 3 ≤ i
        · rw [i3 _ (by omega) (by omega), k6y]
          exact hY
        · rw [i2 _ (by omega) (by omega)]
          by_cases e0 : i = 0
          · subst e0
            rw [k6 9 (by omega), g3 _ (by omega), k4 9 (by omega) (by omega), c3 _ (by omega), k2 9 (by omega) (by omega), a2]
            exact hY
          · by_cases e01 : i = 1
            · subst e01
              rw [k6 9 (by omega), g3 _ (by omega), k4 9 (by omega) (by omega), c2, k2y, k1y]
              exact hY
            · have e02 : i = 2 := by omega
              subst e02
              rw [k6 9 (by omega), g2, k4y]
              exact hY
    | 1, _, hv, hl, hY =>
      have hl' : i < g_n (Y 0 0 0) := hl
      have q := (b2 i (by omega) hl').1 (if j = 10 then 1 else j + 2) (by split <;> omega) (by have := hv.2; split <;> omega)
      show S7.1 (4, z, i) (if j = 10 then 1 else j + 2) = Y 1 i j
      rw [i1 _ (fun q => by dsimp only at q; omega), k6 4 (by omega), g1 _ (fun q => by injection q with p1 p2; omega), k4 4 (by omega) (by omega), c1 _ (fun q => by injection q with p1 p2; omega), q, k1y]
      exact hY
    | 2, _, hv, hl, hY =>
      have hl' : i < g_n (Y 0 0 0) := hl.1
      have q := (b2 i (by omega) hl').2.1 j hv.2
      show S7.1 (25, z, i) j = Y 2 i j
      rw [i1 _ (fun q => by dsimp only at q; omega), k6 25 (by omega), g1 _ (fun q => by injection q with p1 p2; omega), k4 25 (by omega) (by omega), c1 _ (fun q => by injection q with p1 p2; omega), q, k1y]
      exact hY
    | 3, _, hv, hl, hY =>
      have hl' : i < g_n (Y 0 1 0) := hl
      obtain ⟨hi, hj⟩ := hv
      subst hj
      have q := (f2 i (by omega) hl').1
      show S7.1 (3, z, i) 1 = Y 3 i 0
      rw [i1 _ (fun q => by dsimp only at q; omega), k6 3 (by omega), g1 _ (fun q => by injection q with p1 p2; omega), q, k3y]
      exact hY
    | 4, _, hv, hl, hY =>
      have hl' : i < g_n (Y 0 1 0) := hl.1
      have q := (f2 i (by omega) hl').2.1 j (by rw [k3y, c_l hC hl' hv.1]; exact hl.2)
      show S7.1 (24, z, i) j = Y 4 i j
      rw [i1 _ (fun q => by dsimp only at q; omega), k6 24 (by omega), g1 _ (fun q => by injection q with p1 p2; omega), q, k3y]
      exact hY
    | 5, _, hv, hl, hY =>
      obtain ⟨hi, hj⟩ := hv
      subst hj
      show S7.1 (39, z, 0) i = Y 5 i 0
      rw [i4 i hi, k6y]
      exact hY
    | 6, _, hv, hl, hY =>
      have hl' : i < g_n (Y 0 2 0) := hl
      have q := (h2 i (by omega) hl').1 (if j < 4 then j else j + 1) (by have := hv.2; split <;> omega)
      show S7.1 (8, z, i) (if j < 4 then j else j + 1) = Y 6 i j
      rw [i1 _ (fun q => by dsimp only at q; omega), q, k5y]
      exact hY
    | 7, _, hv, hl, hY =>
      have hl' : i < g_n (Y 0 8 0) := hl
      show S7.1 (21 + j, z, 0) i = Y 7 i j
      rw [i6 j i hv.2 hl', k6y]
      exact hY
    | 8, _, hv, hl, hY =>
      have hl' : i < g_n (Y 0 2 0) := hl
      obtain ⟨hi, hj⟩ := hv
      subst hj
      have q := (h2 i (by omega) hl').1 4 (by omega)
      show S7.1 (8, z, i) 4 = Y 8 i 0
      rw [i1 _ (fun q => by dsimp only at q; omega), q, k5y]
      exact hY
    | n + 9, hr, _, _, _ => omega
  · refine ⟨?_, ?_, ?_⟩
    · intro h q
      exact (g_D_eq i7).2.2.1 z h (h3.2.2.1 z h ((g_D_eq g4).2.2.1 z h (f3.2.2.1 z h ((g_D_eq c4).2.2.1 z h (b2 h (by omega) q).2.2))))
    · intro h q
      exact (g_D_eq i7).2.2.2.1 z h (h3.2.2.2.1 z h ((g_D_eq g4).2.2.2.1 z h (f2 h (by omega) q).2.2))
    · intro h q
      exact (g_D_eq i7).2.2.2.2.1 z h (h2 h (by omega) q).2
theorem c_171 {c y : Nat} {Y V : GA} {X S : QS} (hC : g_C y Y V X S) (hW : g_W c Y) : ∃ S', f_171 S = some ((), S') ∧ g_C y (g_up Y 10 3 0 1) Y X S' := by
  obtain ⟨S1, e1, a1, a2, a3, a4⟩ := c_90 hC hW
  unfold f_171
  rw [hC.1.1, hC.1.2.1, e1, w_bd, w_let]
  have hy2 : y < 2 := hC.1.2.2
  obtain ⟨h1, h2, h3, h4, h5, h6, h7, h8⟩ := hC
  have nyt : ∀ r i j, r ≤ 13 → g_vd r i j → ¬ ((g_cl y r i j).1.2.1 = 1 - y ∧ g_yt (g_cl y r i j).1.1 = true) := by
    intro r i j hr hv q
    by_cases h8 : r ≤ 8
    · have := (g_cl_y (y := y) h8 hv).1
      omega
    · have := g_cl_o (y := y) (i := i) (j := j) (show 9 ≤ r by omega) hr
      rcases this with t | t | t <;> (rw [t] at q; exact absurd q.2 (by decide))
  refine ⟨_, rfl, ⟨a4.1.trans h1.1, a4.2.1.trans h1.2.1, hy2⟩, ?_, ?_, ?_, ?_, ?_, ?_, ?_⟩
  · intro r i j hr hv hl
    rw [g_set1]
    by_cases e : r = 10 ∧ i = 3 ∧ j = 0
    · obtain ⟨rfl, rfl, rfl⟩ := e
      rw [if_pos ⟨rfl, rfl⟩, g_up_same]
    · rw [if_neg, g_up_ne e, a1 _ (nyt r i j hr hv)]
      · rw [g_lv_up ⟨by omega, by omega, by omega⟩] at hl
        exact h2 r i j hr hv hl
      · intro q
        have e1 := g_uc_cl (y := y) hr hv
        have e2 := g_uc_cl (y := y) (r := 10) (i := 3) (j := 0) (by omega) ⟨by omega, rfl⟩
        rw [show g_cl y r i j = g_cl y 10 3 0 from Prod.ext q.1 q.2, e2] at e1
        injection e1 with b1 b2
        injection b2 with b2 b3
        exact e ⟨b1.symm, b2.symm, b3.symm⟩
  · intro _ r i j hr hv hl
    rw [g_set_a]
    · exact a2 r i j hr hv hl
    · intro q
      have := (g_cl_y (y := 1 - y) hr hv).2.2.1
      rw [q] at this
      exact this rfl
  · exact ⟨fun h q => a4.2.2.1 y h (h4.1 h q), fun h q => a4.2.2.2.1 y h (h4.2.1 h q), fun h q => a4.2.2.2.2.1 y h (h4.2.2 h q)⟩
  · exact fun _ => a3
  · intro k hk
    show g_rw _ k (Y 14 k 0)
    refine g_rw_set (by decide) ?_
    unfold g_rw
    rw [a1 _ (fun q => absurd q.2 (show ¬ g_yt 7 = true from by decide))]
    exact h6 k hk
  · intro a ha
    rw [g_set_a (fun q => by rw [q] at ha; cases ha), a1 a]
    · exact h7 a ha
    · intro q
      obtain ⟨t, i, j⟩ := a
      dsimp only at ha q
      unfold g_isR at ha
      have hq := q.2
      unfold g_yt at hq
      simp only [Bool.or_eq_true, beq_iff_eq, Nat.ble_eq] at ha hq
      omega
  · exact a4.2.2.2.2.2 h8
theorem t_188 {Y V : GA} {Z T : QS} (hT : g_T Y V Z T) : ∃ T', f_188 T = some ((), T') ∧ g_T (g_up Y 10 3 0 1) Y Z T' := by
  rw [r_188]
  obtain ⟨h1, h2, h3, h4⟩ := hT
  have n41 : ∀ r i j, r ≠ 8 → g_vd r i j → (g_rf r i j).1 ≠ (41, 0, 0) := fun r i j hr hv => (g_rf_R hr hv).2.2
  refine ⟨_, rfl, ?_, ?_, ?_, h4⟩
  · intro r i j hr hv
    by_cases e : r = 10 ∧ i = 3 ∧ j = 0
    · obtain ⟨rfl, rfl, rfl⟩ := e
      show (q_row (q_row T (41, 0, 0) _) (11, 0, 0) (upd (T.1 (11, 0, 0)) 2 1)).1 (11, 0, 0) 2 = g_up Y 10 3 0 1 10 3 0
      rw [w_row_same, g_up_same]
      rfl
    · rw [g_up_ne e, ← h1 r i j hr hv]
      by_cases e11 : (g_rf r i j).1 = (11, 0, 0)
      · rw [e11, w_row_same]
        unfold upd
        rw [if_neg]
        intro q
        have e1 := g_ur_rf hr hv
        have e2 := g_ur_rf (r := 10) (i := 3) (j := 0) (by omega) ⟨by omega, rfl⟩
        rw [show g_rf r i j = g_rf 10 3 0 from Prod.ext e11 q, e2] at e1
        injection e1 with b1 b2
        injection b2 with b2 b3
        exact e ⟨b1.symm, b2.symm, b3.symm⟩
      · rw [w_row_ne e11, w_row_ne (n41 r i j hr hv)]
  · intro _ r i j hr hv
    rw [w_row_ne (by decide), w_row_same]
    have e40 : (g_rf r i j).1 = (40, 0, 0) ∧ (g_rf r i j).2 < 19520 := by
      match r, hr, hv with
      | 0, _, hv => exact ⟨rfl, by have := hv.1; show i < 19520; omega⟩
      | 1, _, hv => exact ⟨rfl, by have := hv.1; have := hv.2; show 16880 + 11 * i + j < 19520; omega⟩
      | 2, _, hv => exact ⟨rfl, by have := hv.1; have := hv.2; show 10 + (96 * i + j) < 19520; omega⟩
      | 3, _, hv => exact ⟨rfl, by have := hv.1; have := hv.2; show 3850 + i < 19520; omega⟩
      | 4, _, hv => exact ⟨rfl, by have := hv.1; have := hv.2; show 4050 + 64 * i + j < 19520; omega⟩
      | 5, _, hv => exact ⟨rfl, by have := hv.1; have := hv.2; show 16850 + i < 19520; omega⟩
      | 6, _, hv => exact ⟨rfl, by have := hv.1; have := hv.2; show 17320 + 8 * i + j < 19520; omega⟩
      | 7, _, hv => exact ⟨rfl, by have := hv.1; have := hv.2; show 18920 + 3 * i + j < 19520; omega⟩
      | n + 8, h, _ => omega
    unfold a_keep
    rw [if_pos e40.2, ← h1 r i j (by omega) hv, e40.1]
  · intro a ha
    rw [w_row_ne, w_row_ne]
    · exact h3 a ha
    · intro q
      subst q
      rcases ha with ha | ha
      · cases ha
      · exact absurd ha (by decide)
    · intro q
      subst q
      rcases ha with ha | ha
      · cases ha
      · exact absurd ha (by decide)
theorem k_keep {c y : Nat} {Y V : GA} {X Z S T : QS} (h : g_R c y Y V X Z S T) : ∃ S' T', f_171 S = some ((), S') ∧ f_188 T = some ((), T') ∧ g_R c y (g_up Y 10 3 0 1) Y X Z S' T' := by
  obtain ⟨h1, h2, h3, h4, h5⟩ := h
  obtain ⟨S', e1, a1⟩ := c_171 h1 h3
  obtain ⟨T', e2, a2⟩ := t_188 h2
  exact ⟨S', T', e1, e2, a1, a2, g_W_o h3 (by omega), fun _ => h3, Or.inr (g_up_same _ _ _ _ _)⟩
