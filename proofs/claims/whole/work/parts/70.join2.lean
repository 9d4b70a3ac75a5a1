/-! ===== join: the reference; split ===== -/
theorem l_233 {V : GA} {Z : QS} {h g : Nat} (hg : g ≠ h) (h4 : h < 40) (g4 : g < 40) (x4 : Int32) (Y0 : GA) (hs3 : g_M (Y0 1 h 3) 200) : ∀ (m w p : Nat) (Y : GA) (T : QS), w + m = 7 → m < p → g_T Y V Z T → (∀ r i j, Y r i j = if r = 1 ∧ i = h ∧ j < w ∧ j ≠ 3 then Y0 1 h j + Y0 1 g j else if r = 1 ∧ i = g ∧ j < w ∧ j ≠ 3 then 0 else Y0 r i j) → ∃ T', b_233_79 p (nI h) (nI g) x4 (nI w) T = f_187 x4 T' ∧ g_T (g_jn Y0 h g) V Z T'
  | m, w, 0, _, _, _, h1, _, _ => by omega
  | m, w, p + 1, Y, T, hm, hp, hT, hY => by
    rw [b_233_79]
    unfold b_233_125 b_233_152
    simp only [w_eta]
    cases m with
    | zero =>
      have e : w = 7 := by omega
      subst e
      have eh : ∀ a, Y 1 a 3 = Y0 1 a 3 := fun a => by rw [hY, if_neg (by omega), if_neg (by omega)]
      rw [if_pos (show (6 : Int32) < nI 7 from by decide), t_190_3 hT h4, x_bd, eh, t_190_3 hT g4, eh]
      have goal : ∀ (W : GA) (T1 : QS), g_T W V Z T1 → (∀ r i j, W r i j = if r = 1 ∧ i = h ∧ j = 3 then (if Y0 1 h 3 = -1 then Y0 1 g 3 else Y0 1 h 3) else Y r i j) → ∃ T', q_bd (f_191 (nI g) 3 (-1) T1) (fun r_15 S_16 => f_187 x4 S_16) = f_187 x4 T' ∧ g_T (g_jn Y0 h g) V Z T' := by
        intro W T1 hT1 hW
        obtain ⟨T2, e2, hT2⟩ := t_191_3 hT1 g4 (-1)
        rw [e2, x_bd]
        refine ⟨T2, rfl, g_T_ext hT2 (fun r i j _ _ => ?_)⟩
        by_cases q1 : r = 1 ∧ i = g
        · obtain ⟨rfl, rfl⟩ := q1
          rw [g_jn_g hg]
          by_cases q3 : j = 3
          · subst q3
            rw [if_pos rfl, g_up_same]
          · have eW : W 1 i j = Y 1 i j := by rw [hW, if_neg (fun p => hg p.2.1)]
            have eY : Y 1 i j = if 1 = 1 ∧ i = i ∧ j < 7 ∧ j ≠ 3 then 0 else Y0 1 i j := by rw [hY, if_neg (show ¬ (1 = 1 ∧ i = h ∧ j < 7 ∧ j ≠ 3) from fun p => hg p.2.1)]
            rw [if_neg q3, g_up_ne (fun p => q3 p.2.2), eW, eY]
            by_cases q7 : j < 7
            · rw [if_pos q7, if_pos ⟨rfl, rfl, q7, q3⟩]
            · rw [if_neg q7, if_neg (show ¬ (1 = 1 ∧ i = i ∧ j < 7 ∧ j ≠ 3) from fun p => q7 p.2.2.1)]
        · rw [g_up_ne (fun p => q1 ⟨p.1, p.2.1⟩), hW]
          by_cases q2 : r = 1 ∧ i = h
          · obtain ⟨rfl, rfl⟩ := q2
            rw [g_jn_h]
            by_cases q3 : j = 3
            · rw [if_pos q3, if_pos (show 1 = 1 ∧ i = i ∧ j = 3 from ⟨rfl, rfl, q3⟩)]
            · rw [if_neg q3, if_neg (show ¬ (1 = 1 ∧ i = i ∧ j = 3) from fun p => q3 p.2.2), hY]
              by_cases q7 : j < 7
              · rw [if_pos q7, if_pos ⟨rfl, rfl, q7, q3⟩]
              · rw [if_neg q7, if_neg (show ¬ (1 = 1 ∧ i = i ∧ j < 7 ∧ j ≠ 3) from fun p => q7 p.2.2.1), if_neg (show ¬ (1 = 1 ∧ i = g ∧ j < 7 ∧ j ≠ 3) from fun p => q7 p.2.2.1)]
          · rw [g_jn_o q2 q1, if_neg (fun p => q2 ⟨p.1, p.2.1⟩), hY, if_neg (fun p => q2 ⟨p.1, p.2.1⟩), if_neg (fun p => q1 ⟨p.1, p.2.1⟩)]
      by_cases es : Y0 1 h 3 = -1
      · rw [es, if_neg (show ¬ (0 : Int32) ≤ -1 from by decide), x_bd]
        obtain ⟨T1, e1, hT1⟩ := t_191_3 hT h4 (Y0 1 g 3)
        rw [e1, x_bd]
        refine goal _ T1 hT1 (fun r i j => ?_)
        by_cases q : r = 1 ∧ i = h ∧ j = 3
        · obtain ⟨rfl, rfl, rfl⟩ := q
          rw [g_up_same, if_pos ⟨rfl, rfl, rfl⟩, if_pos es]
        · rw [g_up_ne q, if_neg q]
      · rw [if_pos (by
          obtain ⟨n, hn, e⟩ := g_M_of hs3 es
          rw [e]
          exact nI_pos' (by omega))]
        refine goal Y T hT (fun r i j => ?_)
        by_cases q : r = 1 ∧ i = h ∧ j = 3
        · obtain ⟨rfl, rfl, rfl⟩ := q
          rw [if_pos ⟨rfl, rfl, rfl⟩, if_neg es, eh]
        · rw [if_neg q]
    | succ m =>
      have hw7 : w < 7 := by omega
      rw [if_neg (show ¬ (6 : Int32) < nI w from nI_nlt (a := 6) (by omega) (by omega))]
      by_cases e3 : w = 3
      · subst e3
        rw [if_neg (show ¬ ¬ nI 3 = 3 from by decide), nI_1]
        refine l_233 hg h4 g4 x4 Y0 hs3 m 4 p Y T (by omega) (by omega) hT (fun r i j => ?_)
        rw [hY]
        by_cases q1 : r = 1 ∧ i = h ∧ j < 3 ∧ j ≠ 3
        · rw [if_pos q1, if_pos (show r = 1 ∧ i = h ∧ j < 4 ∧ j ≠ 3 by omega)]
        · rw [if_neg q1, if_neg (show ¬ (r = 1 ∧ i = h ∧ j < 4 ∧ j ≠ 3) by omega)]
          by_cases q2 : r = 1 ∧ i = g ∧ j < 3 ∧ j ≠ 3
          · rw [if_pos q2, if_pos (show r = 1 ∧ i = g ∧ j < 4 ∧ j ≠ 3 by omega)]
          · rw [if_neg q2, if_neg (show ¬ (r = 1 ∧ i = g ∧ j < 4 ∧ j ≠ 3) by omega)]
      · have eh : ∀ a, Y 1 a w = Y0 1 a w := fun a => by rw [hY, if_neg (by omega), if_neg (by omega)]
        rw [if_pos (show ¬ nI w = 3 from fun p => e3 ((nI_eq (by omega) (by omega)).1 (show nI w = nI 3 from p))), t_190 hT h4 (by omega), x_bd, t_190 hT g4 (by omega), x_bd, eh, eh]
        obtain ⟨T1, e1, hT1⟩ := t_191 hT h4 (show w < 11 by omega) (Y0 1 h w + Y0 1 g w)
        rw [e1, x_bd]
        obtain ⟨T2, e2, hT2⟩ := t_191 hT1 g4 (show w < 11 by omega) 0
        rw [e2, x_bd, nI_1]
        refine l_233 hg h4 g4 x4 Y0 hs3 m (w + 1) p _ T2 (by omega) (by omega) hT2 (fun r i j => ?_)
        by_cases q1 : r = 1 ∧ i = g ∧ j = w
        · obtain ⟨rfl, rfl, rfl⟩ := q1
          rw [g_up_same, if_neg (fun p => hg p.2.1), if_pos (by omega)]
        · rw [g_up_ne q1]
          by_cases q2 : r = 1 ∧ i = h ∧ j = w
          · obtain ⟨rfl, rfl, rfl⟩ := q2
            rw [g_up_same, if_pos (by omega)]
          · rw [g_up_ne q2, hY]
            by_cases q3 : r = 1 ∧ i = h ∧ j < w ∧ j ≠ 3
            · rw [if_pos q3, if_pos (show r = 1 ∧ i = h ∧ j < w + 1 ∧ j ≠ 3 by omega)]
            · rw [if_neg q3, if_neg (show ¬ (r = 1 ∧ i = h ∧ j < w + 1 ∧ j ≠ 3) by omega)]
              by_cases q4 : r = 1 ∧ i = g ∧ j < w ∧ j ≠ 3
              · rw [if_pos q4, if_pos (show r = 1 ∧ i = g ∧ j < w + 1 ∧ j ≠ 3 by omega)]
              · rw [if_neg q4, if_neg (show ¬ (r = 1 ∧ i = g ∧ j < w + 1 ∧ j ≠ 3) by omega)]
theorem jj_141 {c y : Nat} {Y V : GA} {X Z S T : QS} (h : g_R c y Y V X Z S T) (x z : Int32) : g_Ok c X Z (f_141 x z S) (f_233 x z T) := by
  obtain ⟨hC, hT, hW, hV, hU⟩ := id h
  unfold f_141 f_233 b_141_58 b_233_43
  rw [c_173 hC, t_198 hT]
  simp only [x_bd, w_eta]
  rw [t_198 hT, x_bd, t_202 hT hW, x_bd]
  have no : ∀ e, ¬ e ≤ 0 → b_233_46 x z e T = f_186 e T := by
    intro e h2
    unfold b_233_46
    rw [if_neg h2, w_eta]
  rcases g_hw2_cases hW x z with q | ⟨q, k, g, a1, a2, rfl, b1, b2, rfl⟩
  · rw [if_neg (g_12a q), if_pos (g_12a q), no _ (g_12b q)]
    exact g_refuse h _
  · have wh := hW.2.2.1 k a1
    have wg := hW.2.2.1 g b1
    have bh := wh.2
    have bg := wg.2
    have n22 := hW.2.1.2.2.1.2
    rw [if_pos q, if_neg (show ¬ ¬ g_hw2 Y (nI k) (nI g) = 0 from fun p => p q), c_now hC, c_91 hC a1 a2, x_bd, c_now hC, c_91 hC b1 b2, x_bd]
    dsimp only
    by_cases he : k = g
    · subst he
      rw [if_pos rfl, if_pos rfl, no 6 (by decide)]
      exact g_refuse h _
    · have hne : ¬ nI k = nI g := fun p => he ((nI_eq (by omega) (by omega)).1 p)
      have hne' : ¬ nI g = nI k := fun p => hne p.symm
      rw [if_neg hne, if_neg hne', c_h10 hC a1 a2, c_h10 hC b1 b2, t_190_10 hT a2, x_bd, t_190_10 hT b2, x_bd]
      have es : Y 1 k 10 + Y 1 g 10 = nI (g_n (Y 1 k 10) + g_n (Y 1 g 10)) := by rw [← nI_add, ← wh.1, ← wg.1]
      rw [es]
      by_cases h8 : g_n (Y 1 k 10) + g_n (Y 1 g 10) ≤ 8
      · have l8 : nI (g_n (Y 1 k 10) + g_n (Y 1 g 10)) ≤ 8 := nI_le (b := 8) h8 (by omega)
        rw [if_pos l8, if_pos l8]
        unfold b_233_46
        rw [if_pos (g_12c q)]
        obtain ⟨S1, T1, e1, e2, hk⟩ := k_keep h
        obtain ⟨kC, kT, kW, _, _⟩ := id hk
        have hk2 : g_n (g_up Y 10 3 0 1 1 k 10) + g_n (g_up Y 10 3 0 1 1 g 10) - 0 ≤ 8 := by show g_n (Y 1 k 10) + g_n (Y 1 g 10) - 0 ≤ 8; omega
        obtain ⟨S2, e3, hC2⟩ := c_47 kC kW (h := g) (k := 0) (g := k) he b1 a1 (Nat.zero_le _) hk2
        obtain ⟨T2, e4, hT2⟩ := t_231 kT kW (h := g) (k := 0) (g := k) he b1 a1 (Nat.zero_le _) hk2
        have w2 := g_W_cb kW (h := g) (k := 0) (g := k) he b1 a1 (Nat.zero_le _) hk2
        rw [e1, e2, x_bd, x_bd, c_h10 kC a1 a2, t_190_10 kT a2, x_bd, x_let, show f_47 y k y g 0 S1 = _ from e3, x_bd, show f_231 (nI g) 0 (nI k) T1 = _ from e4, x_bd]
        have h10 : g_cb (g_up Y 10 3 0 1) g 0 k 10 3 0 = 1 := by rw [g_cb_r (by omega) (by omega)]; rfl
        have a1' : k < g_n (g_cb (g_up Y 10 3 0 1) g 0 k 0 0 0) := by rw [g_cb_r (by omega) (by omega)]; exact a1
        have b1' : g < g_n (g_cb (g_up Y 10 3 0 1) g 0 k 0 0 0) := by rw [g_cb_r (by omega) (by omega)]; exact b1
        generalize g_cb (g_up Y 10 3 0 1) g 0 k = Y2 at hC2 hT2 w2 h10 a1' b1'
        obtain ⟨S3, e5, hC3⟩ := c_48 hC2 w2 (h := k) (g := g) (fun p => he p.symm) a1' b1'
        have hs3 : g_M (Y2 1 k 3) 200 := g_M_mono (w2.2.2.2.2.2.2.2.2.2.1 k a1').2.1 w2.2.1.2.2.1.2
        obtain ⟨T3, e6, hT3⟩ := l_233 (V := Y) (Z := Z) (h := k) (g := g) (fun p => he p.symm) a2 b2 (g_up Y 10 3 0 1 1 k 10) Y2 hs3 7 0 q_N Y2 T2 (by omega) (by unfold q_N; omega) hT2 (fun r i j => by rw [if_neg (by omega), if_neg (by omega)])
        rw [e5, x_bd, show b_233_79 q_N (nI k) (nI g) (g_up Y 10 3 0 1 1 k 10) 0 T2 = _ from e6]
        exact g_fin hC3 hT3 (g_W_jn w2 (fun p => he p.symm) a1' b1') hW (Nat.le_refl c) (by rw [g_jn_r (by omega)]; exact h10) _
      · have l8 : ¬ nI (g_n (Y 1 k 10) + g_n (Y 1 g 10)) ≤ 8 := nI_ge (a := 8) (by omega) (by omega)
        rw [if_neg l8, if_neg l8, no 6 (by decide)]
        exact g_refuse h _
/-- a part of the bees -/
theorem g_part {b w B m : Nat} (hb : b ≤ m) (hm : m < 2 ^ 31) (hw : w ≤ B) (hB : 0 < B) (hB8 : B ≤ 8) : ((nI b).toInt64 * (nI w).toInt64 / (nI B).toInt64).toInt32 = nI (b * w / B) ∧ b * w / B ≤ b := by
  have h1 : b * w ≤ b * B := Nat.mul_le_mul_left b hw
  have h2 : b * B ≤ b * 8 := Nat.mul_le_mul_left b hB8
  have h3 : b * w / B ≤ b := by
    rw [Nat.div_le_iff_le_mul_add_pred hB]
    have : b * B = B * b := Nat.mul_comm b B
    omega
  rw [nI_l (by omega), nI_l (by omega), nI_l (by omega), lN_mul, pk_lDiv (by omega) hB (by omega), lN_i]
  exact ⟨rfl, h3⟩
theorem jj_142 {c y : Nat} {Y V : GA} {X Z S T : QS} (h : g_R c y Y V X Z S T) (x w z : Int32) : g_Ok c X Z (f_142 x w z S) (f_234 x w z T) := by
  obtain ⟨hC, hT, hW, hV, hU⟩ := id h
  unfold f_142 f_234 b_142_53 b_142_73 b_234_35
  rw [c_173 hC, t_198 hT]
  simp only [x_bd, w_eta]
  rw [t_198 hT, x_bd, t_202 hT hW, x_bd]
  have no0 : ∀ e, ¬ e ≤ 0 → b_234_80 x w z e T = f_186 e T := by
    intro e h2
    unfold b_234_80
    rw [if_neg h2, w_eta]
  have no : ∀ e, ¬ e = 0 → ¬ e ≤ 0 → b_234_39 x w z e T = f_186 e T := by
    intro e h1 h2
    unfold b_234_39 b_234_62
    rw [if_pos h1, if_pos h1, no0 e h2]
  rcases g_hw2_cases hW x z with q | ⟨q, k, g, a1, a2, rfl, b1, b2, rfl⟩
  · rw [if_neg (g_12a q), if_pos (g_12a q), no _ (g_12a q) (g_12b q)]
    exact g_refuse h _
  · have wh := hW.2.2.1 k a1
    have wg := hW.2.2.1 g b1
    have bh := wh.2
    have bg := wg.2
    rw [if_pos q, if_neg (show ¬ ¬ g_hw2 Y (nI k) (nI g) = 0 from fun p => p q), c_now hC, c_91 hC a1 a2, x_bd, c_now hC, c_91 hC b1 b2, x_bd]
    dsimp only
    by_cases he : k = g
    · subst he
      rw [if_pos rfl, if_pos rfl, no 6 (by decide) (by decide)]
      exact g_refuse h _
    · have hne : ¬ nI k = nI g := fun p => he ((nI_eq (by omega) (by omega)).1 p)
      have hne' : ¬ nI g = nI k := fun p => hne p.symm
      rw [if_neg hne, if_neg hne', c_h10 hC a1 a2, c_h10 hC b1 b2, t_190_10 hT b2, x_bd]
      by_cases hg0 : g_n (Y 1 g 10) = 0
      · have l0 : Y 1 g 10 ≤ 0 := (g_N_le (k := 0) wg (by omega) (by omega)).2 (by omega)
        rw [if_pos l0, if_pos l0]
        unfold b_234_39 b_234_62 f_189
        rw [if_neg (show ¬ ¬ g_hw2 Y (nI k) (nI g) = 0 from fun p => p q), t_190_10 hT a2, x_bd]
        by_cases hw0 : w < 0
        · rw [if_pos hw0, if_pos hw0, x_bd, if_neg (show ¬ ¬ (0 : Int32) = 0 from by decide), if_pos (show ¬ (2 : Int32) = 0 from by decide), no0 2 (by decide)]
          exact g_refuse h _
        · rw [if_neg hw0, if_neg hw0]
          obtain ⟨m, hm, rfl⟩ := nI_of hw0
          by_cases hwB : m ≤ g_n (Y 1 k 10)
          · have l1 : nI m ≤ Y 1 k 10 := (g_N_ge wh (by omega) hm).2 hwB
            rw [if_pos l1, if_neg ((g_nle _ _).1 l1), x_bd, if_pos (show ¬ (1 : Int32) = 0 from by decide), if_neg (show ¬ ¬ g_hw2 Y (nI k) (nI g) = 0 from fun p => p q), t_190_10 hT a2, x_bd]
            by_cases hB0 : g_n (Y 1 k 10) = 0
            · have e0 : Y 1 k 10 = 0 := (g_N_eq (k := 0) wh (by omega) (by omega)).2 hB0
              rw [if_neg (show ¬ ¬ Y 1 k 10 = 0 from fun p => p e0), if_neg (show ¬ ¬ Y 1 k 10 = 0 from fun p => p e0), no0 4 (by decide)]
              exact g_refuse h _
            · have e0 : ¬ Y 1 k 10 = 0 := fun p => hB0 ((g_N_eq (k := 0) wh (by omega) (by omega)).1 p)
              rw [if_pos e0, if_pos e0]
              unfold b_234_80
              rw [if_pos (g_12c q)]
              obtain ⟨S1, T1, e1, e2, hk⟩ := k_keep h
              obtain ⟨kC, kT, kW, _, _⟩ := id hk
              obtain ⟨B, hB⟩ : ∃ B, B = g_n (Y 1 k 10) := ⟨_, rfl⟩
              have v1 : g_up Y 10 3 0 1 1 k 10 = nI B := by rw [hB]; exact wh.1
              have hc5 := hW.1
              have hbk := (g_bees kW a1).1
              have hbg := (g_bees kW b1).1
              have eb := hbk.1
              have eb2 := hbk.2
              obtain ⟨b, hb⟩ : ∃ b, b = g_n (g_up Y 10 3 0 1 1 k 0) := ⟨_, rfl⟩
              rw [← hb] at eb eb2
              obtain ⟨p1, p2⟩ := g_part (b := b) (w := B - m) (B := B) eb2 (by omega) (by omega) (by omega) (by omega)
              obtain ⟨A, hA⟩ : ∃ A, A = b * (B - m) / B := ⟨_, rfl⟩
              rw [← hA] at p1 p2
              have nB0 : decide (¬ (nI B).toInt64 = 0) = true := decide_eq_true (fun e => by
                rw [nI_l (by omega)] at e
                have := (lN_eq (a := B) (b := 0) (by omega) (by omega)).1 e
                omega)
              rw [e1, e2, x_bd, x_bd, c_h10 kC a1 a2, t_190_10 kT a2, x_bd, v1, pk_sub (show m ≤ B by omega), x_let]
              unfold f_49
              rw [if_pos (nI_ne0 (show 0 < B by omega) (by omega)), nB0, c_h0 kC a1 a2, c_h1 kC a1 a2, c_h0 kC b1 b2]
              obtain ⟨D, hD⟩ : ∃ D, D = ((g_up Y 10 3 0 1 1 k 1).toInt64 * (nI (B - m)).toInt64 / (nI B).toInt64).toInt32 := ⟨_, rfl⟩
              rw [eb, p1, ← hD, x_ck, x_let, x_ck, x_let]
              -- class
              obtain ⟨S2, s2, hC2⟩ := cs_h0 kC b2 (g_up Y 10 3 0 1 1 g 0 + nI A)
              rw [s2, x_let, c_h1 hC2 b1 b2]
              obtain ⟨S3, s3, hC3⟩ := cs_h1 hC2 b2 (g_up (g_up Y 10 3 0 1) 1 g 0 (g_up Y 10 3 0 1 1 g 0 + nI A) 1 g 1 + D)
              rw [s3, x_let, c_h0 hC3 a1 a2]
              have v5 : g_up (g_up (g_up Y 10 3 0 1) 1 g 0 (g_up Y 10 3 0 1 1 g 0 + nI A)) 1 g 1 (g_up (g_up Y 10 3 0 1) 1 g 0 (g_up Y 10 3 0 1 1 g 0 + nI A) 1 g 1 + D) 1 k 0 = nI b := by
                rw [g_up_ne (fun p => he p.2.1), g_up_ne (fun p => he p.2.1)]
                exact eb
              obtain ⟨S4, s4, hC4⟩ := cs_h0 hC3 a2 (nI b - nI A)
              rw [v5, s4, x_let, c_h1 hC4 a1 a2]
              obtain ⟨S5, s5, hC5⟩ := cs_h1 hC4 a2 (g_up Y 10 3 0 1 1 k 1 - D)
              have v6 : g_up (g_up (g_up (g_up Y 10 3 0 1) 1 g 0 (g_up Y 10 3 0 1 1 g 0 + nI A)) 1 g 1 (g_up (g_up Y 10 3 0 1) 1 g 0 (g_up Y 10 3 0 1 1 g 0 + nI A) 1 g 1 + D)) 1 k 0 (nI b - nI A) 1 k 1 = g_up Y 10 3 0 1 1 k 1 := by
                rw [g_up_ne (fun p => by omega), g_up_ne (fun p => he p.2.1), g_up_ne (fun p => he p.2.1)]
              rw [v6, s5, x_let, x_bd]
              -- reference
              rw [show q_N = 19997 + 1 + 1 + 1 from rfl, b_234_108, if_neg (show ¬ (1 : Int32) < 0 from by decide), t_190_0 kT a2, x_bd, nB0, x_ck, eb, pk_sub (show m ≤ B by omega), p1, x_let, t_190_0 kT a2, x_bd, eb]
              obtain ⟨T2, u2, hT2⟩ := t_191_0 kT a2 (nI b - nI A)
              rw [u2, x_bd, t_190_0 hT2 b2, x_bd]
              have v7 : g_up (g_up Y 10 3 0 1) 1 k 0 (nI b - nI A) 1 g 0 = g_up Y 10 3 0 1 1 g 0 := g_up_ne (fun p => he p.2.1.symm)
              obtain ⟨T3, u3, hT3⟩ := t_191_0 hT2 b2 (g_up Y 10 3 0 1 1 g 0 + nI A)
              rw [v7, u3, x_bd, show (0 : Int32) + 1 = 1 from rfl, b_234_108, if_neg (show ¬ (1 : Int32) < 1 from by decide), t_190_1 hT3 a2, x_bd, nB0, x_ck, pk_sub (show m ≤ B by omega)]
              have v8 : g_up (g_up (g_up Y 10 3 0 1) 1 k 0 (nI b - nI A)) 1 g 0 (g_up Y 10 3 0 1 1 g 0 + nI A) 1 k 1 = g_up Y 10 3 0 1 1 k 1 := rfl
              rw [v8, ← hD, x_let, t_190_1 hT3 a2, x_bd, v8]
              obtain ⟨T4, u4, hT4⟩ := t_191_1 hT3 a2 (g_up Y 10 3 0 1 1 k 1 - D)
              rw [u4, x_bd, t_190_1 hT4 b2, x_bd]
              have v9 : g_up (g_up (g_up (g_up Y 10 3 0 1) 1 k 0 (nI b - nI A)) 1 g 0 (g_up Y 10 3 0 1 1 g 0 + nI A)) 1 k 1 (g_up Y 10 3 0 1 1 k 1 - D) 1 g 1 = g_up Y 10 3 0 1 1 g 1 := by
                rw [g_up_ne (fun p => he p.2.1.symm)]
                rfl
              obtain ⟨T5, u5, hT5⟩ := t_191_1 hT4 b2 (g_up Y 10 3 0 1 1 g 1 + D)
              rw [v9, u5, x_bd, show (1 : Int32) + 1 = 2 from rfl, b_234_108, if_pos (show (1 : Int32) < 2 from by decide), pk_sub (show m ≤ B by omega)]
              -- both pictures are one
              have eqq : g_up (g_up (g_up (g_up (g_up Y 10 3 0 1) 1 k 0 (nI b - nI A)) 1 g 0 (g_up Y 10 3 0 1 1 g 0 + nI A)) 1 k 1 (g_up Y 10 3 0 1 1 k 1 - D)) 1 g 1 (g_up Y 10 3 0 1 1 g 1 + D) = g_up (g_up (g_up (g_up (g_up Y 10 3 0 1) 1 g 0 (g_up Y 10 3 0 1 1 g 0 + nI A)) 1 g 1 (g_up (g_up Y 10 3 0 1) 1 g 0 (g_up Y 10 3 0 1 1 g 0 + nI A) 1 g 1 + D)) 1 k 0 (nI b - nI A)) 1 k 1 (g_up Y 10 3 0 1 1 k 1 - D) := by
                rw [show g_up (g_up Y 10 3 0 1) 1 g 0 (g_up Y 10 3 0 1 1 g 0 + nI A) 1 g 1 = g_up Y 10 3 0 1 1 g 1 from rfl]
                generalize g_up Y 10 3 0 1 = W
                rw [g_up_comm (r := 1) (i := k) (j := 1) (r' := 1) (i' := g) (j' := 1) (fun p => he p.2.1.symm), g_up_comm (r := 1) (i := k) (j := 0) (r' := 1) (i' := g) (j' := 0) (fun p => he p.2.1.symm), g_up_comm (r := 1) (i := k) (j := 0) (r' := 1) (i' := g) (j' := 1) (fun p => by omega)]
              rw [eqq] at hT5
              have w1 : g_W c (g_up (g_up Y 10 3 0 1) 1 k 0 (nI b - nI A)) := g_W_b0 kW a1 (Nat.le_refl c) hc5 (by rw [pk_sub p2]; exact nI_pos' (by omega)) (by
                have := g_W_tot kW
                rw [pk_sub p2, eb, nI_toInt (by omega), nI_toInt (by omega)]
                omega)
              obtain ⟨sg, tg⟩ := g_addN hbg (g_N_nI (a := A) (m := 400000 * c) (by omega) (by omega)) (by omega)
              have w2 : g_W c (g_up (g_up (g_up Y 10 3 0 1) 1 k 0 (nI b - nI A)) 1 g 0 (g_up Y 10 3 0 1 1 g 0 + nI A)) := g_W_b0 w1 b1 (Nat.le_refl c) hc5 (g_N_nn sg (by omega)) (by
                have := g_W_tot kW
                rw [g_tot_b (Y := g_up Y 10 3 0 1) a1, v7, tg, pk_sub p2, eb, nI_toInt (by omega), nI_toInt (by omega), nI_toInt (by omega)]
                omega)
              have dk := (g_drh kW a1).1
              have dg := (g_drh kW b1).1
              have ed := dk.1
              have ed2 := dk.2
              obtain ⟨d, hd⟩ : ∃ d, d = g_n (g_up Y 10 3 0 1 1 k 1) := ⟨_, rfl⟩
              rw [← hd] at ed ed2
              obtain ⟨p3, p4⟩ := g_part (b := d) (w := B - m) (B := B) ed2 (by omega) (by omega) (by omega) (by omega)
              obtain ⟨E, hE⟩ : ∃ E, E = d * (B - m) / B := ⟨_, rfl⟩
              rw [← hE] at p3 p4
              have hDE : D = nI E := by rw [hD, ed, p3]
              have to0 : g_to4 (g_up (g_up (g_up Y 10 3 0 1) 1 k 0 (nI b - nI A)) 1 g 0 (g_up Y 10 3 0 1 1 g 0 + nI A)) = g_to4 (g_up Y 10 3 0 1) := rfl
              have h4k := g_W_to4 kW
              have vk1 : g_up (g_up (g_up Y 10 3 0 1) 1 k 0 (nI b - nI A)) 1 g 0 (g_up Y 10 3 0 1 1 g 0 + nI A) 1 k 1 = nI d := ed
              have w3 : g_W c (g_up (g_up (g_up (g_up Y 10 3 0 1) 1 k 0 (nI b - nI A)) 1 g 0 (g_up Y 10 3 0 1 1 g 0 + nI A)) 1 k 1 (g_up Y 10 3 0 1 1 k 1 - D)) := g_W_d1 w2 a1 (Nat.le_refl c) hc5 (by rw [ed, hDE, pk_sub p4]; exact nI_pos' (by omega)) (by
                rw [to0, vk1, ed, hDE, pk_sub p4, nI_toInt (by omega), nI_toInt (by omega)]
                omega)
              obtain ⟨sg1, tg1⟩ := g_addN dg (g_N_nI (a := E) (m := 400000 * c) (by omega) (by omega)) (by omega)
              have w4 : g_W c (g_up (g_up (g_up (g_up (g_up Y 10 3 0 1) 1 k 0 (nI b - nI A)) 1 g 0 (g_up Y 10 3 0 1 1 g 0 + nI A)) 1 k 1 (g_up Y 10 3 0 1 1 k 1 - D)) 1 g 1 (g_up Y 10 3 0 1 1 g 1 + D)) := g_W_d1 w3 b1 (Nat.le_refl c) hc5 (by rw [hDE]; exact g_N_nn sg1 (by omega)) (by
                rw [v9, g_to4_d (Y := g_up (g_up (g_up Y 10 3 0 1) 1 k 0 (nI b - nI A)) 1 g 0 (g_up Y 10 3 0 1 1 g 0 + nI A)) a1, to0, vk1, ed, hDE, tg1, pk_sub p4, nI_toInt (by omega), nI_toInt (by omega), nI_toInt (by omega)]
                omega)
              rw [eqq] at w4
              have b10k : g_up (g_up (g_up (g_up (g_up Y 10 3 0 1) 1 g 0 (g_up Y 10 3 0 1 1 g 0 + nI A)) 1 g 1 (g_up (g_up Y 10 3 0 1) 1 g 0 (g_up Y 10 3 0 1 1 g 0 + nI A) 1 g 1 + D)) 1 k 0 (nI b - nI A)) 1 k 1 (g_up Y 10 3 0 1 1 k 1 - D) 1 k 10 = Y 1 k 10 := rfl
              have b10g : g_up (g_up (g_up (g_up (g_up Y 10 3 0 1) 1 g 0 (g_up Y 10 3 0 1 1 g 0 + nI A)) 1 g 1 (g_up (g_up Y 10 3 0 1) 1 g 0 (g_up Y 10 3 0 1 1 g 0 + nI A) 1 g 1 + D)) 1 k 0 (nI b - nI A)) 1 k 1 (g_up Y 10 3 0 1 1 k 1 - D) 1 g 10 = Y 1 g 10 := rfl
              have z00 : g_up (g_up (g_up (g_up (g_up Y 10 3 0 1) 1 g 0 (g_up Y 10 3 0 1 1 g 0 + nI A)) 1 g 1 (g_up (g_up Y 10 3 0 1) 1 g 0 (g_up Y 10 3 0 1 1 g 0 + nI A) 1 g 1 + D)) 1 k 0 (nI b - nI A)) 1 k 1 (g_up Y 10 3 0 1 1 k 1 - D) 0 0 0 = Y 0 0 0 := rfl
              have z10 : g_up (g_up (g_up (g_up (g_up Y 10 3 0 1) 1 g 0 (g_up Y 10 3 0 1 1 g 0 + nI A)) 1 g 1 (g_up (g_up Y 10 3 0 1) 1 g 0 (g_up Y 10 3 0 1 1 g 0 + nI A) 1 g 1 + D)) 1 k 0 (nI b - nI A)) 1 k 1 (g_up Y 10 3 0 1 1 k 1 - D) 10 3 0 = 1 := rfl
              generalize g_up (g_up (g_up (g_up (g_up Y 10 3 0 1) 1 g 0 (g_up Y 10 3 0 1 1 g 0 + nI A)) 1 g 1 (g_up (g_up Y 10 3 0 1) 1 g 0 (g_up Y 10 3 0 1 1 g 0 + nI A) 1 g 1 + D)) 1 k 0 (nI b - nI A)) 1 k 1 (g_up Y 10 3 0 1 1 k 1 - D) = W at hC5 hT5 w4 b10k b10g z00 z10
              have hk1 : m ≤ g_n (W 1 k 10) := by rw [b10k]; exact hwB
              have hk2 : g_n (W 1 g 10) + g_n (W 1 k 10) - m ≤ 8 := by rw [b10k, b10g]; omega
              obtain ⟨S6, e5, hC6⟩ := c_47 hC5 w4 (h := k) (k := m) (g := g) (fun p => he p.symm) (by rw [z00]; exact a1) (by rw [z00]; exact b1) hk1 hk2
              obtain ⟨T6, e6, hT6⟩ := t_231 hT5 w4 (h := k) (k := m) (g := g) (fun p => he p.symm) (by rw [z00]; exact a1) (by rw [z00]; exact b1) hk1 hk2
              have w5 := g_W_cb w4 (h := k) (k := m) (g := g) (fun p => he p.symm) (by rw [z00]; exact a1) (by rw [z00]; exact b1) hk1 hk2
              rw [e5, x_bd, e6, x_bd, w_eta]
              exact g_fin hC6 hT6 w5 hW (Nat.le_refl c) (by rw [g_cb_r (by omega) (by omega)]; exact z10) _
          · have l1 : ¬ nI m ≤ Y 1 k 10 := fun p => hwB ((g_N_ge wh (by omega) hm).1 p)
            rw [if_neg l1, if_pos (Decidable.not_not.1 (fun p => l1 ((g_nle _ _).2 p))), x_bd, if_neg (show ¬ ¬ (0 : Int32) = 0 from by decide), if_pos (show ¬ (2 : Int32) = 0 from by decide), no0 2 (by decide)]
            exact g_refuse h _
      · have l0 : ¬ Y 1 g 10 ≤ 0 := fun p => hg0 (by have := (g_N_le (k := 0) wg (by omega) (by omega)).1 p; omega)
        rw [if_neg l0, if_neg l0, no 6 (by decide) (by decide)]
        exact g_refuse h _
