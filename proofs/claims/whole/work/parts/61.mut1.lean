/-! ===== calls that write a few cells ===== -/
theorem g_fin {c c' y : Nat} {Y0 Y' : GA} {X Z S T : QS} (hC : g_C y Y' Y0 X S) (hT : g_T Y' Y0 Z T) (hW' : g_W c' Y') (hW0 : g_W c Y0) (hc : c ≤ c') (h10 : Y' 10 3 0 = 1) (r : Int32) : g_Ok c' X Z (f_169 r S) (f_187 r T) :=
  g_accept ⟨hC, hT, hW', fun _ => g_W_mono hW0 hc hW'.1, Or.inr h10⟩ r
theorem jj_148 {c y : Nat} {Y V : GA} {X Z S T : QS} (h : g_R c y Y V X Z S T) (x z : Int32) : g_Ok c X Z (f_148 x z S) (f_250 x z T) := by
  obtain ⟨hC, hT, hW, hV, hU⟩ := id h
  unfold f_148 f_250 b_250_22 b_250_40 b_148_52 f_189
  rw [c_174 hC, t_199 hT]
  simp only [x_bd, w_eta]
  rcases g_tw_cases hW x with q | ⟨q, t, a1, a2, rfl⟩
  · rw [if_neg (g_12a q), if_pos (g_12a q), if_pos (g_12a q), if_neg (g_12b q)]
    exact g_refuse h _
  · rw [if_pos q, if_neg (show ¬ ¬ g_tw Y (nI t) = 0 from fun p => p q), c_now hC, c_93 hC a1 a2, t_192_0 hT a2]
    simp only [x_bd]
    rw [c_t0 hC a1 a2]
    by_cases h1 : Y 6 t 0 = 2
    · rw [if_pos h1, if_pos h1, if_neg (show ¬ ¬ g_tw Y (nI t) = 0 from fun p => p q)]
      by_cases h2 : z < 0
      · rw [if_pos h2, if_pos h2, x_bd, if_neg (show ¬ ¬ (0 : Int32) = 0 from by decide), if_neg (show ¬ (6 : Int32) ≤ 0 from by decide)]
        exact g_refuse h _
      · rw [if_neg h2, if_neg h2]
        by_cases h3 : z ≤ 200
        · rw [if_pos h3, if_neg ((g_nle _ _).1 h3), x_bd, if_pos (show ¬ (1 : Int32) = 0 from by decide), if_pos (g_12c q)]
          obtain ⟨S1, T1, e1, e2, hk⟩ := k_keep h
          obtain ⟨kC, kT, kW, _, _⟩ := id hk
          obtain ⟨S2, e3, hC2⟩ := cs_t4 kC a2 z
          obtain ⟨T2, e4, hT2⟩ := t_193_4 kT a2 z
          rw [e1, e2, x_bd, x_bd, c_t4 kC a1 a2, x_let, e3, x_let, t_192_4 kT a2, x_bd, e4, x_bd]
          exact g_fin hC2 hT2 (g_W_t kW a1 (by omega) (Nat.le_refl c) hW.1 (fun q => by omega) (fun _ => g_N_of (M := 200) (by decide) h2 h3 (by omega)) (fun q => by omega) (fun q => by omega)) hW (Nat.le_refl c) rfl _
        · rw [if_neg h3, if_pos (Decidable.not_not.1 (fun q => h3 ((g_nle _ _).2 q))), x_bd, if_neg (show ¬ ¬ (0 : Int32) = 0 from by decide), if_neg (show ¬ (6 : Int32) ≤ 0 from by decide)]
          exact g_refuse h _
    · rw [if_neg h1, if_neg h1, if_pos (show ¬ (3 : Int32) = 0 from by decide), if_neg (show ¬ (3 : Int32) ≤ 0 from by decide)]
      exact g_refuse h _
theorem g_W_mate {c : Nat} {Y : GA} {t : Nat} (hW : g_W c Y) (h1 : Y 6 t 0 = 1) : g_W c (g_up Y 6 t 0 2) := by
  obtain ⟨w5, w0, wB, wL, wP, wK, wU, wF, wT, wS, wI, wD, wN⟩ := id hW
  have e : ∀ k j, j ≠ 0 → g_up Y 6 t 0 2 6 k j = Y 6 k j := fun k j hj => g_up_ne (fun q => hj q.2.2)
  have eo : ∀ k j, k ≠ t → g_up Y 6 t 0 2 6 k j = Y 6 k j := fun k j hj => g_up_ne (fun q => hj q.2.1)
  have es : g_up Y 6 t 0 2 6 t 0 = 2 := g_up_same _ _ _ _ _
  refine g_W_6 hW (Nat.le_refl c) w5 ?_ ?_ ?_ ?_
  · intro k hk
    have q := wT k hk
    rw [e k 1 (by omega), e k 2 (by omega), e k 3 (by omega), e k 4 (by omega), e k 6 (by omega), e k 7 (by omega)]
    refine ⟨?_, q.2⟩
    by_cases a : k = t
    · subst a
      rw [es]
      exact g_N_nI (a := 2) (by omega) (by omega)
    · rw [eo k 0 a]
      exact q.1
  · refine ⟨wI.1, ?_, ?_⟩
    · intro s s'
      rw [e s 7 (by omega), e s' 7 (by omega)]
      exact wI.2.1 s s'
    · intro k s
      rw [e s 7 (by omega)]
      exact wI.2.2 k s
  · intro k hk
    have q := wD k hk
    rw [e k 2 (by omega), e k 3 (by omega)]
    refine ⟨q.1, q.2.1, ?_, ?_⟩
    · intro p
      by_cases a : g_n (Y 6 k 2) = t
      · rw [a, es]; decide
      · rw [eo _ 0 a]
        exact q.2.2.1 p
    · intro p
      by_cases a : g_n (Y 6 k 3) = t
      · have q3 := q.2.2.2 p
        rw [a, h1] at q3
        exact absurd q3 (by decide)
      · rw [eo _ 0 a]
        exact q.2.2.2 p
  · obtain ⟨n1, n2, n3⟩ := wN
    refine ⟨?_, n2, n3⟩
    rw [show g_su (fun k => g_up Y 6 t 0 2 6 k 6) (g_n (Y 0 2 0)) = g_su (fun k => Y 6 k 6) (g_n (Y 0 2 0)) from g_su_eq _ (fun k _ => e k 6 (by omega))]
    exact n1
theorem jj_149 {c y : Nat} {Y V : GA} {X Z S T : QS} (h : g_R c y Y V X Z S T) (x z : Int32) : g_Ok c X Z (f_149 x z S) (f_251 x z T) := by
  obtain ⟨hC, hT, hW, hV, hU⟩ := id h
  unfold f_149 f_251 b_149_27 b_251_22 b_149_37 b_251_32 b_149_58 b_251_48 f_85
  rw [c_174 hC, t_199 hT]
  simp only [x_bd, w_eta]
  rcases g_tw_cases hW x with q | ⟨q, t, a1, a2, rfl⟩
  · rw [if_pos (g_12a q), if_pos (g_12a q), if_pos (g_12a q), if_neg (g_12a q), if_pos (g_12a q), if_pos (g_12a q), if_pos (g_12a q), if_neg (g_12b q)]
    exact g_refuse h _
  · rw [if_neg (show ¬ ¬ g_tw Y (nI t) = 0 from fun p => p q), if_neg (show ¬ ¬ g_tw Y (nI t) = 0 from fun p => p q), c_now hC, c_93 hC a1 a2, t_192_0 hT a2]
    simp only [x_bd]
    rw [c_t0 hC a1 a2]
    by_cases h1 : Y 6 t 0 = 1
    · rw [if_pos h1, if_pos h1, if_neg (show ¬ ¬ g_tw Y (nI t) = 0 from fun p => p q), if_neg (show ¬ ¬ g_tw Y (nI t) = 0 from fun p => p q), c_174 hC, t_199 hT, x_bd, x_bd]
      rcases g_tw_cases hW z with p | ⟨p, d, b1, b2, rfl⟩
      · rw [if_pos (g_12a p), if_neg (g_12a p), if_pos (g_12a p), if_neg (g_12b p)]
        exact g_refuse h _
      · rw [if_neg (show ¬ ¬ g_tw Y (nI d) = 0 from fun r => r p), if_neg (show ¬ ¬ g_tw Y (nI d) = 0 from fun r => r p), c_now hC, c_93 hC b1 b2, t_192_0 hT b2]
        simp only [x_bd]
        rw [c_t0 hC b1 b2]
        by_cases h2 : Y 6 d 0 = 3
        · rw [if_pos h2, if_pos h2, if_pos p, if_pos (g_12c p)]
          obtain ⟨S1, T1, e1, e2, hk⟩ := k_keep h
          obtain ⟨kC, kT, kW, _, _⟩ := id hk
          rw [e1, e2, x_bd, x_bd, c_now kC, c_93 kC a1 a2, x_bd]
          dsimp only
          obtain ⟨S2, e3, hC2⟩ := cs_t0 kC a2 2
          rw [e3, x_let]
          obtain ⟨S3, e4, hC3⟩ := cs_t4 hC2 a2 0
          rw [e4, x_let]
          obtain ⟨S4, e5, hC4⟩ := cs_t5 hC3 a2 (nI d)
          rw [e5, x_let, x_bd]
          obtain ⟨T2, f3, hT2⟩ := t_193_0 kT a2 2
          rw [f3, x_bd]
          obtain ⟨T3, f4, hT3⟩ := t_193_4 hT2 a2 0
          rw [f4, x_bd]
          obtain ⟨T4, f5, hT4⟩ := t_193_5 hT3 a2 (nI d)
          rw [f5, x_bd]
          have w1 := g_W_mate (t := t) kW h1
          have w2 : g_W c (g_up (g_up (g_up Y 10 3 0 1) 6 t 0 2) 6 t 4 0) := g_W_t w1 a1 (by omega) (Nat.le_refl c) hW.1 (fun q => by omega) (fun _ => g_N_nI (a := 0) (by omega) (by omega)) (fun q => by omega) (fun q => by omega)
          exact g_fin hC4 hT4 (g_W_t w2 a1 (by omega) (Nat.le_refl c) hW.1 (fun q => by omega) (fun q => by omega) (fun q => by omega) (fun q => by omega)) hW (Nat.le_refl c) rfl _
        · rw [if_neg h2, if_neg h2, if_neg (show ¬ (3 : Int32) = 0 from by decide), if_neg (show ¬ (3 : Int32) ≤ 0 from by decide)]
          exact g_refuse h _
    · rw [if_neg h1, if_neg h1, if_pos (show ¬ (3 : Int32) = 0 from by decide), if_pos (show ¬ (3 : Int32) = 0 from by decide), if_neg (show ¬ (3 : Int32) = 0 from by decide), if_pos (show ¬ (3 : Int32) = 0 from by decide), if_pos (show ¬ (3 : Int32) = 0 from by decide), if_neg (show ¬ (3 : Int32) ≤ 0 from by decide)]
      exact g_refuse h _
theorem jj_158 {c y : Nat} {Y V : GA} {X Z S T : QS} (h : g_R c y Y V X Z S T) (x : Int32) : g_Ok c X Z (f_158 x S) (f_266 x T) := by
  obtain ⟨hC, hT, hW, hV, hU⟩ := id h
  unfold f_158 f_266 f_52
  rw [c_172 hC, t_198 hT]
  simp only [x_bd, w_eta]
  rcases g_hw_cases hW x with q | ⟨q, k, a1, a2, rfl⟩
  · rw [if_neg (g_12a q), if_neg (g_12b q)]
    exact g_refuse h _
  · rw [if_pos q, if_pos (g_12c q)]
    obtain ⟨S1, T1, e1, e2, hk⟩ := k_keep h
    obtain ⟨kC, kT, kW, _, _⟩ := id hk
    rw [e1, e2, x_bd, x_bd, c_now kC, c_91 kC a1 a2, x_bd]
    dsimp only
    obtain ⟨S2, e3, hC2⟩ := cs_h4 kC a2 0
    rw [e3, x_let]
    obtain ⟨S3, e4, hC3⟩ := cs_h5 hC2 a2 0
    rw [e4, x_let]
    obtain ⟨S4, e5, hC4⟩ := cs_h6 hC3 a2 0
    rw [e5, x_let, x_bd]
    obtain ⟨T2, f3, hT2⟩ := t_191_4 kT a2 0
    obtain ⟨T3, f4, hT3⟩ := t_191_5 hT2 a2 0
    obtain ⟨T4, f5, hT4⟩ := t_191_6 hT3 a2 0
    rw [show q_N = 19996 + 1 + 1 + 1 + 1 from rfl, b_266_22, if_neg (show ¬ (6 : Int32) < 4 from by decide), f3, x_bd, show (4 : Int32) + 1 = 5 from rfl, b_266_22, if_neg (show ¬ (6 : Int32) < 5 from by decide), f4, x_bd, show (5 : Int32) + 1 = 6 from rfl, b_266_22, if_neg (show ¬ (6 : Int32) < 6 from by decide), f5, x_bd, show (6 : Int32) + 1 = 7 from rfl, b_266_22, if_pos (show (6 : Int32) < 7 from by decide), w_eta]
    have w1 : g_W c (g_up (g_up Y 10 3 0 1) 1 k 4 0) := g_W_hf kW a1 (by omega)
    have ws := hW.2.2.2.2.2.2.2.2.2.1 k a1
    have z0 : (0 : Int32).toInt = 0 := by decide
    have p5 := Int32.le_iff_toInt_le.1 ws.2.2.1
    have p6 := Int32.le_iff_toInt_le.1 ws.2.2.2.1
    rw [z0] at p5 p6
    have w2 : g_W c (g_up (g_up (g_up Y 10 3 0 1) 1 k 4 0) 1 k 5 0) := g_W_h w1 a1 (by omega) (Nat.le_refl c) hW.1 (fun _ => by decide) (fun q => by omega) (fun _ => by
      have n2 := w1.2.2.2.2.2.2.2.2.2.2.2.2.2.1
      have p5' : 0 ≤ (g_up (g_up Y 10 3 0 1) 1 k 4 0 1 k 5).toInt := p5
      rw [z0]
      omega) (fun q => by omega)
    have w3 : g_W c (g_up (g_up (g_up (g_up Y 10 3 0 1) 1 k 4 0) 1 k 5 0) 1 k 6 0) := g_W_h w2 a1 (by omega) (Nat.le_refl c) hW.1 (fun _ => by decide) (fun q => by omega) (fun q => by omega) (fun _ => by
      have n3 := w2.2.2.2.2.2.2.2.2.2.2.2.2.2.2
      have p6' : 0 ≤ (g_up (g_up (g_up Y 10 3 0 1) 1 k 4 0) 1 k 5 0 1 k 6).toInt := p6
      rw [z0]
      omega)
    exact g_fin hC4 hT4 w3 hW (Nat.le_refl c) rfl _
theorem jj_159 {c y : Nat} {Y V : GA} {X Z S T : QS} (h : g_R c y Y V X Z S T) (x d g : Int32) : g_Ok c X Z (f_159 x d g S) (f_267 x d g T) := by
  obtain ⟨hC, hT, hW, hV, hU⟩ := id h
  unfold f_159 f_267 b_159_31 b_159_32 b_267_20 b_267_41 b_159_62 f_189
  rw [c_172 hC, t_198 hT]
  simp only [x_bd, w_eta]
  rcases g_hw_cases hW x with q | ⟨q, k, a1, a2, rfl⟩
  · rw [if_neg (g_12a q), if_pos (g_12a q)]
    unfold b_267_45
    rw [if_neg (g_12b q), w_eta]
    exact g_refuse h _
  · rw [if_pos q, if_neg (show ¬ ¬ g_hw Y (nI k) = 0 from fun p => p q), q]
    have refu : g_Ok c X Z (f_170 6 S) (b_267_45 (nI k) d g 6 T) := by
      unfold b_267_45
      rw [if_neg (show ¬ (6 : Int32) ≤ 0 from by decide), w_eta]
      exact g_refuse h _
    have done : g_N d 30 → g_N g 1000 → (d ≠ 0 → g ≠ 0) → g_Ok c X Z (b_159_69 (nI k) d g S) (b_267_45 (nI k) d g 0 T) := by
      intro hd hg hdg
      unfold b_267_45 b_159_69
      rw [if_pos (show (0 : Int32) ≤ 0 from by decide)]
      obtain ⟨S1, T1, e1, e2, hk⟩ := k_keep h
      obtain ⟨kC, kT, kW, _, _⟩ := id hk
      rw [e1, e2, x_bd, x_bd, c_now kC, c_91 kC a1 a2, x_bd]
      dsimp only
      obtain ⟨S2, e3, hC2⟩ := cs_h7 kC a2 d
      rw [e3, x_let]
      obtain ⟨S3, e4, hC3⟩ := cs_h8 hC2 a2 g
      rw [e4, x_let, w_eta]
      obtain ⟨T2, f3, hT2⟩ := t_191_7 kT a2 d
      rw [f3, x_bd]
      obtain ⟨T3, f4, hT3⟩ := t_191_8 hT2 a2 g
      rw [f4, x_bd, w_eta]
      exact g_fin hC3 hT3 (g_W_due kW hd hg hdg) hW (Nat.le_refl c) rfl _
    have rng : g_Ok c X Z (if d < 1 then f_170 6 S else if 30 < d then f_170 6 S else if g < 1 then f_170 6 S else if g ≤ 1000 then b_159_69 (nI k) d g S else f_170 6 S) (q_bd (if d < 1 then some ((0 : Int32), T) else if 30 < d then some (0, T) else some (1, T)) fun r_13 S_14 => if r_13 = 0 then b_267_45 (nI k) d g 6 S_14 else q_bd (if g < 1 then some ((0 : Int32), S_14) else if 1000 < g then some (0, S_14) else some (1, S_14)) fun r_15 S_16 => if ¬ r_15 = 0 then b_267_45 (nI k) d g 0 S_16 else b_267_45 (nI k) d g 6 S_16) := by
      by_cases h1 : d < 1
      · rw [if_pos h1, if_pos h1, x_bd, if_pos rfl]
        exact refu
      · rw [if_neg h1, if_neg h1]
        by_cases h2 : 30 < d
        · rw [if_pos h2, if_pos h2, x_bd, if_pos rfl]
          exact refu
        · rw [if_neg h2, if_neg h2, x_bd, if_neg (show ¬ (1 : Int32) = 0 from by decide)]
          by_cases h3 : g < 1
          · rw [if_pos h3, if_pos h3, x_bd, if_neg (show ¬ ¬ (0 : Int32) = 0 from by decide)]
            exact refu
          · rw [if_neg h3, if_neg h3]
            by_cases h4 : g ≤ 1000
            · rw [if_pos h4, if_neg ((g_nle _ _).1 h4), x_bd, if_pos (show ¬ (1 : Int32) = 0 from by decide)]
              have nn : ∀ u : Int32, ¬ u < 1 → ¬ u < 0 ∧ u ≠ 0 := by
                intro u hu
                rw [Int32.lt_iff_toInt_lt, show (1 : Int32).toInt = 1 from by decide] at hu
                refine ⟨?_, ?_⟩
                · rw [Int32.lt_iff_toInt_lt, show (0 : Int32).toInt = 0 from by decide]
                  omega
                · intro e
                  rw [e, show (0 : Int32).toInt = 0 from by decide] at hu
                  omega
              exact done (g_N_of (M := 30) (by decide) (nn d h1).1 ((g_nle _ _).2 h2) (by omega)) (g_N_of (M := 1000) (by decide) (nn g h3).1 h4 (by omega)) (fun _ => (nn g h3).2)
            · rw [if_neg h4, if_pos (Decidable.not_not.1 (fun q => h4 ((g_nle _ _).2 q))), x_bd, if_neg (show ¬ ¬ (0 : Int32) = 0 from by decide)]
              exact refu
    by_cases hd : d = 0
    · by_cases hg : g = 0
      · rw [if_neg (show ¬ ¬ d = 0 from fun p => p hd), if_neg (show ¬ ¬ g = 0 from fun p => p hg), if_neg (show ¬ ¬ d = 0 from fun p => p hd), if_pos hg, if_pos (show ¬ (1 : Int32) = 0 from by decide)]
        exact done (by rw [hd]; exact g_N_nI (a := 0) (by omega) (by omega)) (by rw [hg]; exact g_N_nI (a := 0) (by omega) (by omega)) (fun p => absurd hd p)
      · rw [if_neg (show ¬ ¬ d = 0 from fun p => p hd), if_pos hg, if_neg (show ¬ ¬ d = 0 from fun p => p hd), if_neg hg]
        simp only [not_true_eq_false, if_false]
        exact rng
    · rw [if_pos hd, if_pos hd]
      simp only [not_true_eq_false, if_false]
      exact rng
