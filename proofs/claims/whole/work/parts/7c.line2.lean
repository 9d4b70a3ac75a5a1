/-! ===== line: the whole call ===== -/
theorem ln_new {Y : GA} {n t : Nat} {x2 x3 : Int32} (hP : dp_P Y n) (m2 : g_M x2 n) (m3 : g_M x3 n) : dp_P (g_up (g_up Y 6 t 2 x2) 6 t 3 x3) n ∧ (∀ x, x ≠ t → g_up (g_up Y 6 t 2 x2) 6 t 3 x3 6 x 2 = Y 6 x 2 ∧ g_up (g_up Y 6 t 2 x2) 6 t 3 x3 6 x 3 = Y 6 x 3) ∧ g_up (g_up Y 6 t 2 x2) 6 t 3 x3 6 t 2 = x2 ∧ g_up (g_up Y 6 t 2 x2) 6 t 3 x3 6 t 3 = x3 := by
  have a : ∀ x, x ≠ t → g_up (g_up Y 6 t 2 x2) 6 t 3 x3 6 x 2 = Y 6 x 2 ∧ g_up (g_up Y 6 t 2 x2) 6 t 3 x3 6 x 3 = Y 6 x 3 := fun x hx => ⟨by rw [g_up_ne (by omega), g_up_ne (by omega)], by rw [g_up_ne (by omega), g_up_ne (by omega)]⟩
  have b : g_up (g_up Y 6 t 2 x2) 6 t 3 x3 6 t 2 = x2 := by rw [g_up_ne (by omega)]; exact g_up_same _ _ _ _ _
  have d : g_up (g_up Y 6 t 2 x2) 6 t 3 x3 6 t 3 = x3 := g_up_same _ _ _ _ _
  refine ⟨fun k hk => ?_, a, b, d⟩
  by_cases e : k = t
  · subst e
    rw [b, d]
    exact ⟨m2, m3⟩
  · rw [(a k e).1, (a k e).2]
    exact hP k hk
theorem p_line {c y : Nat} {Y V : GA} {X Z S T : QS} (h : g_R c y Y V X Z S T) {t : Nat} (ht : t < g_n (Y 0 2 0)) {x2 x3 : Int32} (h2 : x2 = -1 ∨ ∃ p, p < g_n (Y 0 2 0) ∧ x2 = nI p ∧ Y 6 p 0 ≤ 2) (h3 : x3 = -1 ∨ ∃ p, p < g_n (Y 0 2 0) ∧ x3 = nI p ∧ Y 6 p 0 = 3) :
    g_Ok c X Z (q_bd (b_179_117 (nI t) x2 x3 S) (fun r_1 S_2 => if r_1 = 0 then (q_bd (f_171  S_2) (fun r_3 S_4 => q_bd (f_93 S_4.2.2.1.1 (nI t) S_4) (fun r_5 S_6 => q_let (q_set S_6 (8, r_5.1, r_5.2) 2 x2) (fun S_7 => q_let (q_set S_7 (8, r_5.1, r_5.2) 3 x3) (fun S_8 => q_bd (f_63 S_8.2.2.1.1 S_8) (fun r_9 S_10 => q_bd (f_169 (S_10.1 (8, r_5.1, r_5.2) 4) S_10) (fun r_11 S_12 => some (r_11, S_12)))))))) else (q_bd (f_170 r_1 S_2) (fun r_13 S_14 => some (r_13, S_14))))) (b_240_63 q_N (nI t) x2 x3 0 T) := by
  obtain ⟨hC, hT, hW, hV, hU⟩ := id h
  have n2 := hW.2.1.2.2.1
  have n22 := n2.2
  have hP := dp_P_W hW
  have m2 : g_M x2 (g_n (Y 0 2 0)) := by
    rcases h2 with e | ⟨p, hp, e, _⟩
    · exact Or.inl e
    · exact Or.inr ⟨p, hp, e⟩
  have m3 : g_M x3 (g_n (Y 0 2 0)) := by
    rcases h3 with e | ⟨p, hp, e, _⟩
    · exact Or.inl e
    · exact Or.inr ⟨p, hp, e⟩
  simp only [w_eta]
  unfold b_179_117
  obtain ⟨fm, a1, a2, a3, a4⟩ := mk_60 hW hC ht
  rw [c_now hC, a1, x_bd]
  obtain ⟨f0, b1, b2⟩ := ln_clr (T := T) (nI t) x2 x3 200 0 q_N (T.1 (48, 0, 0)) (fun j hj => by omega) (by omega) (by unfold q_N; omega)
  rw [w_row_id] at b1
  rw [show b_240_63 q_N (nI t) x2 x3 0 T = _ from b1, b_240_63, if_pos (show (200 : Int32) ≤ nI 200 from by decide)]
  obtain ⟨f1, d1, d2, d3, d4, d5, d6⟩ := mr_238 (x := x2) (g := f0) n22 n2.1 hP hT (fun z hz => Or.inl (b2 z (by omega))) (fun z q hz hq hp e => by
    have e' : f0 z = 1 := e
    rw [b2 z (by omega)] at e'
    exact absurd e' (by decide)) m2
  obtain ⟨f2, g1, g2, g3, g4, g5, g6⟩ := mr_238 (x := x3) (g := f1) n22 n2.1 hP hT d2 d6 m3
  rw [d1, x_bd, g1, x_bd, w_in (show t < 200 by omega) (by omega), nI_clamp (by omega), x_ck, x_let, w_row_same]
  have hC1 : g_C y Y V X (q_row S (26, 0, 0) fm) := g_C_scr hC (by omega)
  have hT1 : g_T Y V Z (q_row T (48, 0, 0) f2) := g_T_scr hT (by omega)
  have hR1 : g_R c y Y V X Z (q_row S (26, 0, 0) fm) (q_row T (48, 0, 0) f2) := ⟨hC1, hT1, hW, hV, hU⟩
  have low : ∀ q, q < g_n (Y 0 2 0) → x2 = nI q ∨ x3 = nI q → fm q ≠ 0 → f2 t = 1 := by
    intro q hq hqq hf
    refine Decidable.byContradiction (fun hno => ?_)
    have := a4 (fun z => ¬ f2 z = 1) (fun z p hz hp hpa hn hz1 => hn (g6 z p hz hp hpa hz1)) hno q hq hf
    rcases hqq with e | e
    · exact this (g3 q hq (d4 q hq e))
    · exact this (g4 q hq e)
  have high : (∀ q, q < g_n (Y 0 2 0) → x2 = nI q ∨ x3 = nI q → fm q = 0) → ¬ f2 t = 1 := by
    intro hz hf
    have u : mk_up Y (g_n (Y 0 2 0)) (fun z => fm z = 0) := fun z p hz hp hpa e => Decidable.byContradiction (fun e' => a2 z p hz hp hpa e' e)
    have := g5 (fun z => fm z = 0) u (fun z hz' hz1 => d5 (fun z => fm z = 0) u (fun w hw e => by
      rw [b2 w (by omega)] at e
      exact absurd e (by decide)) (fun q hq e => hz q hq (Or.inl e)) z hz' hz1) (fun q hq e => hz q hq (Or.inr e)) t ht hf
    exact a3 this
  have ring : f2 t = 1 → g_Ok c X Z (f_170 7 (q_row S (26, 0, 0) fm)) (if ¬ f2 t = 1 then (q_bd (f_192 (nI t) 2 (q_row T (48, 0, 0) f2)) (fun r_16 S_17 => q_bd (f_192 (nI t) 3 S_17) (fun r_18 S_19 => q_bd (f_193 (nI t) 2 x2 S_19) (fun r_20 S_21 => q_bd (f_193 (nI t) 3 x3 S_21) (fun r_22 S_23 => q_bd (f_237 16 S_23) (fun r_24 S_25 => b_240_154 q_N (nI t) x2 x3 r_16 r_18 0 0 S_25)))))) else (f_186 7 (q_row T (48, 0, 0) f2))) := by
    intro e
    rw [if_neg (fun q => q e)]
    exact g_refuse hR1 _
  simp only [w_eta]
  rcases mk_58 (S := S) (f := fm) n22 m2 with ⟨k1, q, q1, q2, q3⟩ | ⟨k1, k2⟩
  · rw [k1, x_bd, if_pos (by decide), x_bd, if_neg (by decide)]
    exact ring (low q q1 (Or.inl q2) q3)
  · rw [k1, x_bd, if_neg (by decide)]
    rcases mk_58 (S := S) (f := fm) n22 m3 with ⟨l1, q, q1, q2, q3⟩ | ⟨l1, l2⟩
    · rw [l1, x_bd, if_neg (by decide), x_bd, if_neg (by decide)]
      exact ring (low q q1 (Or.inr q2) q3)
    · rw [l1, x_bd, if_pos rfl, c_now hC1]
      have hnr : ¬ f2 t = 1 := high (fun q hq e => by
        rcases e with e | e
        · exact k2 q hq e
        · exact l2 q hq e)
      rw [if_pos hnr, t_192_2 hT1 (by omega), x_bd, t_192_3 hT1 (by omega), x_bd]
      obtain ⟨p1, p2, p3, p4⟩ := ln_new (t := t) hP m2 m3
      have hN : dw_N Y (g_up (g_up Y 6 t 2 x2) 6 t 3 x3) fm (g_n (Y 0 2 0)) t := by
        refine ⟨fun x _ hx => p2 x hx, p1, fun p hp hpa => ?_, a3, a2⟩
        unfold pa at hpa
        rw [p3, p4] at hpa
        rcases hpa with e | e
        · exact k2 p hp e
        · exact l2 p hp e
      obtain ⟨fa, A, dd, r1, r2, r3, r4, r5⟩ := dw_61 hW ht hN p3 p4 hC1 (w_row_same _ _ _)
      rw [r1, x_bd]
      obtain ⟨T1, T2, s1, s2, s3, s4⟩ := ln_193 hT1 (show t < 200 by omega) x2 x3
      rw [s1, x_bd, s2, x_bd]
      obtain ⟨D, fd, u1, u2, u3, u4⟩ := dp_237 n22 (show g_up (g_up Y 6 t 2 x2) 6 t 3 x3 0 2 0 = _ from n2.1) p1 s3
      have hT3 : g_T (g_up (g_up Y 6 t 2 x2) 6 t 3 x3) V Z (q_row T2 (46, 0, 0) fd) := g_T_scr s3 (by omega)
      rw [u1, x_bd]
      obtain ⟨fl, v1, v2, v3⟩ := ln_154 n22 (show g_up (g_up Y 6 t 2 x2) 6 t 3 x3 0 2 0 = _ from n2.1) hT3 (by rw [w_row_same]; exact u2) (nI t) x2 x3 (Y 6 t 2) (Y 6 t 3) (g_n (Y 0 2 0)) 0 q_N 0 (Or.inl rfl) (by omega) (by unfold q_N; omega)
      rw [show b_240_154 q_N (nI t) x2 x3 (Y 6 t 2) (Y 6 t 3) 0 0 (q_row T2 (46, 0, 0) fd) = _ from v1, b_240_154, w_i2, w_c2, t_n2 hT3, show g_up (g_up Y 6 t 2 x2) 6 t 3 x3 0 2 0 = _ from n2.1, x_ck, x_let, if_pos (nI_le (Nat.le_refl _) (by omega))]
      obtain ⟨T4, T5, w1, w2, w3, w4⟩ := ln_193 hT3 (show t < 200 by omega) (Y 6 t 2) (Y 6 t 3)
      rw [ln_back rfl rfl] at w3
      rw [w1, x_bd, w2, x_bd]
      have hC2 : g_C y Y V X (q_row (q_row S (26, 0, 0) fm) (27, 0, 0) fa) := g_C_scr hC1 (by omega)
      have hR2 : g_R c y Y V X Z (q_row (q_row S (26, 0, 0) fm) (27, 0, 0) fa) T5 := ⟨hC2, w3, hW, hV, hU⟩
      have hle : ∀ j, j < g_n (Y 0 2 0) → D j ≤ A j := u3 A (fun j hj => Nat.le_of_eq (r4 j hj).symm)
      by_cases hd : dd ≤ 15
      · rw [if_pos (show nI dd ≤ 15 from (show nI dd ≤ nI 15 from nI_le hd (by omega))), x_bd, if_pos rfl]
        have hA15 : ∀ x, x < g_n (Y 0 2 0) → A x ≤ 15 := fun x hx => Decidable.byContradiction (fun q => by
          have := r5.2 ⟨x, hx, by omega⟩
          omega)
        have hge : ∀ j, j < g_n (Y 0 2 0) → dp_q (g_up (g_up Y 6 t 2 x2) 6 t 3 x3) D j ≤ D j := fun j hj => by
          have z1 := dp_q_mono n22 p1 hj hle
          have z2 := r4 j hj
          have z3 := hA15 j hj
          have z4 := u4 j hj
          omega
        have hDA : ∀ j, j < g_n (Y 0 2 0) → D j = A j := fun j hj => by
          have z1 := dp_eq n22 p1 r4 hge _ j hj (Nat.le_refl _)
          have z2 := hle j hj
          omega
        have hfl : fl = 0 := v3.2 ⟨rfl, fun j _ hj => by rw [hDA j hj]; exact hA15 j hj⟩
        rw [hfl, if_pos rfl]
        obtain ⟨S3, T6, y1, y2, y3⟩ := k_keep hR2
        obtain ⟨zC, zT, zW, zV, zU⟩ := id y3
        have e27 := ln_171 hC2 hW y1
        rw [w_row_same] at e27
        have e46 := ln_188 y2
        rw [w4, w_row_same] at e46
        rw [y1, y2, x_bd, x_bd, c_now zC, c_93 zC (show t < g_n (g_up Y 10 3 0 1 0 2 0) from ht) (by omega), x_bd]
        dsimp only
        obtain ⟨S4, o1, o2⟩ := cs_t2 zC (show t < 200 by omega) x2
        rw [o1, x_let]
        obtain ⟨S5, o3, o4⟩ := cs_t3 o2 (show t < 200 by omega) x3
        rw [o3, x_let, c_now o4]
        obtain ⟨T7, T8, i1, i2, i3, i4⟩ := ln_193 zT (show t < 200 by omega) x2 x3
        rw [i1, x_bd, i2, x_bd, i4, e46]
        have e27' : S5.1 (27, 0, 0) = fa := by
          rw [← o3, ← o1, ← e27]
          rfl
        unfold f_63
        obtain ⟨Y2, S6, j1, j2, j3, j4, j5⟩ := ln_63 (Y1 := g_up (g_up (g_up Y 10 3 0 1) 6 t 2 x2) 6 t 3 x3) (n := g_n (Y 0 2 0)) n22 (show g_up (g_up (g_up Y 10 3 0 1) 6 t 2 x2) 6 t 3 x3 0 2 0 = _ from n2.1) (g_n (Y 0 2 0)) 0 q_N _ S5 o4 i3 e27' (fun _ _ => rfl) (fun j hj => by omega) (by omega) (by unfold q_N; omega)
        rw [show b_63_2 q_N y 0 S5 = _ from j1, x_bd, c_d j2 (show t < g_n (Y2 0 2 0) by rw [j4 0 (by omega)]; exact ht) (by omega), j5 t ht, w_in (show t < 200 by omega) (by omega), nI_clamp (by omega), x_ck, x_let, (r2 t ht).1, (u2 t ht).1, hDA t ht]
        refine g_fin j2 j3 ?_ hW (Nat.le_refl c) ?_ _
        · refine ln_W (A := A) hW ht (fun r hr8 hr => ?_) h2 h3 (fun j hj => ⟨by rw [j5 j hj]; exact (r2 j hj).1, hA15 j hj⟩) r4
          rw [j4 r hr8]
          funext a b
          by_cases e6 : r = 6
          · subst e6; rfl
          · rw [g_up_r e6, g_up_r e6, g_up_r e6, g_up_r e6, g_up_r (by omega)]
        · rw [j4 10 (by omega)]
          rfl
      · rw [if_neg (show ¬ nI dd ≤ 15 from (show ¬ nI dd ≤ nI 15 from nI_ge (by omega) (by omega))), x_bd, if_neg (by decide)]
        have hfl : ¬ fl = 0 := by
          intro e
          have hD15 := (v3.1 e).2
          obtain ⟨x, hx, hx15⟩ := r5.1 (show 15 < dd by omega)
          have hge : ∀ j, j < g_n (Y 0 2 0) → dp_q (g_up (g_up Y 6 t 2 x2) 6 t 3 x3) D j ≤ D j := fun j hj => by
            have key : ∀ z, g_M z (g_n (Y 0 2 0)) → dp_p D z ≤ 16 := by
              intro z hz
              unfold dp_p
              rcases hz with rfl | ⟨i, hi, rfl⟩
              · rw [if_pos rfl]; omega
              · rw [if_neg (g_nI_m1 (by omega)), g_n_nI (by omega)]
                have := hD15 i (Nat.zero_le _) hi
                omega
            have z1 := key _ (p1 j hj).1
            have z2 := key _ (p1 j hj).2
            have z3 : dp_q (g_up (g_up Y 6 t 2 x2) 6 t 3 x3) D j ≤ 16 := by unfold dp_q; omega
            have z4 := u4 j hj
            omega
          have z1 := dp_eq n22 p1 r4 hge _ x hx (Nat.le_refl _)
          have z2 := hD15 x (Nat.zero_le _) hx
          omega
        rw [if_neg hfl]
        exact g_refuse hR2 _
theorem jj_144 {c y : Nat} {Y V : GA} {X Z S T : QS} (h : g_R c y Y V X Z S T) (x1 x2 x3 : Int32) : g_Ok c X Z (f_144 x1 x2 x3 S) (f_240 x1 x2 x3 T) := by
  obtain ⟨hC, hT, hW, hV, hU⟩ := id h
  unfold f_144 f_240 f_179
  obtain ⟨cm, a1, a2, a3⟩ := ln_mo h x2
  obtain ⟨cf, b1, b2, b3⟩ := ln_fa h x3
  rw [c_174 hC, t_199 hT, x_bd, x_bd, a2, x_bd]
  unfold f_202
  have k46 : ∀ e, ¬ e = 0 → b_179_46 x1 x2 x3 e S = some (e, S) := by
    intro e he
    unfold b_179_46 b_179_86
    rw [if_pos he, if_neg he]
  have refu : ∀ e, ¬ e = 0 → ¬ e ≤ 0 → g_Ok c X Z (q_bd (some (e, S)) (fun r_1 S_2 => if r_1 = 0 then (q_bd (f_171  S_2) (fun r_3 S_4 => q_bd (f_93 S_4.2.2.1.1 x1 S_4) (fun r_5 S_6 => q_let (q_set S_6 (8, r_5.1, r_5.2) 2 x2) (fun S_7 => q_let (q_set S_7 (8, r_5.1, r_5.2) 3 x3) (fun S_8 => q_bd (f_63 S_8.2.2.1.1 S_8) (fun r_9 S_10 => q_bd (f_169 (S_10.1 (8, r_5.1, r_5.2) 4) S_10) (fun r_11 S_12 => some (r_11, S_12)))))))) else (q_bd (f_170 r_1 S_2) (fun r_13 S_14 => some (r_13, S_14))))) (b_240_48 x1 x2 x3 e T) := by
    intro e h1 h2
    unfold b_240_48
    rw [x_bd, if_neg h1, if_neg h2, w_eta, w_eta]
    exact g_refuse h _
  rcases g_tw_cases hW x1 with q | ⟨q, t, ht, ht2, rfl⟩
  · rw [if_pos (g_12a q), if_neg (g_12b q), x_bd, b2, x_bd, if_neg (g_12b q), x_bd, if_pos (g_12a q), k46 _ (g_12a q)]
    exact refu _ (g_12a q) (g_12b q)
  · rw [if_neg (show ¬ ¬ g_tw Y (nI t) = 0 from fun p => p q), q, if_pos (show (0 : Int32) ≤ 0 from by decide), x_bd, b2, x_bd]
    rw [a1 (b_179_46 (nI t) x2 x3)]
    rcases a3 with ⟨e1, g2⟩ | ⟨e1, e2⟩
    · rw [e1, if_pos (show (0 : Int32) ≤ 0 from by decide), x_bd]
      unfold b_179_46
      rw [if_neg (show ¬ ¬ (0 : Int32) = 0 from by decide), b1 (b_179_86 (nI t) x2 x3)]
      rcases b3 with ⟨d1, g3⟩ | ⟨d1, d2⟩
      · rw [d1, if_neg (show ¬ ¬ (0 : Int32) = 0 from by decide), t_192_0 hT ht2, x_bd]
        unfold b_179_86
        rw [if_pos rfl, c_now hC, c_93 hC ht ht2, x_bd]
        dsimp only
        rw [c_t0 hC ht ht2]
        have go := p_line h ht g2 g3
        have ref : b_240_48 (nI t) x2 x3 0 T = b_240_63 q_N (nI t) x2 x3 0 T := by
          unfold b_240_48
          rw [if_pos (by decide)]
        by_cases k3 : Y 6 t 0 = 3
        · rw [if_neg (show ¬ ¬ Y 6 t 0 = 3 from fun z => z k3), if_neg (show ¬ ¬ Y 6 t 0 = 3 from fun z => z k3)]
          rcases g3 with e | ⟨p, hp, e, _⟩
          · rw [if_pos e, if_pos (show x3 < 0 by rw [e]; decide), ref]
            exact go
          · have n22 := hW.2.1.2.2.1.2
            rw [if_neg (show ¬ x3 = -1 from by rw [e]; exact g_nI_m1 (by omega)), if_neg (show ¬ x3 < 0 from by rw [e]; exact nI_pos (by omega))]
            exact refu 6 (by decide) (by decide)
        · rw [if_pos k3, if_pos k3, ref]
          exact go
      · rw [if_pos d1]
        unfold b_179_86
        rw [if_neg d1]
        exact refu _ d1 d2
    · rw [if_neg e2, x_bd, if_pos e1, k46 _ e1]
      exact refu _ e1 e2
