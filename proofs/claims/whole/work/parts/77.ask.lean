/-! ===== ask ===== -/
def g_qn (k : Int32) : Int32 := if 2 < k then 0 else 1
theorem e_86 {y : Nat} {Y V : GA} {X S : QS} (hC : g_C y Y V X S) {t : Nat} (ht : t < g_n (Y 0 2 0)) (h2 : t < 200) (hk : g_N (Y 6 t 0) 5) : f_86 y t S = some (g_qn (Y 6 t 0), S) := by
  unfold f_86 b_86_23
  rw [c_t0 hC ht h2]
  rcases g_kn hk with q | q | q | q | q | q <;> rw [q] <;> rfl
theorem e_204 {Y V : GA} {Z T : QS} (hT : g_T Y V Z T) {t : Nat} (h2 : t < 200) : f_204 (nI t) T = some (g_qn (Y 6 t 0), T) := by
  unfold f_204 g_qn
  rw [t_192_0 hT h2, x_bd]
  by_cases q : 2 < Y 6 t 0
  · rw [if_pos q, if_pos q]
  · rw [if_neg q, if_neg q]
theorem g_qn_1 {k : Int32} (hk : g_N k 5) (h : g_qn k ≠ 0) : k = 0 ∨ k = 1 ∨ k = 2 := by
  rcases g_kn hk with q | q | q | q | q | q
  · exact Or.inl q
  · exact Or.inr (Or.inl q)
  · exact Or.inr (Or.inr q)
  · exact absurd (by rw [q]; rfl) h
  · exact absurd (by rw [q]; rfl) h
  · exact absurd (by rw [q]; rfl) h
theorem p_ask2 {c y : Nat} {Y V : GA} {X Z S T : QS} (h : g_R c y Y V X Z S T) {t w : Nat} (ht : t < g_n (Y 0 2 0)) (h2 : t < 200) (hw : 2 ≤ w) (hw2 : w ≤ 7) (hq : w = 4 ∨ w = 7 → Y 6 t 0 = 0 ∨ Y 6 t 0 = 1 ∨ Y 6 t 0 = 2) : ∃ r Y' S' T', f_2 y t (nI w) S = some (r, S') ∧ f_247 (nI t) (nI w) T = some (r, T') ∧ g_R c y Y' V X Z S' T' := by
  obtain ⟨hC, hT, hW, hV, hU⟩ := id h
  have hk := (hW.2.2.2.2.2.2.2.2.1 t ht).1
  have w6 : w = 2 ∨ w = 3 ∨ w = 4 ∨ w = 5 ∨ w = 6 ∨ w = 7 := by omega
  rcases w6 with rfl | rfl | rfl | rfl | rfl | rfl
  · obtain ⟨r, Y', S', T', a1, a2, a3, a4, a5⟩ := e_3 hC hT ht h2 hk
    refine ⟨r, Y', S', T', ?_, ?_, g_R_o9 h a5 a3 a4⟩
    · show q_bd (f_3 y t S) (fun r_2 S_3 => some (r_2, S_3)) = _
      rw [a1, x_bd]
    · show q_bd (f_206 (nI t) T) (fun r_2 S_3 => some (r_2, S_3)) = _
      rw [a2, x_bd]
  · obtain ⟨Y', S', T', a1, a2, a3, a4, a5⟩ := e_4 hC hT ht h2 hk
    refine ⟨g_car (Y 6 t 0) (Y 6 t 6), Y', S', T', ?_, ?_, g_R_o9 h a5 a3 a4⟩
    · show q_bd (f_4 y t S) (fun r_2 S_3 => some (r_2, S_3)) = _
      rw [a1, x_bd]
    · show q_bd (f_208 (nI t) T) (fun r_2 S_3 => some (r_2, S_3)) = _
      rw [a2, x_bd]
  · obtain ⟨Y', S', T', a1, a2, a3, a4, a5⟩ := e_5 hC hT ht h2 (hq (Or.inl rfl))
    refine ⟨g_lay (Y 6 t 0) (Y 6 t 1) (Y 6 t 4), Y', S', T', ?_, ?_, g_R_o9 h a5 a3 a4⟩
    · show q_bd (f_5 y t S) (fun r_2 S_3 => some (r_2, S_3)) = _
      rw [a1, x_bd]
    · show q_bd (f_209 (nI t) T) (fun r_2 S_3 => some (r_2, S_3)) = _
      rw [a2, x_bd]
  · obtain ⟨S1, T1, b1, b2, b3, b4⟩ := e_run (α := Int32) hC hT 14 (by omega)
    obtain ⟨r, Y', S', T', a1, a2, a3, a4, a5⟩ := e_3 b3 b4 (by exact ht) h2 (by exact hk)
    have o9 : g_o9 Y Y' := fun r hr => by rw [a5 r hr, g_up_r hr]
    refine ⟨if r ≤ 1100 then 0 else 1, Y', S', T', ?_, ?_, g_R_o9 h o9 a3 a4⟩
    · show q_bd (f_8 y t S) (fun r_11 S_12 => if r_11 = 0 then (some ((0 : Int32), S_12)) else (some (1, S_12))) = _
      rw [show f_8 y t S = _ from b1 (fun S_2 => q_bd (f_3 y t S_2) (fun r_3 S_4 => if r_3 ≤ 1100 then (some ((0 : Int32), S_4)) else (some (1, S_4)))), a1, x_bd]
      by_cases q : r ≤ 1100
      · rw [if_pos q, if_pos q]; rfl
      · rw [if_neg q, if_neg q]; rfl
    · show q_bd (f_205 14 T) (fun r_28 S_29 => q_bd (f_206 (nI t) S_29) (fun r_11 S_12 => if r_11 ≤ 1100 then (b_247_106 0 S_12) else (b_247_106 1 S_12))) = _
      rw [show f_205 14 T = _ from b2, x_bd, a2, x_bd]
      by_cases q : r ≤ 1100
      · rw [if_pos q, if_pos q]; rfl
      · rw [if_neg q, if_neg q]; rfl
  · obtain ⟨S1, T1, b1, b2, b3, b4⟩ := e_run (α := Int32) hC hT 15 (by omega)
    obtain ⟨Y', S', T', a1, a2, a3, a4, a5⟩ := e_4 b3 b4 (by exact ht) h2 (by exact hk)
    have o9 : g_o9 Y Y' := fun r hr => by rw [a5 r hr, g_up_r hr]
    generalize g_car (g_up Y 9 15 0 (Y 9 15 0 + 1) 6 t 0) (g_up Y 9 15 0 (Y 9 15 0 + 1) 6 t 6) = r at a1 a2
    refine ⟨if r ≤ 0 then 0 else 1, Y', S', T', ?_, ?_, g_R_o9 h o9 a3 a4⟩
    · show q_bd (f_9 y t S) (fun r_11 S_12 => if r_11 = 0 then (some ((0 : Int32), S_12)) else (some (1, S_12))) = _
      rw [show f_9 y t S = _ from b1 (fun S_2 => q_bd (f_4 y t S_2) (fun r_3 S_4 => if r_3 ≤ 0 then (some ((0 : Int32), S_4)) else (some (1, S_4)))), a1, x_bd]
      by_cases q : r ≤ 0
      · rw [if_pos q, if_pos q]; rfl
      · rw [if_neg q, if_neg q]; rfl
    · show q_bd (f_205 15 T) (fun r_28 S_29 => q_bd (f_208 (nI t) S_29) (fun r_11 S_12 => if r_11 ≤ 0 then (b_247_123 0 S_12) else (b_247_123 1 S_12))) = _
      rw [show f_205 15 T = _ from b2, x_bd, a2, x_bd]
      by_cases q : r ≤ 0
      · rw [if_pos q, if_pos q]; rfl
      · rw [if_neg q, if_neg q]; rfl
  · obtain ⟨S1, T1, b1, b2, b3, b4⟩ := e_run (α := Int32) hC hT 13 (by omega)
    obtain ⟨Y', S', T', a1, a2, a3, a4, a5⟩ := e_5 b3 b4 (by exact ht) h2 (hq (Or.inr rfl))
    have o9 : g_o9 Y Y' := fun r hr => by rw [a5 r hr, g_up_r hr]
    generalize g_lay (g_up Y 9 13 0 (Y 9 13 0 + 1) 6 t 0) (g_up Y 9 13 0 (Y 9 13 0 + 1) 6 t 1) (g_up Y 9 13 0 (Y 9 13 0 + 1) 6 t 4) = r at a1 a2
    refine ⟨if r = 0 then 0 else 1, Y', S', T', ?_, ?_, g_R_o9 h o9 a3 a4⟩
    · show q_bd (f_7 y t S) (fun r_11 S_12 => if r_11 = 0 then (some ((0 : Int32), S_12)) else (some (1, S_12))) = _
      rw [show f_7 y t S = _ from b1 (fun S_2 => q_bd (f_5 y t S_2) (fun r_3 S_4 => if r_3 = 0 then (some ((0 : Int32), S_4)) else (some (1, S_4)))), a1, x_bd]
      by_cases q : r = 0
      · rw [if_pos q, if_pos q]; rfl
      · rw [if_neg q, if_neg q]; rfl
    · show q_bd (f_205 13 T) (fun r_28 S_29 => q_bd (f_209 (nI t) S_29) (fun r_11 S_12 => if r_11 = 0 then (b_247_140 0 S_12) else (b_247_140 1 S_12))) = _
      rw [show f_205 13 T = _ from b2, x_bd, a2, x_bd]
      by_cases q : r = 0
      · rw [if_pos q, if_pos q]; rfl
      · rw [if_neg q, if_neg q]; rfl
theorem p_ask {c y : Nat} {Y V : GA} {X Z S T : QS} (h : g_R c y Y V X Z S T) {t w : Nat} (ht : t < g_n (Y 0 2 0)) (h2 : t < 200) (hw : w ≤ 14) (hq : w = 4 ∨ w = 7 → Y 6 t 0 = 0 ∨ Y 6 t 0 = 1 ∨ Y 6 t 0 = 2) : g_Ok c X Z (b_146_95 (nI t) (nI w) y t S) (b_248_70 (nI t) (nI w) 0 T) := by
  obtain ⟨hC, hT, hW, hV, hU⟩ := id h
  by_cases hm : 2 ≤ w ∧ w ≤ 7
  · obtain ⟨r, Y', S', T', a1, a2, a3⟩ := p_ask2 h ht h2 hm.1 hm.2 hq
    have e1 : b_146_95 (nI t) (nI w) y t S = q_bd (f_2 y t (nI w) S) (fun r_13 S_14 => b_146_164 r_13 S_14) := by
      have w6 : w = 2 ∨ w = 3 ∨ w = 4 ∨ w = 5 ∨ w = 6 ∨ w = 7 := by omega
      rcases w6 with rfl | rfl | rfl | rfl | rfl | rfl <;> rfl
    have e2 : b_248_70 (nI t) (nI w) 0 T = q_bd (f_247 (nI t) (nI w) T) (fun r_56 S_57 => q_bd (f_187 r_56 S_57) (fun r_58 S_59 => some (r_58, S_59))) := by
      have w6 : w = 2 ∨ w = 3 ∨ w = 4 ∨ w = 5 ∨ w = 6 ∨ w = 7 := by omega
      rcases w6 with rfl | rfl | rfl | rfl | rfl | rfl <;> rfl
    rw [e1, e2, a1, a2, x_bd, x_bd]
    unfold b_146_164
    rw [w_eta, w_eta]
    exact g_accept a3 r
  · have w9 : w = 0 ∨ w = 1 ∨ w = 8 ∨ w = 9 ∨ w = 10 ∨ w = 11 ∨ w = 12 ∨ w = 13 ∨ w = 14 := by omega
    rcases w9 with rfl | rfl | rfl | rfl | rfl | rfl | rfl | rfl | rfl
    · show g_Ok c X Z (q_bd (f_169 (S.1 (8, y, t) 0) S) (fun r_11 S_12 => some (r_11, S_12))) (q_bd (f_192 (nI t) 0 T) (fun r_6 S_7 => q_bd (f_187 r_6 S_7) (fun r_8 S_9 => some (r_8, S_9))))
      rw [c_t0 hC ht h2, t_192_0 hT h2, x_bd, w_eta, w_eta]
      exact g_accept h _
    · show g_Ok c X Z (q_bd (f_169 (S.1 (8, y, t) 1) S) (fun r_11 S_12 => some (r_11, S_12))) (q_bd (f_192 (nI t) 1 T) (fun r_6 S_7 => q_bd (f_187 r_6 S_7) (fun r_8 S_9 => some (r_8, S_9))))
      rw [c_t1 hC ht h2, t_192_1 hT h2, x_bd, w_eta, w_eta]
      exact g_accept h _
    · show g_Ok c X Z (q_bd (f_169 (S.1 (8, y, t) 2) S) (fun r_11 S_12 => some (r_11, S_12))) (q_bd (f_192 (nI t) 2 T) (fun r_6 S_7 => q_bd (f_187 r_6 S_7) (fun r_8 S_9 => some (r_8, S_9))))
      rw [c_t2 hC ht h2, t_192_2 hT h2, x_bd, w_eta, w_eta]
      exact g_accept h _
    · show g_Ok c X Z (q_bd (f_169 (S.1 (8, y, t) 3) S) (fun r_11 S_12 => some (r_11, S_12))) (q_bd (f_192 (nI t) 3 T) (fun r_6 S_7 => q_bd (f_187 r_6 S_7) (fun r_8 S_9 => some (r_8, S_9))))
      rw [c_t3 hC ht h2, t_192_3 hT h2, x_bd, w_eta, w_eta]
      exact g_accept h _
    · show g_Ok c X Z (q_bd (f_169 (S.1 (8, y, t) 4) S) (fun r_11 S_12 => some (r_11, S_12))) (q_bd (f_237 16 T) (fun r_51 S_52 => q_ck (v_in (nI t) 200) (q_let (S_52.1 (46, 0, 0) (nI t).toNatClampNeg) (fun y_53 => q_bd (f_187 y_53 S_52) (fun r_54 S_55 => some (r_54, S_55))))))
      obtain ⟨f, a1, a2⟩ := dp_ask hW hT
      rw [c_d hC ht h2, a1, x_bd, w_in h2 (by omega), nI_clamp (by omega), x_ck, x_let, w_row_same, a2 t ht, w_eta, w_eta]
      exact g_accept ⟨hC, g_T_scr hT (by omega), hW, hV, hU⟩ _
    · show g_Ok c X Z (q_bd (f_169 (S.1 (8, y, t) 5) S) (fun r_11 S_12 => some (r_11, S_12))) (q_bd (f_192 (nI t) 4 T) (fun r_6 S_7 => q_bd (f_187 r_6 S_7) (fun r_8 S_9 => some (r_8, S_9))))
      rw [c_t4 hC ht h2, t_192_4 hT h2, x_bd, w_eta, w_eta]
      exact g_accept h _
    · show g_Ok c X Z (q_bd (f_169 (S.1 (8, y, t) 6) S) (fun r_11 S_12 => some (r_11, S_12))) (q_bd (f_192 (nI t) 5 T) (fun r_6 S_7 => q_bd (f_187 r_6 S_7) (fun r_8 S_9 => some (r_8, S_9))))
      rw [c_t5 hC ht h2, t_192_5 hT h2, x_bd, w_eta, w_eta]
      exact g_accept h _
    · show g_Ok c X Z (q_bd (f_110 S.2.2.1.1 (nI t) S) (fun r_19 S_20 => q_bd (f_169 r_19 S_20) (fun r_21 S_22 => some (r_21, S_22)))) (q_bd (f_244 (nI t) T) (fun r_36 S_37 => q_bd (f_187 r_36 S_37) (fun r_38 S_39 => some (r_38, S_39))))
      obtain ⟨r, a1, a2, _⟩ := e_110 h h2
      rw [c_now hC, a1, a2, x_bd, x_bd, w_eta, w_eta]
      exact g_accept h _
    · show g_Ok c X Z (q_bd (f_111 S.2.2.1.1 (nI t) S) (fun r_19 S_20 => q_bd (f_169 r_19 S_20) (fun r_21 S_22 => some (r_21, S_22)))) (q_bd (f_245 (nI t) T) (fun r_36 S_37 => q_bd (f_187 r_36 S_37) (fun r_38 S_39 => some (r_38, S_39))))
      obtain ⟨r, a1, a2, _⟩ := e_111 h h2
      rw [c_now hC, a1, a2, x_bd, x_bd, w_eta, w_eta]
      exact g_accept h _
theorem jj_146 {c y : Nat} {Y V : GA} {X Z S T : QS} (h : g_R c y Y V X Z S T) (x z : Int32) : g_Ok c X Z (f_146 x z S) (f_248 x z T) := by
  obtain ⟨hC, hT, hW, hV, hU⟩ := id h
  unfold f_146 f_248
  rw [c_174 hC, t_199 hT]
  simp only [x_bd, w_eta]
  have refu : ∀ e, ¬ e = 0 → ¬ e ≤ 0 → g_Ok c X Z (f_170 e S) (b_248_23 x z e T) := by
    intro e h1 h2
    unfold b_248_23 b_248_70
    rw [if_pos h1, if_neg h2, w_eta]
    exact g_refuse h _
  rcases g_tw_cases hW x with q | ⟨q, t, b1, b2, rfl⟩
  · rw [if_neg (g_12a q), if_pos (g_12a q)]
    exact refu _ (g_12a q) (g_12b q)
  · rw [if_pos q, if_neg (show ¬ ¬ g_tw Y (nI t) = 0 from fun p => p q), q]
    have hk := (hW.2.2.2.2.2.2.2.2.1 t b1).1
    unfold f_189 b_146_26
    simp only [w_eta]
    by_cases h1 : z < 0
    · rw [if_pos h1, if_pos h1, x_bd, if_neg (show ¬ ¬ (0 : Int32) = 0 from by decide)]
      exact refu 6 (by decide) (by decide)
    · rw [if_neg h1, if_neg h1]
      by_cases h3 : z ≤ 14
      · rw [if_pos h3, if_neg ((g_nle _ _).1 h3), x_bd, if_pos (show ¬ (1 : Int32) = 0 from by decide), c_now hC, c_93 hC b1 b2, x_bd]
        obtain ⟨w, hw, rfl⟩ := nI_of2 (x := z) (M := 14) (n := 14) (by decide) h1 h3
        unfold b_248_23
        rw [if_neg (show ¬ ¬ (0 : Int32) = 0 from by decide)]
        unfold b_146_54 b_248_38 b_146_68 b_248_46 b_146_80 b_248_58 b_248_68
        dsimp only
        rw [e_86 hC b1 b2 hk, e_204 hT b2, x_bd, x_bd, c_t0 hC b1 b2, t_192_0 hT b2, x_bd]
        have e4 : nI w = 4 ↔ w = 4 := nI_eq (b := 4) (by omega) (by omega)
        have e7 : nI w = 7 ↔ w = 7 := nI_eq (b := 7) (by omega) (by omega)
        have e11 : nI w = 11 ↔ w = 11 := nI_eq (b := 11) (by omega) (by omega)
        have e12 : nI w = 12 ↔ w = 12 := nI_eq (b := 12) (by omega) (by omega)
        have no : g_Ok c X Z (f_170 3 S) (b_248_70 (nI t) (nI w) 3 T) := by
          unfold b_248_70
          rw [if_neg (show ¬ (3 : Int32) ≤ 0 from by decide), w_eta]
          exact g_refuse h _
        simp only [e4, e7, e11, e12, w_eta]
        have go := p_ask h b1 b2 hw
        by_cases w4 : w = 4 ∨ w = 7
        · have n11 : ¬ w = 11 := by omega
          have n12 : ¬ w = 12 := by omega
          by_cases hqn : g_qn (Y 6 t 0) = 0
          · rcases w4 with w4 | w4
            · rw [if_pos w4, if_pos w4, if_neg (show ¬ ¬ g_qn (Y 6 t 0) = 0 from fun p => p hqn), if_pos hqn]
              exact no
            · rw [if_neg (show ¬ w = 4 by omega), if_neg (show ¬ w = 4 by omega), if_neg (show ¬ ¬ w = 7 from fun p => p w4), if_neg (show ¬ ¬ w = 7 from fun p => p w4), if_neg (show ¬ ¬ g_qn (Y 6 t 0) = 0 from fun p => p hqn), if_pos hqn]
              exact no
          · have go' := go (fun _ => g_qn_1 hk hqn)
            rcases w4 with w4 | w4
            · rw [if_pos w4, if_pos w4, if_pos hqn, if_neg hqn, if_neg n11, if_pos n12, if_neg n11, if_pos n12]
              exact go'
            · rw [if_neg (show ¬ w = 4 by omega), if_neg (show ¬ w = 4 by omega), if_neg (show ¬ ¬ w = 7 from fun p => p w4), if_neg (show ¬ ¬ w = 7 from fun p => p w4), if_pos hqn, if_neg hqn, if_neg n11, if_pos n12, if_neg n11, if_pos n12]
              exact go'
        · have go' := go (fun p => absurd p w4)
          rw [if_neg (show ¬ w = 4 by omega), if_neg (show ¬ w = 4 by omega), if_pos (show ¬ w = 7 by omega), if_pos (show ¬ w = 7 by omega)]
          by_cases h11 : w = 11 ∨ w = 12
          · by_cases hm : Y 6 t 0 = 2
            · rw [if_pos hm, if_pos hm]
              rcases h11 with e | e
              · rw [if_pos e, if_pos e]
                exact go'
              · rw [if_neg (show ¬ w = 11 by omega), if_neg (show ¬ ¬ w = 12 from fun p => p e), if_neg (show ¬ w = 11 by omega), if_neg (show ¬ ¬ w = 12 from fun p => p e)]
                exact go'
            · rw [if_neg hm, if_neg hm]
              rcases h11 with e | e
              · rw [if_pos e, if_pos e]
                exact no
              · rw [if_neg (show ¬ w = 11 by omega), if_neg (show ¬ ¬ w = 12 from fun p => p e), if_neg (show ¬ w = 11 by omega), if_neg (show ¬ ¬ w = 12 from fun p => p e)]
                exact no
          · rw [if_neg (show ¬ w = 11 by omega), if_pos (show ¬ w = 12 by omega), if_neg (show ¬ w = 11 by omega), if_pos (show ¬ w = 12 by omega)]
            exact go'
      · rw [if_neg h3, if_pos (Decidable.not_not.1 (fun q => h3 ((g_nle _ _).2 q))), x_bd, if_neg (show ¬ ¬ (0 : Int32) = 0 from by decide)]
        exact refu 6 (by decide) (by decide)
