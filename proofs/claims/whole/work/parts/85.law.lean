/-! ===== the law's loop ===== -/
set_option maxHeartbeats 8000000 in
set_option maxRecDepth 100000 in
theorem l_loop {L : Nat} {xs : Nat → Int32} (hL : L ≤ 2048) : ∀ (d k p : Nat) (S : QS), lI k L xs S → k + d = L / 4 → d < p → ∃ S', b_0_18 p L (nI (4 * k)) S = some (1, S') ∧ S'.2.2.2.1 ≤ 600000 ∧ S'.2.2.2.2 ≤ 7302250
  | d, k, 0, _, _, _, h => by omega
  | 0, k, p + 1, S, hS, hd, h => by
    rw [b_0_18, show Int32.ofNat L = nI L from rfl, show (4 : Int32) = nI 4 from rfl, if_pos (show nI L - nI 4 < nI (4 * k) by rw [Int32.lt_iff_toInt_lt, pk_sub_toInt (by omega) (by omega), nI_toInt (by omega)]; omega)]
    exact ⟨S, rfl, lI_room hS⟩
  | d + 1, k, p + 1, S, hS, hd, h => by
    have hx := hS.2
    have v0 : v_in (nI (4 * k)) L = true := w_in (by omega) (by omega)
    have c0 : (nI (4 * k)).toNatClampNeg = 4 * k := nI_clamp (by omega)
    have x1 : nI (4 * k) + 1 = nI (4 * k + 1) := nI_add (4 * k) 1
    have v1 : v_in (nI (4 * k) + 1) L = true := by rw [x1]; exact w_in (by omega) (by omega)
    have c1 : (nI (4 * k) + 1).toNatClampNeg = 4 * k + 1 := by rw [x1]; exact nI_clamp (by omega)
    have x2 : nI (4 * k) + 2 = nI (4 * k + 2) := nI_add (4 * k) 2
    have v2 : v_in (nI (4 * k) + 2) L = true := by rw [x2]; exact w_in (by omega) (by omega)
    have c2 : (nI (4 * k) + 2).toNatClampNeg = 4 * k + 2 := by rw [x2]; exact nI_clamp (by omega)
    have x3 : nI (4 * k) + 3 = nI (4 * k + 3) := nI_add (4 * k) 3
    have v3 : v_in (nI (4 * k) + 3) L = true := by rw [x3]; exact w_in (by omega) (by omega)
    have c3 : (nI (4 * k) + 3).toNatClampNeg = 4 * k + 3 := by rw [x3]; exact nI_clamp (by omega)
    have go : ∀ T, lI (k + 1) L xs T → ∃ S', b_0_1617 (b_0_18 p) L (nI (4 * k)) T = some (1, S') ∧ S'.2.2.2.1 ≤ 600000 ∧ S'.2.2.2.2 ≤ 7302250 := by
      intro T hT
      unfold b_0_1617
      rw [show nI (4 * k) + 4 = nI (4 * (k + 1)) from nI_add (4 * k) 4]
      exact l_loop hL d (k + 1) p T hT (by omega) (by omega)
    rw [b_0_18, show Int32.ofNat L - 4 = nI L - nI 4 from rfl, if_neg (show ¬ nI L - nI 4 < nI (4 * k) by rw [Int32.lt_iff_toInt_lt, pk_sub_toInt (by omega) (by omega), nI_toInt (by omega)]; omega), v0, c0, x_ck, x_let, hx, x_let]
    generalize (xs (4 * k) &&& 63) = w
    by_cases e0 : w = 0
    · obtain ⟨r, S1, T1, f1, f2, f3, f4⟩ := l_step (c' := k + 1) (f_122 (xs (4 * k + 1))) (f_210 (xs (4 * k + 1))) hS (fun h => jj_122 (by omega) h _)
      rw [if_pos e0]
      simp only [v1, c1, hx, x_ck, x_let]
      rw [f1, x_bd]
      simp only [f2]
      rw [f3, x_bd, if_pos rfl]
      exact go T1 f4
    rw [if_neg e0]
    by_cases e1 : w = 1
    · obtain ⟨r, S1, T1, f1, f2, f3, f4⟩ := l_step (c' := k + 1) (f_123 (xs (4 * k + 1))) (f_211 (xs (4 * k + 1))) hS (fun h => g_Ok_mono (jj_123 h _) (by omega) (by omega))
      rw [if_pos e1]
      simp only [v1, c1, hx, x_ck, x_let]
      rw [f1, x_bd]
      simp only [f2]
      rw [f3, x_bd, if_pos rfl]
      exact go T1 f4
    rw [if_neg e1]
    by_cases e2 : w = 2
    · obtain ⟨r, S1, T1, f1, f2, f3, f4⟩ := l_step (c' := k + 1) (f_124 (xs (4 * k + 1)) (xs (4 * k + 2))) (f_212 (xs (4 * k + 1)) (xs (4 * k + 2))) hS (fun h => g_Ok_mono (jj_124 h _ _) (by omega) (by omega))
      rw [if_pos e2]
      simp only [v1, c1, v2, c2, hx, x_ck, x_let]
      rw [f1, x_bd]
      simp only [f2]
      rw [f3, x_bd, if_pos rfl]
      exact go T1 f4
    rw [if_neg e2]
    by_cases e3 : w = 3
    · obtain ⟨r, S1, T1, f1, f2, f3, f4⟩ := l_step (c' := k + 1) (f_125 (xs (4 * k + 1))) (f_213 (xs (4 * k + 1))) hS (fun h => g_Ok_mono (jj_125 h _) (by omega) (by omega))
      rw [if_pos e3]
      simp only [v1, c1, hx, x_ck, x_let]
      rw [f1, x_bd]
      simp only [f2]
      rw [f3, x_bd, if_pos rfl]
      exact go T1 f4
    rw [if_neg e3]
    by_cases e4 : w = 4
    · obtain ⟨r, S1, T1, f1, f2, f3, f4⟩ := l_step (c' := k + 1) (f_126 (xs (4 * k + 1)) (xs (4 * k + 2))) (f_214 (xs (4 * k + 1)) (xs (4 * k + 2))) hS (fun h => g_Ok_mono (jj_126 h _ _) (by omega) (by omega))
      rw [if_pos e4]
      simp only [v1, c1, v2, c2, hx, x_ck, x_let]
      rw [f1, x_bd]
      simp only [f2]
      rw [f3, x_bd, if_pos rfl]
      exact go T1 f4
    rw [if_neg e4]
    by_cases e5 : w = 5
    · obtain ⟨r, S1, T1, f1, f2, f3, f4⟩ := l_step (c' := k + 1) (f_127 (xs (4 * k + 1))) (f_215 (xs (4 * k + 1))) hS (fun h => g_Ok_mono (jj_127 h _) (by omega) (by omega))
      rw [if_pos e5]
      simp only [v1, c1, hx, x_ck, x_let]
      rw [f1, x_bd]
      simp only [f2]
      rw [f3, x_bd, if_pos rfl]
      exact go T1 f4
    rw [if_neg e5]
    by_cases e6 : w = 6
    · obtain ⟨r, S1, T1, f1, f2, f3, f4⟩ := l_step (c' := k + 1) (f_128 (xs (4 * k + 1))) (f_216 (xs (4 * k + 1))) hS (fun h => g_Ok_mono (jj_128 h _) (by omega) (by omega))
      rw [if_pos e6]
      simp only [v1, c1, hx, x_ck, x_let]
      rw [f1, x_bd]
      simp only [f2]
      rw [f3, x_bd, if_pos rfl]
      exact go T1 f4
    rw [if_neg e6]
    by_cases e7 : w = 7
    · obtain ⟨r, S1, T1, f1, f2, f3, f4⟩ := l_step (c' := k + 1) (f_129 (xs (4 * k + 1)) (xs (4 * k + 2))) (f_218 (xs (4 * k + 1)) (xs (4 * k + 2))) hS (fun h => g_Ok_mono (jj_129 h _ _) (by omega) (by omega))
      rw [if_pos e7]
      simp only [v1, c1, v2, c2, hx, x_ck, x_let]
      rw [f1, x_bd]
      simp only [f2]
      rw [f3, x_bd, if_pos rfl]
      exact go T1 f4
    rw [if_neg e7]
    by_cases e8 : w = 8
    · obtain ⟨r, S1, T1, f1, f2, f3, f4⟩ := l_step (c' := k + 1) (f_130 (xs (4 * k + 1)) (xs (4 * k + 2)) (xs (4 * k + 3))) (f_219 (xs (4 * k + 1)) (xs (4 * k + 2)) (xs (4 * k + 3))) hS (fun h => jj_130 (by omega) h _ _ _)
      rw [if_pos e8]
      simp only [v1, c1, v2, c2, v3, c3, hx, x_ck, x_let]
      rw [f1, x_bd]
      simp only [f2]
      rw [f3, x_bd, if_pos rfl]
      exact go T1 f4
    rw [if_neg e8]
    by_cases e9 : w = 9
    · obtain ⟨r, S1, T1, f1, f2, f3, f4⟩ := l_step (c' := k + 1) (f_134 (xs (4 * k + 1)) (xs (4 * k + 2))) (f_220 (xs (4 * k + 1)) (xs (4 * k + 2))) hS (fun h => g_Ok_mono (jj_134 h _ _) (by omega) (by omega))
      rw [if_pos e9]
      simp only [v1, c1, v2, c2, hx, x_ck, x_let]
      rw [f1, x_bd]
      simp only [f2]
      rw [f3, x_bd, if_pos rfl]
      exact go T1 f4
    rw [if_neg e9]
    by_cases e10 : w = 10
    · obtain ⟨r, S1, T1, f1, f2, f3, f4⟩ := l_step (c' := k + 1) (f_135 (xs (4 * k + 1))) (f_222 (xs (4 * k + 1))) hS (fun h => g_Ok_mono (jj_135 h _) (by omega) (by omega))
      rw [if_pos e10]
      simp only [v1, c1, hx, x_ck, x_let]
      rw [f1, x_bd]
      simp only [f2]
      rw [f3, x_bd, if_pos rfl]
      exact go T1 f4
    rw [if_neg e10]
    by_cases e11 : w = 11
    · obtain ⟨r, S1, T1, f1, f2, f3, f4⟩ := l_step (c' := k + 1) (f_136 (xs (4 * k + 1)) (xs (4 * k + 2))) (f_223 (xs (4 * k + 1)) (xs (4 * k + 2))) hS (fun h => g_Ok_mono (jj_136 h _ _) (by omega) (by omega))
      rw [if_pos e11]
      simp only [v1, c1, v2, c2, hx, x_ck, x_let]
      rw [f1, x_bd]
      simp only [f2]
      rw [f3, x_bd, if_pos rfl]
      exact go T1 f4
    rw [if_neg e11]
    by_cases e12 : w = 12
    · obtain ⟨r, S1, T1, f1, f2, f3, f4⟩ := l_step (c' := k + 1) (f_137 (xs (4 * k + 1))) (f_225 (xs (4 * k + 1))) hS (fun h => g_Ok_mono (jj_137 h _) (by omega) (by omega))
      rw [if_pos e12]
      simp only [v1, c1, hx, x_ck, x_let]
      rw [f1, x_bd]
      simp only [f2]
      rw [f3, x_bd, if_pos rfl]
      exact go T1 f4
    rw [if_neg e12]
    by_cases e13 : w = 13
    · obtain ⟨r, S1, T1, f1, f2, f3, f4⟩ := l_step (c' := k + 1) (f_138 (xs (4 * k + 1)) (xs (4 * k + 2)) (xs (4 * k + 3))) (f_228 (xs (4 * k + 1)) (xs (4 * k + 2)) (xs (4 * k + 3))) hS (fun h => g_Ok_mono (jj_138 h _ _ _) (by omega) (by omega))
      rw [if_pos e13]
      simp only [v1, c1, v2, c2, v3, c3, hx, x_ck, x_let]
      rw [f1, x_bd]
      simp only [f2]
      rw [f3, x_bd, if_pos rfl]
      exact go T1 f4
    rw [if_neg e13]
    by_cases e14 : w = 14
    · obtain ⟨r, S1, T1, f1, f2, f3, f4⟩ := l_step (c' := k + 1) (f_139) (f_229) hS (fun h => g_Ok_mono (jj_139 h) (by omega) (by omega))
      rw [if_pos e14, f1, x_bd, f3, x_bd, if_pos rfl]
      exact go T1 f4
    rw [if_neg e14]
    by_cases e15 : w = 15
    · obtain ⟨r, S1, T1, f1, f2, f3, f4⟩ := l_step (c' := k + 1) (f_140 (xs (4 * k + 1)) (xs (4 * k + 2))) (f_232 (xs (4 * k + 1)) (xs (4 * k + 2))) hS (fun h => g_Ok_mono (jj_140 h _ _) (by omega) (by omega))
      rw [if_pos e15]
      simp only [v1, c1, v2, c2, hx, x_ck, x_let]
      rw [f1, x_bd]
      simp only [f2]
      rw [f3, x_bd, if_pos rfl]
      exact go T1 f4
    rw [if_neg e15]
    by_cases e16 : w = 16
    · obtain ⟨r, S1, T1, f1, f2, f3, f4⟩ := l_step (c' := k + 1) (f_141 (xs (4 * k + 1)) (xs (4 * k + 2))) (f_233 (xs (4 * k + 1)) (xs (4 * k + 2))) hS (fun h => g_Ok_mono (jj_141 h _ _) (by omega) (by omega))
      rw [if_pos e16]
      simp only [v1, c1, v2, c2, hx, x_ck, x_let]
      rw [f1, x_bd]
      simp only [f2]
      rw [f3, x_bd, if_pos rfl]
      exact go T1 f4
    rw [if_neg e16]
    by_cases e17 : w = 17
    · obtain ⟨r, S1, T1, f1, f2, f3, f4⟩ := l_step (c' := k + 1) (f_142 (xs (4 * k + 1)) (xs (4 * k + 2)) (xs (4 * k + 3))) (f_234 (xs (4 * k + 1)) (xs (4 * k + 2)) (xs (4 * k + 3))) hS (fun h => g_Ok_mono (jj_142 h _ _ _) (by omega) (by omega))
      rw [if_pos e17]
      simp only [v1, c1, v2, c2, v3, c3, hx, x_ck, x_let]
      rw [f1, x_bd]
      simp only [f2]
      rw [f3, x_bd, if_pos rfl]
      exact go T1 f4
    rw [if_neg e17]
    by_cases e18 : w = 18
    · obtain ⟨r, S1, T1, f1, f2, f3, f4⟩ := l_step (c' := k + 1) (f_143 (xs (4 * k + 1))) (f_236 (xs (4 * k + 1))) hS (fun h => g_Ok_mono (jj_143 h _) (by omega) (by omega))
      rw [if_pos e18]
      simp only [v1, c1, hx, x_ck, x_let]
      rw [f1, x_bd]
      simp only [f2]
      rw [f3, x_bd, if_pos rfl]
      exact go T1 f4
    rw [if_neg e18]
    by_cases e19 : w = 19
    · obtain ⟨r, S1, T1, f1, f2, f3, f4⟩ := l_step (c' := k + 1) (f_144 (xs (4 * k + 1)) (xs (4 * k + 2)) (xs (4 * k + 3))) (f_240 (xs (4 * k + 1)) (xs (4 * k + 2)) (xs (4 * k + 3))) hS (fun h => g_Ok_mono (jj_144 h _ _ _) (by omega) (by omega))
      rw [if_pos e19]
      simp only [v1, c1, v2, c2, v3, c3, hx, x_ck, x_let]
      rw [f1, x_bd]
      simp only [f2]
      rw [f3, x_bd, if_pos rfl]
      exact go T1 f4
    rw [if_neg e19]
    by_cases e20 : w = 20
    · obtain ⟨r, S1, T1, f1, f2, f3, f4⟩ := l_step (c' := k + 1) (f_145 (xs (4 * k + 1)) (xs (4 * k + 2))) (f_243 (xs (4 * k + 1)) (xs (4 * k + 2))) hS (fun h => g_Ok_mono (jj_145 h _ _) (by omega) (by omega))
      rw [if_pos e20]
      simp only [v1, c1, v2, c2, hx, x_ck, x_let]
      rw [f1, x_bd]
      simp only [f2]
      rw [f3, x_bd, if_pos rfl]
      exact go T1 f4
    rw [if_neg e20]
    by_cases e21 : w = 21
    · obtain ⟨r, S1, T1, f1, f2, f3, f4⟩ := l_step (c' := k + 1) (f_146 (xs (4 * k + 1)) (xs (4 * k + 2))) (f_248 (xs (4 * k + 1)) (xs (4 * k + 2))) hS (fun h => g_Ok_mono (jj_146 h _ _) (by omega) (by omega))
      rw [if_pos e21]
      simp only [v1, c1, v2, c2, hx, x_ck, x_let]
      rw [f1, x_bd]
      simp only [f2]
      rw [f3, x_bd, if_pos rfl]
      exact go T1 f4
    rw [if_neg e21]
    by_cases e22 : w = 22
    · obtain ⟨r, S1, T1, f1, f2, f3, f4⟩ := l_step (c' := k + 1) (f_147 (xs (4 * k + 1)) (xs (4 * k + 2))) (f_249 (xs (4 * k + 1)) (xs (4 * k + 2))) hS (fun h => g_Ok_mono (jj_147 h _ _) (by omega) (by omega))
      rw [if_pos e22]
      simp only [v1, c1, v2, c2, hx, x_ck, x_let]
      rw [f1, x_bd]
      simp only [f2]
      rw [f3, x_bd, if_pos rfl]
      exact go T1 f4
    rw [if_neg e22]
    by_cases e23 : w = 23
    · obtain ⟨r, S1, T1, f1, f2, f3, f4⟩ := l_step (c' := k + 1) (f_148 (xs (4 * k + 1)) (xs (4 * k + 2))) (f_250 (xs (4 * k + 1)) (xs (4 * k + 2))) hS (fun h => g_Ok_mono (jj_148 h _ _) (by omega) (by omega))
      rw [if_pos e23]
      simp only [v1, c1, v2, c2, hx, x_ck, x_let]
      rw [f1, x_bd]
      simp only [f2]
      rw [f3, x_bd, if_pos rfl]
      exact go T1 f4
    rw [if_neg e23]
    by_cases e24 : w = 24
    · obtain ⟨r, S1, T1, f1, f2, f3, f4⟩ := l_step (c' := k + 1) (f_149 (xs (4 * k + 1)) (xs (4 * k + 2))) (f_251 (xs (4 * k + 1)) (xs (4 * k + 2))) hS (fun h => g_Ok_mono (jj_149 h _ _) (by omega) (by omega))
      rw [if_pos e24]
      simp only [v1, c1, v2, c2, hx, x_ck, x_let]
      rw [f1, x_bd]
      simp only [f2]
      rw [f3, x_bd, if_pos rfl]
      exact go T1 f4
    rw [if_neg e24]
    by_cases e25 : w = 25
    · obtain ⟨r, S1, T1, f1, f2, f3, f4⟩ := l_step (c' := k + 1) (f_150 (xs (4 * k + 1))) (f_257 (xs (4 * k + 1))) hS (fun h => jj_150 (by omega) h _)
      rw [if_pos e25]
      simp only [v1, c1, hx, x_ck, x_let]
      rw [f1, x_bd]
      simp only [f2]
      rw [f3, x_bd, if_pos rfl]
      exact go T1 f4
    rw [if_neg e25]
    by_cases e26 : w = 26
    · obtain ⟨r, S1, T1, f1, f2, f3, f4⟩ := l_step (c' := k + 1) (f_151 (xs (4 * k + 1)) (xs (4 * k + 2))) (f_258 (xs (4 * k + 1)) (xs (4 * k + 2))) hS (fun h => g_Ok_mono (jj_151 h _ _) (by omega) (by omega))
      rw [if_pos e26]
      simp only [v1, c1, v2, c2, hx, x_ck, x_let]
      rw [f1, x_bd]
      simp only [f2]
      rw [f3, x_bd, if_pos rfl]
      exact go T1 f4
    rw [if_neg e26]
    by_cases e27 : w = 27
    · obtain ⟨r, S1, T1, f1, f2, f3, f4⟩ := l_step (c' := k + 1) (f_152 (xs (4 * k + 1)) (xs (4 * k + 2))) (f_259 (xs (4 * k + 1)) (xs (4 * k + 2))) hS (fun h => g_Ok_mono (jj_152 h _ _) (by omega) (by omega))
      rw [if_pos e27]
      simp only [v1, c1, v2, c2, hx, x_ck, x_let]
      rw [f1, x_bd]
      simp only [f2]
      rw [f3, x_bd, if_pos rfl]
      exact go T1 f4
    rw [if_neg e27]
    by_cases e28 : w = 28
    · obtain ⟨r, S1, T1, f1, f2, f3, f4⟩ := l_step (c' := k + 1) (f_153 (xs (4 * k + 1)) (xs (4 * k + 2))) (f_260 (xs (4 * k + 1)) (xs (4 * k + 2))) hS (fun h => g_Ok_mono (jj_153 h _ _) (by omega) (by omega))
      rw [if_pos e28]
      simp only [v1, c1, v2, c2, hx, x_ck, x_let]
      rw [f1, x_bd]
      simp only [f2]
      rw [f3, x_bd, if_pos rfl]
      exact go T1 f4
    rw [if_neg e28]
    by_cases e29 : w = 29
    · obtain ⟨r, S1, T1, f1, f2, f3, f4⟩ := l_step (c' := k + 1) (f_154 (xs (4 * k + 1))) (f_261 (xs (4 * k + 1))) hS (fun h => g_Ok_mono (jj_154 h _) (by omega) (by omega))
      rw [if_pos e29]
      simp only [v1, c1, hx, x_ck, x_let]
      rw [f1, x_bd]
      simp only [f2]
      rw [f3, x_bd, if_pos rfl]
      exact go T1 f4
    rw [if_neg e29]
    by_cases e30 : w = 30
    · obtain ⟨r, S1, T1, f1, f2, f3, f4⟩ := l_step (c' := k + 1) (f_155 (xs (4 * k + 1)) (xs (4 * k + 2)) (xs (4 * k + 3))) (f_262 (xs (4 * k + 1)) (xs (4 * k + 2)) (xs (4 * k + 3))) hS (fun h => jj_155 (by omega) h _ _ _)
      rw [if_pos e30]
      simp only [v1, c1, v2, c2, v3, c3, hx, x_ck, x_let]
      rw [f1, x_bd]
      simp only [f2]
      rw [f3, x_bd, if_pos rfl]
      exact go T1 f4
    rw [if_neg e30]
    by_cases e31 : w = 31
    · obtain ⟨r, S1, T1, f1, f2, f3, f4⟩ := l_step (c' := k + 1) (f_156 (xs (4 * k + 1)) (xs (4 * k + 2))) (f_264 (xs (4 * k + 1)) (xs (4 * k + 2))) hS (fun h => g_Ok_mono (jj_156 h _ _) (by omega) (by omega))
      rw [if_pos e31]
      simp only [v1, c1, v2, c2, hx, x_ck, x_let]
      rw [f1, x_bd]
      simp only [f2]
      rw [f3, x_bd, if_pos rfl]
      exact go T1 f4
    rw [if_neg e31]
    by_cases e32 : w = 32
    · obtain ⟨r, S1, T1, f1, f2, f3, f4⟩ := l_step (c' := k + 1) (f_157 (xs (4 * k + 1)) (xs (4 * k + 2))) (f_265 (xs (4 * k + 1)) (xs (4 * k + 2))) hS (fun h => g_Ok_mono (jj_157 h _ _) (by omega) (by omega))
      rw [if_pos e32]
      simp only [v1, c1, v2, c2, hx, x_ck, x_let]
      rw [f1, x_bd]
      simp only [f2]
      rw [f3, x_bd, if_pos rfl]
      exact go T1 f4
    rw [if_neg e32]
    by_cases e33 : w = 33
    · obtain ⟨r, S1, T1, f1, f2, f3, f4⟩ := l_step (c' := k + 1) (f_158 (xs (4 * k + 1))) (f_266 (xs (4 * k + 1))) hS (fun h => g_Ok_mono (jj_158 h _) (by omega) (by omega))
      rw [if_pos e33]
      simp only [v1, c1, hx, x_ck, x_let]
      rw [f1, x_bd]
      simp only [f2]
      rw [f3, x_bd, if_pos rfl]
      exact go T1 f4
    rw [if_neg e33]
    by_cases e34 : w = 34
    · obtain ⟨r, S1, T1, f1, f2, f3, f4⟩ := l_step (c' := k + 1) (f_159 (xs (4 * k + 1)) (xs (4 * k + 2)) (xs (4 * k + 3))) (f_267 (xs (4 * k + 1)) (xs (4 * k + 2)) (xs (4 * k + 3))) hS (fun h => g_Ok_mono (jj_159 h _ _ _) (by omega) (by omega))
      rw [if_pos e34]
      simp only [v1, c1, v2, c2, v3, c3, hx, x_ck, x_let]
      rw [f1, x_bd]
      simp only [f2]
      rw [f3, x_bd, if_pos rfl]
      exact go T1 f4
    rw [if_neg e34]
    by_cases e35 : w = 35
    · obtain ⟨r, S1, T1, f1, f2, f3, f4⟩ := l_step (c' := k + 1) (f_160 (xs (4 * k + 1)) (xs (4 * k + 2))) (f_271 (xs (4 * k + 1)) (xs (4 * k + 2))) hS (fun h => g_Ok_mono (jj_160 h _ _) (by omega) (by omega))
      rw [if_pos e35]
      simp only [v1, c1, v2, c2, hx, x_ck, x_let]
      rw [f1, x_bd]
      simp only [f2]
      rw [f3, x_bd, if_pos rfl]
      exact go T1 f4
    rw [if_neg e35]
    by_cases e36 : w = 36
    · obtain ⟨r, S1, T1, f1, f2, f3, f4⟩ := l_step (c' := k + 1) (f_161 (xs (4 * k + 1))) (f_272 (xs (4 * k + 1))) hS (fun h => g_Ok_mono (jj_161 h _) (by omega) (by omega))
      rw [if_pos e36]
      simp only [v1, c1, hx, x_ck, x_let]
      rw [f1, x_bd]
      simp only [f2]
      rw [f3, x_bd, if_pos rfl]
      exact go T1 f4
    rw [if_neg e36]
    by_cases e37 : w = 37
    · obtain ⟨r, S1, T1, f1, f2, f3, f4⟩ := l_step (c' := k + 1) (f_133 (xs (4 * k + 1)) (xs (4 * k + 2))) (f_275 (xs (4 * k + 1)) (xs (4 * k + 2))) hS (fun h => g_Ok_mono (jj_133 h _ _) (by omega) (by omega))
      rw [if_pos e37]
      simp only [v1, c1, v2, c2, hx, x_ck, x_let]
      rw [f1, x_bd]
      simp only [f2]
      rw [f3, x_bd, if_pos rfl]
      exact go T1 f4
    rw [if_neg e37]
    by_cases e38 : w = 38
    · obtain ⟨r, S1, T1, f1, f2, f3, f4⟩ := l_step (c' := k + 1) (f_132 (xs (4 * k + 1))) (f_276 (xs (4 * k + 1))) hS (fun h => g_Ok_mono (jj_132 h _) (by omega) (by omega))
      rw [if_pos e38]
      simp only [v1, c1, hx, x_ck, x_let]
      rw [f1, x_bd]
      simp only [f2]
      rw [f3, x_bd, if_pos rfl]
      exact go T1 f4
    rw [if_neg e38]
    by_cases e39 : w = 39
    · obtain ⟨r, S1, T1, f1, f2, f3, f4⟩ := l_step (c' := k + 1) (f_131 (xs (4 * k + 1)) (xs (4 * k + 2))) (f_278 (xs (4 * k + 1)) (xs (4 * k + 2))) hS (fun h => g_Ok_mono (jj_131 h _ _) (by omega) (by omega))
      rw [if_pos e39]
      simp only [v1, c1, v2, c2, hx, x_ck, x_let]
      rw [f1, x_bd]
      simp only [f2]
      rw [f3, x_bd, if_pos rfl]
      exact go T1 f4
    rw [if_neg e39]
    by_cases e40 : w = 40
    · obtain ⟨r, S1, T1, f1, f2, f3, f4⟩ := l_step (c' := k + 1) (f_162 (xs (4 * k + 1))) (f_280 (xs (4 * k + 1))) hS (fun h => g_Ok_mono (jj_162 h _) (by omega) (by omega))
      rw [if_pos e40]
      simp only [v1, c1, hx, x_ck, x_let]
      rw [f1, x_bd]
      simp only [f2]
      rw [f3, x_bd, if_pos rfl]
      exact go T1 f4
    rw [if_neg e40]
    by_cases e41 : w = 41
    · obtain ⟨r, S1, T1, f1, f2, f3, f4⟩ := l_step (c' := k + 1) (f_163 (xs (4 * k + 1))) (f_281 (xs (4 * k + 1))) hS (fun h => g_Ok_mono (jj_163 h _) (by omega) (by omega))
      rw [if_pos e41]
      simp only [v1, c1, hx, x_ck, x_let]
      rw [f1, x_bd]
      simp only [f2]
      rw [f3, x_bd, if_pos rfl]
      exact go T1 f4
    rw [if_neg e41]
    by_cases e42 : w = 42
    · obtain ⟨r, S1, T1, f1, f2, f3, f4⟩ := l_step (c' := k + 1) (f_164 (xs (4 * k + 1)) (xs (4 * k + 2)) (xs (4 * k + 3))) (f_282 (xs (4 * k + 1)) (xs (4 * k + 2)) (xs (4 * k + 3))) hS (fun h => g_Ok_mono (jj_164 h _ _ _) (by omega) (by omega))
      rw [if_pos e42]
      simp only [v1, c1, v2, c2, v3, c3, hx, x_ck, x_let]
      rw [f1, x_bd]
      simp only [f2]
      rw [f3, x_bd, if_pos rfl]
      exact go T1 f4
    rw [if_neg e42]
    by_cases e43 : w = 43
    · obtain ⟨r, S1, T1, f1, f2, f3, f4⟩ := l_step (c' := k + 1) (f_165 (xs (4 * k + 1))) (f_283 (xs (4 * k + 1))) hS (fun h => g_Ok_mono (jj_165 h _) (by omega) (by omega))
      rw [if_pos e43]
      simp only [v1, c1, hx, x_ck, x_let]
      rw [f1, x_bd]
      simp only [f2]
      rw [f3, x_bd, if_pos rfl]
      exact go T1 f4
    rw [if_neg e43]
    by_cases e44 : w = 44
    · obtain ⟨r, S1, T1, f1, f2, f3, f4⟩ := l_step (c' := k + 1) (f_166) (f_284) hS (fun h => g_Ok_mono (jj_166 h) (by omega) (by omega))
      rw [if_pos e44, f1, x_bd, f3, x_bd, if_pos rfl]
      exact go T1 f4
    rw [if_neg e44]
    by_cases e45 : w = 45
    · obtain ⟨r, S1, T1, f1, f2, f3, f4⟩ := l_step (c' := k + 1) (f_167) (f_285) hS (fun h => g_Ok_mono (jj_167 h) (by omega) (by omega))
      rw [if_pos e45, f1, x_bd, f3, x_bd, if_pos rfl]
      exact go T1 f4
    rw [if_neg e45]
    by_cases e46 : w = 46
    · obtain ⟨r, S1, T1, f1, f2, f3, f4⟩ := l_step (c' := k + 1) (f_168) (f_286) hS (fun h => g_Ok_mono (jj_168 h) (by omega) (by omega))
      rw [if_pos e46, f1, x_bd, f3, x_bd, if_pos rfl]
      exact go T1 f4
    rw [if_neg e46]
    exact go S (lI_mono hS (by omega) (by omega))
