/-! ===== sample, put, slot, out, back, undo ===== -/
theorem g_addN {a b : Int32} {A B : Nat} (ha : g_N a A) (hb : g_N b B) (h : A + B < 2 ^ 31) : g_N (a + b) (A + B) ∧ (a + b).toInt = a.toInt + b.toInt := by
  obtain ⟨e1, b1⟩ := ha
  obtain ⟨e2, b2⟩ := hb
  generalize g_n a = p at e1 b1
  generalize g_n b = q at e2 b2
  subst e1
  subst e2
  rw [nI_add, nI_toInt (by omega), nI_toInt (by omega), nI_toInt (by omega)]
  exact ⟨g_N_nI (by omega) h, by omega⟩
theorem g_N_nn {x : Int32} {m : Nat} (h : g_N x m) (hm : m < 2 ^ 31) : 0 ≤ x := by
  rw [h.1]
  exact nI_pos' (by have := h.2; omega)
theorem g_N_ti {x : Int32} {m : Nat} (h : g_N x m) (hm : m < 2 ^ 31) : 0 ≤ x.toInt ∧ x.toInt ≤ m := by
  have h2 := h.2
  have e := h.1
  generalize g_n x = a at e h2
  subst e
  rw [nI_toInt (by omega)]
  omega
theorem jj_155 {c y : Nat} {Y V : GA} {X Z S T : QS} (hc : c < 512) (h : g_R c y Y V X Z S T) (x m b : Int32) : g_Ok (c + 1) X Z (f_155 x m b S) (f_262 x m b T) := by
  obtain ⟨hC, hT, hW, hV, hU⟩ := id h
  have h1 := g_R_mono h (Nat.le_succ c) (by omega)
  unfold f_155 f_262 b_262_34 b_262_38 b_262_50 b_155_41 f_189
  rw [c_172 hC, t_198 hT]
  simp only [x_bd, w_eta]
  rcases g_hw_cases hW x with q | ⟨q, k, a1, a2, rfl⟩
  · rw [if_neg (g_12a q), if_pos (g_12a q), if_pos (g_12a q), if_neg (g_12b q)]
    exact g_refuse h1 _
  · rw [if_pos q, if_neg (show ¬ ¬ g_hw Y (nI k) = 0 from fun p => p q)]
    by_cases c1 : m < 0
    · rw [if_pos c1, if_pos c1, x_bd, if_pos rfl, if_pos (show ¬ (6 : Int32) = 0 from by decide), if_neg (show ¬ (6 : Int32) ≤ 0 from by decide)]
      exact g_refuse h1 _
    · rw [if_neg c1, if_neg c1]
      by_cases c2 : 10000 < m
      · rw [if_pos c2, if_pos c2, x_bd, if_pos rfl, if_pos (show ¬ (6 : Int32) = 0 from by decide), if_neg (show ¬ (6 : Int32) ≤ 0 from by decide)]
        exact g_refuse h1 _
      · rw [if_neg c2, if_neg c2, x_bd, if_neg (show ¬ (1 : Int32) = 0 from by decide)]
        by_cases c3 : b < 0
        · rw [if_pos c3, if_pos c3, x_bd, if_neg (show ¬ ¬ (0 : Int32) = 0 from by decide), if_pos (show ¬ (6 : Int32) = 0 from by decide), if_neg (show ¬ (6 : Int32) ≤ 0 from by decide)]
          exact g_refuse h1 _
        · rw [if_neg c3, if_neg c3]
          by_cases c4 : b ≤ 10000
          · rw [if_pos c4, if_neg ((g_nle _ _).1 c4), x_bd, if_pos (show ¬ (1 : Int32) = 0 from by decide), if_neg (show ¬ ¬ g_hw Y (nI k) = 0 from fun p => p q)]
            by_cases c5 : b = 0
            · rw [if_neg (show ¬ ¬ b = 0 from fun p => p c5), if_neg (show ¬ ¬ b = 0 from fun p => p c5), if_neg (show ¬ (4 : Int32) ≤ 0 from by decide)]
              exact g_refuse h1 _
            · rw [if_pos c5, if_pos c5, if_pos (g_12c q)]
              obtain ⟨S1, T1, e1, e2, hk⟩ := k_keep h
              obtain ⟨kC, kT, kW, _, _⟩ := id hk
              rw [e1, e2, x_bd, x_bd, c_now kC, c_91 kC a1 a2, x_bd, t_190_4 kT a2, x_bd]
              dsimp only
              rw [c_h4 kC a1 a2]
              obtain ⟨S2, e3, hC2⟩ := cs_h4 kC a2 (g_up Y 10 3 0 1 1 k 4 + 1)
              obtain ⟨T2, f3, hT2⟩ := t_191_4 kT a2 (g_up Y 10 3 0 1 1 k 4 + 1)
              rw [e3, x_let, f3, x_bd, c_h5 hC2 a1 a2, t_190_5 hT2 a2, x_bd]
              generalize hY2 : g_up (g_up Y 10 3 0 1) 1 k 4 (g_up Y 10 3 0 1 1 k 4 + 1) = Y2 at hC2 hT2
              have w2 : g_W c Y2 := by rw [← hY2]; exact g_W_hf kW a1 (by omega)
              have a1' : k < g_n (Y2 0 0 0) := by rw [← hY2]; exact a1
              obtain ⟨S3, e4, hC3⟩ := cs_h5 hC2 a2 (Y2 1 k 5 + m)
              obtain ⟨T3, f4, hT3⟩ := t_191_5 hT2 a2 (Y2 1 k 5 + m)
              rw [e4, x_let, f4, x_bd, c_h6 hC3 a1' a2, t_190_6 hT3 a2, x_bd]
              have gm : g_N m 10000 := g_N_of (M := 10000) (by decide) c1 ((g_nle _ _).2 c2) (by omega)
              have gb : g_N b 10000 := g_N_of (M := 10000) (by decide) c3 c4 (by omega)
              obtain ⟨b0, b5, b6⟩ := g_bees w2 a1'
              obtain ⟨s5, i5⟩ := g_addN b5 gm (by omega)
              have w3 : g_W (c + 1) (g_up Y2 1 k 5 (Y2 1 k 5 + m)) := g_W_h w2 a1' (by omega) (Nat.le_succ c) (by omega) (fun _ => g_N_nn s5 (by omega)) (fun q => by omega) (fun _ => by
                have n2 := w2.2.2.2.2.2.2.2.2.2.2.2.2.2.1
                have := g_N_ti gm (by omega)
                rw [i5]
                omega) (fun q => by omega)
              generalize hY3 : g_up Y2 1 k 5 (Y2 1 k 5 + m) = Y3 at hC3 hT3 w3
              have a1'' : k < g_n (Y3 0 0 0) := by rw [← hY3]; exact a1'
              have e36 : Y3 1 k 6 = Y2 1 k 6 := by rw [← hY3]; rfl
              have su6 : g_su (fun h => Y3 1 h 6) (g_n (Y3 0 0 0)) = g_su (fun h => Y2 1 h 6) (g_n (Y2 0 0 0)) := by rw [← hY3]; rfl
              have h10 : Y3 10 3 0 = 1 := by rw [← hY3, ← hY2]; rfl
              obtain ⟨S4, e5, hC4⟩ := cs_h6 hC3 a2 (Y3 1 k 6 + b)
              obtain ⟨T4, f5, hT4⟩ := t_191_6 hT3 a2 (Y3 1 k 6 + b)
              rw [e5, x_let, f5, x_bd, c_h4 hC4 a1'' a2, t_190_4 hT4 a2, x_bd]
              obtain ⟨s6, i6⟩ := g_addN b6 gb (by omega)
              have w4 : g_W (c + 1) (g_up Y3 1 k 6 (Y3 1 k 6 + b)) := g_W_h w3 a1'' (by omega) (Nat.le_refl _) (by omega) (fun _ => by rw [e36]; exact g_N_nn s6 (by omega)) (fun q => by omega) (fun q => by omega) (fun _ => by
                have n3 := w2.2.2.2.2.2.2.2.2.2.2.2.2.2.2
                have := g_N_ti gb (by omega)
                rw [e36, i6, su6]
                omega)
              exact g_fin hC4 hT4 w4 hW (Nat.le_succ c) h10 _
          · rw [if_neg c4, if_pos (Decidable.not_not.1 (fun q => c4 ((g_nle _ _).2 q))), x_bd, if_neg (show ¬ ¬ (0 : Int32) = 0 from by decide), if_pos (show ¬ (6 : Int32) = 0 from by decide), if_neg (show ¬ (6 : Int32) ≤ 0 from by decide)]
            exact g_refuse h1 _
theorem p_130 {c y : Nat} {Y V : GA} {X Z S T : QS} (hc : c < 512) (h : g_R c y Y V X Z S T) {k i n f : Nat} (a1 : k < g_n (Y 0 0 0)) (a2 : k < 40) (a3 : i < 12 * g_n (Y 1 k 10)) (a4 : i < 96) (a5 : n < g_n (Y 0 1 0)) (a6 : n < 200) (a7 : Y 2 k i = nI n) (a8 : f < g_n (Y 3 n 0)) (a9 : f < 64) (v : Int32) (hv : g_ok v) : g_Ok (c + 1) X Z (b_130_52 (nI (96 * k + i)) (nI f) v S) (b_219_42 (nI (96 * k + i)) (nI f) v 0 T) := by
  obtain ⟨hC, hT, hW, hV, hU⟩ := id h
  unfold b_130_52 b_219_42 b_219_96
  rw [if_pos (show (0 : Int32) ≤ 0 from by decide)]
  obtain ⟨S1, T1, e1, e2, hk⟩ := k_keep h
  obtain ⟨kC, kT, kW, _, _⟩ := id hk
  have a7' : g_up Y 10 3 0 1 2 k i = nI n := a7
  rw [e1, e2, x_bd, x_bd, c_now kC, c_100 kC a1 a2 a3 a4 a5 a6 a7, x_bd, t_194 kT a2 a4, x_bd, a7', t_196 kT a6 a9, x_bd, w_in a9 (by omega), nI_clamp (by omega), x_ck]
  dsimp only
  rw [c_f kC a5 a6 a8 a9, x_let, e_180, x_bd, c_now kC, c_n6 kC, e_203, w_i6, w_c6, t_n6 kT]
  simp only [x_ck, x_let, x_bd, w_eta]
  have hb : ∀ (K : Int32 → Option (Int32 × QS)), (if (if g_up Y 10 3 0 1 4 n f ≤ 0 then (0 : Int32) else if 100 < g_up Y 10 3 0 1 4 n f then 0 else 1) = 0 then K 0 else K (g_up Y 10 3 0 1 4 n f)) = K (g_hon (g_up Y 10 3 0 1 4 n f)) := by
    intro K
    rw [← e_203h]
    exact (apply_ite K _ _ _).symm
  have hb2 := hb (fun w => q_bd (f_197 (nI n) (nI f) v (q_set T1 (40, 0, 0) 6 (g_up Y 10 3 0 1 0 6 0 + w))) fun r_13 S_14 => f_187 (g_up Y 10 3 0 1 4 n f) S_14)
  rw [hb2]
  obtain ⟨S2, e3, hC2⟩ := cs_n6 kC (g_up Y 10 3 0 1 0 6 0 + g_hon (g_up Y 10 3 0 1 4 n f))
  obtain ⟨T2, f3, hT2⟩ := ts_n6 kT (g_up Y 10 3 0 1 0 6 0 + g_hon (g_up Y 10 3 0 1 4 n f))
  rw [e3, f3]
  have w2 : g_W c (g_up (g_up Y 10 3 0 1) 0 6 0 (g_up Y 10 3 0 1 0 6 0 + g_hon (g_up Y 10 3 0 1 4 n f))) := g_W_0 kW (by omega) (by omega)
  obtain ⟨S3, e4, hC3⟩ := cs_f hC2 a6 a9 v
  obtain ⟨T3, f4, hT3⟩ := t_197 hT2 a6 a9 v
  rw [e4, f4, x_bd]
  have n1 := w2.2.2.2.2.2.2.2.2.2.2.2.2.1
  have n4 := w2.2.2.2.2.2.2.2.2.2.2.2.2.2.2.2.1
  have i1 : g_iy v ≤ 1 := by unfold g_iy; split <;> omega
  have i2 : ∀ u, 0 ≤ g_iy u := fun u => by unfold g_iy; split <;> omega
  refine g_fin hC3 hT3 (g_W_f w2 a5 a8 (Nat.le_succ c) (by omega) hv ?_ ?_) hW (Nat.le_succ c) rfl _
  · have := i2 (g_up (g_up Y 10 3 0 1) 0 6 0 (g_up Y 10 3 0 1 0 6 0 + g_hon (g_up Y 10 3 0 1 4 n f)) 4 n f)
    omega
  · have := i2 (g_up (g_up Y 10 3 0 1) 0 6 0 (g_up Y 10 3 0 1 0 6 0 + g_hon (g_up Y 10 3 0 1 4 n f)) 4 n f)
    omega
theorem jj_130 {c y : Nat} {Y V : GA} {X Z S T : QS} (hc : c < 512) (h : g_R c y Y V X Z S T) (x z v : Int32) : g_Ok (c + 1) X Z (f_130 x z v S) (f_219 x z v T) := by
  obtain ⟨hC, hT, hW, hV, hU⟩ := id h
  have h1 := g_R_mono h (Nat.le_succ c) (by omega)
  unfold f_130 f_219
  rw [c_177 hC hW, t_217 hT hW]
  simp only [x_bd, w_eta]
  rcases g_dw_cases hW x z with q | ⟨q, k, i, n, f, a1, a2, a3, a4, a5, a6, a7, rfl, a8, a9, rfl⟩
  · rw [if_neg (g_12a q), if_pos (g_12a q)]
    unfold b_219_42
    rw [if_neg (g_12b q), w_eta]
    exact g_refuse h1 _
  · rw [if_pos q, if_neg (show ¬ ¬ g_dw Y (nI (96 * k + i)) (nI f) = 0 from fun p => p q), q]
    have go := p_130 hc h a1 a2 a3 a4 a5 a6 a7 a8 a9 v
    by_cases v0 : v = 0
    · rw [if_pos v0, if_pos v0]
      exact go (by rw [v0]; exact Or.inl ⟨by decide, by decide⟩)
    · rw [if_neg v0, if_neg v0]
      by_cases v2 : v = 200
      · rw [if_pos v2, if_pos v2]
        exact go (by rw [v2]; exact Or.inr (Or.inl rfl))
      · rw [if_neg v2, if_neg v2]
        by_cases v3 : v = 300
        · rw [if_pos v3, if_pos v3]
          exact go (by rw [v3]; exact Or.inr (Or.inr (Or.inl ⟨by decide, by decide⟩)))
        · rw [if_neg v3, if_neg v3]
          by_cases v4 : v = 400
          · rw [if_pos v4, if_pos v4]
            exact go (by rw [v4]; exact Or.inr (Or.inr (Or.inr ⟨by decide, by decide⟩)))
          · rw [if_neg v4, if_neg v4]
            unfold b_219_42
            rw [if_neg (show ¬ (6 : Int32) ≤ 0 from by decide), w_eta]
            exact g_refuse h1 _
/-- who holds a thing -/
theorem l_110 {c y : Nat} {Y V : GA} {X S : QS} (hC : g_C y Y V X S) (hW : g_W c Y) (x : Int32) : ∀ (m i p : Nat), i + m = g_n (Y 0 0 0) → m < p → (b_110_2 p y x (nI i) S = some (-1, S) ∧ ∀ k, i ≤ k → k < g_n (Y 0 0 0) → Y 1 k 3 ≠ x) ∨ ∃ k, i ≤ k ∧ k < g_n (Y 0 0 0) ∧ Y 1 k 3 = x ∧ b_110_2 p y x (nI i) S = some (nI k, S)
  | m, i, 0, _, h => by omega
  | m, i, p + 1, hm, hp => by
    have n0 := hW.2.1.1
    have n02 := n0.2
    rw [b_110_2, c_n0 hC]
    cases m with
    | zero =>
      rw [if_pos ((g_N_le n0 (by omega) (by omega)).2 (by omega))]
      exact Or.inl ⟨rfl, fun k h1 h2 => by omega⟩
    | succ m =>
      rw [if_neg (fun q => by rw [g_N_le n0 (by omega) (by omega)] at q; omega), c_91 hC (by omega) (by omega), x_bd]
      dsimp only
      rw [c_h3 hC (by omega) (by omega), nI_1]
      by_cases e : Y 1 i 3 = x
      · rw [if_neg (fun q => q e)]
        exact Or.inr ⟨i, by omega, by omega, e, rfl⟩
      · rw [if_pos e]
        rcases l_110 hC hW x m (i + 1) p (by omega) (by omega) with ⟨e1, e2⟩ | ⟨k, k1, k2, k3, k4⟩
        · refine Or.inl ⟨e1, fun k h1 h2 => ?_⟩
          by_cases q : k = i
          · rw [q]; exact e
          · exact e2 k (by omega) h2
        · exact Or.inr ⟨k, by omega, k2, k3, k4⟩
theorem l_111 {c y : Nat} {Y V : GA} {X S : QS} (hC : g_C y Y V X S) (hW : g_W c Y) (x : Int32) : ∀ (m i p : Nat), i + m = g_n (Y 0 2 0) → m < p → (b_111_2 p y x (nI i) S = some (-1, S) ∧ ∀ k, i ≤ k → k < g_n (Y 0 2 0) → Y 6 k 7 ≠ x) ∨ ∃ k, i ≤ k ∧ k < g_n (Y 0 2 0) ∧ Y 6 k 7 = x ∧ b_111_2 p y x (nI i) S = some (nI k, S)
  | m, i, 0, _, h => by omega
  | m, i, p + 1, hm, hp => by
    have n0 := hW.2.1.2.2.1
    have n02 := n0.2
    rw [b_111_2, c_n2 hC]
    cases m with
    | zero =>
      rw [if_pos ((g_N_le n0 (by omega) (by omega)).2 (by omega))]
      exact Or.inl ⟨rfl, fun k h1 h2 => by omega⟩
    | succ m =>
      rw [if_neg (fun q => by rw [g_N_le n0 (by omega) (by omega)] at q; omega), c_93 hC (by omega) (by omega), x_bd]
      dsimp only
      rw [c_t7 hC (by omega) (by omega), nI_1]
      by_cases e : Y 6 i 7 = x
      · rw [if_neg (fun q => q e)]
        exact Or.inr ⟨i, by omega, by omega, e, rfl⟩
      · rw [if_pos e]
        rcases l_111 hC hW x m (i + 1) p (by omega) (by omega) with ⟨e1, e2⟩ | ⟨k, k1, k2, k3, k4⟩
        · refine Or.inl ⟨e1, fun k h1 h2 => ?_⟩
          by_cases q : k = i
          · rw [q]; exact e
          · exact e2 k (by omega) h2
        · exact Or.inr ⟨k, by omega, k2, k3, k4⟩
theorem l_244 {c : Nat} {Y V : GA} {Z T : QS} (hT : g_T Y V Z T) (hW : g_W c Y) (x : Int32) : ∀ (m i p : Nat) (a : Int32), i + m = g_n (Y 0 0 0) → m < p → (b_244_4 p x a (nI i) T = some (a, T) ∧ ∀ k, i ≤ k → k < g_n (Y 0 0 0) → Y 1 k 3 ≠ x) ∨ ∃ k, i ≤ k ∧ k < g_n (Y 0 0 0) ∧ Y 1 k 3 = x ∧ b_244_4 p x a (nI i) T = some (nI k, T)
  | m, i, 0, _, _, h => by omega
  | m, i, p + 1, a, hm, hp => by
    have n0 := hW.2.1.1
    have n02 := n0.2
    rw [b_244_4, w_i0, w_c0, t_n0 hT, x_ck, x_let]
    cases m with
    | zero =>
      rw [if_pos ((g_N_le n0 (by omega) (by omega)).2 (by omega))]
      exact Or.inl ⟨rfl, fun k h1 h2 => by omega⟩
    | succ m =>
      rw [if_neg (fun q => by rw [g_N_le n0 (by omega) (by omega)] at q; omega), t_190_3 hT (by omega), x_bd]
      unfold b_244_29
      rw [nI_1]
      by_cases e : Y 1 i 3 = x
      · rw [if_neg (fun q => q e)]
        rcases l_244 hT hW x m (i + 1) p (nI i) (by omega) (by omega) with ⟨e1, e2⟩ | ⟨k, k1, k2, k3, k4⟩
        · exact Or.inr ⟨i, by omega, by omega, e, e1⟩
        · exact Or.inr ⟨k, by omega, k2, k3, k4⟩
      · rw [if_pos e]
        rcases l_244 hT hW x m (i + 1) p a (by omega) (by omega) with ⟨e1, e2⟩ | ⟨k, k1, k2, k3, k4⟩
        · refine Or.inl ⟨e1, fun k h1 h2 => ?_⟩
          by_cases q : k = i
          · rw [q]; exact e
          · exact e2 k (by omega) h2
        · exact Or.inr ⟨k, by omega, k2, k3, k4⟩
theorem l_245 {c : Nat} {Y V : GA} {Z T : QS} (hT : g_T Y V Z T) (hW : g_W c Y) (x : Int32) : ∀ (m i p : Nat) (a : Int32), i + m = g_n (Y 0 2 0) → m < p → (b_245_4 p x a (nI i) T = some (a, T) ∧ ∀ k, i ≤ k → k < g_n (Y 0 2 0) → Y 6 k 7 ≠ x) ∨ ∃ k, i ≤ k ∧ k < g_n (Y 0 2 0) ∧ Y 6 k 7 = x ∧ b_245_4 p x a (nI i) T = some (nI k, T)
  | m, i, 0, _, _, h => by omega
  | m, i, p + 1, a, hm, hp => by
    have n0 := hW.2.1.2.2.1
    have n02 := n0.2
    rw [b_245_4, w_i2, w_c2, t_n2 hT, x_ck, x_let]
    cases m with
    | zero =>
      rw [if_pos ((g_N_le n0 (by omega) (by omega)).2 (by omega))]
      exact Or.inl ⟨rfl, fun k h1 h2 => by omega⟩
    | succ m =>
      rw [if_neg (fun q => by rw [g_N_le n0 (by omega) (by omega)] at q; omega), t_192_7 hT (by omega), x_bd]
      unfold b_245_30
      rw [nI_1]
      by_cases e : Y 6 i 7 = x
      · rw [if_neg (fun q => q e)]
        rcases l_245 hT hW x m (i + 1) p (nI i) (by omega) (by omega) with ⟨e1, e2⟩ | ⟨k, k1, k2, k3, k4⟩
        · exact Or.inr ⟨i, by omega, by omega, e, e1⟩
        · exact Or.inr ⟨k, by omega, k2, k3, k4⟩
      · rw [if_pos e]
        rcases l_245 hT hW x m (i + 1) p a (by omega) (by omega) with ⟨e1, e2⟩ | ⟨k, k1, k2, k3, k4⟩
        · refine Or.inl ⟨e1, fun k h1 h2 => ?_⟩
          by_cases q : k = i
          · rw [q]; exact e
          · exact e2 k (by omega) h2
        · exact Or.inr ⟨k, by omega, k2, k3, k4⟩
/-- the hive with t in its slot, the swarm around t: the same on both sides -/
theorem e_110 {c y : Nat} {Y V : GA} {X Z S T : QS} (h : g_R c y Y V X Z S T) {t : Nat} (ht : t < 200) : ∃ r, f_110 y (nI t) S = some (r, S) ∧ f_244 (nI t) T = some (r, T) ∧ ((r = -1 ∧ ∀ k, k < g_n (Y 0 0 0) → Y 1 k 3 ≠ nI t) ∨ ∃ k, k < 40 ∧ r = nI k) := by
  have n02 := h.2.2.1.2.1.1.2
  have I := h.2.2.1.2.2.2.2.2.2.2.2.2.2.1
  rcases l_110 h.1 h.2.2.1 (nI t) (g_n (Y 0 0 0)) 0 q_N (by omega) (by unfold q_N; omega) with ⟨e1, e2⟩ | ⟨k, k1, k2, k3, k4⟩
  · rcases l_244 h.2.1 h.2.2.1 (nI t) (g_n (Y 0 0 0)) 0 q_N (-1) (by omega) (by unfold q_N; omega) with ⟨f1, f2⟩ | ⟨j, j1, j2, j3, j4⟩
    · exact ⟨-1, e1, f1, Or.inl ⟨rfl, fun k hk => e2 k (by omega) hk⟩⟩
    · exact absurd j3 (e2 j j1 j2)
  · rcases l_244 h.2.1 h.2.2.1 (nI t) (g_n (Y 0 0 0)) 0 q_N (-1) (by omega) (by unfold q_N; omega) with ⟨f1, f2⟩ | ⟨j, j1, j2, j3, j4⟩
    · exact absurd k3 (f2 k k1 k2)
    · have e := I.1 k j k2 j2 (by rw [k3, j3]) (by rw [k3]; exact g_nI_m1 (by omega))
      subst e
      exact ⟨nI k, k4, j4, Or.inr ⟨k, by omega, rfl⟩⟩
theorem e_111 {c y : Nat} {Y V : GA} {X Z S T : QS} (h : g_R c y Y V X Z S T) {t : Nat} (ht : t < 200) : ∃ r, f_111 y (nI t) S = some (r, S) ∧ f_245 (nI t) T = some (r, T) ∧ ((r = -1 ∧ ∀ k, k < g_n (Y 0 2 0) → Y 6 k 7 ≠ nI t) ∨ ∃ k, k < 200 ∧ r = nI k) := by
  have n02 := h.2.2.1.2.1.2.2.1.2
  have I := h.2.2.1.2.2.2.2.2.2.2.2.2.2.1
  rcases l_111 h.1 h.2.2.1 (nI t) (g_n (Y 0 2 0)) 0 q_N (by omega) (by unfold q_N; omega) with ⟨e1, e2⟩ | ⟨k, k1, k2, k3, k4⟩
  · rcases l_245 h.2.1 h.2.2.1 (nI t) (g_n (Y 0 2 0)) 0 q_N (-1) (by omega) (by unfold q_N; omega) with ⟨f1, f2⟩ | ⟨j, j1, j2, j3, j4⟩
    · exact ⟨-1, e1, f1, Or.inl ⟨rfl, fun k hk => e2 k (by omega) hk⟩⟩
    · exact absurd j3 (e2 j j1 j2)
  · rcases l_245 h.2.1 h.2.2.1 (nI t) (g_n (Y 0 2 0)) 0 q_N (-1) (by omega) (by unfold q_N; omega) with ⟨f1, f2⟩ | ⟨j, j1, j2, j3, j4⟩
    · exact absurd k3 (f2 k k1 k2)
    · have e := I.2.1 k j k2 j2 (by rw [k3, j3]) (by rw [k3]; exact g_nI_m1 (by omega))
      subst e
      exact ⟨nI k, k4, j4, Or.inr ⟨k, by omega, rfl⟩⟩
theorem p_147 {c y : Nat} {Y V : GA} {X Z S T : QS} (h : g_R c y Y V X Z S T) {k : Nat} (a1 : k < g_n (Y 0 0 0)) (a2 : k < 40) (v : Int32) (hv : v = -1 ∨ ((∃ t, t < g_n (Y 0 2 0) ∧ v = nI t) ∧ (∀ j, j < g_n (Y 0 0 0) → j ≠ k → Y 1 j 3 ≠ v) ∧ (∀ s, s < g_n (Y 0 2 0) → Y 6 s 7 ≠ v))) : g_Ok c X Z (b_147_44 (nI k) v 0 S) (b_249_49 (nI k) v 0 T) := by
  obtain ⟨hC, hT, hW, hV, hU⟩ := id h
  unfold b_147_44 b_249_49
  rw [if_pos rfl, if_pos (show (0 : Int32) ≤ 0 from by decide)]
  obtain ⟨S1, T1, e1, e2, hk⟩ := k_keep h
  obtain ⟨kC, kT, kW, _, _⟩ := id hk
  rw [e1, e2, x_bd, x_bd, c_now kC, c_91 kC a1 a2, x_bd, t_190_3 kT a2, x_bd]
  dsimp only
  obtain ⟨S2, e3, hC2⟩ := cs_h3 kC a2 v
  obtain ⟨T2, f3, hT2⟩ := t_191_3 kT a2 v
  rw [c_h3 kC a1 a2, x_let, e3, x_let, f3, x_bd, w_eta, w_eta]
  exact g_fin hC2 hT2 (g_W_sl kW a1 hv) hW (Nat.le_refl c) rfl _
theorem jj_147 {c y : Nat} {Y V : GA} {X Z S T : QS} (h : g_R c y Y V X Z S T) (x z : Int32) : g_Ok c X Z (f_147 x z S) (f_249 x z T) := by
  obtain ⟨hC, hT, hW, hV, hU⟩ := id h
  unfold f_147 f_249
  rw [c_172 hC, t_198 hT]
  simp only [x_bd]
  have refu : ∀ e, ¬ e = 0 → ¬ e ≤ 0 → ∀ u w, g_Ok c X Z (b_147_21 u w e S) (b_249_21 u w e T) := by
    intro e h1 h2 u w
    unfold b_147_21 b_249_21 b_147_44 b_249_49
    rw [if_pos h1, if_neg h1, if_pos h1, if_neg h2, w_eta, w_eta]
    exact g_refuse h _
  rcases g_hw_cases hW x with q | ⟨q, k, a1, a2, rfl⟩
  · rw [if_pos (g_12a q), if_pos (g_12a q)]
    exact refu _ (g_12a q) (g_12b q) _ _
  · rw [if_neg (show ¬ ¬ g_hw Y (nI k) = 0 from fun p => p q), if_neg (show ¬ ¬ g_hw Y (nI k) = 0 from fun p => p q)]
    by_cases hz : z = -1
    · rw [if_pos hz, if_pos hz, q]
      unfold b_147_21 b_249_21
      rw [if_neg (show ¬ ¬ (0 : Int32) = 0 from by decide), if_neg (show ¬ ¬ (0 : Int32) = 0 from by decide), if_pos hz, if_pos hz]
      exact p_147 h a1 a2 z (Or.inl hz)
    · rw [if_neg hz, if_neg hz, c_174 hC, t_199 hT, x_bd, x_bd]
      rcases g_tw_cases hW z with p | ⟨p, t, b1, b2, rfl⟩
      · exact refu _ (g_12a p) (g_12b p) _ _
      · rw [p]
        unfold b_147_21 b_249_21 b_249_46
        obtain ⟨r, e1, e2, e3⟩ := e_110 h b2
        obtain ⟨s, f1, f2, f3⟩ := e_111 h b2
        rw [if_neg (show ¬ ¬ (0 : Int32) = 0 from by decide), if_neg (show ¬ ¬ (0 : Int32) = 0 from by decide), if_neg hz, if_neg hz, e2, x_bd]
        unfold f_112 b_112_18
        rw [c_now hC, e1, x_bd]
        have no : g_Ok c X Z (b_147_44 (nI k) (nI t) 6 S) (b_249_49 (nI k) (nI t) 6 T) := by
          unfold b_147_44 b_249_49
          rw [if_neg (show ¬ (6 : Int32) = 0 from by decide), if_neg (show ¬ (6 : Int32) ≤ 0 from by decide), w_eta, w_eta]
          exact g_refuse h _
        rcases e3 with ⟨rfl, e4⟩ | ⟨j, hj, rfl⟩
        · rw [if_neg (show ¬ ¬ (-1 : Int32) = -1 from by decide), if_neg (show ¬ (0 : Int32) ≤ -1 from by decide), f1, f2, x_bd, x_bd]
          rcases f3 with ⟨rfl, f4⟩ | ⟨j, hj, rfl⟩
          · rw [if_pos rfl, x_bd, if_pos rfl, if_pos (show (-1 : Int32) < 0 from by decide)]
            exact p_147 h a1 a2 _ (Or.inr ⟨⟨t, b1, rfl⟩, fun j hj _ => e4 j hj, f4⟩)
          · rw [if_neg (g_nI_m1 (by omega)), x_bd, if_neg (show ¬ (1 : Int32) = 0 from by decide), if_neg (nI_pos (by omega))]
            exact no
        · rw [if_pos (g_nI_m1 (by omega)), x_bd, if_neg (show ¬ (1 : Int32) = 0 from by decide), if_pos (nI_pos' (by omega))]
          exact no
