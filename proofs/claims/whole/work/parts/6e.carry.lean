/-! ===== boxes that are carried: the reference; stack ===== -/
theorem l_230 {V : GA} {Z : QS} {h g b b' : Nat} (hg : g ≠ h) (h4 : h < 40) (g4 : g < 40) (hb : b < 8) (hb' : b' < 8) : ∀ (m x p : Nat) (Y : GA) (T : QS), x + m = 12 → m < p → g_T Y V Z T → ∃ Y' T', b_230_2 p (nI (8 * h + b)) (nI (8 * g + b')) (nI x) T = some ((), T') ∧ g_T Y' V Z T' ∧ (∀ r a c, Y' r a c = if r = 2 ∧ a = g ∧ 12 * b' + x ≤ c ∧ c < 12 * b' + 12 then Y 2 h (12 * b + (c - 12 * b')) else if r = 2 ∧ a = h ∧ 12 * b + x ≤ c ∧ c < 12 * b + 12 then -1 else Y r a c)
  | m, x, 0, _, _, _, h1, _ => by omega
  | m, x, p + 1, Y, T, hm, hp, hT => by
    rw [b_230_2]
    cases m with
    | zero =>
      have e : x = 12 := by omega
      subst e
      rw [if_pos (show (12 : Int32) ≤ nI 12 from by decide)]
      refine ⟨Y, T, rfl, hT, fun r a c => ?_⟩
      rw [if_neg (by omega), if_neg (by omega)]
    | succ m =>
      have A : ∀ u v, (10 : Int32) + 12 * nI (8 * u + v) + nI x = nI (10 + (96 * u + (12 * v + x))) := by
        intro u v
        rw [show (10 : Int32) = nI 10 from rfl, show (12 : Int32) = nI 12 from rfl, pk_mul, nI_add, nI_add]
        congr 1
        omega
      rw [if_neg (show ¬ (12 : Int32) ≤ nI x from nI_ge (b := 12) (by omega) (by omega)), A, A, w_in (show 10 + (96 * h + (12 * b + x)) < 19520 by omega) (by omega), w_in (show 10 + (96 * g + (12 * b' + x)) < 19520 by omega) (by omega), nI_clamp (show 10 + (96 * h + (12 * b + x)) < 2 ^ 31 by omega), nI_clamp (show 10 + (96 * g + (12 * b' + x)) < 2 ^ 31 by omega), t_p hT h4 (show 12 * b + x < 96 by omega)]
      simp only [x_ck, x_let]
      obtain ⟨T1, e1, hT1⟩ := ts_p hT g4 (show 12 * b' + x < 96 by omega) (Y 2 h (12 * b + x))
      obtain ⟨T2, e2, hT2⟩ := ts_p hT1 h4 (show 12 * b + x < 96 by omega) (-1)
      rw [e1, e2, nI_1]
      obtain ⟨Y', T', f1, f2, f3⟩ := l_230 hg h4 g4 hb hb' m (x + 1) p _ T2 (by omega) (by omega) hT2
      refine ⟨Y', T', f1, f2, fun r a c => ?_⟩
      rw [f3]
      by_cases q1 : r = 2 ∧ a = g ∧ 12 * b' + (x + 1) ≤ c ∧ c < 12 * b' + 12
      · rw [if_pos q1, if_pos (by omega), g_up_ne (fun q => by omega), g_up_ne (fun q => hg q.2.1.symm)]
      · rw [if_neg q1]
        by_cases q2 : r = 2 ∧ a = h ∧ 12 * b + (x + 1) ≤ c ∧ c < 12 * b + 12
        · rw [if_pos q2, if_neg (fun q => hg (q.2.1.symm.trans q2.2.1)), if_pos (by omega)]
        · rw [if_neg q2]
          by_cases q3 : r = 2 ∧ a = h ∧ c = 12 * b + x
          · obtain ⟨rfl, rfl, rfl⟩ := q3
            rw [g_up_same, if_neg (fun q => hg q.2.1.symm), if_pos (by omega)]
          · rw [g_up_ne q3]
            by_cases q4 : r = 2 ∧ a = g ∧ c = 12 * b' + x
            · obtain ⟨rfl, rfl, rfl⟩ := q4
              rw [g_up_same, if_pos (by omega), show 12 * b' + x - 12 * b' = x by omega]
            · rw [g_up_ne q4, if_neg (by omega), if_neg (by omega)]
theorem l_231 {V : GA} {Z : QS} {h g k B G : Nat} (hg : g ≠ h) (h4 : h < 40) (g4 : g < 40) (hB : B ≤ 8) (hk : k ≤ B) (hG : G + B - k ≤ 8) (Y0 : GA) : ∀ (m b p : Nat) (Y : GA) (T : QS), b + m = B → k ≤ b → m < p → g_T Y V Z T → (∀ r a c, Y r a c = if r = 2 ∧ a = g ∧ 12 * G ≤ c ∧ c < 12 * G + 12 * (b - k) then Y0 2 h (12 * k + (c - 12 * G)) else if r = 2 ∧ a = h ∧ 12 * k ≤ c ∧ c < 12 * b then -1 else Y0 r a c) → ∃ Y' T', b_231_21 p (nI h) (nI k) (nI g) (nI B) (nI G) (nI b) T = some ((), T') ∧ g_T Y' V Z T' ∧ (∀ r a c, Y' r a c = if r = 2 ∧ a = g ∧ 12 * G ≤ c ∧ c < 12 * G + 12 * (B - k) then Y0 2 h (12 * k + (c - 12 * G)) else if r = 2 ∧ a = h ∧ 12 * k ≤ c ∧ c < 12 * B then -1 else if r = 1 ∧ a = h ∧ c = 10 then nI k else if r = 1 ∧ a = g ∧ c = 10 then nI (G + B - k) else Y0 r a c)
  | m, b, 0, _, _, _, _, h1, _, _ => by omega
  | m, b, p + 1, Y, T, hm, hkb, hp, hT, hY => by
    rw [b_231_21]
    cases m with
    | zero =>
      have e : b = B := by omega
      subst e
      rw [if_pos (nI_le (Nat.le_refl b) (by omega))]
      obtain ⟨T1, e1, hT1⟩ := t_191_10 hT h4 (nI k)
      obtain ⟨T2, e2, hT2⟩ := t_191_10 hT1 g4 (nI (G + b - k))
      rw [e1, x_bd, nI_add, pk_sub (show k ≤ G + b by omega), e2, x_bd]
      refine ⟨_, T2, rfl, hT2, fun r a c => ?_⟩
      by_cases q1 : r = 1 ∧ a = g ∧ c = 10
      · obtain ⟨rfl, rfl, rfl⟩ := q1
        rw [g_up_same, if_neg (by omega), if_neg (by omega), if_neg (by omega), if_pos ⟨rfl, rfl, rfl⟩]
      · rw [g_up_ne q1]
        by_cases q2 : r = 1 ∧ a = h ∧ c = 10
        · obtain ⟨rfl, rfl, rfl⟩ := q2
          rw [g_up_same, if_neg (by omega), if_neg (by omega), if_pos ⟨rfl, rfl, rfl⟩]
        · rw [g_up_ne q2, hY, if_neg q2, if_neg q1]
    | succ m =>
      have A1 : (8 : Int32) * nI h + nI b = nI (8 * h + b) := by
        rw [show (8 : Int32) = nI 8 from rfl, pk_mul, nI_add]
      have A2 : (8 : Int32) * nI g + nI G + nI b - nI k = nI (8 * g + (G + (b - k))) := by
        rw [show (8 : Int32) = nI 8 from rfl, pk_mul, nI_add, nI_add, pk_sub (by omega)]
        congr 1
        omega
      rw [if_neg (nI_ge (by omega) (by omega)), A1, A2]
      obtain ⟨Y1, T1, e1, hT1, f1⟩ := l_230 (V := V) (Z := Z) hg h4 g4 (show b < 8 by omega) (show G + (b - k) < 8 by omega) 12 0 q_N Y T (by omega) (by unfold q_N; omega) hT
      rw [show f_230 (nI (8 * h + b)) (nI (8 * g + (G + (b - k)))) T = _ from e1, x_bd, nI_1]
      refine l_231 hg h4 g4 hB hk hG Y0 m (b + 1) p Y1 T1 (by omega) (by omega) (by omega) hT1 (fun r a c => ?_)
      rw [f1]
      by_cases q1 : r = 2 ∧ a = g ∧ 12 * (G + (b - k)) + 0 ≤ c ∧ c < 12 * (G + (b - k)) + 12
      · rw [if_pos q1, if_pos (by omega), hY, if_neg (fun q => hg q.2.1.symm), if_neg (by omega)]
        congr 1
        omega
      · rw [if_neg q1]
        by_cases q2 : r = 2 ∧ a = h ∧ 12 * b + 0 ≤ c ∧ c < 12 * b + 12
        · rw [if_pos q2, if_neg (fun q => hg (q.2.1.symm.trans q2.2.1)), if_pos (by omega)]
        · rw [if_neg q2, hY]
          by_cases q3 : r = 2 ∧ a = g ∧ 12 * G ≤ c ∧ c < 12 * G + 12 * (b - k)
          · rw [if_pos q3, if_pos (by omega)]
          · rw [if_neg q3, if_neg (show ¬ (r = 2 ∧ a = g ∧ 12 * G ≤ c ∧ c < 12 * G + 12 * (b + 1 - k)) by omega)]
            by_cases q4 : r = 2 ∧ a = h ∧ 12 * k ≤ c ∧ c < 12 * b
            · rw [if_pos q4, if_pos (by omega)]
            · rw [if_neg q4, if_neg (by omega)]
theorem t_231 {c : Nat} {Y V : GA} {Z T : QS} (hT : g_T Y V Z T) (hW : g_W c Y) {h k g : Nat} (hg : g ≠ h) (hh : h < g_n (Y 0 0 0)) (hgg : g < g_n (Y 0 0 0)) (hk : k ≤ g_n (Y 1 h 10)) (h8 : g_n (Y 1 g 10) + g_n (Y 1 h 10) - k ≤ 8) : ∃ T', f_231 (nI h) (nI k) (nI g) T = some ((), T') ∧ g_T (g_cb Y h k g) V Z T' := by
  have n0 := hW.2.1.1.2
  have wh := hW.2.2.1 h hh
  have wg := hW.2.2.1 g hgg
  have bh := wh.2
  unfold f_231
  rw [t_190_10 hT (by omega), x_bd, t_190_10 hT (by omega), x_bd, wh.1, wg.1]
  obtain ⟨Y', T', e1, h1, f1⟩ := l_231 (V := V) (Z := Z) (h := h) (g := g) (k := k) (B := g_n (Y 1 h 10)) (G := g_n (Y 1 g 10)) hg (by omega) (by omega) bh hk h8 Y (g_n (Y 1 h 10) - k) k q_N Y T (by omega) (Nat.le_refl k) (by unfold q_N; omega) hT (fun r a c => by rw [if_neg (by omega), if_neg (by omega)])
  refine ⟨T', e1, g_T_ext h1 (fun r a c _ _ => ?_)⟩
  rw [f1]
  rfl
theorem jj_140 {c y : Nat} {Y V : GA} {X Z S T : QS} (h : g_R c y Y V X Z S T) (x z : Int32) : g_Ok c X Z (f_140 x z S) (f_232 x z T) := by
  obtain ⟨hC, hT, hW, hV, hU⟩ := id h
  unfold f_140 f_232 b_140_66
  rw [c_173 hC, t_198 hT]
  simp only [x_bd, w_eta]
  rw [t_198 hT, x_bd, t_202 hT hW, x_bd]
  have no : ∀ e, ¬ e ≤ 0 → b_232_54 x z e T = f_186 e T := by
    intro e h2
    unfold b_232_54
    rw [if_neg h2, w_eta]
  rcases g_hw2_cases hW x z with q | ⟨q, k, g, a1, a2, rfl, b1, b2, rfl⟩
  · rw [if_neg (g_12a q), if_pos (g_12a q)]
    unfold b_232_30
    rw [if_pos (g_12a q), no _ (g_12b q)]
    exact g_refuse h _
  · have wh := hW.2.2.1 k a1
    have wg := hW.2.2.1 g b1
    have bh := wh.2
    have bg := wg.2
    rw [if_pos q, if_neg (show ¬ ¬ g_hw2 Y (nI k) (nI g) = 0 from fun p => p q), c_now hC, c_91 hC a1 a2, x_bd, c_now hC, c_91 hC b1 b2, x_bd, t_190_10 hT a2, x_bd]
    dsimp only
    rw [c_h10 hC a1 a2, c_h10 hC b1 b2]
    unfold b_232_30 b_232_51
    by_cases h0 : g_n (Y 1 k 10) = 0
    · have e0 : Y 1 k 10 = 0 := (g_N_eq (k := 0) wh (by omega) (by omega)).2 h0
      rw [if_neg (show ¬ ¬ Y 1 k 10 = 0 from fun p => p e0), if_neg (show ¬ ¬ Y 1 k 10 = 0 from fun p => p e0), if_pos (show ¬ (2 : Int32) = 0 from by decide), no 2 (by decide)]
      exact g_refuse h _
    · have e0 : ¬ Y 1 k 10 = 0 := fun p => h0 ((g_N_eq (k := 0) wh (by omega) (by omega)).1 p)
      rw [if_pos e0, if_pos e0, if_neg (show ¬ ¬ g_hw2 Y (nI k) (nI g) = 0 from fun p => p q)]
      by_cases he : k = g
      · subst he
        rw [if_pos rfl, if_pos rfl, no 6 (by decide)]
        exact g_refuse h _
      · have hne : ¬ nI k = nI g := fun p => he ((nI_eq (by omega) (by omega)).1 p)
        have hne' : ¬ nI g = nI k := fun p => hne p.symm
        rw [if_neg hne, if_neg hne', t_190_10 hT b2, x_bd]
        by_cases h8 : g_n (Y 1 g 10) < 8
        · rw [if_pos (show Y 1 g 10 < 8 from (g_N_lt (k := 8) wg (by omega) (by omega)).2 h8), if_pos (show ¬ Y 1 g 10 = 8 from fun p => by rw [show (8 : Int32) = nI 8 from rfl, g_N_eq wg (by omega) (by omega)] at p; omega)]
          unfold b_232_54
          rw [if_pos (g_12c q)]
          obtain ⟨S1, T1, e1, e2, hk⟩ := k_keep h
          obtain ⟨kC, kT, kW, _, _⟩ := id hk
          have v1 : g_up Y 10 3 0 1 1 k 10 = nI (g_n (Y 1 k 10)) := wh.1
          have v2 : g_up Y 10 3 0 1 1 g 10 = nI (g_n (Y 1 g 10)) := wg.1
          obtain ⟨m, hm⟩ : ∃ m, g_n (Y 1 k 10) = m + 1 := ⟨g_n (Y 1 k 10) - 1, by omega⟩
          have hk1 : m ≤ g_n (g_up Y 10 3 0 1 1 k 10) := by show m ≤ g_n (Y 1 k 10); omega
          have hk2 : g_n (g_up Y 10 3 0 1 1 g 10) + g_n (g_up Y 10 3 0 1 1 k 10) - m ≤ 8 := by show g_n (Y 1 g 10) + g_n (Y 1 k 10) - m ≤ 8; omega
          obtain ⟨S2, e3, hC2⟩ := c_47 kC kW (h := k) (k := m) (g := g) (fun p => he p.symm) a1 b1 hk1 hk2
          obtain ⟨T2, e4, hT2⟩ := t_231 kT kW (h := k) (k := m) (g := g) (fun p => he p.symm) a1 b1 hk1 hk2
          have w2 := g_W_cb kW (h := k) (k := m) (g := g) (fun p => he p.symm) a1 b1 hk1 hk2
          rw [e1, e2, x_bd, x_bd, c_h10 kC a1 a2, t_190_10 kT b2, x_bd, t_190_10 kT a2, x_bd, v1, v2, hm, nI_pred, e3, x_bd, e4, x_bd]
          have b1' : g < g_n (g_cb (g_up Y 10 3 0 1) k m g 0 0 0) := by rw [g_cb_r (by omega) (by omega)]; exact b1
          have v3 : g_cb (g_up Y 10 3 0 1) k m g 1 g 10 = nI (g_n (Y 1 g 10) + 1) := by
            rw [g_cb_1g (fun p => he p.symm)]
            show nI (g_n (Y 1 g 10) + g_n (Y 1 k 10) - m) = nI (g_n (Y 1 g 10) + 1)
            rw [show g_n (Y 1 g 10) + g_n (Y 1 k 10) - m = g_n (Y 1 g 10) + 1 by omega]
          rw [c_h10 hC2 b1' b2, v3, nI_pred, w_eta]
          exact g_fin hC2 hT2 w2 hW (Nat.le_refl c) (by rw [g_cb_r (by omega) (by omega)]; rfl) _
        · have e : g_n (Y 1 g 10) = 8 := by omega
          rw [if_neg (show ¬ Y 1 g 10 < 8 from fun p => h8 ((g_N_lt (k := 8) wg (by omega) (by omega)).1 p)), if_neg (show ¬ ¬ Y 1 g 10 = 8 from fun p => p ((g_N_eq (k := 8) wg (by omega) (by omega)).2 e)), no 6 (by decide)]
          exact g_refuse h _
