/-! ===== copy; mites ===== -/
theorem g_C_q12 {y : Nat} {Y Y' V : GA} {X S : QS} {f : Nat → Int32} (h : g_C y Y V X S) (h1 : ∀ r, r ≠ 12 → Y' r = Y r) (h2 : ∀ k, k < 64 → f k = Y' 12 k 0) : g_C y Y' V X (q_row S (35, 2, 0) f) := by
  obtain ⟨a1, a2, a3, a4, a5, a6, a7, a8⟩ := h
  have key : ∀ y r i j, r ≤ 13 → g_vd r i j → r ≠ 12 → (g_cl y r i j).1 ≠ (35, 2, 0) := by
    intro y r i j hr hv hne q
    have e := g_uc_cl (y := y) hr hv
    unfold g_uc at e
    rw [q] at e
    injection e with b1 b2
    exact hne b1.symm
  have lv : ∀ r i j, g_lv Y' r i j = g_lv Y r i j := by
    intro r i j
    unfold g_lv
    rw [h1 0 (by omega), h1 1 (by omega), h1 3 (by omega)]
  refine ⟨a1, ?_, ?_, ?_, ?_, ?_, ?_, a8⟩
  · intro r i j hr hv hl
    by_cases e : r = 12
    · subst e
      obtain ⟨b1, b2⟩ := hv
      subst b2
      show (q_row S (35, 2, 0) f).1 (35, 2, 0) i = Y' 12 i 0
      rw [w_row_same, h2 i b1]
    · rw [w_row_ne (key y r i j hr hv e), h1 r e]
      rw [lv] at hl
      exact a2 r i j hr hv hl
  · rw [h1 10 (by omega)]
    intro hc r i j hr hv hl
    rw [w_row_ne (key _ r i j (by omega) hv (by omega))]
    exact a3 hc r i j hr hv hl
  · unfold g_md
    rw [h1 0 (by omega)]
    exact a4
  · rw [h1 10 (by omega)]
    exact a5
  · intro k hk
    rw [h1 14 (by omega)]
    unfold g_rw
    rw [w_row_ne (fun q => by injection q with q1 q2; omega)]
    exact a6 k hk
  · intro a ha
    rw [w_row_ne (fun q => by rw [q] at ha; cases ha)]
    exact a7 a ha
theorem l_282u {V : GA} {Z : QS} {L : Nat → Int32} {i j n : Nat} (hi : i + n ≤ 64) (hj : j + n ≤ 64) (hd : j ≤ i) : ∀ (m k q : Nat) (Y0 Y : GA) (T : QS), g_T Y V Z T → (∀ r, r ≠ 12 → Y r = Y0 r) → (∀ t, t < 64 → Y 12 t 0 = if j ≤ t ∧ t < j + k then L (i + (t - j)) else L t) → k + m = n → m < q → ∃ Y' T', b_282_54 q (nI i) (nI j) (nI n) (nI k) T = f_187 (nI n) T' ∧ g_T Y' V Z T' ∧ (∀ r, r ≠ 12 → Y' r = Y0 r) ∧ (∀ t, t < 64 → Y' 12 t 0 = if j ≤ t ∧ t < j + n then L (i + (t - j)) else L t)
  | m, k, 0, _, _, _, _, _, _, _, h => by omega
  | m, k, q + 1, Y0, Y, T, hT, h1, h2, hm, hq => by
    rw [b_282_54]
    simp only [w_eta]
    cases m with
    | zero =>
      rw [if_pos (nI_le (by omega) (by omega))]
      have e : k = n := by omega
      subst e
      exact ⟨Y, T, rfl, hT, h1, h2⟩
    | succ m =>
      rw [if_neg (nI_ge (by omega) (by omega)), if_pos (nI_le hd (by omega))]
      unfold b_282_76
      rw [nI_add, nI_add, w_in (show i + k < 64 by omega) (by omega), w_in (show j + k < 64 by omega) (by omega), nI_clamp (by omega), nI_clamp (by omega), t_q12 hT (by omega)]
      simp only [x_ck, x_let]
      obtain ⟨T1, e1, g1⟩ := ts_q12 hT (show j + k < 64 by omega) (Y 12 (i + k) 0)
      rw [e1, nI_1]
      refine l_282u hi hj hd m (k + 1) q Y0 _ T1 g1 (fun r hr => by rw [g_up_r hr, h1 r hr]) (fun t ht => ?_) (by omega) (by omega)
      by_cases e : t = j + k
      · subst e
        rw [g_up_same, h2 (i + k) (by omega), if_neg (by omega), if_pos (by omega), show j + k - j = k by omega]
      · rw [g_up_ne (fun q => e q.2.1), h2 t ht]
        by_cases e2 : j ≤ t ∧ t < j + k
        · rw [if_pos e2, if_pos (by omega)]
        · rw [if_neg e2, if_neg (by omega)]
theorem l_282d {V : GA} {Z : QS} {L : Nat → Int32} {i j n : Nat} (hi : i + n ≤ 64) (hj : j + n ≤ 64) (hd : i < j) : ∀ (m k q : Nat) (Y0 Y : GA) (T : QS), g_T Y V Z T → (∀ r, r ≠ 12 → Y r = Y0 r) → (∀ t, t < 64 → Y 12 t 0 = if j + n - k ≤ t ∧ t < j + n then L (i + (t - j)) else L t) → k + m = n → m < q → ∃ Y' T', b_282_54 q (nI i) (nI j) (nI n) (nI k) T = f_187 (nI n) T' ∧ g_T Y' V Z T' ∧ (∀ r, r ≠ 12 → Y' r = Y0 r) ∧ (∀ t, t < 64 → Y' 12 t 0 = if j ≤ t ∧ t < j + n then L (i + (t - j)) else L t)
  | m, k, 0, _, _, _, _, _, _, _, h => by omega
  | m, k, q + 1, Y0, Y, T, hT, h1, h2, hm, hq => by
    rw [b_282_54]
    simp only [w_eta]
    cases m with
    | zero =>
      rw [if_pos (nI_le (by omega) (by omega))]
      have e : k = n := by omega
      subst e
      rw [show j + k - k = j by omega] at h2
      exact ⟨Y, T, rfl, hT, h1, h2⟩
    | succ m =>
      rw [if_neg (nI_ge (by omega) (by omega)), if_neg (nI_ge hd (by omega))]
      unfold b_282_76
      rw [show nI n - 1 = nI (n - 1) from by rw [show n = (n - 1) + 1 by omega, nI_pred]; rfl, pk_sub (show k ≤ n - 1 by omega), nI_add, nI_add, w_in (show i + (n - 1 - k) < 64 by omega) (by omega), w_in (show j + (n - 1 - k) < 64 by omega) (by omega), nI_clamp (by omega), nI_clamp (by omega), t_q12 hT (by omega)]
      simp only [x_ck, x_let]
      obtain ⟨T1, e1, g1⟩ := ts_q12 hT (show j + (n - 1 - k) < 64 by omega) (Y 12 (i + (n - 1 - k)) 0)
      rw [e1, nI_1]
      refine l_282d hi hj hd m (k + 1) q Y0 _ T1 g1 (fun r hr => by rw [g_up_r hr, h1 r hr]) (fun t ht => ?_) (by omega) (by omega)
      by_cases e : t = j + (n - 1 - k)
      · subst e
        rw [g_up_same, h2 (i + (n - 1 - k)) (by omega), if_neg (by omega), if_pos (by omega), show j + (n - 1 - k) - j = n - 1 - k by omega]
      · rw [g_up_ne (fun q => e q.2.1), h2 t ht]
        by_cases e2 : j + n - k ≤ t ∧ t < j + n
        · rw [if_pos e2, if_pos (by omega)]
        · rw [if_neg e2, if_neg (by omega)]
theorem g_subI {a b : Nat} (ha : a < 2 ^ 31) (hb : b < 2 ^ 31) : (nI a - nI b).toInt = (a : Int) - b := by
  rw [Int32.toInt_sub, nI_toInt ha, nI_toInt hb]
  exact Int.bmod_eq_of_le (by omega) (by omega)
theorem jj_164 {c y : Nat} {Y V : GA} {X Z S T : QS} (h : g_R c y Y V X Z S T) (x z w : Int32) : g_Ok c X Z (f_164 x z w S) (f_282 x z w T) := by
  obtain ⟨hC, hT, hW, hV, hU⟩ := id h
  unfold f_164 f_282 b_164_65 b_282_45
  simp only [w_eta]
  rw [t_m1 hT, x_let]
  rcases hC.2.2.2.2.2.1 1 (by omega) with ⟨e, q⟩ | ⟨e, q, m⟩
  · have q2 : S.1 (7, 2, 0) 2 = 0 := q
    rw [if_neg (fun p => p q2), e, if_neg (show ¬ (0 : Int32) ≤ -1 from by decide)]
    exact g_refuse h _
  · have q2 : S.1 (7, 2, 0) 2 = 1 := q
    have m2 : S.1 (7, 2, 0) 1 = Y 14 1 0 := m
    have ec : g_n (Y 14 1 0) ≤ 64 := e.2
    have e1 := e.1
    rw [if_pos (show ¬ S.1 (7, 2, 0) 2 = 0 from by rw [q2]; decide), m2]
    generalize g_n (Y 14 1 0) = M at e1 ec
    rw [e1, if_pos (nI_pos' (by omega))]
    by_cases hw : w < 0
    · rw [if_pos hw, if_pos hw]
      exact g_refuse h _
    · rw [if_neg hw, if_neg hw]
      by_cases hx : x < 0
      · rw [if_pos hx, if_pos hx]
        exact g_refuse h _
      · rw [if_neg hx, if_neg hx]
        obtain ⟨i, hi, rfl⟩ := nI_of hx
        obtain ⟨n, hn, rfl⟩ := nI_of hw
        have c1 : (nI M - nI i < nI n) ↔ M < i + n := by
          rw [Int32.lt_iff_toInt_lt, g_subI (by omega) hi, nI_toInt hn]
          omega
        by_cases hz : z < 0
        · rw [if_pos hz, if_pos hz]
          split
          · exact g_refuse h _
          · exact g_refuse h _
        · rw [if_neg hz, if_neg hz]
          obtain ⟨j, hj, rfl⟩ := nI_of hz
          have c2 : (nI n ≤ nI M - nI j) ↔ j + n ≤ M := by
            rw [Int32.le_iff_toInt_le, g_subI (by omega) hj, nI_toInt hn]
            omega
          by_cases h1 : M < i + n
          · rw [if_pos (c1.2 h1), if_pos (c1.2 h1)]
            split
            · exact g_refuse h _
            · split
              · exact g_refuse h _
              · exact g_refuse h _
          · rw [if_neg (fun p => h1 (c1.1 p)), if_neg (fun p => h1 (c1.1 p)), if_neg (nI_nlt (show i ≤ M by omega) (by omega))]
            by_cases h2 : j + n ≤ M
            · rw [if_pos (c2.2 h2), if_pos (c2.2 h2), if_neg (nI_nlt (show j ≤ M by omega) (by omega))]
              rw [decide_eq_true (nI_pos hi), decide_eq_true (nI_pos hj), decide_eq_true (nI_pos hn), nI_clamp hi, nI_clamp hj, nI_clamp hn, decide_eq_true (show i + n ≤ 64 by omega), decide_eq_true (show j + n ≤ 64 by omega)]
              show g_Ok c X Z (q_ck true _) _
              rw [x_ck, x_let]
              have base : ∀ t, t < 64 → Y 12 t 0 = S.1 (35, 2, 0) t := fun t ht => (c_q12 hC ht).symm
              have fin : ∃ Y' T', b_282_54 q_N (nI i) (nI j) (nI n) (nI 0) T = f_187 (nI n) T' ∧ g_T Y' V Z T' ∧ (∀ r, r ≠ 12 → Y' r = Y r) ∧ (∀ t, t < 64 → Y' 12 t 0 = if j ≤ t ∧ t < j + n then S.1 (35, 2, 0) (i + (t - j)) else S.1 (35, 2, 0) t) := by
                by_cases hd : j ≤ i
                · exact l_282u (by omega) (by omega) hd n 0 q_N Y Y T hT (fun _ _ => rfl) (fun t ht => by rw [if_neg (by omega)]; exact base t ht) (by omega) (by unfold q_N; omega)
                · exact l_282d (by omega) (by omega) (by omega) n 0 q_N Y Y T hT (fun _ _ => rfl) (fun t ht => by rw [if_neg (by omega)]; exact base t ht) (by omega) (by unfold q_N; omega)
              obtain ⟨Y', T', f1, f2, f3, f4⟩ := fin
              rw [show b_282_54 q_N (nI i) (nI j) (nI n) 0 T = f_187 (nI n) T' from f1]
              have g1 := g_C_q12 (f := va_cpy (S.1 (35, 2, 0)) (S.1 (35, 2, 0)) i j n) hC f3 (fun k hk => by rw [f4 k hk]; rfl)
              have hR : g_R c y Y' V X Z (q_row S (35, 2, 0) (va_cpy (S.1 (35, 2, 0)) (S.1 (35, 2, 0)) i j n)) T' := by
                refine ⟨g1, f2, ?_, ?_, ?_⟩
                · unfold g_W
                  rw [f3 0 (by omega), f3 1 (by omega), f3 2 (by omega), f3 3 (by omega), f3 4 (by omega), f3 5 (by omega), f3 6 (by omega), f3 8 (by omega)]
                  exact hW
                · rw [f3 10 (by omega)]; exact hV
                · rw [f3 10 (by omega)]; exact hU
              exact g_accept hR _
            · rw [if_neg (fun p => h2 (c2.1 p)), if_neg (fun p => h2 (c2.1 p))]
              split
              · exact g_refuse h _
              · exact g_refuse h _
/-- the greatest common divisor -/
theorem l_184 {S T : QS} : ∀ (k a b s p q : Nat), a < 2 ^ 31 → b < 2 ^ 31 → b < 2 ^ k → s + 2 * k ≤ 63 → 2 * k + 2 ≤ p → 2 * k + 2 ≤ q → (0 < a ∨ 0 < b) → ∃ g, 0 < g ∧ g < 2 ^ 31 ∧ b_184_7 p (nI a) (nI b) (nI s) S = some (nI g, S) ∧ b_263_4 q (nI a) (nI b) T = some (nI g, T)
  | 0, a, b, s, p, q, ha, hb, hk, hs, hp, hq, h0 => by
    obtain ⟨p, rfl⟩ : ∃ p', p = p' + 1 := ⟨p - 1, by omega⟩
    obtain ⟨q, rfl⟩ : ∃ q', q = q' + 1 := ⟨q - 1, by omega⟩
    have e : b = 0 := by omega
    subst e
    rw [b_184_7, b_263_4, if_neg (show ¬ (64 : Int32) ≤ nI s from nI_ge (b := 64) (by omega) (by omega)), if_pos (show nI 0 = 0 from rfl), if_pos (show nI 0 ≤ 0 from by decide)]
    exact ⟨a, by omega, ha, rfl, rfl⟩
  | k + 1, a, b, s, p, q, ha, hb, hk, hs, hp, hq, h0 => by
    obtain ⟨p, rfl⟩ : ∃ p', p = p' + 1 + 1 := ⟨p - 2, by omega⟩
    obtain ⟨q, rfl⟩ : ∃ q', q = q' + 1 + 1 := ⟨q - 2, by omega⟩
    rw [b_184_7, b_263_4, if_neg (show ¬ (64 : Int32) ≤ nI s from nI_ge (b := 64) (by omega) (by omega))]
    by_cases e : b = 0
    · subst e
      rw [if_pos (show nI 0 = 0 from rfl), if_pos (show nI 0 ≤ 0 from by decide)]
      exact ⟨a, by omega, ha, rfl, rfl⟩
    · have hb0 : 0 < b := by omega
      have r1 : nI a - nI a / nI b * nI b = nI (a % b) := pk_rem ha hb0 hb
      have hr := Nat.mod_lt a hb0
      rw [if_neg (nI_ne0 hb0 hb), if_neg (nI_nle hb0 hb), decide_eq_true (nI_ne0 hb0 hb), w_ck, w_ck, w_let, w_let, r1, nI_1]
      rw [b_184_7, b_263_4, if_neg (show ¬ (64 : Int32) ≤ nI (s + 1) from nI_ge (b := 64) (by omega) (by omega))]
      by_cases e2 : a % b = 0
      · rw [e2, if_pos (show nI 0 = 0 from rfl), if_pos (show nI 0 ≤ 0 from by decide)]
        exact ⟨b, hb0, hb, rfl, rfl⟩
      · have hr0 : 0 < a % b := by omega
        have r2 : nI b - nI b / nI (a % b) * nI (a % b) = nI (b % (a % b)) := pk_rem hb hr0 (by omega)
        have hr2 := Nat.mod_lt b hr0
        have hhalf : 2 * (b % (a % b)) < b := by
          have d1 := Nat.div_add_mod b (a % b)
          have d2 : 1 ≤ b / (a % b) := (Nat.le_div_iff_mul_le hr0).2 (by omega)
          have d3 : (a % b) * 1 ≤ (a % b) * (b / (a % b)) := Nat.mul_le_mul_left _ d2
          omega
        have hk2 : 2 ^ (k + 1) = 2 * 2 ^ k := by rw [Nat.pow_succ]; omega
        rw [if_neg (nI_ne0 hr0 (by omega)), if_neg (nI_nle hr0 (by omega)), decide_eq_true (nI_ne0 hr0 (show a % b < 2 ^ 31 by omega)), w_ck, w_ck, w_let, w_let, r2, nI_1]
        exact l_184 k (a % b) (b % (a % b)) (s + 1 + 1) p q (by omega) (by omega) (by omega) (by omega) (by omega) (by omega) (Or.inl hr0)
theorem jj_156 {c y : Nat} {Y V : GA} {X Z S T : QS} (h : g_R c y Y V X Z S T) (x z : Int32) : g_Ok c X Z (f_156 x z S) (f_264 x z T) := by
  obtain ⟨hC, hT, hW, hV, hU⟩ := id h
  unfold f_156 f_264 f_189 b_156_25 b_156_61 b_264_22 b_264_43 b_264_67 b_156_120 b_264_102
  rw [c_172 hC, t_198 hT]
  simp only [x_bd, w_eta]
  rcases g_hw_cases hW x with q | ⟨q, k, a1, a2, rfl⟩
  · rw [if_neg (g_12a q), if_pos (g_12a q), if_neg (g_12b q)]
    rw [if_pos (g_12a q)]
    exact g_refuse h _
  · rw [if_pos q, if_neg (show ¬ ¬ g_hw Y (nI k) = 0 from fun p => p q), q]
    by_cases h1 : z < 0
    · rw [if_pos h1, if_pos h1, x_bd, if_neg (show ¬ ¬ (0 : Int32) = 0 from by decide), if_pos (show ¬ (6 : Int32) = 0 from by decide), if_neg (show ¬ (6 : Int32) ≤ 0 from by decide)]
      exact g_refuse h _
    · rw [if_neg h1, if_neg h1]
      by_cases h2 : z ≤ 3
      · rw [if_pos h2, if_neg ((g_nle _ _).1 h2), x_bd, if_pos (show ¬ (1 : Int32) = 0 from by decide), if_neg (show ¬ ¬ (0 : Int32) = 0 from by decide), c_now hC, c_91 hC a1 a2, x_bd]
        dsimp only
        rw [c_h5 hC a1 a2, c_h6 hC a1 a2]
        obtain ⟨w, hw, rfl⟩ := nI_of2 (x := z) (M := 3) (n := 3) (by decide) h1 h2
        obtain ⟨b0, b5, b6⟩ := g_bees hW a1
        have hc5 := hW.1
        have E5 := t_190_5 hT a2
        have E6 := t_190_6 hT a2
        have gcd : Y 1 k 6 ≠ 0 → ∃ g, ¬ g = (0 : Int32) ∧ f_184 (Y 1 k 5) (Y 1 k 6) S = some (g, S) ∧ f_263 (Y 1 k 5) (Y 1 k 6) T = some (g, T) := by
          intro h6
          have p5 := b5.1
          have p6 := b6.1
          have q5 := b5.2
          have q6 := b6.2
          generalize g_n (Y 1 k 5) = u at p5 q5
          generalize g_n (Y 1 k 6) = v at p6 q6
          have hv : 0 < v := Nat.pos_of_ne_zero (fun e => h6 (by rw [p6, e]; rfl))
          obtain ⟨g, g1, g2, g3, g4⟩ := l_184 (S := S) (T := T) 31 u v 0 q_N q_N (by omega) (by omega) (by omega) (by omega) (by unfold q_N; omega) (by unfold q_N; omega) (Or.inr hv)
          rw [p5, p6]
          exact ⟨nI g, nI_ne0 g1 g2, g3, g4⟩
        have hc : w = 0 ∨ w = 1 ∨ w = 2 ∨ w = 3 := by omega
        rcases hc with e | e | e | e <;> subst e
        · rw [if_pos (show nI 0 ≤ 1 from by decide), if_pos (show (0 : Int32) ≤ 0 from by decide), if_neg (show ¬ ¬ (nI 0 - nI 0 / 2 * 2) = 0 from by decide), if_neg (show ¬ ¬ (nI 0 - nI 0 / 2 * 2) = 0 from by decide), if_neg (show ¬ 2 ≤ nI 0 from by decide), E5, x_bd, if_neg (show ¬ 2 ≤ nI 0 from by decide)]
          exact g_accept h _
        · rw [if_pos (show nI 1 ≤ 1 from by decide), if_pos (show (0 : Int32) ≤ 0 from by decide), if_pos (show ¬ (nI 1 - nI 1 / 2 * 2) = 0 from by decide), if_pos (show ¬ (nI 1 - nI 1 / 2 * 2) = 0 from by decide), if_neg (show ¬ 2 ≤ nI 1 from by decide), E6, x_bd, if_neg (show ¬ 2 ≤ nI 1 from by decide)]
          exact g_accept h _
        · rw [if_neg (show ¬ nI 2 ≤ 1 from by decide), if_neg (show ¬ ¬ (nI 2 - nI 2 / 2 * 2) = 0 from by decide), if_pos (show 2 ≤ nI 2 from by decide), E6, x_bd]
          by_cases h6 : Y 1 k 6 = 0
          · rw [if_neg (fun p => p h6), if_neg (fun p => p h6), if_neg (show ¬ (4 : Int32) ≤ 0 from by decide)]
            exact g_refuse h _
          · obtain ⟨g, g0, g1, g2⟩ := gcd h6
            rw [if_pos h6, if_pos h6, if_pos (show (0 : Int32) ≤ 0 from by decide), if_neg (show ¬ ¬ (nI 2 - nI 2 / 2 * 2) = 0 from by decide), E5, x_bd, if_pos (show 2 ≤ nI 2 from by decide), g1, x_bd, if_pos g0, decide_eq_true g0, x_ck, E5, x_bd, E6, x_bd, g2, x_bd, decide_eq_true g0, x_ck]
            exact g_accept h _
        · rw [if_neg (show ¬ nI 3 ≤ 1 from by decide), if_pos (show ¬ (nI 3 - nI 3 / 2 * 2) = 0 from by decide), if_pos (show 2 ≤ nI 3 from by decide), E6, x_bd]
          by_cases h6 : Y 1 k 6 = 0
          · rw [if_neg (fun p => p h6), if_neg (fun p => p h6), if_neg (show ¬ (4 : Int32) ≤ 0 from by decide)]
            exact g_refuse h _
          · obtain ⟨g, g0, g1, g2⟩ := gcd h6
            rw [if_pos h6, if_pos h6, if_pos (show (0 : Int32) ≤ 0 from by decide), if_pos (show ¬ (nI 3 - nI 3 / 2 * 2) = 0 from by decide), E6, x_bd, if_pos (show 2 ≤ nI 3 from by decide), g1, x_bd, if_pos g0, decide_eq_true g0, x_ck, E5, x_bd, E6, x_bd, g2, x_bd, decide_eq_true g0, x_ck]
            exact g_accept h _
      · rw [if_neg h2, if_pos (Decidable.not_not.1 (fun q => h2 ((g_nle _ _).2 q))), x_bd, if_neg (show ¬ ¬ (0 : Int32) = 0 from by decide), if_pos (show ¬ (6 : Int32) = 0 from by decide), if_neg (show ¬ (6 : Int32) ≤ 0 from by decide)]
        exact g_refuse h _
