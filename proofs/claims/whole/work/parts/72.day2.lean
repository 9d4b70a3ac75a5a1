/-! ===== a day: eggs are laid ===== -/
def g_mid (M j : Nat) : Nat := if j % 2 = 1 then M - 1 - j / 2 else M + j / 2
theorem e_183 {M j : Nat} (hM : 0 < M) (hM2 : M ≤ 32) (hj : j < 2 * M) (S : QS) : f_183 (nI M) (nI j) S = some (nI (g_mid M j), S) := by
  unfold f_183 g_mid
  rw [show nI j - nI j / 2 * 2 = nI (j % 2) from pk_rem (d := 2) (by omega) (by omega) (by omega), show nI j / 2 = nI (j / 2) from pk_div (d := 2) (by omega) (by omega) (by omega)]
  by_cases q : j % 2 = 1
  · rw [if_pos q, q, if_pos (show ¬ nI 1 = 0 from by decide), show nI M - 1 = nI (M - 1) from pk_sub (b := 1) (by omega), pk_sub (by omega)]
  · rw [if_neg q, show j % 2 = 0 by omega, if_neg (show ¬ ¬ nI 0 = 0 from by decide), nI_add]
theorem e_253 {M j : Nat} (hM : 0 < M) (hM2 : M ≤ 32) (hj : j < 2 * M) (T : QS) : f_253 (nI M) (nI j) T = some (nI (g_mid M j), T) := by
  unfold f_253 g_mid
  rw [show nI j - nI j / 2 * 2 = nI (j % 2) from pk_rem (d := 2) (by omega) (by omega) (by omega), show nI j / 2 = nI (j / 2) from pk_div (d := 2) (by omega) (by omega) (by omega)]
  by_cases q : j % 2 = 1
  · rw [if_pos q, q, if_neg (show ¬ ¬ nI 1 = 1 from by decide), nI_1, show nI (j + 1) / 2 = nI ((j + 1) / 2) from pk_div (d := 2) (by omega) (by omega) (by omega), pk_sub (by omega), show M - (j + 1) / 2 = M - 1 - j / 2 by omega]
  · rw [if_neg q, show j % 2 = 0 by omega, if_pos (show ¬ nI 0 = 1 from by decide), nI_add]
theorem g_mid_lt {M j : Nat} (hM : 0 < M) (hj : j < 2 * M) : g_mid M j < 2 * M := by
  unfold g_mid
  split <;> omega
theorem g_dy_f1 {c E : Nat} {B : Int} {Y : GA} {n i : Nat} {v : Int32} (h : g_dy c E B Y) (hn : n < g_n (Y 0 1 0)) (hi : i < g_n (Y 3 n 0)) (hv : g_ok v) (hB : B + 1 ≤ 400000 * (c + 1 : Nat)) : g_dy c E (B + 1) (g_up Y 4 n i v) := by
  obtain ⟨h1, h2, h3, h4, h5⟩ := h
  have t1 := g_tot_f (v := v) hn hi
  have t4 := g_to4_f (v := v) hn hi
  have b1 := g_W_tot h1
  have b4 := g_W_to4 h1
  have i1 : g_iy v ≤ 1 := by unfold g_iy; split <;> omega
  have i2 : 0 ≤ g_iy (Y 4 n i) := by unfold g_iy; split <;> omega
  refine ⟨g_W_ft h1 hn hi (Nat.le_refl _) h1.1 hv (by omega) (by omega), h2, by omega, by omega, ?_⟩
  have : g_hu (g_up Y 4 n i v) = g_hu Y := rfl
  omega
theorem l_38 {wd : Int32} {c y n h E w : Nat} {B : Int} {V : GA} {X Z : QS} (hn2 : n < 200) (hw : w ≤ 205) (hB : B + w ≤ 400000 * (c + 1 : Nat)) (v x5 : Int32) (hv : g_ok v) (bk : Int32 → Int32 → Int32 → Int32 → QS → Option (Unit × QS)) : ∀ (m j p q cnt : Nat) (Y : GA) (S T : QS), g_Cw wd y Y V X S → g_T Y V Z T → g_dy c E (B + cnt) Y → n < g_n (Y 0 1 0) → j + m = 64 → cnt ≤ w → m < p → m < q → ∃ cnt' Y' S' T', cnt ≤ cnt' ∧ cnt' ≤ w ∧ b_38_5 p y n v (nI w) (nI cnt) (nI j) S = some (nI cnt', S') ∧ b_254_59 bk q (nI h) v (nI (w - cnt)) x5 (nI n) (nI j) T = bk (nI h) v (nI (w - cnt')) (x5 + 1) T' ∧ g_Cw wd y Y' V X S' ∧ g_T Y' V Z T' ∧ g_dy c E (B + cnt') Y' ∧ g_o4 Y Y'
  | m, j, 0, _, _, _, _, _, _, _, _, _, _, _, h1, _ => by omega
  | m, j, _, 0, _, _, _, _, _, _, _, _, _, _, _, h2 => by omega
  | m, j, p + 1, q + 1, cnt, Y, S, T, hC, hT, hD, hn, hm, hc, h1, h2 => by
    have hW := hD.1
    have hz := hW.2.2.2.1 n hn
    have hz2 := hz.2
    rw [b_38_5, b_254_59, if_neg (nI_pos (show n < 2 ^ 31 by omega))]
    unfold b_254_128
    cases m with
    | zero =>
      have e : (64 : Int32) ≤ nI j := nI_le (a := 64) (by omega) (by omega)
      rw [if_pos e, if_pos e]
      exact ⟨cnt, Y, S, T, Nat.le_refl _, hc, rfl, rfl, hC, hT, hD, g_o4_0 Y⟩
    | succ m =>
      have e : ¬ (64 : Int32) ≤ nI j := nI_ge (b := 64) (by omega) (by omega)
      rw [if_neg e, if_neg e]
      by_cases hcw : cnt = w
      · subst hcw
        rw [if_pos (nI_le (Nat.le_refl cnt) (by omega)), Nat.sub_self, if_pos (show nI 0 ≤ 0 from by decide)]
        exact ⟨cnt, Y, S, T, Nat.le_refl _, Nat.le_refl _, rfl, by rw [Nat.sub_self], hC, hT, hD, g_o4_0 Y⟩
      · have hmid := g_mid_lt (M := 32) (j := j) (by omega) (by omega)
        rw [if_neg (nI_ge (show cnt < w by omega) (by omega)), if_neg (nI_nle (show 0 < w - cnt by omega) (by omega)), show f_183 32 (nI j) S = _ from e_183 (M := 32) (by omega) (by omega) (by omega) S, x_bd, show f_253 32 (nI j) T = _ from e_253 (M := 32) (by omega) (by omega) (by omega) T, x_bd, d_l hC hn hn2, t_195 hT hn2, x_bd]
        unfold b_38_56 b_254_122
        obtain ⟨i, hi⟩ : ∃ i, i = g_mid 32 j := ⟨_, rfl⟩
        rw [← hi] at hmid ⊢
        by_cases hsz : g_n (Y 3 n 0) ≤ i
        · have e2 : Y 3 n 0 ≤ nI i := (g_N_le hz (by omega) (by omega)).2 hsz
          rw [if_pos e2, if_pos e2, nI_1]
          exact l_38 hn2 hw hB v x5 hv bk m (j + 1) p q cnt Y S T hC hT hD hn (by omega) hc (by omega) (by omega)
        · have e2 : ¬ Y 3 n 0 ≤ nI i := fun p => hsz ((g_N_le hz (by omega) (by omega)).1 p)
          rw [if_neg e2, if_neg e2, w_in (show i < 64 by omega) (by omega), nI_clamp (by omega), x_ck, x_let, d_f hC hn hn2 (by omega) (by omega), t_196 hT hn2 (by omega), x_bd]
          by_cases e0 : Y 4 n i = 0
          · rw [if_neg (fun p => p e0), if_pos e0, x_ck, nI_1]
            obtain ⟨S1, e1, hC1⟩ := ds_f hC hn2 (show i < 64 by omega) v
            obtain ⟨T1, f1, hT1⟩ := t_197 hT hn2 (show i < 64 by omega) v
            have d1 := g_dy_f1 hD hn (show i < g_n (Y 3 n 0) by omega) hv (by omega)
            rw [e1, x_let, f1, x_bd, nI_1, show nI (w - cnt) + (-1) = nI (w - (cnt + 1)) from by rw [show w - cnt = (w - (cnt + 1)) + 1 by omega, pk_m1]]
            have d1' : g_dy c E (B + (cnt + 1 : Nat)) (g_up Y 4 n i v) := g_dy_mono d1 (by omega)
            obtain ⟨cnt', Y', S', T', i1, i2, i3, i4, i5, i6, i7, i8⟩ := l_38 hn2 hw hB v x5 hv bk m (j + 1) p q (cnt + 1) _ S1 T1 hC1 hT1 d1' hn (by omega) (by omega) (by omega) (by omega)
            exact ⟨cnt', Y', S', T', by omega, i2, i3, i4, i5, i6, i7, g_o4_t (g_o4_1 (g_o4_0 Y) _ _ _) i8⟩
          · rw [if_pos e0, if_neg e0, nI_1]
            exact l_38 hn2 hw hB v x5 hv bk m (j + 1) p q cnt Y S T hC hT hD hn (by omega) hc (by omega) (by omega)
theorem l_118 {wd : Int32} {c y h E W0 : Nat} {B : Int} {V : GA} {X Z : QS} (h4 : h < 40) (hw : W0 ≤ 205) (hB : B + W0 ≤ 400000 * (c + 1 : Nat)) (v : Int32) (hv : g_ok v) : ∀ (m st p q l : Nat) (Y : GA) (S T : QS), g_Cw wd y Y V X S → g_T Y V Z T → g_dy c E (B + (W0 - l : Nat)) Y → h < g_n (Y 0 0 0) → st + m = 12 * g_n (Y 1 h 10) → l ≤ W0 → m < p → m < q → ∃ Y' S' T', b_118_29 p y y h v (nI l) (nI st) S = some ((), S') ∧ b_254_6 q (nI h) v (nI l) (nI st) T = some ((), T') ∧ g_Cw wd y Y' V X S' ∧ g_T Y' V Z T' ∧ g_dy c E (B + W0) Y' ∧ g_o4 Y Y'
  | m, st, 0, _, _, _, _, _, _, _, _, _, _, _, h1, _ => by omega
  | m, st, _, 0, _, _, _, _, _, _, _, _, _, _, _, h2 => by omega
  | m, st, p + 1, q + 1, l, Y, S, T, hC, hT, hD, hh, hm, hl, h1, h2 => by
    have hW := hD.1
    have hbx := hW.2.2.1 h hh
    have hb := hbx.2
    rw [b_118_29, b_254_6, d_45 hC hW hh h4, x_bd, t_190_10 hT h4, x_bd, (g_N_12 hbx).2]
    cases m with
    | zero =>
      rw [if_pos (nI_le (by omega) (by omega)), if_pos (nI_le (by omega) (by omega))]
      exact ⟨Y, S, T, rfl, rfl, hC, hT, g_dy_mono hD (by omega), g_o4_0 Y⟩
    | succ m =>
      rw [if_neg (nI_ge (by omega) (by omega)), if_neg (nI_ge (by omega) (by omega))]
      by_cases hl0 : l = 0
      · subst hl0
        rw [if_pos (show nI 0 ≤ 0 from by decide), if_pos (show nI 0 ≤ 0 from by decide)]
        exact ⟨Y, S, T, rfl, rfl, hC, hT, g_dy_mono hD (by omega), g_o4_0 Y⟩
      · have hlp : ¬ nI l ≤ 0 := nI_nle (by omega) (by omega)
        have hmod : st % 12 < 12 := Nat.mod_lt _ (by omega)
        have hmid := g_mid_lt (M := 6) (j := st % 12) (by omega) (by omega)
        rw [if_neg hlp, if_neg hlp, show nI st - nI st / 12 * 12 = nI (st % 12) from pk_rem (d := 12) (by omega) (by omega) (by omega), show nI st / 12 = nI (st / 12) from pk_div (d := 12) (by omega) (by omega) (by omega), x_let, show f_183 6 (nI (st % 12)) S = _ from e_183 (M := 6) (by omega) (by omega) (by omega) S, x_bd, show f_253 6 (nI (st % 12)) T = _ from e_253 (M := 6) (by omega) (by omega) (by omega) T, x_bd]
        obtain ⟨i, hi⟩ : ∃ i, i = 12 * (st / 12) + g_mid 6 (st % 12) := ⟨_, rfl⟩
        have A1 : nI (st / 12) * 12 + nI (g_mid 6 (st % 12)) = nI i := by
          rw [hi, show (12 : Int32) = nI 12 from rfl, pk_mul, nI_add, Nat.mul_comm]
        have A2 : (96 : Int32) * nI h + nI (st / 12) * 12 + nI (g_mid 6 (st % 12)) = nI (96 * h + i) := by
          rw [hi, show (12 : Int32) = nI 12 from rfl, pk_mul, (g_mul96 h).1, nI_add, nI_add, Nat.mul_comm (st / 12) 12]
          congr 1
          omega
        have hi12 : i < 12 * g_n (Y 1 h 10) := by omega
        rw [A1, A2, w_in (show i < 96 by omega) (by omega), nI_clamp (by omega), x_ck, d_p hC hh h4 hi12 (by omega), x_let, t_194 hT h4 (by omega), x_bd]
        unfold b_118_100
        rcases hW.2.2.2.2.1 h i h4 (by omega) with e | ⟨_, _, n, hn, e⟩
        · rw [e, if_pos rfl, show q_N = 19999 + 1 from rfl, b_254_59, if_pos (show (-1 : Int32) < 0 from by decide)]
          unfold b_254_128
          rw [nI_1]
          exact l_118 h4 hw hB v hv m (st + 1) p q l Y S T hC hT hD hh (by omega) hl (by omega) (by omega)
        · have n12 := hW.2.1.2.1.2
          have hB1 : (B + (W0 - l : Nat)) + l ≤ 400000 * (c + 1 : Nat) := by omega
          obtain ⟨ct, Y1, S1, T1, i1, i2, i3, i4, i5, i6, i7, i8⟩ := l_38 (c := c) (y := y) (V := V) (X := X) (Z := Z) (n := n) (h := h) (w := l) (by omega) (by omega) hB1 v (nI st) hv (b_254_6 q) 64 0 q_N q_N 0 Y S T hC hT (g_dy_mono hD (by omega)) hn (by omega) (by omega) (by unfold q_N; omega) (by unfold q_N; omega)
          rw [Nat.sub_zero] at i4
          rw [e, if_neg (g_nI_m1 (by omega)), d_92 hC hn (by omega), x_bd]
          dsimp only
          rw [show f_38 y n v (nI l) S = _ from i3, x_bd, x_let, show b_254_59 (b_254_6 q) q_N (nI h) v (nI l) (nI st) (nI n) 0 T = _ from i4, pk_sub i2, nI_1]
          have k0 : Y1 0 = Y 0 := i8 0 (by omega)
          have k1 : Y1 1 = Y 1 := i8 1 (by omega)
          obtain ⟨Y2, S2, T2, j2, j3, j4, j5, j6, j7⟩ := l_118 h4 hw hB v hv m (st + 1) p q (l - ct) Y1 S1 T1 i5 i6 (g_dy_mono i7 (by omega)) (by rw [k0]; exact hh) (by rw [k1]; omega) (by omega) (by omega) (by omega)
          exact ⟨Y2, S2, T2, j2, j3, j4, j5, j6, g_o4_t i8 j7⟩
theorem g_lay_b {k d r : Int32} {E : Nat} (hd : g_N d E) (hE : E < 2 ^ 29) (hr : g_N r 200) : g_lay k d r = -5 ∨ ∃ w, w ≤ 205 ∧ g_lay k d r = nI w := by
  unfold g_lay
  by_cases h1 : k = 1
  · rw [if_pos h1]
    split
    · exact Or.inl rfl
    · exact Or.inr ⟨0, by omega, rfl⟩
  · rw [if_neg h1]
    by_cases h2 : k = 2
    · rw [if_pos h2]
      obtain ⟨e1, b1⟩ := hd
      obtain ⟨e2, b2⟩ := hr
      generalize g_n d = a at e1 b1
      generalize g_n r = b at e2 b2
      subst e1
      subst e2
      rw [show (5 : Int32) + nI b = nI (5 + b) from nI_add 5 b, show nI a / 100 = nI (a / 100) from pk_div (d := 100) (by omega) (by omega) (by omega)]
      by_cases q : a / 100 ≤ 5 + b
      · rw [pk_sub q, if_pos (nI_pos' (by omega))]
        exact Or.inr ⟨_, by omega, rfl⟩
      · rw [if_neg (fun p => (g_nle _ _).1 p (pk_sneg (by omega) (by omega)))]
        exact Or.inr ⟨0, by omega, rfl⟩
    · rw [if_neg h2]
      exact Or.inr ⟨5, by omega, rfl⟩
/-- the hive's finding, and its eggs -/
theorem p_fill {wd : Int32} {c y h E : Nat} {B : Int} {V Y : GA} {X Z S T : QS} (h4 : h < 40) (hB : B + 205 ≤ 400000 * (c + 1 : Nat)) (hC : g_Cw wd y Y V X S) (hT : g_T Y V Z T) (hD : g_dy c E B Y) (hh : h < g_n (Y 0 0 0)) (r : Int32) (hr : r = -5 ∨ ∃ w, w ≤ 205 ∧ r = nI w) : ∃ Y' S' T', f_118 y y h r S = some ((), S') ∧ b_255_62 (nI h) r T = some ((), T') ∧ g_Cw wd y Y' V X S' ∧ g_T Y' V Z T' ∧ g_dy c E (B + 205) Y' ∧ g_o4 Y Y' := by
  have hb := (hD.1.2.2.1 h hh).2
  have go : ∀ (w : Nat) (v : Int32), w ≤ 205 → g_ok v → ∃ Y' S' T', b_118_29 q_N y y h v (nI w) 0 S = some ((), S') ∧ f_254 (nI h) (nI w) v T = some ((), T') ∧ g_Cw wd y Y' V X S' ∧ g_T Y' V Z T' ∧ g_dy c E (B + 205) Y' ∧ g_o4 Y Y' := by
    intro w v hw hv
    obtain ⟨Y', S', T', i1, i2, i3, i4, i5, i6⟩ := l_118 (c := c) (y := y) (h := h) (E := E) (W0 := w) (B := B) (V := V) (X := X) (Z := Z) h4 hw (by omega) v hv (12 * g_n (Y 1 h 10)) 0 q_N q_N w Y S T hC hT (g_dy_mono hD (by omega)) hh (by omega) (Nat.le_refl w) (by unfold q_N; omega) (by unfold q_N; omega)
    exact ⟨Y', S', T', i1, i2, i3, i4, g_dy_mono i5 (by omega), i6⟩
  unfold f_118 b_118_13 b_118_24 b_255_62 b_255_79 b_255_93
  rcases hr with e | ⟨w, hw, e⟩
  · subst e
    have n5 : ¬ (0 : Int32) ≤ -5 := by decide
    rw [if_neg n5, if_neg n5, if_neg n5, if_neg n5, show (-(-5) : Int32) = nI 5 from by decide]
    obtain ⟨Y', S', T', i1, i2, i3⟩ := go 5 400 (by omega) (Or.inr (Or.inr (Or.inr ⟨by decide, by decide⟩)))
    rw [i1, i2, x_bd]
    exact ⟨Y', S', T', rfl, rfl, i3⟩
  · subst e
    have n5 : (0 : Int32) ≤ nI w := nI_pos' (by omega)
    rw [if_pos n5, if_pos n5, if_pos n5, if_pos n5]
    obtain ⟨Y', S', T', i1, i2, i3⟩ := go w 300 hw (Or.inr (Or.inr (Or.inl ⟨by decide, by decide⟩)))
    rw [i1, i2, x_bd]
    exact ⟨Y', S', T', rfl, rfl, i3⟩
/-- what stays through a hive's day -/
def g_ss (Y Y' : GA) : Prop := Y' 0 0 0 = Y 0 0 0 ∧ Y' 0 1 0 = Y 0 1 0 ∧ (Y' 0 2 0 = Y 0 2 0 ∧ Y' 0 3 0 = Y 0 3 0) ∧ Y' 10 = Y 10
theorem g_ss_t {Y Y' Y'' : GA} (h : g_ss Y Y') (g : g_ss Y' Y'') : g_ss Y Y'' := ⟨g.1.trans h.1, g.2.1.trans h.2.1, ⟨g.2.2.1.1.trans h.2.2.1.1, g.2.2.1.2.trans h.2.2.1.2⟩, g.2.2.2.trans h.2.2.2⟩
theorem g_ss_o4 {Y Y' : GA} (h : g_o4 Y Y') : g_ss Y Y' := ⟨by rw [h 0 (by omega)], by rw [h 0 (by omega)], ⟨by rw [h 0 (by omega)], by rw [h 0 (by omega)]⟩, h 10 (by omega)⟩
theorem g_ss_o9 {Y Y' : GA} (h : g_o9 Y Y') : g_ss Y Y' := ⟨by rw [h 0 (by omega)], by rw [h 0 (by omega)], ⟨by rw [h 0 (by omega)], by rw [h 0 (by omega)]⟩, h 10 (by omega)⟩
theorem g_ss_k1 {Y Y' : GA} (h : g_k1 Y Y') : g_ss Y Y' := ⟨by rw [h.1 0 (by omega) (by omega)], by rw [h.1 0 (by omega) (by omega)], ⟨by rw [h.1 0 (by omega) (by omega)], by rw [h.1 0 (by omega) (by omega)]⟩, h.1 10 (by omega) (by omega)⟩
theorem g_dy_o9 {c E : Nat} {B : Int} {Y Y' : GA} (h : g_o9 Y Y') (hD : g_dy c E B Y) : g_dy c E B Y' := by
  obtain ⟨h1, h2, h3, h4, h5⟩ := hD
  refine ⟨g_W_o9 h h1, ?_, ?_, ?_, ?_⟩
  · rw [h 0 (by omega), h 6 (by omega)]; exact h2
  · unfold g_tot; rw [h 0 (by omega), h 1 (by omega), h 3 (by omega), h 4 (by omega), h 6 (by omega)]; exact h3
  · unfold g_to4; rw [h 0 (by omega), h 1 (by omega), h 3 (by omega), h 4 (by omega)]; exact h4
  · unfold g_hu; rw [h 0 (by omega), h 1 (by omega)]; exact h5
theorem p_lay {wd : Int32} {c y h E : Nat} {B : Int} {V Y : GA} {X Z S T : QS} (h4 : h < 40) (hE : E ≤ 60 * (c + 1)) (hB : B + 205 ≤ 400000 * (c + 1 : Nat)) (hC : g_Cw wd y Y V X S) (hT : g_T Y V Z T) (hD : g_dy c E B Y) (hh : h < g_n (Y 0 0 0)) : ∃ Y' S' T', q_bd (f_117 y y h S) (fun r S_7 => f_118 y y h r S_7) = some ((), S') ∧ f_255 (nI h) T = some ((), T') ∧ g_Cw wd y Y' V X S' ∧ g_T Y' V Z T' ∧ g_dy c E (B + 205) Y' ∧ g_ss Y Y' := by
  have hW := hD.1
  have hc5 := hW.1
  have n22 := hW.2.1.2.2.1.2
  have find : ∀ v : Int32, ∃ S1 T1, q_set S (4, y, h) 11 v = S1 ∧ f_191 (nI h) 9 v T = some ((), T1) ∧ g_Cw wd y (g_up Y 1 h 9 v) V X S1 ∧ g_T (g_up Y 1 h 9 v) V Z T1 ∧ g_dy c E B (g_up Y 1 h 9 v) ∧ g_ss Y (g_up Y 1 h 9 v) := by
    intro v
    obtain ⟨S1, e1, hC1⟩ := ds_h9 hC h4 v
    obtain ⟨T1, f1, hT1⟩ := t_191_9 hT h4 v
    exact ⟨S1, T1, e1, f1, hC1, hT1, ⟨g_W_hf hW hh (by omega), hD.2.1, hD.2.2.1, hD.2.2.2.1, hD.2.2.2.2⟩, ⟨rfl, rfl, ⟨rfl, rfl⟩, g_up_r (by omega)⟩⟩
  unfold f_117 f_255
  rw [d_h3 hC hh h4, t_190_3 hT h4, x_bd]
  unfold b_255_23 b_255_24 b_255_46
  rcases (hW.2.2.2.2.2.2.2.2.2.1 h hh).2.1 with e | ⟨t, ht, e⟩
  · rw [e, if_neg (show ¬ ¬ (-1 : Int32) = -1 from by decide), if_pos (show (-1 : Int32) < 0 from by decide), if_neg (show ¬ (0 : Int32) ≤ -1 from by decide)]
    obtain ⟨S1, T1, e1, f1, hC1, hT1, hD1, s1⟩ := find 1
    rw [e1, f1, x_let, x_bd, x_bd, if_pos rfl]
    obtain ⟨Y', S', T', i1, i2, i3, i4, i5, i6⟩ := p_fill h4 hB hC1 hT1 hD1 (by exact hh) 0 (Or.inr ⟨0, by omega, rfl⟩)
    exact ⟨Y', S', T', i1, i2, i3, i4, i5, g_ss_t s1 (g_ss_o4 i6)⟩
  · have ht2 : t < 200 := by omega
    have hk := (hW.2.2.2.2.2.2.2.2.1 t ht).1
    have hrate := (hW.2.2.2.2.2.2.2.2.1 t ht).2.2.2.2.1
    rw [e, if_pos (g_nI_m1 (by omega)), if_neg (nI_pos (by omega)), d_93 hC ht ht2, x_bd]
    unfold f_204 f_86 b_86_23
    dsimp only
    rw [d_t0 hC ht ht2, t_192_0 hT ht2, x_bd]
    have hqueen : (Y 6 t 0 = 0 ∨ Y 6 t 0 = 1 ∨ Y 6 t 0 = 2) ∨ (Y 6 t 0 = 3 ∨ Y 6 t 0 = 4 ∨ Y 6 t 0 = 5) := by
      rcases g_kn hk with q | q | q | q | q | q
      · exact Or.inl (Or.inl q)
      · exact Or.inl (Or.inr (Or.inl q))
      · exact Or.inl (Or.inr (Or.inr q))
      · exact Or.inr (Or.inl q)
      · exact Or.inr (Or.inr (Or.inl q))
      · exact Or.inr (Or.inr (Or.inr q))
    rcases hqueen with hq | hq
    · have c1 : (if Y 6 t 0 = 0 then some ((1 : Int32), S) else if Y 6 t 0 = 1 then some (1, S) else if ¬ Y 6 t 0 = 2 then some (0, S) else some (1, S)) = some (1, S) := by
        rcases hq with q | q | q <;> rw [q] <;> rfl
      have c2 : (if 2 < Y 6 t 0 then some ((0 : Int32), T) else some (1, T)) = some (1, T) := by
        rcases hq with q | q | q <;> rw [q] <;> rfl
      rw [c1, c2, x_bd, x_bd, if_pos (show ¬ (1 : Int32) = 0 from by decide), if_neg (show ¬ (1 : Int32) = 0 from by decide), if_pos (nI_pos' (show t < 2 ^ 31 by omega)), if_neg (show ¬ (1 : Int32) = 0 from by decide)]
      obtain ⟨S1, T1, e1, f1, hC1, hT1, hD1, s1⟩ := find 0
      rw [e1, f1, x_let, x_bd, if_neg (show ¬ (1 : Int32) = 0 from by decide), w_eta]
      obtain ⟨Y2, S2, T2, e2, f2, hC2, hT2, o9⟩ := d_e5 hC1 hT1 (by exact ht) ht2 (by exact hq)
      rw [e2, f2, x_bd, x_bd]
      have hD2 := g_dy_o9 o9 hD1
      have hh2 : h < g_n (Y2 0 0 0) := by rw [o9 0 (by omega)]; exact hh
      obtain ⟨Y', S', T', i1, i2, i3, i4, i5, i6⟩ := p_fill h4 hB hC2 hT2 hD2 hh2 _ (g_lay_b (k := g_up Y 1 h 9 0 6 t 0) (d := g_up Y 1 h 9 0 6 t 1) (r := g_up Y 1 h 9 0 6 t 4) (hD.2.1 t ht) (by omega) hrate)
      exact ⟨Y', S', T', i1, i2, i3, i4, i5, g_ss_t s1 (g_ss_t (g_ss_o9 o9) (g_ss_o4 i6))⟩
    · have c1 : (if Y 6 t 0 = 0 then some ((1 : Int32), S) else if Y 6 t 0 = 1 then some (1, S) else if ¬ Y 6 t 0 = 2 then some (0, S) else some (1, S)) = some (0, S) := by
        rcases hq with q | q | q <;> rw [q] <;> rfl
      have c2 : (if 2 < Y 6 t 0 then some ((0 : Int32), T) else some (1, T)) = some (0, T) := by
        rcases hq with q | q | q <;> rw [q] <;> rfl
      rw [c1, c2, x_bd, x_bd, if_neg (show ¬ ¬ (0 : Int32) = 0 from by decide), if_pos rfl, if_pos (nI_pos' (show t < 2 ^ 31 by omega)), if_pos rfl]
      obtain ⟨S1, T1, e1, f1, hC1, hT1, hD1, s1⟩ := find 3
      rw [e1, f1, x_let, x_bd, x_bd, if_pos rfl]
      obtain ⟨Y', S', T', i1, i2, i3, i4, i5, i6⟩ := p_fill h4 hB hC1 hT1 hD1 (by exact hh) 0 (Or.inr ⟨0, by omega, rfl⟩)
      exact ⟨Y', S', T', i1, i2, i3, i4, i5, g_ss_t s1 (g_ss_o4 i6)⟩
