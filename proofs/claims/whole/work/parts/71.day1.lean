/-! ===== a day: the young grow ===== -/
def g_hu (Y : GA) : Int := g_su (fun h => Y 1 h 2) (g_n (Y 0 0 0))
def g_dy (c E : Nat) (B : Int) (Y : GA) : Prop := g_W (c + 1) Y ∧ (∀ t, t < g_n (Y 0 2 0) → g_N (Y 6 t 1) E) ∧ g_tot Y ≤ B ∧ g_to4 Y ≤ B ∧ g_hu Y ≤ B
theorem g_W_hu {c : Nat} {Y : GA} (hW : g_W c Y) : g_hu Y ≤ 400000 * c := hW.2.2.2.2.2.2.2.2.2.2.2.2.2.2.2.2
theorem g_dy_mono {c E : Nat} {B B' : Int} {Y : GA} (h : g_dy c E B Y) (hB : B ≤ B') : g_dy c E B' Y := ⟨h.1, h.2.1, by have := h.2.2.1; omega, by have := h.2.2.2.1; omega, by have := h.2.2.2.2; omega⟩
/-- a field becomes something else that is no younger -/
theorem g_dy_f {c E : Nat} {B : Int} {Y : GA} {n i : Nat} {v : Int32} (h : g_dy c E B Y) (hn : n < g_n (Y 0 1 0)) (hi : i < g_n (Y 3 n 0)) (hv : g_ok v) (hy : g_iy v ≤ g_iy (Y 4 n i)) : g_dy c E B (g_up Y 4 n i v) ∧ g_tot (g_up Y 4 n i v) = g_tot Y + g_iy v - g_iy (Y 4 n i) ∧ g_to4 (g_up Y 4 n i v) = g_to4 Y + g_iy v - g_iy (Y 4 n i) := by
  obtain ⟨h1, h2, h3, h4, h5⟩ := h
  have t1 := g_tot_f (v := v) hn hi
  have t4 := g_to4_f (v := v) hn hi
  have b1 := g_W_tot h1
  have b4 := g_W_to4 h1
  refine ⟨⟨g_W_ft h1 hn hi (Nat.le_refl _) h1.1 hv (by omega) (by omega), h2, by omega, by omega, h5⟩, t1, t4⟩
theorem g_dy_b {c E : Nat} {B : Int} {Y : GA} {h : Nat} {v : Int32} (hd : g_dy c E B Y) (hh : h < g_n (Y 0 0 0)) (hv : 0 ≤ v) (hB : B ≤ 400000 * (c + 1 : Nat)) (ht : g_tot Y + v.toInt - (Y 1 h 0).toInt ≤ B) : g_dy c E B (g_up Y 1 h 0 v) := by
  obtain ⟨h1, h2, h3, h4, h5⟩ := hd
  have t1 := g_tot_b (v := v) hh
  refine ⟨g_W_b0 h1 hh (Nat.le_refl _) h1.1 hv (by omega), h2, by omega, h4, h5⟩
theorem g_dy_d {c E : Nat} {B : Int} {Y : GA} {h : Nat} {v : Int32} (hd : g_dy c E B Y) (hh : h < g_n (Y 0 0 0)) (hv : 0 ≤ v) (hB : B ≤ 400000 * (c + 1 : Nat)) (ht : g_to4 Y + v.toInt - (Y 1 h 1).toInt ≤ B) : g_dy c E B (g_up Y 1 h 1 v) := by
  obtain ⟨h1, h2, h3, h4, h5⟩ := hd
  have t1 := g_to4_d (v := v) hh
  refine ⟨g_W_d1 h1 hh (Nat.le_refl _) h1.1 hv (by omega), h2, h3, by omega, h5⟩
/-- what stays while the young grow -/
def g_k1 (Y Y' : GA) : Prop := (∀ r, r ≠ 4 → r ≠ 1 → Y' r = Y r) ∧ (∀ a j, 2 ≤ j → Y' 1 a j = Y 1 a j)
theorem g_k1_0 (Y : GA) : g_k1 Y Y := ⟨fun _ _ _ => rfl, fun _ _ _ => rfl⟩
theorem g_k1_t {Y Y' Y'' : GA} (h : g_k1 Y Y') (g : g_k1 Y' Y'') : g_k1 Y Y'' := ⟨fun r h1 h2 => by rw [g.1 r h1 h2, h.1 r h1 h2], fun a j hj => by rw [g.2 a j hj, h.2 a j hj]⟩
theorem g_k1_f (Y : GA) (n i : Nat) (v : Int32) : g_k1 Y (g_up Y 4 n i v) := ⟨fun r h1 h2 => g_up_r h1, fun a j hj => g_up_ne (fun q => by omega)⟩
theorem g_k1_h (Y : GA) (h w : Nat) (v : Int32) (hw : w < 2) : g_k1 Y (g_up Y 1 h w v) := ⟨fun r h1 h2 => g_up_r h2, fun a j hj => g_up_ne (fun q => by omega)⟩
theorem e_181 (x : Int32) (S : QS) : f_181 x S = some (if x < 300 then 0 else 1, S) := by
  unfold f_181
  split <;> rfl
theorem g_iy_n {a : Nat} (ha : a < 424) : g_iy (nI a) = if 300 ≤ a then 1 else 0 := by
  unfold g_iy
  by_cases q : 300 ≤ a
  · rw [if_pos q, if_pos (show (300 : Int32) ≤ nI a from nI_le (a := 300) q (by omega))]
  · rw [if_neg q, if_neg (show ¬ (300 : Int32) ≤ nI a from nI_ge (b := 300) (by omega) (by omega))]
theorem g_okN_iff (a : Nat) : g_okN a = true ↔ (a ≤ 100 ∨ a = 200 ∨ (300 ≤ a ∧ a ≤ 320) ∨ (400 ≤ a ∧ a ≤ 423)) := by
  unfold g_okN
  simp only [Bool.or_eq_true, Bool.and_eq_true, beq_iff_eq, Nat.ble_eq]
  omega
theorem g_ok_nI {a : Nat} (h : a ≤ 100 ∨ a = 200 ∨ (300 ≤ a ∧ a ≤ 320) ∨ (400 ≤ a ∧ a ≤ 423)) : g_ok (nI a) := by
  rcases h with h | h | h | h
  · exact Or.inl ⟨nI_pos' (by omega), nI_le (b := 100) h (by omega)⟩
  · subst h
    exact Or.inr (Or.inl rfl)
  · exact Or.inr (Or.inr (Or.inl ⟨nI_le (a := 300) h.1 (by omega), nI_le (b := 320) h.2 (by omega)⟩))
  · exact Or.inr (Or.inr (Or.inr ⟨nI_le (a := 400) h.1 (by omega), nI_le (b := 423) h.2 (by omega)⟩))
theorem l_37 {wd : Int32} {c y n h E : Nat} {B : Int} {V : GA} {X Z : QS} (hn2 : n < 200) (h4 : h < 40) (hB : B ≤ 400000 * (c + 1 : Nat)) (x2 : Int32) (bk : Int32 → Int32 → QS → Option (Unit × QS)) : ∀ (m i p q : Nat) (Y : GA) (S T : QS), g_Cw wd y Y V X S → g_T Y V Z T → g_dy c E B Y → n < g_n (Y 0 1 0) → h < g_n (Y 0 0 0) → i + m = g_n (Y 3 n 0) → m < p → m < q → ∃ Y' S' T', b_37_2 p y n y h (nI i) S = some ((), S') ∧ b_252_33 bk q (nI h) x2 (nI n) (nI i) T = bk (nI h) (x2 + 1) T' ∧ g_Cw wd y Y' V X S' ∧ g_T Y' V Z T' ∧ g_dy c E B Y' ∧ g_k1 Y Y'
  | m, i, 0, _, _, _, _, _, _, _, _, _, _, h1, _ => by omega
  | m, i, _, 0, _, _, _, _, _, _, _, _, _, _, h2 => by omega
  | m, i, p + 1, q + 1, Y, S, T, hC, hT, hD, hn, hh, hm, h1, h2 => by
    have hW := hD.1
    have hz := hW.2.2.2.1 n hn
    have hz2 := hz.2
    rw [b_37_2, b_252_33, d_l hC hn hn2, t_195 hT hn2, x_bd, if_neg (nI_pos (show n < 2 ^ 31 by omega))]
    cases m with
    | zero =>
      have e : Y 3 n 0 ≤ nI i := (g_N_le hz (by omega) (by omega)).2 (by omega)
      unfold b_252_156
      rw [if_pos e, if_pos e]
      exact ⟨Y, S, T, rfl, rfl, hC, hT, hD, g_k1_0 Y⟩
    | succ m =>
      have e : ¬ Y 3 n 0 ≤ nI i := fun e => by rw [g_N_le hz (by omega) (by omega)] at e; omega
      obtain ⟨a, ha, ha2, ea⟩ := g_ok_N (hW.2.2.2.2.2.2.2.1 n i hn (by omega))
      rw [g_okN_iff] at ha2
      have next : ∀ Y1 S1 T1, g_Cw wd y Y1 V X S1 → g_T Y1 V Z T1 → g_dy c E B Y1 → g_k1 Y Y1 → ∃ Y' S' T', b_37_2 p y n y h (nI (i + 1)) S1 = some ((), S') ∧ b_252_33 bk q (nI h) x2 (nI n) (nI (i + 1)) T1 = bk (nI h) (x2 + 1) T' ∧ g_Cw wd y Y' V X S' ∧ g_T Y' V Z T' ∧ g_dy c E B Y' ∧ g_k1 Y Y' := by
        intro Y1 S1 T1 k1 k2 k3 k4
        have k0 : Y1 0 = Y 0 := k4.1 0 (by omega) (by omega)
        have k30 : Y1 3 = Y 3 := k4.1 3 (by omega) (by omega)
        obtain ⟨Y', S', T', j1, j2, j3, j4, j5, j6⟩ := l_37 hn2 h4 hB x2 bk m (i + 1) p q Y1 S1 T1 k1 k2 k3 (by rw [k0]; exact hn) (by rw [k0]; exact hh) (by rw [k30]; omega) (by omega) (by omega)
        exact ⟨Y', S', T', j1, j2, j3, j4, j5, g_k1_t k4 j6⟩
      rw [if_neg e, if_neg e, w_in (show i < 64 by omega) (by omega), nI_clamp (show i < 2 ^ 31 by omega), d_f hC hn hn2 (by omega) (by omega), t_196 hT hn2 (by omega), x_bd, ea, x_ck, x_let, e_181, x_bd]
      unfold b_37_93 b_252_150
      by_cases hy : a < 300
      · rw [if_pos (show nI a < 300 from nI_lt (b := 300) hy (by omega)), if_pos rfl, if_neg (show ¬ (300 : Int32) ≤ nI a from nI_ge (b := 300) hy (by omega)), nI_1]
        exact next Y S T hC hT hD (g_k1_0 Y)
      · rw [if_neg (show ¬ nI a < 300 from nI_nlt (b := 300) (by omega) (by omega)), if_neg (show ¬ (1 : Int32) = 0 from by decide), if_pos (show (300 : Int32) ≤ nI a from nI_le (a := 300) (by omega) (by omega)), x_ck, d_f hC hn hn2 (by omega) (by omega), ea, x_let, x_ck, nI_1 a]
        obtain ⟨S1, e1, hC1⟩ := ds_f hC hn2 (show i < 64 by omega) (nI (a + 1))
        rw [e1, x_let, x_ck, d_f hC1 (by exact hn) hn2 (show i < g_n (Y 3 n 0) by omega) (by omega), g_up_same, x_let]
        have iya := g_iy_n ha
        rw [if_pos (show 300 ≤ a by omega)] at iya
        have iy0 : g_iy 0 = 0 := rfl
        unfold b_252_87 b_252_92 b_252_111 b_252_127
        unfold b_252_150
        by_cases h321 : a = 320
        · subst h321
          rw [if_neg (show ¬ ¬ nI (320 + 1) = 321 from by decide), if_pos (show nI (320 + 1) = 321 from by decide), if_neg (show ¬ (1 : Int32) = 0 from by decide), x_ck]
          obtain ⟨S2, e2, hC2⟩ := ds_f hC1 hn2 (show i < 64 by omega) 0
          rw [g_up_up] at hC2
          obtain ⟨T1, f1, hT1⟩ := t_197 hT hn2 (show i < 64 by omega) 0
          obtain ⟨d1, t1, t4⟩ := g_dy_f hD hn (show i < g_n (Y 3 n 0) by omega) (v := 0) (Or.inl ⟨by decide, by decide⟩) (by rw [ea, iya, iy0]; omega)
          rw [e2, x_let, d_h0 hC2 (by exact hh) h4, f1, x_bd, if_pos (show nI 320 < 400 from by decide), if_neg (show ¬ (1 : Int32) = 0 from by decide), t_190_0 hT1 h4, x_bd]
          have vb : g_up Y 4 n i 0 1 h 0 = Y 1 h 0 := rfl
          have hb := (g_bees hW hh).1
          have hc5 := hW.1
          obtain ⟨s1, s2⟩ := g_addN hb (g_N_nI (a := 1) (m := 1) (by omega) (by omega)) (by omega)
          obtain ⟨S3, e3, hC3⟩ := ds_h0 hC2 h4 (Y 1 h 0 + 1)
          obtain ⟨T2, f2, hT2⟩ := t_191_0 hT1 h4 (Y 1 h 0 + 1)
          rw [vb, e3, x_let, f2, x_bd, nI_1]
          have d2 := g_dy_b d1 hh (v := Y 1 h 0 + 1) (g_N_nn s1 (by omega)) hB (by
            rw [t1, vb, ea, iya, iy0, show (Y 1 h 0 + 1).toInt = (Y 1 h 0).toInt + 1 from s2]
            have := hD.2.2.1
            omega)
          exact next _ S3 T2 hC3 hT2 d2 (g_k1_t (g_k1_f Y n i 0) (g_k1_h _ h 0 _ (by omega)))
        · have n321 : ¬ nI (a + 1) = 321 := fun p => by
            have := (nI_eq (a := a + 1) (b := 321) (by omega) (by omega)).1 p
            omega
          rw [if_pos n321, if_neg n321, x_ck, x_let]
          by_cases h424 : a = 423
          · subst h424
            rw [if_neg (show ¬ ¬ nI (423 + 1) = 424 from by decide), if_neg (show ¬ ¬ nI (423 + 1) = 424 from by decide), if_neg (show ¬ (1 : Int32) = 0 from by decide), x_ck]
            obtain ⟨S2, e2, hC2⟩ := ds_f hC1 hn2 (show i < 64 by omega) 0
            rw [g_up_up] at hC2
            obtain ⟨T1, f1, hT1⟩ := t_197 hT hn2 (show i < 64 by omega) 0
            obtain ⟨d1, t1, t4⟩ := g_dy_f hD hn (show i < g_n (Y 3 n 0) by omega) (v := 0) (Or.inl ⟨by decide, by decide⟩) (by rw [ea, iya, iy0]; omega)
            rw [e2, x_let, d_h1 hC2 (by exact hh) h4, f1, x_bd, if_neg (show ¬ nI 423 < 400 from by decide), if_neg (show ¬ (1 : Int32) = 0 from by decide), t_190_1 hT1 h4, x_bd]
            have vb : g_up Y 4 n i 0 1 h 1 = Y 1 h 1 := rfl
            have hb := (g_drh hW hh).1
            have hc5 := hW.1
            obtain ⟨s1, s2⟩ := g_addN hb (g_N_nI (a := 1) (m := 1) (by omega) (by omega)) (by omega)
            obtain ⟨S3, e3, hC3⟩ := ds_h1 hC2 h4 (Y 1 h 1 + 1)
            obtain ⟨T2, f2, hT2⟩ := t_191_1 hT1 h4 (Y 1 h 1 + 1)
            rw [vb, e3, x_let, f2, x_bd, nI_1]
            have d2 := g_dy_d d1 hh (v := Y 1 h 1 + 1) (g_N_nn s1 (by omega)) hB (by
              rw [t4, vb, ea, iya, iy0, show (Y 1 h 1 + 1).toInt = (Y 1 h 1).toInt + 1 from s2]
              have := hD.2.2.2.1
              omega)
            exact next _ S3 T2 hC3 hT2 d2 (g_k1_t (g_k1_f Y n i 0) (g_k1_h _ h 1 _ (by omega)))
          · have n424 : ¬ nI (a + 1) = 424 := fun p => by
              have := (nI_eq (a := a + 1) (b := 424) (by omega) (by omega)).1 p
              omega
            rw [if_pos n424, if_pos n424, if_pos rfl, nI_1 a]
            obtain ⟨T1, f1, hT1⟩ := t_197 hT hn2 (show i < 64 by omega) (nI (a + 1))
            have iy1 := g_iy_n (a := a + 1) (by omega)
            rw [if_pos (show 300 ≤ a + 1 by omega)] at iy1
            obtain ⟨d1, t1, t4⟩ := g_dy_f hD hn (show i < g_n (Y 3 n 0) by omega) (v := nI (a + 1)) (g_ok_nI (by omega)) (by rw [ea, iya, iy1]; omega)
            rw [f1, x_bd, nI_1]
            by_cases q4 : nI a < 400
            · rw [if_pos q4, if_pos rfl]
              exact next _ S1 T1 hC1 hT1 d1 (g_k1_f Y n i _)
            · rw [if_neg q4, if_pos rfl]
              exact next _ S1 T1 hC1 hT1 d1 (g_k1_f Y n i _)
theorem l_116 {wd : Int32} {c y h E : Nat} {B : Int} {V : GA} {X Z : QS} (h4 : h < 40) (hB : B ≤ 400000 * (c + 1 : Nat)) : ∀ (m i p q : Nat) (Y : GA) (S T : QS), g_Cw wd y Y V X S → g_T Y V Z T → g_dy c E B Y → h < g_n (Y 0 0 0) → i + m = 12 * g_n (Y 1 h 10) → m < p → m < q → ∃ Y' S' T', b_116_2 p y y h (nI i) S = some ((), S') ∧ b_252_5 q (nI h) (nI (96 * h + i)) T = some ((), T') ∧ g_Cw wd y Y' V X S' ∧ g_T Y' V Z T' ∧ g_dy c E B Y' ∧ g_k1 Y Y'
  | m, i, 0, _, _, _, _, _, _, _, _, _, h1, _ => by omega
  | m, i, _, 0, _, _, _, _, _, _, _, _, _, h2 => by omega
  | m, i, p + 1, q + 1, Y, S, T, hC, hT, hD, hh, hm, h1, h2 => by
    have hW := hD.1
    have hb := (hW.2.2.1 h hh).2
    rw [b_116_2, b_252_5, d_45 hC hW hh h4, x_bd, t_190_10 hT h4, x_bd, g_end hW hh]
    cases m with
    | zero =>
      rw [if_pos (nI_le (by omega) (by omega)), if_pos (nI_le (by omega) (by omega))]
      exact ⟨Y, S, T, rfl, rfl, hC, hT, hD, g_k1_0 Y⟩
    | succ m =>
      rw [if_neg (nI_ge (by omega) (by omega)), if_neg (nI_ge (by omega) (by omega)), w_in (show i < 96 by omega) (by omega), nI_clamp (show i < 2 ^ 31 by omega), x_ck, x_let, d_p hC hh h4 (by omega) (by omega), t_194 hT h4 (by omega), x_bd]
      unfold b_116_34
      rcases hW.2.2.2.2.1 h i h4 (by omega) with e | ⟨_, _, n, hn, e⟩
      · rw [e, if_pos rfl, show q_N = 19999 + 1 from rfl, b_252_33, if_pos (show (-1 : Int32) < 0 from by decide)]
        unfold b_252_156
        rw [nI_1, nI_1]
        exact l_116 h4 hB m (i + 1) p q Y S T hC hT hD hh (by omega) (by omega) (by omega)
      · have n12 := hW.2.1.2.1.2
        have hl2 := (hW.2.2.2.1 n hn).2
        obtain ⟨Y1, S1, T1, i2, i3, i4, i5, i6, i7⟩ := l_37 (c := c) (y := y) (V := V) (X := X) (Z := Z) (n := n) (h := h) (by omega) h4 hB (nI (96 * h + i)) (b_252_5 q) (g_n (Y 3 n 0)) 0 q_N q_N Y S T hC hT hD hn hh (by omega) (by unfold q_N; omega) (by unfold q_N; omega)
        rw [e, if_neg (g_nI_m1 (by omega)), x_ck, x_let, d_92 hC hn (by omega), x_bd]
        dsimp only
        rw [show f_37 y n y h S = _ from i2, x_bd, show b_252_33 (b_252_5 q) q_N (nI h) (nI (96 * h + i)) (nI n) 0 T = _ from i3, nI_1, nI_1]
        have k0 : Y1 0 = Y 0 := i7.1 0 (by omega) (by omega)
        have k10 : Y1 1 h 10 = Y 1 h 10 := i7.2 h 10 (by omega)
        obtain ⟨Y2, S2, T2, j2, j3, j4, j5, j6, j7⟩ := l_116 h4 hB m (i + 1) p q Y1 S1 T1 i4 i5 i6 (by rw [k0]; exact hh) (by rw [k10]; omega) (by omega) (by omega)
        exact ⟨Y2, S2, T2, j2, j3, j4, j5, j6, g_k1_t i7 j7⟩
