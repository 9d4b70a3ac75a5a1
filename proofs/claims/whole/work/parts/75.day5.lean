/-! ===== the whole day ===== -/
theorem x_as {α β : Type} (e : Option (α × QS)) (f : α → QS → Option (β × QS)) {γ : Type} (k : β → QS → Option γ) : q_bd e (fun r S => q_bd (f r S) k) = q_bd (q_bd e f) k := by
  unfold q_bd
  cases e with
  | none => rfl
  | some q => rfl
theorem l_115t {wd : Int32} {c y E : Nat} {B : Int} {V : GA} {X Z : QS} (hE : E + 2 ≤ 60 * (c + 1)) (x1 x2 : Int32) (bk : Int32 → Int32 → QS → Option (Int32 × QS)) : ∀ (m t p q : Nat) (Y : GA) (S T : QS), g_Cw wd y Y V X S → g_T Y V Z T → g_W (c + 1) Y → (∀ k, k < t → g_N (Y 6 k 1) (E + 2)) → (∀ k, t ≤ k → k < g_n (Y 0 2 0) → g_N (Y 6 k 1) E) → g_tot Y ≤ B → g_to4 Y ≤ B → g_hu Y ≤ B → t + m = g_n (Y 0 2 0) → m < p → m < q → ∃ Y' S' T', b_115_12 p y (nI t) S = b_115_37 q_N y 0 S' ∧ b_257_30 bk q x1 x2 (nI t) T = b_257_59 bk q_N x1 x2 0 T' ∧ g_Cw wd y Y' V X S' ∧ g_T Y' V Z T' ∧ g_dy c (E + 2) B Y' ∧ g_ss Y Y'
  | m, t, 0, _, _, _, _, _, _, _, _, _, _, _, _, _, h1, _ => by omega
  | m, t, _, 0, _, _, _, _, _, _, _, _, _, _, _, _, _, h2 => by omega
  | m, t, p + 1, q + 1, Y, S, T, hC, hT, hW, ha, hb, ht1, ht4, hhu, hm, h1, h2 => by
    have n2 := hW.2.1.2.2.1
    have n22 := n2.2
    have hc5 := hW.1
    rw [b_115_12, b_257_30, d_n2 hC, w_i2, w_c2, t_n2 hT, x_ck, x_let]
    cases m with
    | zero =>
      have e : Y 0 2 0 ≤ nI t := (g_N_le n2 (by omega) (by omega)).2 (by omega)
      rw [if_pos e, if_pos e]
      exact ⟨Y, S, T, rfl, rfl, hC, hT, ⟨hW, fun k hk => ha k (by omega), ht1, ht4, hhu⟩, ⟨rfl, rfl, ⟨rfl, rfl⟩, rfl⟩⟩
    | succ m =>
      have e : ¬ Y 0 2 0 ≤ nI t := fun e => by rw [g_N_le n2 (by omega) (by omega)] at e; omega
      have htt : t < g_n (Y 0 2 0) := by omega
      have ht2 : t < 200 := by omega
      obtain ⟨Y9, d, l, S1, T1, o9, hd, hl, e1, e2, hC1, hT1⟩ := d_10 hC hT htt ht2 (hW.2.2.2.2.2.2.2.2.1 t htt).1
      rw [if_neg e, if_neg e, d_93 hC htt ht2, x_bd]
      dsimp only
      rw [e1, x_bd, x_as, e2, x_bd, nI_1]
      have w9 := g_W_o9 o9 hW
      have z9 : Y9 0 = Y 0 := o9 0 (by omega)
      have s9 : Y9 6 = Y 6 := o9 6 (by omega)
      have htt9 : t < g_n (Y9 0 2 0) := by rw [z9]; exact htt
      have hdN : g_N d (E + 2) := by
        have q := hb t (Nat.le_refl t) htt
        rcases hd with hd | hd
        · rw [hd]
          exact g_N_mono (g_addN q (g_N_nI (a := 1) (m := 1) (by omega) (by omega)) (by omega)).1 (by omega)
        · rw [hd]
          exact (g_addN q (g_N_nI (a := 2) (m := 2) (by omega) (by omega)) (by omega)).1
      have w1 : g_W (c + 1) (g_up Y9 6 t 1 d) := g_W_t w9 htt9 (by omega) (Nat.le_refl _) hc5 (fun _ => g_N_mono hdN hE) (fun q => by omega) (fun q => by omega) (fun q => by omega)
      have hlo := g_lo hW htt
      obtain ⟨q1, q2, q3⟩ := g_divN (d := 10) hlo (by omega) (by omega) (by omega)
      have hlN : g_N l (400000 * (c + 1)) ∧ l.toInt ≤ (Y 6 t 6).toInt := by
        rcases hl with hl | hl
        · rw [hl]; exact ⟨hlo, by omega⟩
        · rw [hl]
          have := g_N_ti q1 (by omega)
          exact ⟨q2, by
            have q3' : (Y 6 t 6 - Y 6 t 6 / 10).toInt = (Y 6 t 6).toInt - (Y 6 t 6 / 10).toInt := q3
            have t0 : 0 ≤ (Y 6 t 6 / 10).toInt := this.1
            omega⟩
      have tot9 : g_tot (g_up Y9 6 t 1 d) = g_tot Y := by
        have : g_tot (g_up Y9 6 t 1 d) = g_tot Y9 := rfl
        rw [this]
        unfold g_tot
        rw [z9, s9, o9 1 (by omega), o9 3 (by omega), o9 4 (by omega)]
      have v6 : g_up Y9 6 t 1 d 6 t 6 = Y 6 t 6 := by
        rw [g_up_ne (fun q => by omega), s9]
      have bt := g_W_tot hW
      have w2 : g_W (c + 1) (g_up (g_up Y9 6 t 1 d) 6 t 6 l) := g_W_l6 w1 htt9 (Nat.le_refl _) hc5 (g_N_nn hlN.1 (by omega)) (by rw [tot9, v6]; omega)
      have tl := g_tot_l (Y := g_up Y9 6 t 1 d) (t := t) (v := l) htt9
      have sh : g_ss Y (g_up (g_up Y9 6 t 1 d) 6 t 6 l) := ⟨by show Y9 0 0 0 = _; rw [z9], by show Y9 0 1 0 = _; rw [z9], ⟨by show Y9 0 2 0 = _; rw [z9], by show Y9 0 3 0 = _; rw [z9]⟩, by rw [g_up_r (by omega), g_up_r (by omega), o9 10 (by omega)]⟩
      have dys : ∀ k, k ≠ t → g_up (g_up Y9 6 t 1 d) 6 t 6 l 6 k 1 = Y 6 k 1 := fun k hk => by
        rw [g_up_ne (fun q => by omega), g_up_ne (fun q => hk q.2.1), s9]
      have dyt : g_up (g_up Y9 6 t 1 d) 6 t 6 l 6 t 1 = d := by
        rw [g_up_ne (fun q => by omega), g_up_same]
      obtain ⟨Y', S', T', i1, i2, i3, i4, i5, i6⟩ := l_115t (B := B) hE x1 x2 bk m (t + 1) p q _ S1 T1 hC1 hT1 w2 (fun k hk => by
        by_cases ek : k = t
        · rw [ek, dyt]; exact hdN
        · rw [dys k ek]; exact ha k (by omega)) (fun k hk hk2 => by
        rw [dys k (by omega)]
        rw [sh.2.2.1.1] at hk2
        exact hb k (by omega) hk2) (by rw [tl, tot9, v6]; omega) (by
        have : g_to4 (g_up (g_up Y9 6 t 1 d) 6 t 6 l) = g_to4 Y9 := rfl
        rw [this]
        unfold g_to4 at ht4 ⊢
        rw [z9, o9 1 (by omega), o9 3 (by omega), o9 4 (by omega)]
        exact ht4) (by
        have : g_hu (g_up (g_up Y9 6 t 1 d) 6 t 6 l) = g_hu Y9 := rfl
        rw [this]
        unfold g_hu at hhu ⊢
        rw [z9, o9 1 (by omega)]
        exact hhu) (by rw [sh.2.2.1.1]; omega) (by omega) (by omega)
      exact ⟨Y', S', T', i1, i2, i3, i4, i5, g_ss_t sh i6⟩
theorem l_115h {wd : Int32} {c y E : Nat} {V : GA} {X Z : QS} (hE : E ≤ 60 * (c + 1)) (x1 x2 : Int32) (bk : Int32 → Int32 → QS → Option (Int32 × QS)) : ∀ (m h p q : Nat) (B : Int) (Y : GA) (S T : QS), g_Cw wd y Y V X S → g_T Y V Z T → g_dy c E B Y → B + 304 * m ≤ 400000 * (c + 1 : Nat) → h + m = g_n (Y 0 0 0) → m < p → m < q → ∃ Y' S' T', b_115_37 p y (nI h) S = some ((), S') ∧ b_257_59 bk q x1 x2 (nI h) T = b_257_59 bk 1 x1 x2 (nI (g_n (Y 0 0 0))) T' ∧ g_Cw wd y Y' V X S' ∧ g_T Y' V Z T' ∧ g_dy c E (B + 304 * m) Y' ∧ g_ss Y Y'
  | m, h, 0, _, _, _, _, _, _, _, _, _, _, h1, _ => by omega
  | m, h, _, 0, _, _, _, _, _, _, _, _, _, _, h2 => by omega
  | m, h, p + 1, q + 1, B, Y, S, T, hC, hT, hD, hB, hm, h1, h2 => by
    have hW := hD.1
    have n0 := hW.2.1.1
    have n02 := n0.2
    have hc5 := hW.1
    cases m with
    | zero =>
      have e : Y 0 0 0 ≤ nI h := (g_N_le n0 (by omega) (by omega)).2 (by omega)
      rw [b_115_37, d_n0 hC, if_pos e]
      refine ⟨Y, S, T, rfl, ?_, hC, hT, g_dy_mono hD (by omega), ⟨rfl, rfl, ⟨rfl, rfl⟩, rfl⟩⟩
      rw [show h = g_n (Y 0 0 0) by omega, b_257_59, b_257_59, w_i0, w_c0, t_n0 hT]
      simp only [x_ck, x_let]
      have e' : Y 0 0 0 ≤ nI (g_n (Y 0 0 0)) := (g_N_le n0 (by omega) (by omega)).2 (Nat.le_refl _)
      rw [if_pos e', if_pos e']
    | succ m =>
      have hh : h < g_n (Y 0 0 0) := by omega
      have h4 : h < 40 := by omega
      have hb := (hW.2.2.1 h hh).2
      have e : ¬ Y 0 0 0 ≤ nI h := fun e => by rw [g_N_le n0 (by omega) (by omega)] at e; omega
      rw [b_115_37, b_257_59, d_n0 hC, if_neg e, w_i0, w_c0, t_n0 hT, x_ck, x_let, if_neg e, d_91 hC hh h4, x_bd]
      dsimp only
      obtain ⟨Y1, S1, T1, i1, i2, i3, i4, i5, i6⟩ := l_116 (wd := wd) (c := c) (y := y) (E := E) (V := V) (X := X) (Z := Z) (h := h) h4 (show B ≤ 400000 * (c + 1 : Nat) by omega) (12 * g_n (Y 1 h 10)) 0 q_N q_N Y S T hC hT hD hh (by omega) (by unfold q_N; omega) (by unfold q_N; omega)
      unfold f_252
      rw [show f_116 y y h S = _ from i1, x_bd, (g_mul96 h).1, x_let, show b_252_5 q_N (nI h) (nI (96 * h)) T = _ from i2, x_bd]
      have s1 := g_ss_k1 i6
      have hh1 : h < g_n (Y1 0 0 0) := by rw [s1.1]; exact hh
      obtain ⟨Y2, S2, T2, j1, j2, j3, j4, j5, j6⟩ := p_lay h4 hE (show B + 205 ≤ 400000 * (c + 1 : Nat) by omega) i3 i4 i5 hh1
      rw [x_as, j1, x_bd, j2, x_bd]
      have hh2 : h < g_n (Y2 0 0 0) := by rw [j6.1]; exact hh1
      obtain ⟨Y3, S3, T3, k1, k2, k3, k4, k5, k6⟩ := p_eat h4 (show B + 205 + 99 ≤ 400000 * (c + 1 : Nat) by omega) j3 j4 j5 hh2
      rw [k1, x_bd, k2, x_bd]
      have hh3 : h < g_n (Y3 0 0 0) := by rw [k6.1]; exact hh2
      have hbe := (g_bees k5.1 hh3).1
      obtain ⟨q1, q2, q3⟩ := g_divN (d := 40) hbe (by omega) (by omega) (by omega)
      rw [d_h0 k3 hh3 h4, t_190_0 k4 h4, x_bd, t_190_0 k4 h4, x_bd]
      obtain ⟨S4, e5, hC4⟩ := ds_h0 k3 h4 (Y3 1 h 0 - Y3 1 h 0 / 40)
      obtain ⟨T4, e6, hT4⟩ := t_191_0 k4 h4 (Y3 1 h 0 - Y3 1 h 0 / 40)
      rw [e5, x_let, e6, x_bd, nI_1]
      have hD4 := g_dy_b k5 hh3 (v := Y3 1 h 0 - Y3 1 h 0 / 40) (g_N_nn q2 (by omega)) (show B + 205 + 99 ≤ 400000 * (c + 1 : Nat) by omega) (by
        have t0 := (g_N_ti q1 (by omega)).1
        have q3' : (Y3 1 h 0 - Y3 1 h 0 / 40).toInt = (Y3 1 h 0).toInt - (Y3 1 h 0 / 40).toInt := q3
        have t0' : 0 ≤ (Y3 1 h 0 / 40).toInt := t0
        have := k5.2.2.1
        omega)
      have sall : g_ss Y (g_up Y3 1 h 0 (Y3 1 h 0 - Y3 1 h 0 / 40)) := g_ss_t s1 (g_ss_t j6 (g_ss_t k6 ⟨rfl, rfl, ⟨rfl, rfl⟩, g_up_r (by omega)⟩))
      obtain ⟨Y', S', T', r1, r2, r3, r4, r5, r6⟩ := l_115h hE x1 x2 bk m (h + 1) p q (B + 304) _ S4 T4 hC4 hT4 (g_dy_mono hD4 (by omega)) (by omega) (by rw [sall.1]; omega) (by omega) (by omega)
      rw [sall.1] at r2
      exact ⟨Y', S', T', r1, r2, r3, r4, g_dy_mono r5 (by omega), g_ss_t sall r6⟩
theorem l_150 {c y N : Nat} {V : GA} {X Z : QS} (hN : N ≤ 30) (hW0 : g_W c V) : ∀ (m j p q : Nat) (Y : GA) (S T : QS), g_C y Y V X S → g_T Y V Z T → g_dy c (60 * c + 2 * j) (400000 * c + 12160 * j) Y → Y 10 3 0 = 1 → j + m = N → m < p → m < q → g_Ok (c + 1) X Z (b_150_24 p (nI N) (nI j) S) (b_257_23 q (nI N) (nI j) T)
  | m, j, 0, _, _, _, _, _, _, _, _, _, h1, _ => by omega
  | m, j, _, 0, _, _, _, _, _, _, _, _, _, h2 => by omega
  | m, j, p + 1, q + 1, Y, S, T, hC, hT, hD, h10, hm, h1, h2 => by
    have hW := hD.1
    have n22 := hW.2.1.2.2.1.2
    have n02 := hW.2.1.1.2
    rw [b_150_24, b_257_23, c_now hC]
    simp only [w_eta]
    cases m with
    | zero =>
      rw [if_pos (nI_le (by omega) (by omega)), if_pos (nI_le (by omega) (by omega)), c_n3 hC, w_i3, w_c3, t_n3 hT, x_ck, x_let]
      exact g_fin hC hT hW hW0 (Nat.le_succ c) h10 _
    | succ m =>
      rw [if_neg (nI_ge (by omega) (by omega)), if_neg (nI_ge (by omega) (by omega))]
      unfold f_115
      obtain ⟨S1, e1, hC1⟩ := cs_n3 hC (Y 0 3 0 + 1)
      have hC1' : g_Cw (Y 0 3 0 + 1) y Y V X S1 := hC1
      rw [c_n3 hC, e1, x_let]
      obtain ⟨Y2, S2, T2, i1, i2, i3, i4, i5, i6⟩ := l_115t (wd := Y 0 3 0 + 1) (c := c) (y := y) (E := 60 * c + 2 * j) (B := 400000 * c + 12160 * j) (V := V) (X := X) (Z := Z) (by omega) (nI N) (nI j) (b_257_23 q) (g_n (Y 0 2 0)) 0 q_N q_N Y S1 T hC1' hT hW (fun k hk => by omega) (fun k _ hk => hD.2.1 k hk) hD.2.2.1 hD.2.2.2.1 hD.2.2.2.2 (by omega) (by unfold q_N; omega) (by unfold q_N; omega)
      rw [show b_115_12 q_N y 0 S1 = _ from i1, show b_257_30 (b_257_23 q) q_N (nI N) (nI j) 0 T = _ from i2]
      have n02' : g_n (Y2 0 0 0) ≤ 40 := i5.1.2.1.1.2
      obtain ⟨Y3, S3, T3, k1, k2, k3, k4, k5, k6⟩ := l_115h (wd := Y 0 3 0 + 1) (c := c) (y := y) (E := 60 * c + 2 * j + 2) (V := V) (X := X) (Z := Z) (by omega) (nI N) (nI j) (b_257_23 q) (g_n (Y2 0 0 0)) 0 q_N q_N (400000 * c + 12160 * j) Y2 S2 T2 i3 i4 i5 (by omega) (by omega) (by unfold q_N; omega) (by unfold q_N; omega)
      rw [show b_115_37 q_N y 0 S2 = _ from k1, x_bd, show b_257_59 (b_257_23 q) q_N (nI N) (nI j) 0 T2 = _ from k2, nI_1]
      have sall := g_ss_t i6 k6
      have n0 := k5.1.2.1.1
      have n02'' := n0.2
      have e2 : g_n (Y2 0 0 0) = g_n (Y3 0 0 0) := by rw [k6.1]
      rw [e2, b_257_59, w_i0, w_c0, t_n0 k4, w_i3, w_c3, t_n3 k4]
      simp only [x_ck, x_let]
      rw [if_pos ((g_N_le n0 (by omega) (by omega)).2 (Nat.le_refl _)), nI_1, sall.2.2.1.2]
      obtain ⟨T4, f4, hT4⟩ := ts_n3 k4 (Y 0 3 0 + 1)
      rw [f4]
      refine l_150 hN hW0 m (j + 1) p q (g_up Y3 0 3 0 (Y 0 3 0 + 1)) S3 T4 k3 hT4 ?_ ?_ (by omega) (by omega) (by omega)
      · have hD3 := g_dy_mono (B' := 400000 * c + 12160 * (j + 1 : Nat)) k5 (by omega)
        exact ⟨g_W_0 hD3.1 (by omega) (by omega), fun t ht => g_N_mono (hD3.2.1 t ht) (by omega), hD3.2.2.1, hD3.2.2.2.1, hD3.2.2.2.2⟩
      · show Y3 10 3 0 = 1
        rw [sall.2.2.2]
        exact h10
theorem jj_150 {c y : Nat} {Y V : GA} {X Z S T : QS} (hc : c < 512) (h : g_R c y Y V X Z S T) (x : Int32) : g_Ok (c + 1) X Z (f_150 x S) (f_257 x T) := by
  obtain ⟨hC, hT, hW, hV, hU⟩ := id h
  have hm := g_R_mono h (Nat.le_succ c) (by omega)
  unfold f_150 f_257 f_189 b_150_11
  simp only [w_eta]
  by_cases h1 : x < 1
  · rw [if_pos h1, if_pos h1, x_bd, if_neg (show ¬ ¬ (0 : Int32) = 0 from by decide)]
    exact g_refuse hm _
  · rw [if_neg h1, if_neg h1]
    by_cases h2 : x ≤ 30
    · rw [if_pos h2, if_neg ((g_nle _ _).1 h2), x_bd, if_pos (show ¬ (1 : Int32) = 0 from by decide)]
      obtain ⟨N, hN, rfl⟩ := nI_of2 (x := x) (M := 30) (n := 30) (by decide) (fun q => h1 (by
        rw [Int32.lt_iff_toInt_lt, show (0 : Int32).toInt = 0 from by decide] at q
        rw [Int32.lt_iff_toInt_lt, show (1 : Int32).toInt = 1 from by decide]
        omega)) h2
      obtain ⟨S1, T1, e1, e2, hk⟩ := k_keep h
      obtain ⟨kC, kT, kW, _, _⟩ := id hk
      rw [e1, e2, x_bd, x_bd]
      refine l_150 hN hW N 0 q_N q_N _ S1 T1 kC kT ?_ (g_up_same _ _ _ _ _) (by omega) (by unfold q_N; omega) (by unfold q_N; omega)
      have b1 := g_W_tot kW
      have b2 := g_W_to4 kW
      have b3 := g_W_hu kW
      exact ⟨g_W_mono kW (Nat.le_succ c) (by omega), fun t ht => g_N_mono (kW.2.2.2.2.2.2.2.2.1 t ht).2.1 (by omega), by omega, by omega, by omega⟩
    · rw [if_neg h2, if_pos (Decidable.not_not.1 (fun q => h2 ((g_nle _ _).2 q))), x_bd, if_neg (show ¬ ¬ (0 : Int32) = 0 from by decide)]
      exact g_refuse hm _
