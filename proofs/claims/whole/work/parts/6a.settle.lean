/-! ===== settle; bring ===== -/
theorem e_87 {y : Nat} {Y V : GA} {X S : QS} (hC : g_C y Y V X S) {t : Nat} (ht : t < g_n (Y 0 2 0)) (h2 : t < 200) (hk : g_N (Y 6 t 0) 5) : f_87 y t S = some (if 4 ≤ Y 6 t 0 then 1 else 0, S) := by
  unfold f_87 b_87_16
  rw [c_t0 hC ht h2]
  rcases g_kn hk with e | e | e | e | e | e <;> rw [e] <;> rfl
theorem g_car_le {k l : Int32} {m : Nat} (hl : g_N l m) (hm : m < 2 ^ 31) : g_N (g_car k l) m ∧ (g_car k l).toInt ≤ l.toInt := by
  have h0 := g_N_ti hl hm
  unfold g_car
  by_cases q : k < 4
  · rw [if_pos q]
    exact ⟨g_N_nI (a := 0) (by omega) hm, by show (0 : Int) ≤ _; omega⟩
  · rw [if_neg q]
    by_cases p : k = 5
    · rw [if_pos p]
      by_cases r : 1000 < l
      · rw [if_pos r]
        rw [Int32.lt_iff_toInt_lt, show (1000 : Int32).toInt = 1000 from by decide] at r
        exact ⟨g_N_nI (a := 1000) (by omega) hm, by show (1000 : Int) ≤ _; omega⟩
      · rw [if_neg r]
        exact ⟨hl, by omega⟩
    · rw [if_neg p]
      exact ⟨hl, by omega⟩
theorem p_152 {c y : Nat} {Y V : GA} {X Z S T : QS} (h : g_R c y Y V X Z S T) {k t : Nat} (a1 : k < g_n (Y 0 0 0)) (a2 : k < 40) (b1 : t < g_n (Y 0 2 0)) (b2 : t < 200) : g_Ok c X Z (b_152_36 (nI t) (nI k) 0 S) (b_259_32 (nI t) (nI k) 0 T) := by
  obtain ⟨hC, hT, hW, hV, hU⟩ := id h
  unfold b_152_36 b_259_32
  rw [if_pos rfl, if_pos (show (0 : Int32) ≤ 0 from by decide)]
  obtain ⟨S1, T1, e1, e2, hk⟩ := k_keep h
  obtain ⟨kC, kT, kW, _, _⟩ := id hk
  have hkind := (kW.2.2.2.2.2.2.2.2.1 t b1).1
  obtain ⟨Y2, S2, T2, e3, e4, hC2, hT2, o9⟩ := e_4 kC kT b1 b2 hkind
  have w2 := g_W_o9 o9 kW
  have a1' : k < g_n (Y2 0 0 0) := by rw [o9 0 (by omega)]; exact a1
  have b1' : t < g_n (Y2 0 2 0) := by rw [o9 0 (by omega)]; exact b1
  rw [e1, e2, x_bd, x_bd, c_now kC, c_93 kC b1 b2, x_bd]
  dsimp only
  rw [e3, e4, x_bd, x_bd, c_now hC2, c_91 hC2 a1' a2, x_bd, t_190_0 hT2 a2, x_bd]
  have h10 : Y2 10 3 0 = 1 := by rw [o9 10 (by omega)]; rfl
  have hlo := g_lo w2 b1'
  have hbe := (g_bees w2 a1').1
  have hc5 := hW.1
  have ecar : g_car (g_up Y 10 3 0 1 6 t 0) (g_up Y 10 3 0 1 6 t 6) = g_car (Y2 6 t 0) (Y2 6 t 6) := by rw [o9 6 (by omega)]
  rw [ecar]
  obtain ⟨n1, n2⟩ := g_car_le (k := Y2 6 t 0) hlo (by omega)
  generalize g_car (Y2 6 t 0) (Y2 6 t 6) = n at n1 n2 ⊢
  obtain ⟨s1, s2⟩ := g_addN hbe n1 (by omega)
  unfold f_51 b_51_31 b_259_98
  simp only [w_eta]
  rw [c_h0 hC2 a1' a2]
  obtain ⟨S3, e5, hC3⟩ := cs_h0 hC2 a2 (Y2 1 k 0 + n)
  obtain ⟨T3, f5, hT3⟩ := t_191_0 hT2 a2 (Y2 1 k 0 + n)
  obtain ⟨S4, e6, hC4⟩ := cs_t6 hC3 b2 0
  obtain ⟨T4, f6, hT4⟩ := t_193_6 hT3 b2 0
  rw [e5, x_let, f5, x_bd, e6, x_let, f6, x_bd, c_h3 hC4 a1' a2, t_190_3 hT4 a2, x_bd, t_192_7 hT4 b2]
  have es : g_up (g_up Y2 1 k 0 (Y2 1 k 0 + n)) 6 t 6 0 1 k 3 = Y2 1 k 3 := rfl
  have ei : g_up (g_up Y2 1 k 0 (Y2 1 k 0 + n)) 6 t 6 0 6 t 7 = Y2 6 t 7 := rfl
  rw [es, ei]
  have z0 : (0 : Int32).toInt = 0 := by decide
  have w3 : g_W c (g_up Y2 6 t 6 0) := g_W_l6 w2 b1' (Nat.le_refl c) hc5 (by decide) (by
    have := g_W_tot w2
    have := g_N_ti hlo (by omega)
    rw [z0]
    omega)
  have w4 : g_W c (g_up (g_up Y2 6 t 6 0) 1 k 0 (Y2 1 k 0 + n)) := g_W_b0 w3 a1' (Nat.le_refl c) hc5 (g_N_nn s1 (by omega)) (by
    rw [g_tot_l b1', z0]
    have := g_W_tot w2
    have := g_N_ti hlo (by omega)
    rw [show g_up Y2 6 t 6 0 1 k 0 = Y2 1 k 0 from rfl, s2]
    omega)
  rw [g_up_comm (fun q => by omega)] at hC4 hT4
  have wS := w2.2.2.2.2.2.2.2.2.2.1 k a1'
  have wI := w2.2.2.2.2.2.2.2.2.2.2.1
  have wT := w2.2.2.2.2.2.2.2.2.1 t b1'
  have n22 := w2.2.1.2.2.1.2
  have w5 : g_W c (g_up (g_up (g_up Y2 6 t 6 0) 1 k 0 (Y2 1 k 0 + n)) 6 t 7 (-1)) := g_W_t w4 b1' (by omega) (Nat.le_refl c) hc5 (fun q => by omega) (fun q => by omega) (fun q => by omega) (fun _ => Or.inl rfl)
  rcases wS.2.1 with e | ⟨s, hs, e⟩
  · rw [e, if_neg (show ¬ ¬ (-1 : Int32) = -1 from by decide), if_neg (show ¬ (0 : Int32) ≤ -1 from by decide), x_bd, c_t7 hC4 b1' b2]
    have ei2 : g_up (g_up Y2 6 t 6 0) 1 k 0 (Y2 1 k 0 + n) 6 t 7 = Y2 6 t 7 := rfl
    rw [ei2]
    obtain ⟨S5, e7, hC5⟩ := cs_h3 hC4 a2 (Y2 6 t 7)
    obtain ⟨T5, f7, hT5⟩ := t_191_3 hT4 a2 (Y2 6 t 7)
    obtain ⟨S6, e8, hC6⟩ := cs_t7 hC5 b2 (-1)
    obtain ⟨T6, f8, hT6⟩ := t_193_7 hT5 b2 (-1)
    rw [e7, x_let, e8, x_let, x_bd, f7, x_bd, f8, x_bd]
    rw [g_up_comm (fun q => by omega)] at hC6 hT6
    have w6 : g_W c (g_up (g_up (g_up (g_up Y2 6 t 6 0) 1 k 0 (Y2 1 k 0 + n)) 6 t 7 (-1)) 1 k 3 (Y2 6 t 7)) := by
      refine g_W_sl w5 a1' ?_
      by_cases q : Y2 6 t 7 = -1
      · exact Or.inl q
      · refine Or.inr ⟨g_M_of wT.2.2.2.2.2.2 q, ?_, ?_⟩
        · intro j hj _ p
          have p2 : Y2 1 j 3 = Y2 6 t 7 := p
          have := wI.2.2 j t hj b1' p2
          exact q (p2.symm.trans this)
        · intro j hj p
          by_cases ej : j = t
          · subst ej
            rw [g_up_same] at p
            exact q p.symm
          · rw [g_up_ne (fun r => ej r.2.1)] at p
            have p2 : Y2 6 j 7 = Y2 6 t 7 := p
            exact ej (wI.2.1 j t hj b1' p2 (by rw [p2]; exact q))
    exact g_fin hC6 hT6 w6 hW (Nat.le_refl c) h10 _
  · rw [e, if_pos (g_nI_m1 (by omega)), if_pos (nI_pos' (by omega))]
    obtain ⟨S6, e8, hC6⟩ := cs_t7 hC4 b2 (-1)
    obtain ⟨T6, f8, hT6⟩ := t_193_7 hT4 b2 (-1)
    rw [e8, x_let, x_bd, f8, x_bd]
    exact g_fin hC6 hT6 w5 hW (Nat.le_refl c) h10 _
theorem jj_152 {c y : Nat} {Y V : GA} {X Z S T : QS} (h : g_R c y Y V X Z S T) (x z : Int32) : g_Ok c X Z (f_152 x z S) (f_259 x z T) := by
  obtain ⟨hC, hT, hW, hV, hU⟩ := id h
  unfold f_152 f_259
  rw [c_174 hC, t_199 hT]
  simp only [x_bd]
  have no : ∀ e, ¬ e = 0 → ¬ e ≤ 0 → g_Ok c X Z (b_152_36 x z e S) (b_259_32 x z e T) := by
    intro e h1 h2
    unfold b_152_36 b_259_32
    rw [if_neg h1, if_neg h2, w_eta, w_eta]
    exact g_refuse h _
  rcases g_tw_cases hW x with q | ⟨q, t, b1, b2, rfl⟩
  · rw [if_pos (g_12a q), if_pos (g_12a q)]
    unfold b_152_26 b_259_22
    rw [if_pos (g_12a q), if_pos (g_12a q)]
    exact no _ (g_12a q) (g_12b q)
  · rw [if_neg (show ¬ ¬ g_tw Y (nI t) = 0 from fun p => p q), if_neg (show ¬ ¬ g_tw Y (nI t) = 0 from fun p => p q), c_now hC, c_93 hC b1 b2, x_bd, t_192_0 hT b2, x_bd]
    dsimp only
    rw [e_87 hC b1 b2 (hW.2.2.2.2.2.2.2.2.1 t b1).1, x_bd]
    unfold b_152_26 b_259_22
    by_cases hk : 4 ≤ Y 6 t 0
    · rw [if_pos hk, if_pos (show ¬ (1 : Int32) = 0 from by decide), if_neg (show ¬ ¬ g_tw Y (nI t) = 0 from fun p => p q), if_pos hk, if_neg (show ¬ ¬ g_tw Y (nI t) = 0 from fun p => p q), c_172 hC, x_bd, t_198 hT, x_bd]
      rcases g_hw_cases hW z with p | ⟨p, k, a1, a2, rfl⟩
      · exact no _ (g_12a p) (g_12b p)
      · rw [p]
        exact p_152 h a1 a2 b1 b2
    · rw [if_neg hk, if_neg (show ¬ ¬ (0 : Int32) = 0 from by decide), if_pos (show ¬ (3 : Int32) = 0 from by decide), if_neg hk, if_pos (show ¬ (3 : Int32) = 0 from by decide)]
      exact no 3 (by decide) (by decide)
/-- pictures that differ in their fields alone -/
def g_o4 (Y Y' : GA) : Prop := ∀ r, r ≠ 4 → Y' r = Y r
theorem g_o4_0 (Y : GA) : g_o4 Y Y := fun _ _ => rfl
theorem g_o4_1 {Y Y' : GA} (h : g_o4 Y Y') (n i : Nat) (v : Int32) : g_o4 Y (g_up Y' 4 n i v) := fun r hr => by rw [g_up_r hr, h r hr]
theorem g_o4_t {Y Y' Y'' : GA} (h : g_o4 Y Y') (g : g_o4 Y' Y'') : g_o4 Y Y'' := fun r hr => by rw [g r hr, h r hr]
theorem l_33 {c y n : Nat} {V : GA} {X Z : QS} (hn2 : n < 200) (t x1 x2 x5 : Int32) (bk : Int32 → Int32 → Int32 → Int32 → QS → Option (Int32 × QS)) : ∀ (m i p q l : Nat) (Y : GA) (S T : QS), g_C y Y V X S → g_T Y V Z T → g_W c Y → n < g_n (Y 0 1 0) → i + m = g_n (Y 3 n 0) → l ≤ 10000000 → m < p → m < q → ∃ l' Y' S' T', l' ≤ l ∧ b_33_4 p y n t (nI l) (nI i) S = some (t - nI l', S') ∧ b_220_78 bk q x1 x2 (nI l) x5 (nI n) (nI i) T = bk x1 x2 (nI l') (x5 + 1) T' ∧ g_C y Y' V X S' ∧ g_T Y' V Z T' ∧ g_W c Y' ∧ g_o4 Y Y'
  | m, i, 0, _, _, _, _, _, _, _, _, _, _, _, h1, _ => by omega
  | m, i, _, 0, _, _, _, _, _, _, _, _, _, _, _, h2 => by omega
  | m, i, p + 1, q + 1, l, Y, S, T, hC, hT, hW, hn, hm, hl, h1, h2 => by
    have hz := hW.2.2.2.1 n hn
    have hz2 := hz.2
    rw [b_33_4, b_220_78, c_l hC hn hn2, t_195 hT hn2, x_bd, if_neg (nI_pos (show n < 2 ^ 31 by omega))]
    unfold b_33_64 b_33_58 b_220_167 b_220_139 b_220_161
    cases m with
    | zero =>
      have e : Y 3 n 0 ≤ nI i := (g_N_le hz (by omega) (by omega)).2 (by omega)
      rw [if_pos e, if_pos e]
      exact ⟨l, Y, S, T, Nat.le_refl l, rfl, rfl, hC, hT, hW, g_o4_0 Y⟩
    | succ m =>
      have e : ¬ Y 3 n 0 ≤ nI i := fun e => by rw [g_N_le hz (by omega) (by omega)] at e; omega
      rw [if_neg e, if_neg e]
      by_cases hl0 : l = 0
      · subst hl0
        rw [if_pos (show nI 0 ≤ 0 from by decide), if_pos (show nI 0 ≤ 0 from by decide)]
        exact ⟨0, Y, S, T, Nat.le_refl 0, rfl, rfl, hC, hT, hW, g_o4_0 Y⟩
      · have hok := hW.2.2.2.2.2.2.2.1 n i hn (by omega)
        obtain ⟨a, ha, ha2, ea⟩ := g_ok_N hok
        have hlp : ¬ nI l ≤ 0 := nI_nle (by omega) (by omega)
        rw [if_neg hlp, if_neg hlp, w_in (show i < 64 by omega) (by omega), nI_clamp (show i < 2 ^ 31 by omega), c_f hC hn hn2 (by omega) (by omega), t_196 hT hn2 (by omega), x_bd, ea]
        simp only [x_ck, x_let]
        rw [nI_1]
        by_cases h100 : a < 100
        · have c1 : ¬ (100 : Int32) ≤ nI a := nI_ge (b := 100) h100 (by omega)
          have c2 : nI a ≤ 100 := nI_le (b := 100) (by omega) (by omega)
          have c3 : (100 : Int32) - nI a = nI (100 - a) := pk_sub (a := 100) (by omega)
          obtain ⟨w, hw⟩ : ∃ w, w = if l < 100 - a then l else 100 - a := ⟨_, rfl⟩
          have hwl : w ≤ l := by rw [hw]; split <;> omega
          have hwa : a + w ≤ 100 := by rw [hw]; split <;> omega
          rw [if_neg c1, if_pos c2, c3]
          have k1 : (if nI l < nI (100 - a) then nI l else nI (100 - a)) = nI w := by
            rw [hw]
            by_cases q : l < 100 - a
            · rw [if_pos q, if_pos (nI_lt q (by omega))]
            · rw [if_neg q, if_neg (nI_nlt (by omega) (by omega))]
          have k2 : ∀ (K : Int32 → Option (Int32 × QS)), (if nI (100 - a) ≤ nI l then K (nI (100 - a)) else K (nI l)) = K (nI w) := by
            intro K
            rw [hw]
            by_cases q : l < 100 - a
            · rw [if_pos q, if_neg (nI_ge q (by omega))]
            · rw [if_neg q, if_pos (nI_le (by omega) (by omega))]
          have k3 := k2 (fun w => q_bd (f_197 (nI n) (nI i) (nI a + w) T) fun r_20 S_21 => b_220_78 bk q x1 x2 (nI l - w) x5 (nI n) (nI (i + 1)) S_21)
          rw [k1, k3, nI_add, pk_sub hwl]
          obtain ⟨S1, e1, hC1⟩ := cs_f hC hn2 (show i < 64 by omega) (nI (a + w))
          obtain ⟨T1, e2, hT1⟩ := t_197 hT hn2 (show i < 64 by omega) (nI (a + w))
          rw [e1, e2, x_bd]
          have w1 : g_W c (g_up Y 4 n i (nI (a + w))) := g_W_f0 hW hn (by omega) (Or.inl ⟨nI_pos' (by omega), nI_le (b := 100) (by omega) (by omega)⟩) (fun q => absurd q (nI_ge (b := 300) (by omega) (by omega)))
          obtain ⟨l', Y', S', T', i1, i2, i3, i4, i5, i6, i7⟩ := l_33 hn2 t x1 x2 x5 bk m (i + 1) p q (l - w) _ S1 T1 hC1 hT1 w1 hn (show i + 1 + m = g_n (Y 3 n 0) by omega) (by omega) (by omega) (by omega)
          exact ⟨l', Y', S', T', by omega, i2, i3, i4, i5, i6, g_o4_t (g_o4_1 (g_o4_0 Y) _ _ _) i7⟩
        · have c1 : (100 : Int32) ≤ nI a := nI_le (a := 100) (by omega) (by omega)
          rw [if_pos c1]
          by_cases h101 : a = 100
          · subst h101
            have c2 : nI 100 ≤ 100 := by decide
            have c3 : (100 : Int32) - nI 100 = nI 0 := by decide
            rw [if_pos c2, c3, if_pos (nI_le (show 0 ≤ l by omega) (by omega)), nI_add, pk_sub (show 0 ≤ l by omega)]
            obtain ⟨T1, e2, hT1⟩ := t_197 hT hn2 (show i < 64 by omega) (nI (100 + 0))
            rw [g_up_id ea] at hT1
            rw [e2, x_bd]
            exact l_33 hn2 t x1 x2 x5 bk m (i + 1) p q l Y S T1 hC hT1 hW hn (by omega) hl (by omega) (by omega)
          · have c2 : ¬ nI a ≤ 100 := nI_ge (a := 100) (by omega) (by omega)
            rw [if_neg c2]
            exact l_33 hn2 t x1 x2 x5 bk m (i + 1) p q l Y S T hC hT hW hn (by omega) hl (by omega) (by omega)
theorem l_220t {c h : Nat} {Y V : GA} {Z T : QS} (hT : g_T Y V Z T) (hW : g_W c Y) (hh : h < g_n (Y 0 0 0)) (h4 : h < 40) (x2 : Int32) : ∀ (m i q : Nat), i + m = 12 * g_n (Y 1 h 10) → m < q → b_220_47 q (nI h) x2 (nI 0) (nI (96 * h + i)) T = b_220_47 1 (nI h) x2 (nI 0) (nI (96 * h + 12 * g_n (Y 1 h 10))) T
  | m, i, 0, _, h1 => by omega
  | m, i, q + 1, hm, h1 => by
    have hb := (hW.2.2.1 h hh).2
    cases m with
    | zero =>
      have e : i = 12 * g_n (Y 1 h 10) := by omega
      rw [e, b_220_47, b_220_47, t_190_10 hT h4, x_bd, g_end hW hh, if_pos (nI_le (by omega) (by omega)), x_bd, g_end hW hh, if_pos (nI_le (by omega) (by omega))]
    | succ m =>
      rw [b_220_47, t_190_10 hT h4, x_bd, g_end hW hh, if_neg (nI_ge (by omega) (by omega)), t_194 hT h4 (by omega), x_bd, show q_N = 19999 + 1 from rfl, b_220_78]
      unfold b_220_167
      rw [nI_1]
      have go := l_220t hT hW hh h4 x2 m (i + 1) q (by omega) (by omega)
      rcases hW.2.2.2.2.1 h i h4 (by omega) with e | ⟨_, _, n, hn, e⟩
      · rw [e, if_pos (show (-1 : Int32) < 0 from by decide)]
        exact go
      · have n12 := hW.2.1.2.1.2
        rw [e, if_neg (nI_pos (by omega)), t_195 hT (by omega), x_bd, if_pos (show nI 0 ≤ 0 from by decide)]
        split
        · exact go
        · exact go
theorem l_106 {c y h N : Nat} {V : GA} {X Z : QS} (h4 : h < 40) (hN : N ≤ 10000) : ∀ (m i p q l : Nat) (Y : GA) (S T : QS), g_C y Y V X S → g_T Y V Z T → g_W c Y → h < g_n (Y 0 0 0) → i + m = 12 * g_n (Y 1 h 10) → l ≤ N → m < p → m < q → ∃ l' Y' S' T', l' ≤ l ∧ b_106_5 p y y h (nI N) (nI (N - l)) (nI i) S = some (nI (N - l'), S') ∧ b_220_47 q (nI h) (nI N) (nI l) (nI (96 * h + i)) T = b_220_47 1 (nI h) (nI N) (nI l') (nI (96 * h + 12 * g_n (Y 1 h 10))) T' ∧ g_C y Y' V X S' ∧ g_T Y' V Z T' ∧ g_W c Y' ∧ g_o4 Y Y'
  | m, i, 0, _, _, _, _, _, _, _, _, _, _, _, h1, _ => by omega
  | m, i, _, 0, _, _, _, _, _, _, _, _, _, _, _, h2 => by omega
  | m, i, p + 1, q + 1, l, Y, S, T, hC, hT, hW, hh, hm, hl, h1, h2 => by
    have hb := (hW.2.2.1 h hh).2
    by_cases hl0 : l = 0
    · subst hl0
      rw [l_220t hT hW hh h4 (nI N) m i (q + 1) hm (by omega), b_106_5, c_45 hC hW hh h4, x_bd, Nat.sub_zero]
      refine ⟨0, Y, S, T, Nat.le_refl 0, ?_, rfl, hC, hT, hW, g_o4_0 Y⟩
      rw [if_pos (nI_le (Nat.le_refl N) (by omega))]
      split <;> rfl
    · cases m with
      | zero =>
        have e : i = 12 * g_n (Y 1 h 10) := by omega
        refine ⟨l, Y, S, T, Nat.le_refl l, ?_, ?_, hC, hT, hW, g_o4_0 Y⟩
        · rw [b_106_5, c_45 hC hW hh h4, x_bd, if_pos (nI_le (by omega) (by omega))]
        · rw [e, b_220_47, b_220_47, t_190_10 hT h4, x_bd, g_end hW hh, if_pos (nI_le (by omega) (by omega)), x_bd, g_end hW hh, if_pos (nI_le (by omega) (by omega))]
      | succ m =>
        rw [b_106_5, b_220_47, c_45 hC hW hh h4, x_bd, t_190_10 hT h4, x_bd, g_end hW hh, if_neg (nI_ge (by omega) (by omega)), if_neg (nI_ge (by omega) (by omega)), if_neg (nI_ge (by omega) (by omega)), w_in (show i < 96 by omega) (by omega), nI_clamp (show i < 2 ^ 31 by omega), x_ck, x_let, c_p hC hh h4 (by omega) (by omega), t_194 hT h4 (by omega), x_bd]
        unfold b_106_50
        rcases hW.2.2.2.2.1 h i h4 (by omega) with e | ⟨_, _, n, hn, e⟩
        · rw [e, if_pos rfl, show q_N = 19999 + 1 from rfl, b_220_78, if_pos (show (-1 : Int32) < 0 from by decide)]
          unfold b_220_167
          rw [nI_1, nI_1]
          exact l_106 h4 hN m (i + 1) p q l Y S T hC hT hW hh (by omega) hl (by omega) (by omega)
        · have n12 := hW.2.1.2.1.2
          have hl2 := (hW.2.2.2.1 n hn).2
          obtain ⟨l1, Y1, S1, T1, i1, i2, i3, i4, i5, i6, i7⟩ := l_33 (c := c) (y := y) (V := V) (X := X) (Z := Z) (n := n) (by omega) (nI l) (nI h) (nI N) (nI (96 * h + i)) (b_220_47 q) (g_n (Y 3 n 0)) 0 q_N q_N l Y S T hC hT hW hn (by omega) (by omega) (by unfold q_N; omega) (by unfold q_N; omega)
          rw [e, if_neg (g_nI_m1 (by omega)), x_ck, x_let, c_92 hC hn (by omega), x_bd, pk_sub (show N - l ≤ N by omega), show N - (N - l) = l by omega]
          dsimp only
          rw [show f_33 y n (nI l) S = _ from i2, x_bd, x_let, show b_220_78 (b_220_47 q) q_N (nI h) (nI N) (nI l) (nI (96 * h + i)) (nI n) 0 T = _ from i3, pk_sub i1, nI_add, show N - l + (l - l1) = N - l1 by omega, nI_1, nI_1]
          have hh1 : h < g_n (Y1 0 0 0) := by rw [i7 0 (by omega)]; exact hh
          have hb1 : Y1 1 h 10 = Y 1 h 10 := by rw [i7 1 (by omega)]
          obtain ⟨l2, Y2, S2, T2, j1, j2, j3, j4, j5, j6, j7⟩ := l_106 h4 hN m (i + 1) p q l1 Y1 S1 T1 i4 i5 i6 hh1 (by rw [hb1]; omega) (by omega) (by omega) (by omega)
          rw [hb1] at j3
          exact ⟨l2, Y2, S2, T2, by omega, j2, j3, j4, j5, j6, g_o4_t i7 j7⟩
theorem jj_134 {c y : Nat} {Y V : GA} {X Z S T : QS} (h : g_R c y Y V X Z S T) (x z : Int32) : g_Ok c X Z (f_134 x z S) (f_220 x z T) := by
  obtain ⟨hC, hT, hW, hV, hU⟩ := id h
  unfold f_134 f_220 f_189 b_134_27
  rw [c_172 hC, t_198 hT]
  simp only [x_bd, w_eta]
  have no : ∀ e, ¬ e ≤ 0 → b_220_24 x z e T = f_186 e T := by
    intro e h2
    unfold b_220_24
    rw [if_neg h2, w_eta]
  rcases g_hw_cases hW x with q | ⟨q, k, a1, a2, rfl⟩
  · rw [if_neg (g_12a q), if_pos (g_12a q), no _ (g_12b q)]
    exact g_refuse h _
  · rw [if_pos q, if_neg (show ¬ ¬ g_hw Y (nI k) = 0 from fun p => p q)]
    by_cases h1 : z < 0
    · rw [if_pos h1, if_pos h1, x_bd, if_neg (show ¬ ¬ (0 : Int32) = 0 from by decide), no 6 (by decide)]
      exact g_refuse h _
    · rw [if_neg h1, if_neg h1]
      by_cases h2 : z ≤ 10000
      · rw [if_pos h2, if_neg ((g_nle _ _).1 h2), x_bd, if_pos (show ¬ (1 : Int32) = 0 from by decide)]
        obtain ⟨N, hN, rfl⟩ := nI_of2 (x := z) (M := 10000) (n := 10000) (by decide) h1 h2
        unfold b_220_24
        rw [if_pos (g_12c q)]
        obtain ⟨S1, T1, e1, e2, hk⟩ := k_keep h
        obtain ⟨kC, kT, kW, _, _⟩ := id hk
        have hb := (hW.2.2.1 k a1).2
        rw [e1, e2, x_bd, x_bd, c_now kC, c_91 kC a1 a2, x_bd, x_let, (g_mul96 k).1]
        dsimp only
        obtain ⟨l', Y', S2, T2, i1, i2, i3, i4, i5, i6, i7⟩ := l_106 (c := c) (y := y) (V := Y) (X := X) (Z := Z) a2 hN (12 * g_n (Y 1 k 10)) 0 q_N q_N N _ S1 T1 kC kT kW a1 (by show 0 + 12 * g_n (Y 1 k 10) = 12 * g_n (Y 1 k 10); omega) (Nat.le_refl N) (by unfold q_N; omega) (by unfold q_N; omega)
        rw [Nat.sub_self] at i2
        have a1' : k < g_n (Y' 0 0 0) := by rw [i7 0 (by omega)]; exact a1
        have eb : Y' 1 k 10 = Y 1 k 10 := by rw [i7 1 (by omega)]; rfl
        have i3' : b_220_47 q_N (nI k) (nI N) (nI N) (nI (96 * k)) T1 = b_220_47 1 (nI k) (nI N) (nI l') (nI (96 * k + 12 * g_n (Y' 1 k 10))) T2 := by
          rw [eb]
          exact i3
        have hb' := (i6.2.2.1 k a1').2
        rw [show f_106 y y k (nI N) S1 = _ from i2, x_bd, c_now i4, c_n7 i4, i3', b_220_47, t_190_10 i5 a2, x_bd, g_end i6 a1', if_pos (nI_le (Nat.le_refl _) (by omega)), w_i7, w_c7, t_n7 i5, w_i6, w_c6]
        simp only [x_ck, x_let]
        obtain ⟨S3, e5, hC3⟩ := cs_n7 i4 (Y' 0 7 0 + nI N)
        obtain ⟨T3, f5, hT3⟩ := ts_n7 i5 (Y' 0 7 0 + nI N)
        rw [e5, f5, c_now hC3, c_n6 hC3, t_n6 hT3, pk_sub (show N - l' ≤ N by omega), show N - (N - l') = l' by omega, pk_sub (show l' ≤ N by omega)]
        obtain ⟨S4, e6, hC4⟩ := cs_n6 hC3 (g_up Y' 0 7 0 (Y' 0 7 0 + nI N) 0 6 0 + nI l')
        obtain ⟨T4, f6, hT4⟩ := ts_n6 hT3 (g_up Y' 0 7 0 (Y' 0 7 0 + nI N) 0 6 0 + nI l')
        rw [e6, f6, w_eta]
        have h10 : Y' 10 3 0 = 1 := by rw [i7 10 (by omega)]; rfl
        exact g_fin hC4 hT4 (g_W_0 (g_W_0 i6 (by omega) (by omega)) (by omega) (by omega)) hW (Nat.le_refl c) h10 _
      · rw [if_neg h2, if_pos (Decidable.not_not.1 (fun q => h2 ((g_nle _ _).2 q))), x_bd, if_neg (show ¬ ¬ (0 : Int32) = 0 from by decide), no 6 (by decide)]
        exact g_refuse h _
