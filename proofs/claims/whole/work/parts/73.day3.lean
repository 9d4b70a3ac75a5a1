/-! ===== a day: honey is eaten ===== -/
theorem l_34e {wd : Int32} {c y n h E W : Nat} {B : Int} {V : GA} {X Z : QS} (hn2 : n < 200) (hW0 : W ≤ 10000000) (t x4 s0 : Int32) (bk : Int32 → Int32 → Int32 → QS → Option (Unit × QS)) : ∀ (m i p q l : Nat) (Y : GA) (S T : QS), g_Cw wd y Y V X S → g_T (g_up Y 0 5 0 (s0 + nI (W - l))) V Z T → g_dy c E B Y → n < g_n (Y 0 1 0) → i + m = g_n (Y 3 n 0) → l ≤ W → m < p → m < q → ∃ l' Y' S' T', l' ≤ l ∧ b_34_4 p y n t (nI l) (nI i) S = some (t - nI l', S') ∧ b_256_73 bk q (nI h) (nI l) x4 (nI n) (nI i) T = bk (nI h) (nI l') (x4 + 1) T' ∧ g_Cw wd y Y' V X S' ∧ g_T (g_up Y' 0 5 0 (s0 + nI (W - l'))) V Z T' ∧ g_dy c E B Y' ∧ g_o4 Y Y'
  | m, i, 0, _, _, _, _, _, _, _, _, _, _, _, h1, _ => by omega
  | m, i, _, 0, _, _, _, _, _, _, _, _, _, _, _, h2 => by omega
  | m, i, p + 1, q + 1, l, Y, S, T, hC, hT, hD, hn, hm, hl, h1, h2 => by
    have hW := hD.1
    have hz := hW.2.2.2.1 n hn
    have hz2 := hz.2
    have v3 : g_up Y 0 5 0 (s0 + nI (W - l)) 3 n 0 = Y 3 n 0 := rfl
    have v4 : g_up Y 0 5 0 (s0 + nI (W - l)) 4 n i = Y 4 n i := rfl
    rw [b_34_4, b_256_73, d_l hC hn hn2, t_195 hT hn2, x_bd, v3, if_neg (nI_pos (show n < 2 ^ 31 by omega))]
    unfold b_34_53 b_256_163
    cases m with
    | zero =>
      have e : Y 3 n 0 ≤ nI i := (g_N_le hz (by omega) (by omega)).2 (by omega)
      rw [if_pos e, if_pos e]
      exact ⟨l, Y, S, T, Nat.le_refl l, rfl, rfl, hC, hT, hD, g_o4_0 Y⟩
    | succ m =>
      have e : ¬ Y 3 n 0 ≤ nI i := fun e => by rw [g_N_le hz (by omega) (by omega)] at e; omega
      rw [if_neg e, if_neg e]
      by_cases hl0 : l = 0
      · subst hl0
        rw [if_pos (show nI 0 ≤ 0 from by decide), if_pos (show nI 0 ≤ 0 from by decide)]
        exact ⟨0, Y, S, T, Nat.le_refl 0, rfl, rfl, hC, hT, hD, g_o4_0 Y⟩
      · have hok := hW.2.2.2.2.2.2.2.1 n i hn (by omega)
        have hlp : ¬ nI l ≤ 0 := nI_nle (by omega) (by omega)
        rw [if_neg hlp, if_neg hlp, w_in (show i < 64 by omega) (by omega), nI_clamp (show i < 2 ^ 31 by omega), d_f hC hn hn2 (by omega) (by omega), x_ck, x_let, e_180, x_bd, t_196 hT hn2 (by omega), x_bd, v4, e_203, x_bd]
        simp only [x_ck, x_let]
        rw [d_f hC hn hn2 (by omega) (by omega), nI_1]
        unfold b_256_126 b_256_157
        by_cases q1 : (if Y 4 n i ≤ 0 then (0 : Int32) else if 100 < Y 4 n i then 0 else 1) = 0
        · have hon0 : g_hon (Y 4 n i) = 0 := by rw [← e_203h, if_pos q1]
          rw [hon0, if_neg (show ¬ nI l < 0 from nI_pos (by omega)), if_neg (show ¬ ¬ (if Y 4 n i ≤ 0 then (0 : Int32) else if 100 < Y 4 n i then 0 else 1) = 0 from fun p => p q1), Int32.sub_zero, Int32.sub_zero]
          obtain ⟨S1, e1, hC1⟩ := ds_f hC hn2 (show i < 64 by omega) (Y 4 n i)
          rw [g_up_id rfl] at hC1
          rw [e1, nI_1]
          exact l_34e hn2 hW0 t x4 s0 bk m (i + 1) p q l Y S1 T hC1 hT hD hn (by omega) hl (by omega) (by omega)
        · have honx : g_hon (Y 4 n i) = Y 4 n i := by rw [← e_203h, if_neg q1]
          have hh := (g_hon_N hok).1
          rw [honx] at hh ⊢
          have ea := hh.1
          have ea2 := hh.2
          generalize g_n (Y 4 n i) = a at ea ea2
          rw [if_pos q1, ea]
          obtain ⟨w, hw⟩ : ∃ w, w = if l < a then l else a := ⟨_, rfl⟩
          have hwl : w ≤ l := by rw [hw]; split <;> omega
          have hwa : w ≤ a := by rw [hw]; split <;> omega
          have k1 : (if nI l < nI a then nI l else nI a) = nI w := by
            rw [hw]
            by_cases q : l < a
            · rw [if_pos q, if_pos (nI_lt q (by omega))]
            · rw [if_neg q, if_neg (nI_nlt (by omega) (by omega))]
          have k2 : ∀ (K : Int32 → Option (Unit × QS)), (if nI l ≤ nI a then K (nI l) else K (nI a)) = K (nI w) := by
            intro K
            rw [hw]
            by_cases q : l ≤ a
            · rw [if_pos (nI_le q (by omega))]
              by_cases q' : l < a
              · rw [if_pos q']
              · rw [if_neg q', show l = a by omega]
            · rw [if_neg (nI_ge (by omega) (by omega)), if_neg (by omega)]
          have k3 := k2 (fun w => q_bd (f_197 (nI n) (nI i) (nI a - w) T) fun r_29 S_30 => q_ck (v_in 5 19520) (q_let (S_30.1 (40, 0, 0) (5 : Int32).toNatClampNeg) fun y_31 => q_ck (v_in 5 19520) (q_let (q_set S_30 (40, 0, 0) (5 : Int32).toNatClampNeg (y_31 + w)) fun S_32 => q_let (nI l - w) fun y_33 => b_256_73 bk q (nI h) y_33 x4 (nI n) (nI i + 1) S_32)))
          rw [k1, k3, pk_sub hwa, pk_sub hwl]
          obtain ⟨S1, e1, hC1⟩ := ds_f hC hn2 (show i < 64 by omega) (nI (a - w))
          obtain ⟨T1, f1, hT1⟩ := t_197 hT hn2 (show i < 64 by omega) (nI (a - w))
          rw [e1, f1, x_bd, w_i5, w_c5, t_n5 hT1, x_ck, x_let, x_ck]
          have v5 : g_up (g_up Y 0 5 0 (s0 + nI (W - l))) 4 n i (nI (a - w)) 0 5 0 = s0 + nI (W - l) := by rw [g_up_ne (fun p => by omega), g_up_same]
          obtain ⟨T2, f2, hT2⟩ := ts_n5 hT1 (s0 + nI (W - (l - w)))
          rw [v5, Int32.add_assoc, nI_add, show W - l + w = W - (l - w) by omega, f2, x_let, x_let, nI_1]
          rw [g_up_comm (r := 0) (r' := 4) (fun p => by omega), g_up_up] at hT2
          have iy1 : g_iy (nI (a - w)) = 0 := by rw [g_iy_n (by omega), if_neg (by omega)]
          have i0 : 0 ≤ g_iy (Y 4 n i) := by unfold g_iy; split <;> omega
          obtain ⟨d1, _, _⟩ := g_dy_f hD hn (show i < g_n (Y 3 n 0) by omega) (v := nI (a - w)) (g_ok_nI (by omega)) (by omega)
          obtain ⟨l', Y', S', T', i1, i2, i3, i4, i5, i6, i7⟩ := l_34e hn2 hW0 t x4 s0 bk m (i + 1) p q (l - w) _ S1 T2 hC1 hT2 d1 hn (show i + 1 + m = g_n (Y 3 n 0) by omega) (by omega) (by omega) (by omega)
          exact ⟨l', Y', S', T', by omega, i2, i3, i4, i5, i6, g_o4_t (g_o4_1 (g_o4_0 Y) _ _ _) i7⟩
theorem l_256t {c h : Nat} {Y V : GA} {Z T : QS} (hT : g_T Y V Z T) (hW : g_W c Y) (hh : h < g_n (Y 0 0 0)) (h4 : h < 40) : ∀ (m i q : Nat), i + m = 12 * g_n (Y 1 h 10) → m < q → b_256_42 q (nI h) (nI 0) (nI (96 * h + i)) T = b_256_42 1 (nI h) (nI 0) (nI (96 * h + 12 * g_n (Y 1 h 10))) T
  | m, i, 0, _, h1 => by omega
  | m, i, q + 1, hm, h1 => by
    have hb := (hW.2.2.1 h hh).2
    cases m with
    | zero =>
      have e : i = 12 * g_n (Y 1 h 10) := by omega
      rw [e, b_256_42, b_256_42, t_190_10 hT h4, x_bd, g_end hW hh, if_pos (nI_le (by omega) (by omega)), x_bd, g_end hW hh, if_pos (nI_le (by omega) (by omega))]
    | succ m =>
      rw [b_256_42, t_190_10 hT h4, x_bd, g_end hW hh, if_neg (nI_ge (by omega) (by omega)), t_194 hT h4 (by omega), x_bd, show q_N = 19999 + 1 from rfl, b_256_73]
      unfold b_256_163
      rw [nI_1]
      have go := l_256t hT hW hh h4 m (i + 1) q (by omega) (by omega)
      rcases hW.2.2.2.2.1 h i h4 (by omega) with e | ⟨_, _, n, hn, e⟩
      · rw [e, if_pos (show (-1 : Int32) < 0 from by decide)]
        exact go
      · have n12 := hW.2.1.2.1.2
        rw [e, if_neg (nI_pos (by omega)), t_195 hT (by omega), x_bd, if_pos (show nI 0 ≤ 0 from by decide)]
        split
        · exact go
        · exact go
theorem l_119 {wd : Int32} {c y h E W : Nat} {B : Int} {V : GA} {X Z : QS} (h4 : h < 40) (hW0 : W ≤ 10000000) (s0 : Int32) : ∀ (m i p q l : Nat) (Y : GA) (S T : QS), g_Cw wd y Y V X S → g_T (g_up Y 0 5 0 (s0 + nI (W - l))) V Z T → g_dy c E B Y → h < g_n (Y 0 0 0) → i + m = 12 * g_n (Y 1 h 10) → l ≤ W → m < p → m < q → ∃ l' Y' S' T', l' ≤ l ∧ b_119_44 p y y h (nI W) (nI (W - l)) (nI i) S = b_119_95 y y h (nI W) (nI (W - l')) S' ∧ b_256_42 q (nI h) (nI l) (nI (96 * h + i)) T = b_256_42 1 (nI h) (nI l') (nI (96 * h + 12 * g_n (Y 1 h 10))) T' ∧ g_Cw wd y Y' V X S' ∧ g_T (g_up Y' 0 5 0 (s0 + nI (W - l'))) V Z T' ∧ g_dy c E B Y' ∧ g_o4 Y Y'
  | m, i, 0, _, _, _, _, _, _, _, _, _, _, _, h1, _ => by omega
  | m, i, _, 0, _, _, _, _, _, _, _, _, _, _, _, h2 => by omega
  | m, i, p + 1, q + 1, l, Y, S, T, hC, hT, hD, hh, hm, hl, h1, h2 => by
    have hW := hD.1
    have hWs : g_W (c + 1) (g_up Y 0 5 0 (s0 + nI (W - l))) := g_W_0 hW (by omega) (by omega)
    have hb := (hW.2.2.1 h hh).2
    by_cases hl0 : l = 0
    · subst hl0
      have tl := l_256t hT hWs (by exact hh) h4 m i (q + 1) hm (by omega)
      refine ⟨0, Y, S, T, Nat.le_refl 0, ?_, tl, hC, hT, hD, g_o4_0 Y⟩
      rw [b_119_44, d_45 hC hW hh h4, x_bd, Nat.sub_zero, if_pos (nI_le (Nat.le_refl W) (by omega))]
      split <;> rfl
    · cases m with
      | zero =>
        have e : i = 12 * g_n (Y 1 h 10) := by omega
        refine ⟨l, Y, S, T, Nat.le_refl l, ?_, ?_, hC, hT, hD, g_o4_0 Y⟩
        · rw [b_119_44, d_45 hC hW hh h4, x_bd, if_pos (nI_le (by omega) (by omega))]
        · have ge := g_end hWs (k := h) (by exact hh)
          have gv : g_n (g_up Y 0 5 0 (s0 + nI (W - l)) 1 h 10) = g_n (Y 1 h 10) := rfl
          rw [gv] at ge
          rw [e, b_256_42, b_256_42, t_190_10 hT h4, x_bd, ge, if_pos (nI_le (by omega) (by omega)), x_bd, ge, if_pos (nI_le (by omega) (by omega))]
      | succ m =>
        have ge := g_end hWs (k := h) (by exact hh)
        have gv : g_n (g_up Y 0 5 0 (s0 + nI (W - l)) 1 h 10) = g_n (Y 1 h 10) := rfl
        have gp : g_up Y 0 5 0 (s0 + nI (W - l)) 2 h i = Y 2 h i := rfl
        rw [gv] at ge
        rw [b_119_44, b_256_42, d_45 hC hW hh h4, x_bd, t_190_10 hT h4, x_bd, ge, if_neg (nI_ge (by omega) (by omega)), if_neg (nI_ge (by omega) (by omega)), if_neg (nI_ge (by omega) (by omega)), w_in (show i < 96 by omega) (by omega), nI_clamp (show i < 2 ^ 31 by omega), x_ck, x_let, d_p hC hh h4 (by omega) (by omega), t_194 hT h4 (by omega), x_bd, gp]
        unfold b_119_89
        rcases hW.2.2.2.2.1 h i h4 (by omega) with e | ⟨_, _, n, hn, e⟩
        · rw [e, if_pos rfl, show q_N = 19999 + 1 from rfl, b_256_73, if_pos (show (-1 : Int32) < 0 from by decide)]
          unfold b_256_163
          rw [nI_1, nI_1]
          exact l_119 h4 hW0 s0 m (i + 1) p q l Y S T hC hT hD hh (by omega) hl (by omega) (by omega)
        · have n12 := hW.2.1.2.1.2
          have hl2 := (hW.2.2.2.1 n hn).2
          obtain ⟨l1, Y1, S1, T1, i1, i2, i3, i4, i5, i6, i7⟩ := l_34e (wd := wd) (c := c) (y := y) (h := h) (V := V) (X := X) (Z := Z) (n := n) (W := W) (by omega) hW0 (nI l) (nI (96 * h + i)) s0 (b_256_42 q) (g_n (Y 3 n 0)) 0 q_N q_N l Y S T hC hT hD hn (by omega) hl (by unfold q_N; omega) (by unfold q_N; omega)
          rw [e, if_neg (g_nI_m1 (by omega)), x_ck, x_let, d_92 hC hn (by omega), x_bd, pk_sub (show W - l ≤ W by omega), show W - (W - l) = l by omega]
          dsimp only
          rw [show f_34 y n (nI l) S = _ from i2, x_bd, x_let, show b_256_73 (b_256_42 q) q_N (nI h) (nI l) (nI (96 * h + i)) (nI n) 0 T = _ from i3, pk_sub i1, nI_add, show W - l + (l - l1) = W - l1 by omega, nI_1, nI_1]
          have hh1 : h < g_n (Y1 0 0 0) := by rw [i7 0 (by omega)]; exact hh
          have hb1 : Y1 1 h 10 = Y 1 h 10 := by rw [i7 1 (by omega)]
          obtain ⟨l2, Y2, S2, T2, j1, j2, j3, j4, j5, j6, j7⟩ := l_119 h4 hW0 s0 m (i + 1) p q l1 Y1 S1 T1 i4 i5 i6 hh1 (by rw [hb1]; omega) (by omega) (by omega) (by omega)
          rw [hb1] at j3
          exact ⟨l2, Y2, S2, T2, by omega, j2, j3, j4, j5, j6, g_o4_t i7 j7⟩
theorem g_hu_2 {Y : GA} {h : Nat} {v : Int32} (hh : h < g_n (Y 0 0 0)) : g_hu (g_up Y 1 h 2 v) = g_hu Y + v.toInt - (Y 1 h 2).toInt := by
  have q := g_su_up (f := fun k => Y 1 k 2) (g := fun k => g_up Y 1 h 2 v 1 k 2) (k := h) (fun j hj => g_up_ne (fun q => hj q.2.1)) (g_n (Y 0 0 0)) hh
  rw [g_up_same] at q
  unfold g_hu
  rw [show g_up Y 1 h 2 v 0 = Y 0 from g_up_r (by omega)]
  omega
theorem p_eat {wd : Int32} {c y h E : Nat} {B : Int} {V Y : GA} {X Z S T : QS} (h4 : h < 40) (hB : B + 99 ≤ 400000 * (c + 1 : Nat)) (hC : g_Cw wd y Y V X S) (hT : g_T Y V Z T) (hD : g_dy c E B Y) (hh : h < g_n (Y 0 0 0)) : ∃ Y' S' T', f_119 y y h S = some ((), S') ∧ f_256 (nI h) T = some ((), T') ∧ g_Cw wd y Y' V X S' ∧ g_T Y' V Z T' ∧ g_dy c E (B + 99) Y' ∧ g_ss Y Y' := by
  have hW := hD.1
  have hc5 := hW.1
  have hb := (hW.2.2.1 h hh).2
  have hbe := (g_bees hW hh).1
  obtain ⟨hdr, hhu⟩ := g_drh hW hh
  have e0 := hbe.1
  have e1 := hdr.1
  have e2 := hhu.1
  have m0 := hbe.2
  have m1 := hdr.2
  have m2 := hhu.2
  have th := g_N_ti hhu (by omega)
  generalize g_n (Y 1 h 0) = b0 at e0 m0
  generalize g_n (Y 1 h 1) = d0 at e1 m1
  generalize g_n (Y 1 h 2) = u0 at e2 m2
  obtain ⟨H, hH⟩ : ∃ H, H = u0 + b0 + d0 := ⟨_, rfl⟩
  obtain ⟨W, hWd⟩ : ∃ W, W = H / 100 := ⟨_, rfl⟩
  have hHb : H < 2 ^ 30 := by omega
  have hWb : W ≤ 10000000 := by omega
  unfold f_119 f_256
  rw [d_h2 hC hh h4, d_h0 hC hh h4, d_h1 hC hh h4, t_190_2 hT h4, x_bd, t_190_0 hT h4, x_bd, t_190_1 hT h4, x_bd, e0, e1, e2]
  rw [show nI u0 + (nI b0 + nI d0) = nI H from by rw [nI_add, nI_add, hH]; congr 1; omega, show nI u0 + nI b0 + nI d0 = nI H from by rw [nI_add, nI_add, hH]]
  have kd : nI H / 100 = nI W := by rw [hWd]; exact pk_div (d := 100) (by omega) (by omega) (by omega)
  have kr : nI H - nI W * 100 = nI (H % 100) := by rw [← kd]; exact pk_rem (d := 100) (by omega) (by omega) (by omega)
  obtain ⟨S1, s1, hC1⟩ := ds_h2 hC h4 (nI H)
  rw [s1, x_let, x_let, d_h2 hC1 (by exact hh) h4, g_up_same, kd, x_let, x_let, kr]
  obtain ⟨S2, s2, hC2⟩ := ds_h2 hC1 h4 (nI (H % 100))
  rw [g_up_up] at hC2
  obtain ⟨T1, t1, hT1⟩ := t_191_2 hT h4 (nI (H % 100))
  rw [s2, show nI H - nI H / 100 * 100 = nI (H % 100) from by rw [kd]; exact kr, kd, t1, x_let, x_bd, x_let, (g_mul96 h).1]
  have hmod := Nat.mod_lt H (show 0 < 100 by omega)
  have hu2 := g_hu_2 (v := nI (H % 100)) hh
  have thm : (nI (H % 100)).toInt ≤ 99 := by rw [nI_toInt (by omega)]; omega
  have hD1 : g_dy c E (B + 99) (g_up Y 1 h 2 (nI (H % 100))) := by
    obtain ⟨q1, q2, q3, q4, q5⟩ := hD
    refine ⟨g_W_h12 q1 hh (by omega) (Nat.le_refl _) hc5 (nI_pos' (by omega)) (fun q => by omega) (fun _ => ?_), q2, ?_, ?_, by omega⟩
    · unfold g_hu at q5
      omega
    · have : g_tot (g_up Y 1 h 2 (nI (H % 100))) = g_tot Y := rfl
      omega
    · have : g_to4 (g_up Y 1 h 2 (nI (H % 100))) = g_to4 Y := rfl
      omega
  have ss1 : g_ss Y (g_up Y 1 h 2 (nI (H % 100))) := ⟨rfl, rfl, ⟨rfl, rfl⟩, g_up_r (by omega)⟩
  generalize hY1 : g_up Y 1 h 2 (nI (H % 100)) = Y1 at hC2 hT1 hD1 ss1
  have hh1 : h < g_n (Y1 0 0 0) := by rw [ss1.1]; exact hh
  have eb1 : Y1 1 h 10 = Y 1 h 10 := by rw [← hY1]; rfl
  have hT1' : g_T (g_up Y1 0 5 0 (Y1 0 5 0 + nI (W - W))) V Z T1 := by
    rw [Nat.sub_self, show nI 0 = 0 from rfl, Int32.add_zero, g_up_id rfl]
    exact hT1
  obtain ⟨l', Y2, S3, T3, i1, i2, i3, i4, i5, i6, i7⟩ := l_119 (wd := wd) (c := c) (y := y) (h := h) (E := E) (W := W) (V := V) (X := X) (Z := Z) h4 hWb (Y1 0 5 0) (12 * g_n (Y1 1 h 10)) 0 q_N q_N W Y1 S2 T1 hC2 hT1' hD1 hh1 (by omega) (Nat.le_refl W) (by rw [eb1]; unfold q_N; omega) (by rw [eb1]; unfold q_N; omega)
  rw [Nat.sub_self] at i2
  rw [show b_119_44 q_N y y h (nI W) 0 0 S2 = _ from i2, show b_256_42 q_N (nI h) (nI W) (nI (96 * h)) T1 = _ from i3]
  have hh2 : h < g_n (Y2 0 0 0) := by rw [i7 0 (by omega)]; exact hh1
  have v10 : Y2 1 = Y1 1 := i7 1 (by omega)
  have hW2s : g_W (c + 1) (g_up Y2 0 5 0 (Y1 0 5 0 + nI (W - l'))) := g_W_0 i6.1 (by omega) (by omega)
  have ge := g_end hW2s (k := h) (by exact hh2)
  have gv : g_n (g_up Y2 0 5 0 (Y1 0 5 0 + nI (W - l')) 1 h 10) = g_n (Y1 1 h 10) := by rw [← v10]; rfl
  rw [gv] at ge
  have vb : Y2 1 h 0 = nI b0 := by rw [v10, ← hY1]; exact e0
  have vbT : g_up Y2 0 5 0 (Y1 0 5 0 + nI (W - l')) 1 h 0 = nI b0 := vb
  have v5 : Y2 0 5 0 = Y1 0 5 0 := by rw [i7 0 (by omega)]
  unfold b_119_95
  rw [d_n5 i4, v5]
  obtain ⟨S4, s4, hC4⟩ := ds_n5 i4 (Y1 0 5 0 + nI (W - l'))
  rw [s4, x_let, d_h0 hC4 (by exact hh2) h4, vbT, pk_sub (show W - l' ≤ W by omega), show W - (W - l') = l' by omega, show nI l' * 100 = nI (100 * l') from by rw [show (100 : Int32) = nI 100 from rfl, pk_mul, Nat.mul_comm], x_let]
  rw [b_256_42, t_190_10 i5 h4, x_bd, ge, if_pos (nI_le (Nat.le_refl _) (by rw [eb1]; omega)), t_190_0 i5 h4, vbT, nI_l (by omega), show (100 : Int64) * lN l' = lN (100 * l') from lN_mul 100 l', x_let, x_let, x_bd, nI_l (by omega)]
  unfold b_256_207
  have hlt : (lg_cmp (lN (100 * l')) (lN b0) < 0) ↔ 100 * l' < b0 := by
    unfold lg_cmp
    by_cases q : lN b0 < lN (100 * l')
    · rw [if_pos (show lN (100 * l') > lN b0 from q)]
      rw [pk_lLT (by omega) (by omega)] at q
      constructor
      · intro p; exact absurd p (by decide)
      · intro p; omega
    · rw [if_neg (show ¬ lN (100 * l') > lN b0 from q)]
      rw [pk_lLT (by omega) (by omega)] at q
      by_cases q2 : lN (100 * l') = lN b0
      · rw [if_pos q2]
        rw [pk_lEQ (by omega) (by omega)] at q2
        constructor
        · intro p; exact absurd p (by decide)
        · intro p; omega
      · rw [if_neg q2]
        rw [pk_lEQ (by omega) (by omega)] at q2
        constructor
        · intro _; omega
        · intro _; decide
  have fin : ∀ v : Nat, v ≤ b0 → ∃ Y' S' T', some ((), q_set S4 (4, y, h) 2 (nI v)) = some ((), S') ∧ q_bd (f_191 (nI h) 0 (nI v) T3) (fun r_19 S_20 => some ((), S_20)) = some ((), T') ∧ g_Cw wd y Y' V X S' ∧ g_T Y' V Z T' ∧ g_dy c E (B + 99) Y' ∧ g_ss Y Y' := by
    intro v hv
    obtain ⟨S5, s5, hC5⟩ := ds_h0 hC4 h4 (nI v)
    obtain ⟨T4, t4, hT4⟩ := t_191_0 i5 h4 (nI v)
    have hD4 : g_dy c E (B + 99) (g_up Y2 0 5 0 (Y1 0 5 0 + nI (W - l'))) := ⟨hW2s, i6.2.1, i6.2.2.1, i6.2.2.2.1, i6.2.2.2.2⟩
    have hD5 := g_dy_b hD4 (by exact hh2) (v := nI v) (nI_pos' (by omega)) (by omega) (by
      rw [vbT, nI_toInt (by omega), nI_toInt (by omega)]
      have := hD4.2.2.1
      omega)
    rw [s5, t4, x_bd]
    refine ⟨_, S5, T4, rfl, rfl, hC5, hT4, hD5, ?_⟩
    exact g_ss_t ss1 (g_ss_t (g_ss_o4 i7) ⟨rfl, rfl, ⟨rfl, rfl⟩, by rw [g_up_r (by omega), g_up_r (by omega)]⟩)
  by_cases hdie : 100 * l' < b0
  · rw [if_pos (hlt.2 hdie), if_pos (nI_lt hdie (by omega)), pk_sub (by omega), t_190_0 i5 h4, x_bd, vbT, lN_i, pk_sub (by omega)]
    exact fin (b0 - 100 * l') (by omega)
  · rw [if_neg (fun p => hdie (hlt.1 p)), if_neg (nI_nlt (by omega) (by omega)), pk_sub (Nat.le_refl b0), Nat.sub_self]
    exact fin 0 (by omega)
