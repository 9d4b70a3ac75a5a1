/-! ===== move ===== -/
theorem g_tot_f {Y : GA} {n i : Nat} {v : Int32} (hn : n < g_n (Y 0 1 0)) (hi : i < g_n (Y 3 n 0)) : g_tot (g_up Y 4 n i v) = g_tot Y + g_iy v - g_iy (Y 4 n i) := by
  have q := g_ph_up (l := Y 3) (f := Y 4) (g := g_up Y 4 n i v 4) (k := n) (i := i) (fun a b hj => g_up_ne (fun q => hj q.2)) hi (g_n (Y 0 1 0)) hn
  rw [g_up_same] at q
  unfold g_tot
  rw [show g_up Y 4 n i v 0 = Y 0 from g_up_r (by omega), show g_up Y 4 n i v 1 = Y 1 from g_up_r (by omega), show g_up Y 4 n i v 3 = Y 3 from g_up_r (by omega), show g_up Y 4 n i v 6 = Y 6 from g_up_r (by omega)]
  omega
theorem g_W_ft {c c' : Nat} {Y : GA} {n i : Nat} {v : Int32} (hW : g_W c Y) (hn : n < g_n (Y 0 1 0)) (hi : i < g_n (Y 3 n 0)) (hc : c ≤ c') (hc5 : c' ≤ 512) (hv : g_ok v) (ht : g_tot Y + g_iy v - g_iy (Y 4 n i) ≤ 400000 * c') (h4 : g_to4 Y + g_iy v - g_iy (Y 4 n i) ≤ 400000 * c') : g_W c' (g_up Y 4 n i v) := by
  unfold g_tot at ht
  unfold g_to4 at h4
  exact g_W_f hW hn hi hc hc5 hv (by omega) (by omega)
theorem g_to4_f {Y : GA} {n i : Nat} {v : Int32} (hn : n < g_n (Y 0 1 0)) (hi : i < g_n (Y 3 n 0)) : g_to4 (g_up Y 4 n i v) = g_to4 Y + g_iy v - g_iy (Y 4 n i) := by
  have q := g_ph_up (l := Y 3) (f := Y 4) (g := g_up Y 4 n i v 4) (k := n) (i := i) (fun a b hj => g_up_ne (fun q => hj q.2)) hi (g_n (Y 0 1 0)) hn
  rw [g_up_same] at q
  unfold g_to4
  rw [show g_up Y 4 n i v 0 = Y 0 from g_up_r (by omega), show g_up Y 4 n i v 1 = Y 1 from g_up_r (by omega), show g_up Y 4 n i v 3 = Y 3 from g_up_r (by omega)]
  omega
def g_mw (Y : GA) (x z : Int32) : Int32 := if g_fw Y x = 0 then (if g_fw Y z = 0 then (if Y 3 (g_n (Y 2 (g_n x / 96) (g_n x % 96))) 0 ≤ Y 3 (g_n (Y 2 (g_n z / 96) (g_n z % 96))) 0 then 0 else 2) else g_fw Y z) else g_fw Y x
theorem c_178 {c y : Nat} {Y V : GA} {X S : QS} (hC : g_C y Y V X S) (hW : g_W c Y) (x z : Int32) : f_178 x z S = some (g_mw Y x z, S) := by
  unfold f_178 b_178_16 g_mw
  rw [c_176 hC hW, x_bd]
  rcases g_fw_cases hW x with q | ⟨q, k, i, n, a1, a2, a3, a4, a5, a6, a7, rfl⟩
  · rw [if_pos (g_12a q), if_neg (g_12a q), if_neg (g_12a q)]
  · rw [if_neg (show ¬ ¬ g_fw Y (nI (96 * k + i)) = 0 from fun p => p q), if_pos q, c_176 hC hW, x_bd]
    rcases g_fw_cases hW z with p | ⟨p, k', i', n', b1, b2, b3, b4, b5, b6, b7, rfl⟩
    · rw [if_neg (g_12a p), if_neg (g_12a p)]
    · rw [if_pos p, if_pos p, c_now hC, c_100 hC b1 b2 b3 b4 b5 b6 b7, x_bd, c_now hC, c_100 hC a1 a2 a3 a4 a5 a6 a7, x_bd]
      dsimp only
      rw [c_l hC a5 a6, c_l hC b5 b6, g_n_nI (show 96 * k + i < 2 ^ 31 by omega), g_n_nI (show 96 * k' + i' < 2 ^ 31 by omega), (g_d96 a4).1, (g_d96 a4).2, (g_d96 b4).1, (g_d96 b4).2, a7, b7, g_n_nI (show n < 2 ^ 31 by omega), g_n_nI (show n' < 2 ^ 31 by omega)]
      split <;> rfl
theorem t_226 {c : Nat} {Y V : GA} {Z T : QS} (hT : g_T Y V Z T) (hW : g_W c Y) (x z : Int32) : f_226 x z T = some (g_mw Y x z, T) := by
  unfold f_226 g_mw f_202
  rw [t_201 hT hW, x_bd, t_201 hT hW, x_bd]
  rcases g_fw_cases hW x with q | ⟨q, k, i, n, a1, a2, a3, a4, a5, a6, a7, rfl⟩
  · rw [if_neg (g_12b q), x_bd, if_neg (g_12b q), if_neg (g_12a q)]
  · rw [if_pos (g_12c q), x_bd, if_pos q]
    rcases g_fw_cases hW z with p | ⟨p, k', i', n', b1, b2, b3, b4, b5, b6, b7, rfl⟩
    · rw [if_neg (g_12b p), if_neg (g_12a p)]
    · rw [if_pos (g_12c p), if_pos p, t_194 hT b2 b4, x_bd, b7, t_195 hT b6, x_bd, t_194 hT a2 a4, x_bd, a7, t_195 hT a6, x_bd, g_n_nI (show 96 * k + i < 2 ^ 31 by omega), g_n_nI (show 96 * k' + i' < 2 ^ 31 by omega), (g_d96 a4).1, (g_d96 a4).2, (g_d96 b4).1, (g_d96 b4).2, a7, b7, g_n_nI (show n < 2 ^ 31 by omega), g_n_nI (show n' < 2 ^ 31 by omega)]
      split <;> rfl
theorem g_mw_cases {c : Nat} {Y : GA} (h : g_W c Y) (x z : Int32) : (g_mw Y x z = 2 ∨ g_mw Y x z = 1) ∨ (g_mw Y x z = 0 ∧ ∃ k i n k' i' n', (k < g_n (Y 0 0 0) ∧ k < 40 ∧ i < 12 * g_n (Y 1 k 10) ∧ i < 96 ∧ n < g_n (Y 0 1 0) ∧ n < 200 ∧ Y 2 k i = nI n ∧ x = nI (96 * k + i)) ∧ (k' < g_n (Y 0 0 0) ∧ k' < 40 ∧ i' < 12 * g_n (Y 1 k' 10) ∧ i' < 96 ∧ n' < g_n (Y 0 1 0) ∧ n' < 200 ∧ Y 2 k' i' = nI n' ∧ z = nI (96 * k' + i')) ∧ g_n (Y 3 n 0) ≤ g_n (Y 3 n' 0)) := by
  unfold g_mw
  rcases g_fw_cases h x with q | ⟨q, k, i, n, a1, a2, a3, a4, a5, a6, a7, rfl⟩
  · rw [if_neg (g_12a q)]
    exact Or.inl q
  · rw [if_pos q]
    rcases g_fw_cases h z with p | ⟨p, k', i', n', b1, b2, b3, b4, b5, b6, b7, rfl⟩
    · rw [if_neg (g_12a p)]
      exact Or.inl p
    · rw [if_pos p, g_n_nI (show 96 * k + i < 2 ^ 31 by omega), g_n_nI (show 96 * k' + i' < 2 ^ 31 by omega), (g_d96 a4).1, (g_d96 a4).2, (g_d96 b4).1, (g_d96 b4).2, a7, b7, g_n_nI (show n < 2 ^ 31 by omega), g_n_nI (show n' < 2 ^ 31 by omega)]
      by_cases r : Y 3 n 0 ≤ Y 3 n' 0
      · rw [if_pos r]
        have l1 := h.2.2.2.1 n a5
        have l2 := h.2.2.2.1 n' b5
        rw [l2.1, g_N_le l1 (by omega) (by have := l2.2; omega)] at r
        exact Or.inr ⟨rfl, k, i, n, k', i', n', ⟨a1, a2, a3, a4, a5, a6, a7, rfl⟩, ⟨b1, b2, b3, b4, b5, b6, b7, rfl⟩, r⟩
      · rw [if_neg r]
        exact Or.inl (Or.inl rfl)
theorem l_36 {c y n n' : Nat} {V : GA} {X Z : QS} (hn2 : n < 200) (hn2' : n' < 200) (hne : n ≠ n') (s0 : Int32) : ∀ (m i p q : Nat) (a : Int32) (Y : GA) (S T : QS), g_C y Y V X S → g_T (g_up Y 0 6 0 (s0 + a)) V Z T → g_W c Y → n < g_n (Y 0 1 0) → n' < g_n (Y 0 1 0) → g_n (Y 3 n 0) ≤ g_n (Y 3 n' 0) → i + m = g_n (Y 3 n 0) → m < p → m < q → ∃ r Y' S' T', b_36_4 p y n y n' a (nI i) S = some (r, S') ∧ b_227_2 q (nI n) (nI n') (nI i) T = some ((), T') ∧ g_C y Y' V X S' ∧ g_T (g_up Y' 0 6 0 (s0 + r)) V Z T' ∧ g_W c Y' ∧ g_o4 Y Y'
  | m, i, 0, _, _, _, _, _, _, _, _, _, _, _, _, h1, _ => by omega
  | m, i, _, 0, _, _, _, _, _, _, _, _, _, _, _, _, h2 => by omega
  | m, i, p + 1, q + 1, a, Y, S, T, hC, hT, hW, hn, hn', hle, hm, h1, h2 => by
    have hl := hW.2.2.2.1 n hn
    have hl2 := hl.2
    have hl' := hW.2.2.2.1 n' hn'
    have hl2' := hl'.2
    have v3 : g_up Y 0 6 0 (s0 + a) 3 n 0 = Y 3 n 0 := rfl
    have v4 : ∀ k j, g_up Y 0 6 0 (s0 + a) 4 k j = Y 4 k j := fun _ _ => rfl
    rw [b_36_4, b_227_2, c_l hC hn hn2, c_l hC hn' hn2', t_195 hT hn2, x_bd, v3]
    cases m with
    | zero =>
      have e : Y 3 n 0 ≤ nI i := (g_N_le hl (by omega) (by omega)).2 (by omega)
      rw [if_pos e, if_pos e]
      exact ⟨a, Y, S, T, rfl, rfl, hC, hT, hW, g_o4_0 Y⟩
    | succ m =>
      have e : ¬ Y 3 n 0 ≤ nI i := fun e => by rw [g_N_le hl (by omega) (by omega)] at e; omega
      have e' : ¬ Y 3 n' 0 ≤ nI i := fun e => by rw [g_N_le hl' (by omega) (by omega)] at e; omega
      rw [if_neg e, if_neg e, if_neg e', w_in (show i < 64 by omega) (by omega), nI_clamp (show i < 2 ^ 31 by omega), c_f hC hn' hn2' (by omega) (by omega), x_ck, x_let, e_180, x_bd, t_196 hT hn2' (by omega), x_bd, v4]
      simp only [x_let, x_ck]
      rw [c_f hC hn hn2 (by omega) (by omega), e_203, w_i6, w_c6, t_n6 hT, g_up_same, x_ck, x_bd]
      unfold b_227_41
      rw [w_i6, w_c6]
      simp only [x_let, x_ck]
      have hb : ∀ (K : Int32 → Option (Unit × QS)), (if (if Y 4 n' i ≤ 0 then (0 : Int32) else if 100 < Y 4 n' i then 0 else 1) = 0 then K 0 else K (Y 4 n' i)) = K (g_hon (Y 4 n' i)) := by
        intro K
        rw [← e_203h]
        exact (apply_ite K _ _ _).symm
      have hb2 := hb (fun w => q_bd (f_196 (nI n) (nI i) (q_set T (40, 0, 0) 6 (s0 + a + w))) fun r_9 S_10 => q_bd (f_197 (nI n') (nI i) r_9 S_10) fun r_11 S_12 => q_bd (f_197 (nI n) (nI i) 0 S_12) fun r_13 S_14 => b_227_2 q (nI n) (nI n') (nI i + 1) S_14)
      rw [hb2]
      obtain ⟨T1, f1, hT1⟩ := ts_n6 hT (s0 + a + g_hon (Y 4 n' i))
      rw [g_up_up] at hT1
      have v4' : ∀ w k j, g_up Y 0 6 0 w 4 k j = Y 4 k j := fun _ _ _ => rfl
      rw [f1, t_196 hT1 hn2 (by omega), x_bd, v4']
      obtain ⟨S1, e1, hC1⟩ := cs_f hC hn2' (show i < 64 by omega) (Y 4 n i)
      obtain ⟨S2, e2, hC2⟩ := cs_f hC1 hn2 (show i < 64 by omega) 0
      obtain ⟨T2, f2, hT2⟩ := t_197 hT1 hn2' (show i < 64 by omega) (Y 4 n i)
      obtain ⟨T3, f3, hT3⟩ := t_197 hT2 hn2 (show i < 64 by omega) 0
      rw [e1, e2, f2, x_bd, f3, x_bd, nI_1]
      rw [g_up_comm (r := 0) (r' := 4) (fun q => by omega), g_up_comm (r := 0) (r' := 4) (fun q => by omega), Int32.add_assoc] at hT3
      have okv := hW.2.2.2.2.2.2.2.1 n i hn (by omega)
      have w1 : g_W c (g_up Y 4 n i 0) := g_W_f0 hW hn (by omega) (Or.inl ⟨by decide, by decide⟩) (fun q => absurd q (by decide))
      have w2 : g_W c (g_up (g_up Y 4 n i 0) 4 n' i (Y 4 n i)) := g_W_ft w1 hn' (show i < g_n (Y 3 n' 0) by omega) (Nat.le_refl c) hW.1 okv (by
        rw [g_tot_f hn (by omega), show g_iy 0 = 0 from rfl]
        have := g_W_tot hW
        have h0 : 0 ≤ g_iy (g_up Y 4 n i 0 4 n' i) := by unfold g_iy; split <;> omega
        omega) (by
        rw [g_to4_f hn (by omega), show g_iy 0 = 0 from rfl]
        have := g_W_to4 hW
        have h0 : 0 ≤ g_iy (g_up Y 4 n i 0 4 n' i) := by unfold g_iy; split <;> omega
        omega)
      rw [g_up_comm (fun q => by omega)] at w2
      obtain ⟨r, Y', S', T', i1, i2, i3, i4, i5, i6⟩ := l_36 hn2 hn2' hne s0 m (i + 1) p q (a + g_hon (Y 4 n' i)) _ S2 T3 hC2 hT3 w2 hn hn' hle (show i + 1 + m = g_n (Y 3 n 0) by omega) (by omega) (by omega)
      exact ⟨r, Y', S', T', i1, i2, i3, i4, i5, g_o4_t (g_o4_1 (g_o4_1 (g_o4_0 Y) _ _ _) _ _ _) i6⟩
/-- one step of a move -/
theorem p_mv {c y : Nat} {Y V : GA} {X Z S T : QS} (h : g_R c y Y V X Z S T) (x1 x2 : Int32) {k : Nat} (hk : Y 10 1 0 = nI k) (h0 : g_mw Y (x1 + nI k) (x2 + nI k) = 0) (bk bk' : Int32 → Int32 → Int32 → Int32 → QS → Option (Int32 × QS)) (x3 : Int32) : ∃ Y' S' T', b_138_72 bk x1 x2 x3 (nI k) S = bk x1 x2 x3 (nI (k + 1)) S' ∧ b_228_81 bk' x1 x2 x3 0 T = bk' x1 x2 x3 0 T' ∧ g_R c y Y' V X Z S' T' ∧ Y' 10 1 0 = nI (k + 1) := by
  obtain ⟨hC, hT, hW, hV, hU⟩ := id h
  unfold b_138_72 b_228_81 b_228_110
  rw [t_z1 hT, hk]
  rcases g_mw_cases hW (x1 + nI k) (x2 + nI k) with q | ⟨q, k1, i1, n1, k2, i2, n2, ⟨a1, a2, a3, a4, a5, a6, a7, a8⟩, ⟨b1, b2, b3, b4, b5, b6, b7, b8⟩, hle⟩
  · rw [h0] at q
    exact absurd q (by decide)
  · have fin : ∀ Y2 S2 T2, g_R c y Y2 V X Z S2 T2 → Y2 10 1 0 = nI k → ∃ Y' S' T', q_let (q_set S2 (10, 0, 0) 4 (S2.1 (10, 0, 0) 4 + 1)) (fun S_8 => bk x1 x2 x3 (nI k + 1) S_8) = bk x1 x2 x3 (nI (k + 1)) S' ∧ q_let (q_set T2 (11, 0, 0) 6 (T2.1 (11, 0, 0) 6 + 1)) (fun S_8 => bk' x1 x2 x3 0 S_8) = bk' x1 x2 x3 0 T' ∧ g_R c y Y' V X Z S' T' ∧ Y' 10 1 0 = nI (k + 1) := by
      intro Y2 S2 T2 h2 hk2
      obtain ⟨S3, e3, hC3⟩ := cs_z1 h2.1 (nI (k + 1))
      obtain ⟨T3, f3, hT3⟩ := ts_z1 h2.2.1 (nI (k + 1))
      rw [c_z1 h2.1, t_z1 h2.2.1, hk2, nI_1, e3, f3, x_let, x_let]
      exact ⟨_, S3, T3, rfl, rfl, g_R_o h2 (by omega) (by omega) hC3 hT3, g_up_same _ _ _ _ _⟩
    unfold f_105
    by_cases hx : x1 = x2
    · rw [if_pos hx, if_pos (by rw [hx]), x_bd]
      have f2 := fin Y S T h hk
      rw [t_z1 hT, hk] at f2
      exact f2
    · have hx' : ¬ x1 + nI k = x2 + nI k := fun e => hx (by
        have := congrArg (fun u => u - nI k) e
        simpa [Int32.add_sub_cancel] using this)
      have hne : n1 ≠ n2 := by
        intro e
        subst e
        have := hW.2.2.2.2.2.2.1.1 k1 i1 k2 i2 a2 a4 b2 b4 (by rw [a7, b7]) (by rw [a7]; exact g_nI_m1 (by omega))
        obtain ⟨rfl, rfl⟩ := this
        exact hx' (by rw [a8, b8])
      rw [if_neg hx, if_neg hx', a8, b8, c_now hC, c_100 hC a1 a2 a3 a4 a5 a6 a7, x_bd, c_100 hC b1 b2 b3 b4 b5 b6 b7, x_bd, t_194 hT a2 a4, x_bd, t_z1 hT, hk, b8, t_194 hT b2 b4, x_bd, a7, b7]
      dsimp only
      have hl2 := (hW.2.2.2.1 n1 a5).2
      have hT0 : g_T (g_up Y 0 6 0 (Y 0 6 0 + 0)) V Z T := by
        rw [Int32.add_zero, g_up_id rfl]
        exact hT
      obtain ⟨r, Y', S', T', j1, j2, j3, j4, j5, j6⟩ := l_36 (c := c) (y := y) (V := V) (X := X) (Z := Z) a6 b6 hne (Y 0 6 0) (g_n (Y 3 n1 0)) 0 q_N q_N 0 Y S T hC hT0 hW a5 b5 hle (by omega) (by unfold q_N; omega) (by unfold q_N; omega)
      rw [show f_36 y n1 y n2 S = _ from j1, x_bd, c_n6 hC, show f_227 (nI n1) (nI n2) T = _ from j2, x_bd]
      obtain ⟨S4, e4, hC4⟩ := cs_n6 j3 (Y 0 6 0 + r)
      rw [e4, x_let, x_bd]
      have h10 : g_up Y' 0 6 0 (Y 0 6 0 + r) 10 = Y 10 := by rw [g_up_r (by omega), j6 10 (by omega)]
      refine fin _ S4 T' ⟨hC4, j4, g_W_0 j5 (by omega) (by omega), ?_, ?_⟩ (by rw [h10]; exact hk)
      · rw [h10]; exact hV
      · rw [h10]; exact hU
theorem l_138 {c y N : Nat} {X Z : QS} (hN : N ≤ 12) (x1 x2 : Int32) : ∀ (m k p q : Nat) (Y V : GA) (S T : QS), g_R c y Y V X Z S T → Y 10 1 0 = nI k → k + m = N → m < p → m + 1 < q → g_Ok c X Z (b_138_31 p x1 x2 (nI N) (nI k) S) (b_228_31 q x1 x2 (nI N) 0 T)
  | m, k, 0, _, _, _, _, _, _, _, _, h1, _ => by omega
  | m, k, _, 0, _, _, _, _, _, _, _, _, h2 => by omega
  | m, k, p + 1, q + 1, Y, V, S, T, h, hk, hm, h1, h2 => by
    obtain ⟨hC, hT, hW, hV, hU⟩ := id h
    rw [b_138_31, b_228_31, t_z1 hT, hk]
    unfold b_228_123
    simp only [w_eta]
    cases m with
    | zero =>
      rw [if_pos (nI_le (by omega) (by omega)), if_pos (nI_le (by omega) (by omega)), if_pos (show (0 : Int32) ≤ 0 from by decide)]
      exact g_accept h _
    | succ m =>
      rw [if_neg (nI_ge (by omega) (by omega)), if_neg (nI_ge (by omega) (by omega)), if_neg (show ¬ ¬ True from fun p => p trivial), c_178 hC hW, t_226 hT hW, x_bd, x_bd]
      rcases g_mw_cases hW (x1 + nI k) (x2 + nI k) with r | ⟨r, _⟩
      · rw [if_neg (g_12a r), if_neg (g_12b r)]
        obtain ⟨q', rfl⟩ : ∃ q', q = q' + 1 := ⟨q - 1, by omega⟩
        rw [b_228_31, t_z1 hT, hk, if_neg (nI_ge (by omega) (by omega)), if_pos (g_12a r)]
        unfold b_228_123
        rw [if_neg (g_12b r), w_eta]
        exact g_refuse h _
      · rw [if_pos r, if_pos (g_12c r), t_z1 hT, hk]
        by_cases hk0 : k = 0
        · subst hk0
          obtain ⟨S1, T1, e1, e2, hkp⟩ := k_keep h
          have r' : g_mw (g_up Y 10 3 0 1) (x1 + nI 0) (x2 + nI 0) = 0 := r
          obtain ⟨Y', S', T', i1, i2, i3, i4⟩ := p_mv hkp x1 x2 (k := 0) hk r' (b_138_31 p) (b_228_31 q) (nI N)
          rw [if_neg (show ¬ ¬ nI 0 = 0 from by decide), if_neg (show ¬ ¬ nI 0 = 0 from by decide), e1, e2, x_bd, x_bd, i1, r, i2]
          exact l_138 hN x1 x2 m 1 p q Y' Y S' T' i3 i4 (by omega) (by omega) (by omega)
        · obtain ⟨Y', S', T', i1, i2, i3, i4⟩ := p_mv h x1 x2 (k := k) hk r (b_138_31 p) (b_228_31 q) (nI N)
          have hkne : ¬ nI k = 0 := nI_ne0 (by omega) (by omega)
          rw [if_pos hkne, if_pos hkne, i1, r, i2]
          exact l_138 hN x1 x2 m (k + 1) p q Y' V S' T' i3 i4 (by omega) (by omega) (by omega)
theorem jj_138 {c y : Nat} {Y V : GA} {X Z S T : QS} (h : g_R c y Y V X Z S T) (x z w : Int32) : g_Ok c X Z (f_138 x z w S) (f_228 x z w T) := by
  unfold f_138 f_228
  simp only [w_eta]
  by_cases h1 : w ≤ 12
  · rw [if_pos h1, if_pos h1]
    by_cases h2 : 0 ≤ w
    · rw [if_pos h2, if_pos h2]
      obtain ⟨N, hN, rfl⟩ := nI_of2 (x := w) (M := 12) (n := 12) (by decide) ((g_nle 0 w).1 h2) h1
      obtain ⟨S1, e1, hC1⟩ := cs_z1 h.1 0
      obtain ⟨T1, f1, hT1⟩ := ts_z1 h.2.1 0
      rw [e1, f1, x_let, x_let]
      exact l_138 hN x z N 0 q_N q_N _ V S1 T1 (g_R_o h (by omega) (by omega) hC1 hT1) (g_up_same _ _ _ _ _) (by omega) (by unfold q_N; omega) (by unfold q_N; omega)
    · rw [if_neg h2, if_neg h2]
      exact g_refuse h _
  · rw [if_neg h1, if_neg h1]
    exact g_refuse h _
