/-! ===== harvest, move ===== -/
def g_hs (f : Nat → Int32) : Nat → Nat
  | 0 => 0
  | k + 1 => g_hs f k + g_n (g_hon (f k))
theorem g_hon_N {x : Int32} (h : g_ok x) : g_N (g_hon x) 100 ∧ (g_hon x = 0 ∨ (g_hon x = x ∧ x ≤ 100)) := by
  unfold g_hon
  by_cases h1 : x ≤ 0
  · rw [if_pos h1]
    exact ⟨g_N_nI (a := 0) (by omega) (by omega), Or.inl rfl⟩
  · rw [if_neg h1]
    by_cases h2 : 100 < x
    · rw [if_pos h2]
      exact ⟨g_N_nI (a := 0) (by omega) (by omega), Or.inl rfl⟩
    · rw [if_neg h2]
      refine ⟨g_N_of (M := 100) (by decide) (fun q => h1 ?_) ((g_nle _ _).2 h2) (by omega), Or.inr ⟨rfl, (g_nle _ _).2 h2⟩⟩
      rw [Int32.le_iff_toInt_le]
      rw [Int32.lt_iff_toInt_lt] at q
      omega
theorem g_hs_le {f : Nat → Int32} : ∀ m, (∀ j, j < m → g_ok (f j)) → g_hs f m ≤ 100 * m
  | 0, _ => by unfold g_hs; omega
  | m + 1, h => by
    unfold g_hs
    have h1 := g_hs_le m (fun j hj => h j (by omega))
    have h2 := (g_hon_N (h m (by omega))).1.2
    omega
theorem g_hs_mono {f : Nat → Int32} {i : Nat} : ∀ m, i ≤ m → g_hs f i ≤ g_hs f m
  | 0, h => by rw [show i = 0 by omega]; exact Nat.le_refl _
  | m + 1, h => by
    by_cases e : i = m + 1
    · rw [e]; exact Nat.le_refl _
    · have := g_hs_mono (f := f) (i := i) m (by omega)
      show g_hs f i ≤ g_hs f m + _
      omega
theorem c_32 {c y : Nat} {Y V : GA} {X S : QS} (hC : g_C y Y V X S) (hW : g_W c Y) {n : Nat} (hn : n < g_n (Y 0 1 0)) (hn2 : n < 200) : ∀ (m i p : Nat), i + m = g_n (Y 3 n 0) → m < p → b_32_4 p y n (nI (g_hs (Y 4 n) i)) (nI i) S = some (nI (g_hs (Y 4 n) (g_n (Y 3 n 0))), S)
  | m, i, 0, _, h1 => by omega
  | m, i, p + 1, hm, h1 => by
    have hl := hW.2.2.2.1 n hn
    have hl2 := hl.2
    rw [b_32_4, c_l hC hn hn2]
    cases m with
    | zero =>
      rw [if_pos ((g_N_le hl (by omega) (by omega)).2 (by omega)), show i = g_n (Y 3 n 0) by omega]
    | succ m =>
      have hok := hW.2.2.2.2.2.2.2.1 n i hn (by omega)
      rw [if_neg (fun e => by rw [g_N_le hl (by omega) (by omega)] at e; omega), w_in (show i < 64 by omega) (by omega), nI_clamp (by omega), x_ck, x_let, c_f hC hn hn2 (by omega) (by omega), e_180, x_bd, x_let, nI_1]
      have e : nI (g_hs (Y 4 n) i) + g_hon (Y 4 n i) = nI (g_hs (Y 4 n) (i + 1)) := by
        show _ = nI (g_hs (Y 4 n) i + g_n (g_hon (Y 4 n i)))
        rw [← nI_add, ← (g_hon_N hok).1.1]
      rw [e]
      exact c_32 hC hW hn hn2 m (i + 1) p (by omega) (by omega)
theorem l_222t {c n : Nat} {Y V : GA} {Z T : QS} (hT : g_T Y V Z T) (hW : g_W c Y) (hn : n < g_n (Y 0 1 0)) (hn2 : n < 200) (x1 x4 : Int32) : ∀ (m i q : Nat), i + m = g_n (Y 3 n 0) → m < q → (∀ j, i ≤ j → j < g_n (Y 3 n 0) → g_hon (Y 4 n j) = 0) → b_222_56 q x1 (nI n) x4 (nI i) T = b_222_56 1 x1 (nI n) x4 (nI (g_n (Y 3 n 0))) T
  | m, i, 0, _, h1, _ => by omega
  | m, i, q + 1, hm, h1, hz => by
    have hl := hW.2.2.2.1 n hn
    have hl2 := hl.2
    cases m with
    | zero =>
      rw [show i = g_n (Y 3 n 0) by omega, b_222_56, b_222_56, t_195 hT hn2, x_bd, if_pos ((g_N_le hl (by omega) (by omega)).2 (Nat.le_refl _)), x_bd, if_pos ((g_N_le hl (by omega) (by omega)).2 (Nat.le_refl _))]
    | succ m =>
      rw [b_222_56, t_195 hT hn2, x_bd, if_neg (fun e => by rw [g_N_le hl (by omega) (by omega)] at e; omega), t_196 hT hn2 (by omega), x_bd, e_203, x_bd]
      have e0 : (if Y 4 n i ≤ 0 then (0 : Int32) else if 100 < Y 4 n i then 0 else 1) = 0 := by
        have hz0 := hz i (by omega) (by omega)
        unfold g_hon at hz0
        by_cases q1 : Y 4 n i ≤ 0
        · rw [if_pos q1]
        · rw [if_neg q1] at hz0 ⊢
          by_cases q2 : 100 < Y 4 n i
          · rw [if_pos q2]
          · rw [if_neg q2] at hz0
            exact absurd (by rw [hz0]; decide) q1
      rw [if_pos e0]
      unfold b_222_87
      rw [nI_1]
      exact l_222t hT hW hn hn2 x1 x4 m (i + 1) q (by omega) (by omega) (fun j j1 j2 => hz j (by omega) j2)
theorem l_34 {c y n N : Nat} {V : GA} {X Z : QS} {f0 : Nat → Int32} (hn2 : n < 200) (x1 : Int32) : ∀ (m i p q : Nat) (Y : GA) (S T : QS), g_C y Y V X S → g_T Y V Z T → g_W c Y → n < g_n (Y 0 1 0) → i + m = g_n (Y 3 n 0) → N = g_hs f0 (g_n (Y 3 n 0)) → N ≤ 6400 → (∀ j, i ≤ j → j < g_n (Y 3 n 0) → Y 4 n j = f0 j) → m < p → m < q → ∃ Y' S' T', b_34_4 p y n (nI N) (nI (N - g_hs f0 i)) (nI i) S = some (nI N, S') ∧ b_222_56 q x1 (nI n) (nI N) (nI i) T = b_222_56 1 x1 (nI n) (nI N) (nI (g_n (Y 3 n 0))) T' ∧ g_C y Y' V X S' ∧ g_T Y' V Z T' ∧ g_W c Y' ∧ g_o4 Y Y'
  | m, i, 0, _, _, _, _, _, _, _, _, _, _, _, _, h1, _ => by omega
  | m, i, _, 0, _, _, _, _, _, _, _, _, _, _, _, _, h2 => by omega
  | m, i, p + 1, q + 1, Y, S, T, hC, hT, hW, hn, hm, hN, hN2, hf, h1, h2 => by
    have hl := hW.2.2.2.1 n hn
    have hl2 := hl.2
    have hmon := g_hs_mono (f := f0) (i := i) (g_n (Y 3 n 0)) (by omega)
    rw [b_34_4, c_l hC hn hn2]
    unfold b_34_53
    cases m with
    | zero =>
      have e : i = g_n (Y 3 n 0) := by omega
      have e0 : N - g_hs f0 i = 0 := by rw [e, hN]; omega
      rw [if_pos ((g_N_le hl (by omega) (by omega)).2 (by omega)), e0, pk_sub (by omega), Nat.sub_zero]
      refine ⟨Y, S, T, rfl, ?_, hC, hT, hW, g_o4_0 Y⟩
      rw [e, b_222_56, b_222_56, t_195 hT hn2, x_bd, if_pos ((g_N_le hl (by omega) (by omega)).2 (Nat.le_refl _)), x_bd, if_pos ((g_N_le hl (by omega) (by omega)).2 (Nat.le_refl _))]
    | succ m =>
      have hnle : ¬ Y 3 n 0 ≤ nI i := fun e => by rw [g_N_le hl (by omega) (by omega)] at e; omega
      rw [if_neg hnle]
      by_cases h0 : N - g_hs f0 i = 0
      · rw [h0, if_pos (show nI 0 ≤ 0 from by decide), pk_sub (by omega), Nat.sub_zero]
        refine ⟨Y, S, T, rfl, ?_, hC, hT, hW, g_o4_0 Y⟩
        refine l_222t hT hW hn hn2 x1 (nI N) (m + 1) i (q + 1) hm (by omega) ?_
        intro j j1 j2
        have m1 := g_hs_mono (f := f0) (i := i) j j1
        have m2 := g_hs_mono (f := f0) (i := j + 1) (g_n (Y 3 n 0)) (by omega)
        have m3 : g_hs f0 (j + 1) = g_hs f0 j + g_n (g_hon (f0 j)) := rfl
        have hok := hW.2.2.2.2.2.2.2.1 n j hn j2
        rw [hf j j1 j2] at hok ⊢
        rw [(g_hon_N hok).1.1, show g_n (g_hon (f0 j)) = 0 by omega]
        rfl
      · have hok := hW.2.2.2.2.2.2.2.1 n i hn (by omega)
        have hfi := hf i (Nat.le_refl i) (by omega)
        have m2 := g_hs_mono (f := f0) (i := i + 1) (g_n (Y 3 n 0)) (by omega)
        have m3 : g_hs f0 (i + 1) = g_hs f0 i + g_n (g_hon (f0 i)) := rfl
        have hh := (g_hon_N hok).1
        rw [if_neg (nI_nle (n := N - g_hs f0 i) (by omega) (by omega)), w_in (show i < 64 by omega) (by omega), nI_clamp (show i < 2 ^ 31 by omega), c_f hC hn hn2 (by omega) (by omega), x_ck, x_let, e_180, x_bd]
        have hmin : (if nI (N - g_hs f0 i) < g_hon (Y 4 n i) then nI (N - g_hs f0 i) else g_hon (Y 4 n i)) = g_hon (Y 4 n i) := by
          rw [if_neg]
          intro q
          rw [g_N_gt hh (by omega) (by omega), hfi] at q
          omega
        have hleft : nI (N - g_hs f0 i) - g_hon (Y 4 n i) = nI (N - g_hs f0 (i + 1)) := by
          rw [hh.1, hfi, pk_sub (by omega), m3]
          congr 1
          omega
        rw [hmin]
        simp only [x_ck, x_let]
        rw [c_f hC hn hn2 (by omega) (by omega), hleft, nI_1]
        obtain ⟨S1, e1, hC1⟩ := cs_f hC hn2 (show i < 64 by omega) (Y 4 n i - g_hon (Y 4 n i))
        rw [e1]
        have next : ∀ Y1 T1, g_C y Y1 V X S1 → g_T Y1 V Z T1 → g_W c Y1 → g_o4 Y Y1 → (∀ j, i + 1 ≤ j → Y1 4 n j = Y 4 n j) → ∃ Y' S' T', b_34_4 p y n (nI N) (nI (N - g_hs f0 (i + 1))) (nI (i + 1)) S1 = some (nI N, S') ∧ b_222_56 q x1 (nI n) (nI N) (nI (i + 1)) T1 = b_222_56 1 x1 (nI n) (nI N) (nI (g_n (Y 3 n 0))) T' ∧ g_C y Y' V X S' ∧ g_T Y' V Z T' ∧ g_W c Y' ∧ g_o4 Y Y' := by
          intro Y1 T1 k1 k2 k3 k4 k5
          have k43 : Y1 3 n 0 = Y 3 n 0 := by rw [k4 3 (by omega)]
          obtain ⟨Y', S', T', j1, j2, j3, j4, j5, j6⟩ := l_34 (f0 := f0) (N := N) hn2 x1 m (i + 1) p q Y1 S1 T1 k1 k2 k3 (by rw [k4 0 (by omega)]; exact hn) (by rw [k43]; omega) (by rw [k43]; exact hN) hN2 (fun j j1 j2 => by rw [k43] at j2; rw [k5 j j1, hf j (by omega) j2]) (by omega) (by omega)
          rw [k43] at j2
          exact ⟨Y', S', T', j1, j2, j3, j4, j5, g_o4_t k4 j6⟩
        rw [b_222_56, t_195 hT hn2, x_bd, if_neg hnle, t_196 hT hn2 (by omega), x_bd, e_203, x_bd]
        unfold b_222_87
        rw [nI_1]
        by_cases q1 : (if Y 4 n i ≤ 0 then (0 : Int32) else if 100 < Y 4 n i then 0 else 1) = 0
        · have hon0 : g_hon (Y 4 n i) = 0 := by rw [← e_203h, if_pos q1]
          rw [if_pos q1]
          rw [hon0, Int32.sub_zero, g_up_id rfl] at hC1
          exact next Y T hC1 hT hW (g_o4_0 Y) (fun _ _ => rfl)
        · have honx : g_hon (Y 4 n i) = Y 4 n i := by rw [← e_203h, if_neg q1]
          rw [if_neg q1]
          rw [honx, Int32.sub_self] at hC1
          obtain ⟨T1, e2, hT1⟩ := t_197 hT hn2 (show i < 64 by omega) 0
          rw [e2, x_bd]
          exact next _ T1 hC1 hT1 (g_W_f0 hW hn (by omega) (Or.inl ⟨by decide, by decide⟩) (fun q => absurd q (by decide))) (g_o4_1 (g_o4_0 Y) _ _ _) (fun j j1 => g_up_ne (fun q => by omega))
theorem g_W_ec {c : Nat} {Y : GA} {m : Nat} (hW : g_W c Y) (hm : m ≤ 200) : g_W c (g_up Y 0 8 0 (nI m)) := by
  have e0 : g_up Y 0 8 0 (nI m) 0 0 0 = Y 0 0 0 := g_up_ne (fun q => by omega)
  have e1 : g_up Y 0 8 0 (nI m) 0 1 0 = Y 0 1 0 := g_up_ne (fun q => by omega)
  have e2 : g_up Y 0 8 0 (nI m) 0 2 0 = Y 0 2 0 := g_up_ne (fun q => by omega)
  have e8 : g_up Y 0 8 0 (nI m) 0 8 0 = nI m := g_up_same _ _ _ _ _
  unfold g_W at hW ⊢
  rw [g_up_r (r' := 1) (by omega), g_up_r (r' := 2) (by omega), g_up_r (r' := 3) (by omega), g_up_r (r' := 4) (by omega), g_up_r (r' := 5) (by omega), g_up_r (r' := 6) (by omega), g_up_r (r' := 8) (by omega)]
  unfold g_V g_w0 g_wB g_wL g_wP g_wK g_wF g_wT g_wS g_wI g_wD g_wN at hW ⊢
  rw [e0, e1, e2, e8]
  exact ⟨hW.1, ⟨hW.2.1.1, hW.2.1.2.1, hW.2.1.2.2.1, g_N_nI hm (by omega)⟩, hW.2.2⟩
theorem c_25 {c y : Nat} {Y V : GA} {X S : QS} (hC : g_C y Y V X S) (hW : g_W c Y) {e : Nat} (he : Y 0 8 0 = nI e) (he2 : e < 200) (a b d : Int32) : ∃ S', f_25 y a b d S = some ((), S') ∧ g_C y (g_up (g_up (g_up (g_up Y 7 e 0 a) 7 e 1 b) 7 e 2 d) 0 8 0 (nI (e + 1))) V X S' := by
  unfold f_25
  rw [c_n8 hC, he, w_in he2 (by omega), nI_clamp (by omega), x_ck]
  obtain ⟨S1, e1, hC1⟩ := cs_e0 hC he2 a
  have v1 : g_up Y 7 e 0 a 0 8 0 = nI e := he
  rw [e1, x_let, c_n8 hC1, v1, w_in he2 (by omega), nI_clamp (by omega), x_ck]
  obtain ⟨S2, e2, hC2⟩ := cs_e1 hC1 he2 b
  have v2 : g_up (g_up Y 7 e 0 a) 7 e 1 b 0 8 0 = nI e := he
  rw [e2, x_let, c_n8 hC2, v2, w_in he2 (by omega), nI_clamp (by omega), x_ck]
  obtain ⟨S3, e3, hC3⟩ := cs_e2 hC2 he2 d
  have v3 : g_up (g_up (g_up Y 7 e 0 a) 7 e 1 b) 7 e 2 d 0 8 0 = nI e := he
  rw [e3, x_let, c_n8 hC3, v3, nI_1, x_let]
  have s0 : S3.1 (21, y, 0) e = a := by
    rw [← e3, g_set_a (fun q => by injection q with q1 q2; omega), ← e2, g_set_a (fun q => by injection q with q1 q2; omega), ← e1, g_set1, if_pos ⟨rfl, rfl⟩]
  have s1 : S3.1 (22, y, 0) e = b := by
    rw [← e3, g_set_a (fun q => by injection q with q1 q2; omega), ← e2, g_set1, if_pos ⟨rfl, rfl⟩]
  have s2 : S3.1 (23, y, 0) e = d := by
    rw [← e3, g_set1, if_pos ⟨rfl, rfl⟩]
  refine ⟨_, rfl, ?_⟩
  refine g_C_gen (r := 0) (i := 8) (j := 0) hC3 (by omega) ⟨by omega, rfl⟩ (by omega) ?_ ?_
  · intro r i j hr hv hne hl
    by_cases h7 : r = 7 ∧ i = e
    · obtain ⟨rfl, rfl⟩ := h7
      have hj : j < 3 := hv.2
      show S3.1 (21 + j, y, 0) i = _
      have : j = 0 ∨ j = 1 ∨ j = 2 := by omega
      rcases this with q | q | q <;> subst q
      · rw [s0, g_up_ne (fun q => by omega), g_up_ne (fun q => by omega), g_up_same]
      · rw [s1, g_up_ne (fun q => by omega), g_up_same]
      · rw [s2, g_up_same]
    · refine hC3.2.1 r i j hr hv ?_
      generalize g_up (g_up (g_up Y 7 e 0 a) 7 e 1 b) 7 e 2 d = W at hl v3 ⊢
      unfold g_lv at hl ⊢
      rw [g_up_same, show g_up W 0 8 0 (nI (e + 1)) 0 0 0 = W 0 0 0 from g_up_ne (fun q => by omega), show g_up W 0 8 0 (nI (e + 1)) 0 1 0 = W 0 1 0 from g_up_ne (fun q => by omega), show g_up W 0 8 0 (nI (e + 1)) 0 2 0 = W 0 2 0 from g_up_ne (fun q => by omega), show g_up W 0 8 0 (nI (e + 1)) 1 = W 1 from g_up_r (by omega), show g_up W 0 8 0 (nI (e + 1)) 3 = W 3 from g_up_r (by omega), g_n_nI (by omega)] at hl
      rw [v3, g_n_nI (by omega)]
      split at hl
      · exact hl
      · exact hl
      · exact hl
      · exact hl
      · exact hl
      · have : i ≠ e := fun q => h7 ⟨rfl, q⟩
        omega
      · exact hl
      · exact trivial
  · have md := hC3.2.2.2.1
    exact md
theorem jj_135 {c y : Nat} {Y V : GA} {X Z S T : QS} (h : g_R c y Y V X Z S T) (x : Int32) : g_Ok c X Z (f_135 x S) (f_222 x T) := by
  obtain ⟨hC, hT, hW, hV, hU⟩ := id h
  have n8 := hW.2.1.2.2.2
  unfold f_135 f_222
  rw [c_176 hC hW, t_201 hT hW]
  simp only [x_bd, w_eta]
  have no : ∀ e, ¬ e ≤ 0 → b_222_26 x e T = f_186 e T := by
    intro e h2
    unfold b_222_26
    rw [if_neg h2, w_eta]
  rcases g_fw_cases hW x with q | ⟨q, k, i, n, a1, a2, a3, a4, a5, a6, a7, rfl⟩
  · rw [if_neg (g_12a q), if_pos (g_12a q), no _ (g_12b q)]
    exact g_refuse h _
  · rw [if_pos q, if_neg (show ¬ ¬ g_fw Y (nI (96 * k + i)) = 0 from fun p => p q), c_now hC, c_n8 hC, w_i8, w_c8, t_n8 hT, x_ck, x_let]
    by_cases h2 : g_n (Y 0 8 0) < 200
    · rw [if_pos (show Y 0 8 0 < 200 from (g_N_lt (k := 200) n8 (by omega) (by omega)).2 h2), if_pos (show ¬ Y 0 8 0 = 200 from fun p => by rw [show (200 : Int32) = nI 200 from rfl, g_N_eq n8 (by omega) (by omega)] at p; omega)]
      unfold b_222_26
      rw [if_pos (g_12c q)]
      obtain ⟨S1, T1, e1, e2, hk⟩ := k_keep h
      obtain ⟨kC, kT, kW, _, _⟩ := id hk
      have a7' : g_up Y 10 3 0 1 2 k i = nI n := a7
      rw [e1, e2, x_bd, x_bd, c_now kC, c_100 kC a1 a2 a3 a4 a5 a6 a7, x_bd, t_194 kT a2 a4, x_bd, a7']
      dsimp only
      unfold f_35
      have hl2 := (kW.2.2.2.1 n a5).2
      obtain ⟨r, g1, g2⟩ := e_32 hk (n := n) a5 a6
      have g3 : f_32 y n S1 = some (nI (g_hs (Y 4 n) (g_n (Y 3 n 0))), S1) := c_32 kC kW a5 a6 (g_n (Y 3 n 0)) 0 q_N (by show 0 + g_n (Y 3 n 0) = g_n (Y 3 n 0); omega) (by unfold q_N; have : g_n (Y 3 n 0) ≤ 64 := hl2; omega)
      rw [g3] at g1
      injection g1 with g1
      injection g1 with g1 _
      subst g1
      have hle := g_hs_le (f := Y 4 n) (g_n (Y 3 n 0)) (fun j hj => hW.2.2.2.2.2.2.2.1 n j a5 hj)
      have hl3 : g_n (Y 3 n 0) ≤ 64 := hl2
      obtain ⟨N, hN⟩ : ∃ N, N = g_hs (Y 4 n) (g_n (Y 3 n 0)) := ⟨_, rfl⟩
      rw [g3, x_bd, g2, x_bd, ← hN]
      obtain ⟨Y', S2, T2, i1, i2, i3, i4, i5, i6⟩ := l_34 (c := c) (y := y) (V := Y) (X := X) (Z := Z) (n := n) (N := N) (f0 := Y 4 n) a6 (nI (96 * k + i)) (g_n (Y 3 n 0)) 0 q_N q_N _ S1 T1 kC kT kW a5 (by show 0 + g_n (Y 3 n 0) = g_n (Y 3 n 0); omega) hN (by omega) (fun j _ _ => rfl) (by unfold q_N; omega) (by unfold q_N; omega)
      have i1' : f_34 y n (nI N) S1 = some (nI N, S2) := by
        have := i1
        rw [show N - g_hs (Y 4 n) 0 = N from rfl] at this
        exact this
      have eb : Y' 3 n 0 = Y 3 n 0 := by rw [i6 3 (by omega)]; rfl
      have i2' : b_222_56 q_N (nI (96 * k + i)) (nI n) (nI N) 0 T1 = b_222_56 1 (nI (96 * k + i)) (nI n) (nI N) (nI (g_n (Y' 3 n 0))) T2 := by
        rw [eb]
        exact i2
      have a5' : n < g_n (Y' 0 1 0) := by rw [i6 0 (by omega)]; exact a5
      have hz := i5.2.2.2.1 n a5'
      have hz2 := hz.2
      obtain ⟨ec, hec⟩ : ∃ ec, ec = g_n (Y 0 8 0) := ⟨_, rfl⟩
      have e8 : Y' 0 8 0 = nI ec := by rw [i6 0 (by omega), hec]; exact n8.1
      have h10 : Y' 10 3 0 = 1 := by rw [i6 10 (by omega)]; rfl
      rw [i1', x_bd, x_bd, i2', b_222_56, t_195 i4 a6, x_bd, if_pos ((g_N_le hz (by omega) (by omega)).2 (Nat.le_refl _)), c_now i3, c_n4 i3, w_i4, w_c4, t_n4 i4, w_i8, w_c8]
      simp only [x_ck, x_let]
      obtain ⟨S3, e5, hC3⟩ := cs_n4 i3 (Y' 0 4 0 + nI N)
      obtain ⟨T3, f5, hT3⟩ := ts_n4 i4 (Y' 0 4 0 + nI N)
      have w3 : g_W c (g_up Y' 0 4 0 (Y' 0 4 0 + nI N)) := g_W_0 i5 (by omega) (by omega)
      have e8' : g_up Y' 0 4 0 (Y' 0 4 0 + nI N) 0 8 0 = nI ec := e8
      rw [e5, f5, c_now hC3, c_z2 hC3, t_n8 hT3, e8', show (18920 : Int32) + 3 * nI ec = nI (18920 + 3 * ec + 0) from by rw [show (18920 : Int32) = nI 18920 from rfl, show (3 : Int32) = nI 3 from rfl, pk_mul, nI_add]; rfl, show nI (18920 + 3 * ec + 0) + 1 = nI (18920 + 3 * ec + 1) from nI_1 _, show nI (18920 + 3 * ec + 0) + 2 = nI (18920 + 3 * ec + 2) from nI_add _ 2, w_in (show 18920 + 3 * ec + 0 < 19520 by omega) (by omega), w_in (show 18920 + 3 * ec + 1 < 19520 by omega) (by omega), w_in (show 18920 + 3 * ec + 2 < 19520 by omega) (by omega), nI_clamp (show 18920 + 3 * ec + 0 < 2 ^ 31 by omega), nI_clamp (show 18920 + 3 * ec + 1 < 2 ^ 31 by omega), nI_clamp (show 18920 + 3 * ec + 2 < 2 ^ 31 by omega)]
      simp only [x_ck]
      rw [t_z2 hT3]
      have h10' : g_up Y' 0 4 0 (Y' 0 4 0 + nI N) 10 3 0 = 1 := h10
      generalize g_up Y' 0 4 0 (Y' 0 4 0 + nI N) = Y3 at hC3 hT3 w3 e8' h10' ⊢
      have hec2 : ec < 200 := by omega
      obtain ⟨S4, g5, hC4⟩ := c_25 hC3 w3 e8' hec2 (Y3 10 2 0) (nI (96 * k + i)) (nI N)
      obtain ⟨T4, q4, hT4⟩ := ts_e hT3 (k := ec) (i := 0) hec2 (by omega) (Y3 10 2 0)
      obtain ⟨T5, q5, hT5⟩ := ts_e hT4 (k := ec) (i := 1) hec2 (by omega) (nI (96 * k + i))
      obtain ⟨T6, q6, hT6⟩ := ts_e hT5 (k := ec) (i := 2) hec2 (by omega) (nI N)
      have v6 : g_up (g_up (g_up Y3 7 ec 0 (Y3 10 2 0)) 7 ec 1 (nI (96 * k + i))) 7 ec 2 (nI N) 0 8 0 = nI ec := e8'
      obtain ⟨T7, q7, hT7⟩ := ts_n8 hT6 (nI (ec + 1))
      rw [g5, x_bd, c_z2 hC4, q4, q5, q6, t_n8 hT6, v6, nI_1, q7, t_z2 hT7]
      obtain ⟨S5, g6, hC5⟩ := cs_z2 hC4 (g_up (g_up (g_up (g_up Y3 7 ec 0 (Y3 10 2 0)) 7 ec 1 (nI (96 * k + i))) 7 ec 2 (nI N)) 0 8 0 (nI (ec + 1)) 10 2 0 + 1)
      obtain ⟨T8, q8, hT8⟩ := ts_z2 hT7 (g_up (g_up (g_up (g_up Y3 7 ec 0 (Y3 10 2 0)) 7 ec 1 (nI (96 * k + i))) 7 ec 2 (nI N)) 0 8 0 (nI (ec + 1)) 10 2 0 + 1)
      rw [g6, q8, w_eta]
      have w4 : g_W c (g_up (g_up (g_up Y3 7 ec 0 (Y3 10 2 0)) 7 ec 1 (nI (96 * k + i))) 7 ec 2 (nI N)) := g_W_o (g_W_o (g_W_o w3 (by omega)) (by omega)) (by omega)
      exact g_fin hC5 hT8 (g_W_o (g_W_ec w4 (by omega)) (by omega)) hW (Nat.le_refl c) h10' _
    · have e : g_n (Y 0 8 0) = 200 := by have := n8.2; omega
      rw [if_neg (show ¬ Y 0 8 0 < 200 from fun p => h2 ((g_N_lt (k := 200) n8 (by omega) (by omega)).1 p)), if_neg (show ¬ ¬ Y 0 8 0 = 200 from fun p => p ((g_N_eq (k := 200) n8 (by omega) (by omega)).2 e)), no 6 (by decide)]
      exact g_refuse h _
