/-! ===== hive, frame ===== -/
theorem t_210 {Y V : GA} {Z T : QS} {t : Nat} (hT : g_T Y V Z T) (et : Y 0 0 0 = nI t) (ht : t < 40) (eg : g_n (Y 0 0 0) = t) (x : Int32) : ∃ T', b_210_42 q_N x (nI t) 0 T = f_187 (nI t) T' ∧ g_T (g_nh Y x) V Z T' := by
  unfold g_nh
  rw [eg]
  rw [show q_N = 19988 + 1 + 1 + 1 + 1 + 1 + 1 + 1 + 1 + 1 + 1 + 1 + 1 from rfl]
  obtain ⟨T0, e0, h0⟩ := t_191_0 hT ht 0
  rw [b_210_42, if_neg (show ¬ (11 : Int32) ≤ 0 from by decide), e0, x_bd, show (0 : Int32) + 1 = 1 from rfl]
  obtain ⟨T1, e1, h1⟩ := t_191_1 h0 ht 0
  rw [b_210_42, if_neg (show ¬ (11 : Int32) ≤ 1 from by decide), e1, x_bd, show (1 : Int32) + 1 = 2 from rfl]
  obtain ⟨T2, e2, h2⟩ := t_191_2 h1 ht 0
  rw [b_210_42, if_neg (show ¬ (11 : Int32) ≤ 2 from by decide), e2, x_bd, show (2 : Int32) + 1 = 3 from rfl]
  obtain ⟨T3, e3, h3⟩ := t_191_3 h2 ht 0
  rw [b_210_42, if_neg (show ¬ (11 : Int32) ≤ 3 from by decide), e3, x_bd, show (3 : Int32) + 1 = 4 from rfl]
  obtain ⟨T4, e4, h4⟩ := t_191_4 h3 ht 0
  rw [b_210_42, if_neg (show ¬ (11 : Int32) ≤ 4 from by decide), e4, x_bd, show (4 : Int32) + 1 = 5 from rfl]
  obtain ⟨T5, e5, h5⟩ := t_191_5 h4 ht 0
  rw [b_210_42, if_neg (show ¬ (11 : Int32) ≤ 5 from by decide), e5, x_bd, show (5 : Int32) + 1 = 6 from rfl]
  obtain ⟨T6, e6, h6⟩ := t_191_6 h5 ht 0
  rw [b_210_42, if_neg (show ¬ (11 : Int32) ≤ 6 from by decide), e6, x_bd, show (6 : Int32) + 1 = 7 from rfl]
  obtain ⟨T7, e7, h7⟩ := t_191_7 h6 ht 0
  rw [b_210_42, if_neg (show ¬ (11 : Int32) ≤ 7 from by decide), e7, x_bd, show (7 : Int32) + 1 = 8 from rfl]
  obtain ⟨T8, e8, h8⟩ := t_191_8 h7 ht 0
  rw [b_210_42, if_neg (show ¬ (11 : Int32) ≤ 8 from by decide), e8, x_bd, show (8 : Int32) + 1 = 9 from rfl]
  obtain ⟨T9, e9, h9⟩ := t_191_9 h8 ht 0
  rw [b_210_42, if_neg (show ¬ (11 : Int32) ≤ 9 from by decide), e9, x_bd, show (9 : Int32) + 1 = 10 from rfl]
  obtain ⟨T10, e10, h10⟩ := t_191_10 h9 ht 0
  rw [b_210_42, if_neg (show ¬ (11 : Int32) ≤ 10 from by decide), e10, x_bd, show (10 : Int32) + 1 = 11 from rfl]
  rw [b_210_42, if_pos (show (11 : Int32) ≤ 11 from by decide)]
  obtain ⟨Ta, ea, ha⟩ := t_191_0 h10 ht x
  rw [ea, x_bd]
  obtain ⟨Tb, eb, hb⟩ := t_191_3 ha ht (-1)
  rw [eb, x_bd, w_i0, w_c0, t_n0 hb, x_ck, x_let, x_ck]
  have e2v : g_up (g_up (g_up (g_up (g_up (g_up (g_up (g_up (g_up (g_up (g_up (g_up (g_up Y 1 t 0 0) 1 t 1 0) 1 t 2 0) 1 t 3 0) 1 t 4 0) 1 t 5 0) 1 t 6 0) 1 t 7 0) 1 t 8 0) 1 t 9 0) 1 t 10 0) 1 t 0 x) 1 t 3 (-1) 0 0 0 = nI t := et
  obtain ⟨Tc, ec, hc⟩ := ts_n0 hb (nI (t + 1))
  rw [e2v, nI_1, ec, x_let, w_eta]
  refine ⟨Tc, rfl, g_T_ext hc ?_⟩
  intro r i j hr hv
  by_cases h02 : r = 0 ∧ i = 0 ∧ j = 0
  · obtain ⟨rfl, rfl, rfl⟩ := h02
    rw [g_up_same, g_up_same]
  · rw [g_up_ne h02, g_up_ne h02]
    by_cases hh : r = 1 ∧ i = t
    · obtain ⟨rfl, rfl⟩ := hh
      rw [g_rs_same]
      have hj : j < 11 := hv.2
      have : j = 0 ∨ j = 1 ∨ j = 2 ∨ j = 3 ∨ j = 4 ∨ j = 5 ∨ j = 6 ∨ j = 7 ∨ j = 8 ∨ j = 9 ∨ j = 10 := by omega
      rcases this with e | e | e | e | e | e | e | e | e | e | e <;> subst e <;> simp [g_up, g_hf]
    · rw [g_rs_ne hh]
      have k : ∀ (W : GA) (w : Nat) (v : Int32), g_up W 1 t w v r i j = W r i j := fun W w v => g_up_ne (fun q => hh ⟨q.1, q.2.1⟩)
      rw [k, k, k, k, k, k, k, k, k, k, k, k, k]
theorem g_W_nh {c : Nat} {Y : GA} {x : Int32} (hW : g_W c Y) (hc : c < 512) (ht : g_n (Y 0 0 0) < 40) (hx : g_N x 20000) : g_W (c + 1) (g_nh Y x) := by
  obtain ⟨w5, w0, wB, wL, wP, wK, wU, wF, wT, wS, wI, wD, wN⟩ := id hW
  obtain ⟨t, et⟩ : ∃ t, t = g_n (Y 0 0 0) := ⟨_, rfl⟩
  unfold g_nh
  rw [← et] at ht ⊢
  generalize hY' : g_up (g_rs Y 1 t (g_hf x)) 0 0 0 (nI (t + 1)) = Y'
  have uo : ∀ r i j, ¬ (r = 0 ∧ i = 0 ∧ j = 0) → ¬ (r = 1 ∧ i = t) → Y' r i j = Y r i j := by
    intro r i j h1 h3
    rw [← hY', g_up_ne h1, g_rs_ne h3]
  have ur : ∀ r, r ≠ 0 → r ≠ 1 → Y' r = Y r := by
    intro r h1 h2
    funext i j
    exact uo r i j (by omega) (by omega)
  have u0 : Y' 0 0 0 = nI (t + 1) := by rw [← hY', g_up_same]
  have u1 : ∀ j, Y' 1 t j = g_hf x j := by intro j; rw [← hY', g_up_ne (fun q => by omega), g_rs_same]
  have n1 : Y' 0 1 0 = Y 0 1 0 := uo 0 1 0 (by omega) (by omega)
  have n2 : Y' 0 2 0 = Y 0 2 0 := uo 0 2 0 (by omega) (by omega)
  have n8 : Y' 0 8 0 = Y 0 8 0 := uo 0 8 0 (by omega) (by omega)
  have m0 : g_n (Y' 0 0 0) = t + 1 := by rw [u0, g_n_nI (by omega)]
  have o1 : ∀ k j, k ≠ t → Y' 1 k j = Y 1 k j := fun k j hk => uo 1 k j (by omega) (by omega)
  unfold g_W
  rw [ur 2 (by omega) (by omega), ur 3 (by omega) (by omega), ur 4 (by omega) (by omega), ur 5 (by omega) (by omega), ur 6 (by omega) (by omega), ur 8 (by omega) (by omega)]
  refine ⟨by omega, ?_, ?_, ?_, ?_, ?_, wU, ?_, ?_, ?_, ?_, ?_, ?_⟩
  · unfold g_w0
    rw [u0, n1, n2, n8]
    exact ⟨g_N_nI (by omega) (by omega), w0.2⟩
  · intro k hk
    rw [m0] at hk
    by_cases e : k = t
    · subst e
      rw [u1]
      exact g_N_nI (a := 0) (by omega) (by omega)
    · rw [o1 k 10 e]
      exact wB k (by omega)
  · unfold g_wL; rw [n1]; exact wL
  · intro k i h1 h2
    rcases wP k i h1 h2 with q | ⟨q1, q2, q3⟩
    · exact Or.inl q
    · rw [m0, n1, o1 k 10 (by omega)]
      exact Or.inr ⟨by omega, q2, q3⟩
  · unfold g_wK; rw [n1]; exact wK
  · unfold g_wF; rw [n1]; exact wF
  · intro k hk
    rw [n2] at hk ⊢
    have q := wT k hk
    exact ⟨q.1, g_N_mono q.2.1 (by omega), q.2.2⟩
  · intro k hk
    rw [m0] at hk
    rw [n2]
    by_cases e : k = t
    · subst e
      rw [u1, u1, u1, u1, u1, u1, u1, u1]
      exact ⟨g_N_nn hx (by omega), Or.inl rfl, by show (0 : Int32) ≤ 0; decide, by show (0 : Int32) ≤ 0; decide, g_N_nI (a := 0) (by omega) (by omega), g_N_nI (a := 0) (by omega) (by omega), fun q => absurd rfl q, by show (0 : Int32) ≤ 0; decide, by show (0 : Int32) ≤ 0; decide⟩
    · rw [o1 k 0 e, o1 k 3 e, o1 k 5 e, o1 k 6 e, o1 k 7 e, o1 k 8 e, o1 k 1 e, o1 k 2 e]
      exact wS k (by omega)
  · have s3 : ∀ s, s < t + 1 → (s = t ∧ Y' 1 s 3 = -1) ∨ (s < t ∧ Y' 1 s 3 = Y 1 s 3) := by
      intro s hs
      by_cases e : s = t
      · left
        refine ⟨e, ?_⟩
        rw [e, u1]
        rfl
      · right
        exact ⟨by omega, o1 s 3 e⟩
    refine ⟨?_, ?_, ?_⟩
    · intro s s' hs hs' q1 q2
      rw [m0] at hs hs'
      rcases s3 s hs with ⟨_, a⟩ | ⟨a1, a2⟩
      · exact absurd a q2
      · rcases s3 s' hs' with ⟨_, b⟩ | ⟨b1, b2⟩
        · exact absurd (q1.trans b) q2
        · rw [a2, b2] at q1
          rw [a2] at q2
          exact wI.1 s s' (by omega) (by omega) q1 q2
    · rw [n2]; exact wI.2.1
    · intro s k hs hk q1
      rw [m0] at hs
      rw [n2] at hk
      rcases s3 s hs with ⟨_, a⟩ | ⟨a1, a2⟩
      · exact a
      · rw [a2] at q1 ⊢
        exact wI.2.2 s k (by omega) hk q1
  · unfold g_wD; rw [n2]; exact wD
  · unfold g_wN
    rw [m0, n1, n2]
    have sx : ∀ j, g_su (fun k => Y' 1 k j) (t + 1) = g_su (fun k => Y 1 k j) t + (g_hf x j).toInt := by
      intro j
      show g_su (fun k => Y' 1 k j) t + (Y' 1 t j).toInt = _
      rw [u1, g_su_eq (f := fun k => Y 1 k j) t (fun k hk => o1 k j (by omega))]
    rw [sx 0, sx 5, sx 6, sx 1, sx 2]
    rw [show (g_hf x 5).toInt = 0 from rfl, show (g_hf x 6).toInt = 0 from rfl, show (g_hf x 1).toInt = 0 from rfl, show (g_hf x 2).toInt = 0 from rfl, show g_hf x 0 = x from rfl]
    have hx2 := g_N_ti hx (by omega)
    obtain ⟨q1, q2, q3, q4, q5⟩ := wN
    rw [← et] at q1 q2 q3 q4 q5
    refine ⟨by omega, by omega, by omega, by omega, by omega⟩
theorem jj_122 {c y : Nat} {Y V : GA} {X Z S T : QS} (hc : c < 512) (h : g_R c y Y V X Z S T) (x : Int32) : g_Ok (c + 1) X Z (f_122 x S) (f_210 x T) := by
  obtain ⟨hC, hT, hW, hV, hU⟩ := id h
  have hm := g_R_mono h (Nat.le_succ c) (by omega)
  have n0 := hW.2.1.1
  unfold f_122 f_210 f_189 b_122_23 b_210_22
  simp only [w_eta]
  rw [c_now hC, c_n0 hC]
  by_cases h1 : x < 0
  · rw [if_pos h1, if_pos h1, x_bd, if_pos rfl]
    exact g_refuse hm _
  · rw [if_neg h1, if_neg h1]
    by_cases h2 : 20000 < x
    · rw [if_pos h2, if_pos h2, x_bd, if_pos rfl]
      exact g_refuse hm _
    · rw [if_neg h2, if_neg h2, x_bd, if_neg (show ¬ (1 : Int32) = 0 from by decide), w_i0, w_c0, t_n0 hT, x_ck, x_let]
      by_cases h3 : g_n (Y 0 0 0) < 40
      · rw [if_pos (show Y 0 0 0 < 40 from (g_N_lt (k := 40) n0 (by omega) (by omega)).2 h3), if_pos (show ¬ Y 0 0 0 = 40 from fun q => by rw [show (40 : Int32) = nI 40 from rfl, g_N_eq n0 (by omega) (by omega)] at q; omega)]
        obtain ⟨S1, T1, e1, e2, hk⟩ := k_keep h
        obtain ⟨kC, kT, kW, _, _⟩ := id hk
        obtain ⟨S2, e3, hC2⟩ := c_94 kC kW h3 x
        have eY : g_up Y 10 3 0 1 0 0 0 = nI (g_n (Y 0 0 0)) := n0.1
        obtain ⟨T2, e4, hT2⟩ := t_210 kT eY h3 rfl x
        rw [e1, e2, x_bd, x_bd, c_now kC, x_ck, t_n0 kT, x_let, eY, e4, e3, x_bd]
        exact g_fin hC2 hT2 (g_W_nh kW hc h3 (g_N_of (M := 20000) (m := 20000) (by decide) h1 ((g_nle _ _).2 h2) (by omega))) hW (Nat.le_succ c) rfl _
      · have e : g_n (Y 0 0 0) = 40 := by have := n0.2; omega
        rw [if_neg (show ¬ Y 0 0 0 < 40 from fun q => h3 ((g_N_lt (k := 40) n0 (by omega) (by omega)).1 q)), if_neg (show ¬ ¬ Y 0 0 0 = 40 from fun q => q ((g_N_eq (k := 40) n0 (by omega) (by omega)).2 e))]
        exact g_refuse hm _
/-- a new frame -/
theorem l_29 {y n m : Nat} (hm : m ≤ 64) : ∀ (k i p : Nat) (S : QS), i + k = m → k < p → S.1 (3, y, n) 1 = nI m → (∀ j, j < i → S.1 (24, y, n) j = 0) → ∃ S', b_29_7 p y n (nI i) S = some ((), S') ∧ (∀ a, a ≠ (24, y, n) → S'.1 a = S.1 a) ∧ (∀ j, j < m → S'.1 (24, y, n) j = 0) ∧ S'.2 = S.2
  | k, i, 0, _, _, h, _, _ => by omega
  | k, i, p + 1, S, hk, hp, h3, hj => by
    rw [b_29_7, h3]
    cases k with
    | zero =>
      rw [if_pos (nI_le (by omega) (by omega))]
      exact ⟨S, rfl, fun _ _ => rfl, fun j h => hj j (by omega), rfl⟩
    | succ k =>
      rw [if_neg (nI_ge (by omega) (by omega)), w_in (show i < 64 by omega) (by omega), nI_clamp (by omega), x_ck, x_let, nI_1]
      obtain ⟨S', e1, a1, a2, a3⟩ := l_29 hm k (i + 1) p (q_set S (24, y, n) i 0) (by omega) (by omega) (by rw [g_set_a (fun q => by injection q with q1 q2; omega), h3]) (fun j h => by
        rw [g_set1]
        by_cases e : j = i
        · rw [if_pos ⟨rfl, e⟩]
        · rw [if_neg (fun q => e q.2)]
          exact hj j (by omega))
      exact ⟨S', e1, fun a ha => by rw [a1 a ha, g_set_a ha], a2, a3⟩
theorem n_29 {y n m : Nat} (hm : m ≤ 64) (S : QS) : ∃ S', f_29 y n (nI m) S = some ((), S') ∧ (∀ a, a ≠ (3, y, n) → a ≠ (24, y, n) → S'.1 a = S.1 a) ∧ S'.1 (3, y, n) 1 = nI m ∧ (∀ j, j < m → S'.1 (24, y, n) j = 0) ∧ S'.2 = S.2 := by
  unfold f_29
  rw [x_let]
  obtain ⟨S', e1, a1, a2, a3⟩ := l_29 (y := y) (n := n) hm m 0 q_N (q_set S (3, y, n) 1 (nI m)) (by omega) (by unfold q_N; omega) (by rw [g_set1, if_pos ⟨rfl, rfl⟩]) (fun j h => by omega)
  refine ⟨S', e1, ?_, ?_, a2, a3⟩
  · intro a h1 h2
    rw [a1 a h2, g_set_a h1]
  · rw [a1 _ (fun q => by injection q with q1 q2; omega), g_set1, if_pos ⟨rfl, rfl⟩]
def g_nf (Y : GA) (m k i : Nat) : GA := g_up (g_up (g_rs (g_up Y 3 (g_n (Y 0 1 0)) 0 (nI m)) 4 (g_n (Y 0 1 0)) (fun _ => 0)) 2 k i (nI (g_n (Y 0 1 0)))) 0 1 0 (nI (g_n (Y 0 1 0) + 1))
theorem c_95 {c y : Nat} {Y V : GA} {X S : QS} (hC : g_C y Y V X S) (hW : g_W c Y) (ht : g_n (Y 0 1 0) < 200) {m k i : Nat} (hm : m ≤ 64) (hk : k < g_n (Y 0 0 0)) (h4 : k < 40) (hi : i < 96) : ∃ S', f_95 y (nI (96 * k + i)) (nI m) S = some (nI (g_n (Y 0 1 0)), S') ∧ g_C y (g_nf Y m k i) V X S' := by
  have n1 := hW.2.1.2.1
  have hy := hC.1.2.2
  obtain ⟨t, et⟩ : ∃ t, t = g_n (Y 0 1 0) := ⟨_, rfl⟩
  have eY : Y 0 1 0 = nI t := by rw [et]; exact n1.1
  unfold g_nf
  rw [← et] at ht ⊢
  unfold f_95
  obtain ⟨S1, e1, a1, a2, a3⟩ := n_92 (y := y) (k := t) hy ht S
  rw [c_n1 hC, eY, e1, x_bd]
  obtain ⟨S2, e2, b1, b2, b3, b4⟩ := n_29 (y := y) (n := t) hm S1
  dsimp only
  have hD : g_D S S2 := g_D_trans a2 (g_D_eq b4)
  have oth : ∀ a : VA, a ≠ (3, y, t) → a ≠ (24, y, t) → S2.1 a = S.1 a := fun a h1 h2 => by rw [b1 a h1 h2, a1 a h1 h2]
  have uo : ∀ r i j, ¬ (r = 3 ∧ i = t) → ¬ (r = 4 ∧ i = t) → g_rs (g_up Y 3 t 0 (nI m)) 4 t (fun _ => 0) r i j = Y r i j := fun r i j h1 h2 => by rw [g_rs_ne h2, g_up_ne (fun q => h1 ⟨q.1, q.2.1⟩)]
  have u3 : g_rs (g_up Y 3 t 0 (nI m)) 4 t (fun _ => 0) 3 t 0 = nI m := by rw [g_rs_ne (fun q => by omega), g_up_same]
  have u4 : ∀ j, g_rs (g_up Y 3 t 0 (nI m)) 4 t (fun _ => 0) 4 t j = 0 := fun j => g_rs_same _ _ _ _ _
  generalize g_rs (g_up Y 3 t 0 (nI m)) 4 t (fun _ => 0) = W at uo u3 u4 ⊢
  have ur : ∀ r, r ≠ 3 → r ≠ 4 → W r = Y r := fun r h1 h2 => by funext i j; exact uo r i j (by omega) (by omega)
  have hC2 : g_C y W V X S2 := by
    refine g_C_dead hC hD (ur 0 (by omega) (by omega)) (fun r hr => ur r (by omega) (by omega)) ?_ ?_ ?_
    · intro r i j hl
      unfold g_lv at hl ⊢
      rw [ur 0 (by omega) (by omega), ur 1 (by omega) (by omega)] at hl
      split at hl
      · exact hl
      · exact hl
      · exact hl
      · rw [uo 3 i 0 (fun q => by omega) (fun q => by omega)] at hl
        exact hl
      · exact hl
      · exact hl
      · exact hl
      · exact trivial
    · intro r i j hr hv hl
      have nl : ¬ (r = 3 ∧ i = t) := by
        intro q
        obtain ⟨rfl, rfl⟩ := q
        have : i < g_n (Y 0 1 0) := hl
        omega
      have nl2 : ¬ (r = 4 ∧ i = t) := by
        intro q
        obtain ⟨rfl, rfl⟩ := q
        have : i < g_n (Y 0 1 0) := hl.1
        omega
      have e1 := g_uc_cl (y := y) hr hv
      refine ⟨uo r i j nl nl2, ?_⟩
      rw [oth]
      · intro q
        unfold g_uc at e1
        rw [q] at e1
        injection e1 with p1 p2
        injection p2 with p2 p3
        exact nl ⟨p1.symm, p2.symm⟩
      · intro q
        unfold g_uc at e1
        rw [q] at e1
        injection e1 with p1 p2
        injection p2 with p2 p3
        exact nl2 ⟨p1.symm, p2.symm⟩
    · intro a ha
      refine oth a ?_ ?_
      · intro q
        subst q
        rcases ha with ⟨ha, _⟩ | ha | ha
        · have : y = 1 - y := ha
          omega
        · exact absurd (show (3 : Nat) = 7 from ha) (by decide)
        · exact absurd ha (show ¬ g_isR 3 = true from by decide)
      · intro q
        subst q
        rcases ha with ⟨ha, _⟩ | ha | ha
        · have : y = 1 - y := ha
          omega
        · exact absurd (show (24 : Nat) = 7 from ha) (by decide)
        · exact absurd ha (show ¬ g_isR 24 = true from by decide)
  have eW : W 0 1 0 = nI t := by rw [ur 0 (by omega) (by omega)]; exact eY
  have kW : k < g_n (W 0 0 0) := by rw [ur 0 (by omega) (by omega)]; exact hk
  obtain ⟨S3, e3, hC3⟩ := c_99 hC2 kW h4 hi (nI t)
  rw [e2, x_bd, c_n1 hC2, eW, e3, x_bd, c_n1 hC3]
  have k3 : ∀ a : VA, a ≠ (25, y, k) → S3.1 a = S2.1 a := by
    intro a ha
    unfold f_99 at e3
    rw [g_rem96 (p := 96 * k + i) (by omega), g_div96 (p := 96 * k + i) (by omega), (g_d96 hi).1, (g_d96 hi).2, c_91 hC2 kW h4, x_bd, w_in hi (by omega), x_ck, nI_clamp (by omega), x_let] at e3
    injection e3 with e4
    injection e4 with e5 e6
    rw [← e6]
    exact g_set_a ha
  have k3d : S3.2 = S2.2 := by
    unfold f_99 at e3
    rw [g_rem96 (p := 96 * k + i) (by omega), g_div96 (p := 96 * k + i) (by omega), (g_d96 hi).1, (g_d96 hi).2, c_91 hC2 kW h4, x_bd, w_in hi (by omega), x_ck, nI_clamp (by omega), x_let] at e3
    injection e3 with e4
    injection e4 with e5 e6
    rw [← e6]
    rfl
  have eW3 : g_up W 2 k i (nI t) 0 1 0 = nI t := eW
  rw [eW3, nI_1, x_let, g_set1, if_pos ⟨rfl, rfl⟩, nI_pred]
  refine ⟨_, rfl, ?_⟩
  refine g_C_gen (r := 0) (i := 1) (j := 0) hC3 (by omega) ⟨by omega, rfl⟩ (by omega) ?_ ?_
  · intro r i' j hr hv hne hl
    by_cases h3 : r = 3 ∧ i' = t
    · obtain ⟨rfl, rfl⟩ := h3
      have hj : j = 0 := hv.2
      subst hj
      show S3.1 (3, y, i') 1 = W 3 i' 0
      rw [k3 _ (fun q => by injection q with q1 q2; omega), b2, u3]
    · by_cases h4' : r = 4 ∧ i' = t
      · obtain ⟨rfl, rfl⟩ := h4'
        show S3.1 (24, y, i') j = W 4 i' j
        have hl2 : j < g_n (W 3 i' 0) := hl.2
        rw [u3, g_n_nI (by omega)] at hl2
        rw [k3 _ (fun q => by injection q with q1 q2; omega), b3 j hl2, u4]
      · refine hC3.2.1 r i' j hr hv ?_
        generalize g_up W 2 k i (nI t) = W2 at hl eW3 ⊢
        unfold g_lv at hl ⊢
        rw [g_up_same, show g_up W2 0 1 0 (nI (t + 1)) 0 0 0 = W2 0 0 0 from g_up_ne (fun q => by omega), show g_up W2 0 1 0 (nI (t + 1)) 0 2 0 = W2 0 2 0 from g_up_ne (fun q => by omega), show g_up W2 0 1 0 (nI (t + 1)) 0 8 0 = W2 0 8 0 from g_up_ne (fun q => by omega), show g_up W2 0 1 0 (nI (t + 1)) 1 = W2 1 from g_up_r (by omega), show g_up W2 0 1 0 (nI (t + 1)) 3 = W2 3 from g_up_r (by omega), g_n_nI (by omega)] at hl
        rw [eW3, g_n_nI (by omega)]
        split at hl
        · exact hl
        · exact hl
        · have : i' ≠ t := fun q => h3 ⟨rfl, q⟩
          omega
        · have : i' ≠ t := fun q => h4' ⟨rfl, q⟩
          exact ⟨by omega, hl.2⟩
        · exact hl
        · exact hl
        · exact hl
        · exact trivial
  · have md := hC3.2.2.2.1
    refine ⟨md.1, ?_, md.2.2⟩
    intro k' hk'
    rw [g_up_same, g_n_nI (by omega)] at hk'
    by_cases e : k' = t
    · subst e
      rw [k3d, b4]
      exact a3
    · refine md.2.1 k' ?_
      rw [eW3, g_n_nI (by omega)]
      omega
theorem l_212 {V : GA} {Z : QS} {n : Nat} (hn : n < 200) (x1 : Int32) : ∀ (m i p : Nat) (Y : GA) (T : QS), i + m = 64 → m < p → g_T Y V Z T → ∃ Y' T', b_212_86 p x1 (nI n) (nI i) T = b_212_86 1 x1 (nI n) (nI 64) T' ∧ g_T Y' V Z T' ∧ (∀ r a b, ¬ (r = 4 ∧ a = n ∧ i ≤ b) → Y' r a b = Y r a b) ∧ (∀ b, i ≤ b → b < 64 → Y' 4 n b = 0)
  | m, i, 0, _, _, _, h, _ => by omega
  | m, i, p + 1, Y, T, hm, hp, hT => by
    cases m with
    | zero =>
      have e : i = 64 := by omega
      subst e
      refine ⟨Y, T, ?_, hT, fun _ _ _ _ => rfl, fun b h1 h2 => by omega⟩
      rw [b_212_86, b_212_86, if_pos (show (64 : Int32) ≤ nI 64 from by decide), if_pos (show (64 : Int32) ≤ nI 64 from by decide)]
    | succ m =>
      rw [b_212_86, if_neg (show ¬ (64 : Int32) ≤ nI i from nI_ge (b := 64) (by omega) (by omega))]
      obtain ⟨T1, e1, h1⟩ := t_197 hT hn (show i < 64 by omega) 0
      rw [e1, x_bd, nI_1]
      obtain ⟨Y', T', f1, f2, f3, f4⟩ := l_212 hn x1 m (i + 1) p _ T1 (by omega) (by omega) h1
      refine ⟨Y', T', f1, f2, ?_, ?_⟩
      · intro r a b hh
        rw [f3 r a b (fun q => hh ⟨q.1, q.2.1, by omega⟩), g_up_ne (fun q => hh ⟨q.1, q.2.1, by omega⟩)]
      · intro b h1 h2
        by_cases e : b = i
        · subst e
          rw [f3 4 n b (fun q => by omega), g_up_same]
        · exact f4 b (by omega) h2
theorem t_212 {c : Nat} {Y V : GA} {Z T : QS} (hT : g_T Y V Z T) (hW : g_W c Y) (ht : g_n (Y 0 1 0) < 200) {m k i : Nat} (h4 : k < 40) (hi : i < 96) : ∃ T', q_ck (v_in 1 19520) (q_let (T.1 (40, 0, 0) (1 : Int32).toNatClampNeg) (fun y_5 => q_ck (v_in (3850 + y_5) 19520) (q_let (q_set T (40, 0, 0) (3850 + y_5).toNatClampNeg (nI m)) (fun S_6 => b_212_86 q_N (nI (96 * k + i)) y_5 0 S_6)))) = f_187 (nI (g_n (Y 0 1 0))) T' ∧ g_T (g_nf Y m k i) V Z T' := by
  have n1 := hW.2.1.2.1
  obtain ⟨t, et⟩ : ∃ t, t = g_n (Y 0 1 0) := ⟨_, rfl⟩
  have eY : Y 0 1 0 = nI t := by rw [et]; exact n1.1
  unfold g_nf
  rw [← et] at ht ⊢
  rw [w_i1, x_ck, w_c1, t_n1 hT, eY, x_let, show (3850 : Int32) + nI t = nI (3850 + t) from nI_add 3850 t, w_in (show 3850 + t < 19520 by omega) (by omega), nI_clamp (by omega), x_ck]
  obtain ⟨T1, e1, h1⟩ := ts_l hT ht (nI m)
  rw [e1, x_let]
  obtain ⟨Y2, T2, e2, h2, o2, z2⟩ := l_212 (V := V) (Z := Z) ht (nI (96 * k + i)) 64 0 q_N _ T1 (by omega) (by unfold q_N; omega) h1
  rw [show b_212_86 q_N (nI (96 * k + i)) (nI t) 0 T1 = _ from e2, b_212_86, if_pos (show (64 : Int32) ≤ nI 64 from by decide), g_10p, w_in (show 10 + (96 * k + i) < 19520 by omega) (by omega), nI_clamp (by omega), x_ck]
  obtain ⟨T3, e3, h3⟩ := ts_p h2 h4 hi (nI t)
  have e2v : Y2 0 1 0 = nI t := by
    rw [o2 0 1 0 (fun q => by omega)]
    exact eY
  have e3v : g_up Y2 2 k i (nI t) 0 1 0 = nI t := e2v
  obtain ⟨T4, e4, hT4⟩ := ts_n1 h3 (nI (t + 1))
  rw [e3, x_let, w_i1, x_ck, w_c1, t_n1 h3, e3v, x_let, nI_1, x_ck, e4, x_let, w_eta]
  refine ⟨T4, rfl, g_T_ext hT4 ?_⟩
  intro r a b hr hv
  by_cases q0 : r = 0 ∧ a = 1 ∧ b = 0
  · obtain ⟨rfl, rfl, rfl⟩ := q0
    rw [g_up_same, g_up_same]
  · rw [g_up_ne q0, g_up_ne q0]
    by_cases q2 : r = 2 ∧ a = k ∧ b = i
    · obtain ⟨rfl, rfl, rfl⟩ := q2
      rw [g_up_same, g_up_same]
    · rw [g_up_ne q2, g_up_ne q2]
      by_cases q4 : r = 4 ∧ a = t
      · obtain ⟨rfl, rfl⟩ := q4
        rw [g_rs_same, z2 b (by omega) hv.2]
      · rw [g_rs_ne q4, o2 r a b (fun q => q4 ⟨q.1, q.2.1⟩)]
