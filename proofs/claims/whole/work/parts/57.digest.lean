/-! ===== digest ===== -/
theorem l_dg5 {c y : Nat} {Y V : GA} {X Z S T : QS} (h : g_R c y Y V X Z S T) : ∀ (m i p q : Nat) (a : Int32), i + m = 17 → m < p → m < q → ∃ r, b_167_12 p a (nI i) S = some (r, S) ∧ b_285_268 q a (nI i) T = some (r, T)
  | m, i, 0, _, _, _, h1, _ => by omega
  | m, i, _, 0, _, _, _, h2 => by omega
  | m, i, p + 1, q + 1, a, hm, h1, h2 => by
    rw [b_167_12, b_285_268]
    cases m with
    | zero =>
      have e : (17 : Int32) ≤ nI i := by rw [show i = 17 by omega]; decide
      rw [if_pos e, if_pos e]
      exact ⟨a, rfl, rfl⟩
    | succ m =>
      have e : ¬ (17 : Int32) ≤ nI i := by rw [show (17 : Int32) = nI 17 from rfl]; exact nI_ge (by omega) (by omega)
      rw [if_neg e, if_neg e, w_in (show i < 17 by omega) (by omega), nI_clamp (by omega), c_r h.1 (by omega), t_r h.2.1 (by omega)]
      simp only [x_ck, x_let]
      rw [nI_1]
      exact l_dg5 h m (i + 1) p q _ (by omega) (by omega) (by omega)
theorem l_dg4 {c y : Nat} {Y V : GA} {X Z S T : QS} (h : g_R c y Y V X Z S T) : ∀ (m i p q : Nat) (a : Int32), i + m = 5 → m < p → m < q → ∃ r, b_120_136 p y a (nI i) S = some (r, S) ∧ b_285_231 q a (nI i) T = b_285_268 q_N r 0 T
  | m, i, 0, _, _, _, h1, _ => by omega
  | m, i, _, 0, _, _, _, h2 => by omega
  | m, i, p + 1, q + 1, a, hm, h1, h2 => by
    rw [b_120_136, b_285_231]
    cases m with
    | zero =>
      have e : (5 : Int32) ≤ nI i := by rw [show i = 5 by omega]; decide
      rw [if_pos e, if_pos e, c_n8 h.1, w_i8, w_ck, w_let, w_c8, t_n8 h.2.1, w_let]
      exact ⟨_, rfl, rfl⟩
    | succ m =>
      have e : ¬ (5 : Int32) ≤ nI i := by rw [show (5 : Int32) = nI 5 from rfl]; exact nI_ge (by omega) (by omega)
      obtain ⟨r, f1, f2⟩ := e_107 h (w := i) (by omega)
      rw [if_neg e, if_neg e, f1, f2, w_bd, w_bd, w_let, w_let, nI_1]
      exact l_dg4 h m (i + 1) p q _ (by omega) (by omega) (by omega)
theorem l_dg3 {c y : Nat} {Y V : GA} {X Z S T : QS} (h : g_R c y Y V X Z S T) : ∀ (m i p q : Nat) (a : Int32), i + m = g_n (Y 0 2 0) → m < p → m < q → ∃ r, b_120_84 p y a (nI i) S = some (r, S) ∧ b_285_179 q a (nI i) T = b_285_268 q_N r 0 T
  | m, i, 0, _, _, _, h1, _ => by omega
  | m, i, _, 0, _, _, _, h2 => by omega
  | m, i, p + 1, q + 1, a, hm, h1, h2 => by
    have n2 := h.2.2.1.2.1.2.2.1
    have n22 := n2.2
    rw [b_120_84, b_285_179, c_n2 h.1, w_i2, w_c2, t_n2 h.2.1]
    simp only [x_ck, x_let]
    cases m with
    | zero =>
      have e : Y 0 2 0 ≤ nI i := (g_N_le n2 (by omega) (by omega)).2 (by omega)
      rw [if_pos e, if_pos e, c_n3 h.1, w_i3, x_ck, w_c3, t_n3 h.2.1]
      exact l_dg4 h 5 0 q_N q_N _ (by omega) (by unfold q_N; omega) (by unfold q_N; omega)
    | succ m =>
      have e : ¬ Y 0 2 0 ≤ nI i := fun e => by rw [g_N_le n2 (by omega) (by omega)] at e; omega
      rw [if_neg e, if_neg e, c_93 h.1 (by omega) (by omega), x_bd, c_93 h.1 (by omega) (by omega), x_bd]
      dsimp only
      rw [c_t0 h.1 (by omega) (by omega), c_t1 h.1 (by omega) (by omega), t_192_0 h.2.1 (by omega), x_bd, t_192_1 h.2.1 (by omega), x_bd, nI_1]
      exact l_dg3 h m (i + 1) p q _ (by omega) (by omega) (by omega)
theorem l_dg2i {c y : Nat} {Y V : GA} {X Z S T : QS} (h : g_R c y Y V X Z S T) {n : Nat} (hn : n < g_n (Y 0 1 0)) (hn2 : n < 200) (bk : Int32 → Int32 → QS → Option (Int32 × QS)) : ∀ (m i p q : Nat) (a : Int32), i + m = g_n (Y 3 n 0) → m < p → m < q → ∃ r, b_41_12 p y n a (nI i) S = some (r, S) ∧ b_285_132 bk q a (nI n) (nI i) T = bk r (nI (n + 1)) T
  | m, i, 0, _, _, _, h1, _ => by omega
  | m, i, _, 0, _, _, _, h2 => by omega
  | m, i, p + 1, q + 1, a, hm, h1, h2 => by
    have hl := h.2.2.1.2.2.2.1 n hn
    have hl2 := hl.2
    rw [b_41_12, b_285_132, c_l h.1 hn hn2, t_195 h.2.1 hn2, w_bd]
    cases m with
    | zero =>
      have e : Y 3 n 0 ≤ nI i := (g_N_le hl (by omega) (by omega)).2 (by omega)
      rw [if_pos e, if_pos e, nI_1]
      exact ⟨a, rfl, rfl⟩
    | succ m =>
      have e : ¬ Y 3 n 0 ≤ nI i := fun e => by rw [g_N_le hl (by omega) (by omega)] at e; omega
      rw [if_neg e, if_neg e, w_in (show i < 64 by omega) (by omega), nI_clamp (by omega), w_ck, w_let, c_f h.1 hn hn2 (by omega) (by omega), t_196 h.2.1 hn2 (by omega), w_bd, w_let, w_let, nI_1]
      exact l_dg2i h hn hn2 bk m (i + 1) p q _ (by omega) (by omega) (by omega)
theorem l_dg2 {c y : Nat} {Y V : GA} {X Z S T : QS} (h : g_R c y Y V X Z S T) : ∀ (m i p q : Nat) (a : Int32), i + m = g_n (Y 0 1 0) → m < p → m < q → ∃ r, b_120_48 p y a (nI i) S = some (r, S) ∧ b_285_109 q a (nI i) T = b_285_268 q_N r 0 T
  | m, i, 0, _, _, _, h1, _ => by omega
  | m, i, _, 0, _, _, _, h2 => by omega
  | m, i, p + 1, q + 1, a, hm, h1, h2 => by
    have n1 := h.2.2.1.2.1.2.1
    have n12 := n1.2
    have n22 := h.2.2.1.2.1.2.2.1.2
    rw [b_120_48, b_285_109, c_n1 h.1, w_i1, w_c1, t_n1 h.2.1]
    simp only [x_ck, x_let]
    cases m with
    | zero =>
      have e : Y 0 1 0 ≤ nI i := (g_N_le n1 (by omega) (by omega)).2 (by omega)
      rw [if_pos e, if_pos e, c_n2 h.1, w_i2, x_ck, w_c2, t_n2 h.2.1]
      exact l_dg3 h (g_n (Y 0 2 0)) 0 q_N q_N _ (by omega) (by unfold q_N; omega) (by unfold q_N; omega)
    | succ m =>
      have e : ¬ Y 0 1 0 ≤ nI i := fun e => by rw [g_N_le n1 (by omega) (by omega)] at e; omega
      have hl2 := (h.2.2.1.2.2.2.1 i (by omega)).2
      rw [if_neg e, if_neg e, c_92 h.1 (by omega) (by omega), w_bd]
      unfold f_41
      dsimp only
      rw [c_l h.1 (by omega) (by omega), t_195 h.2.1 (by omega), x_bd, x_let]
      obtain ⟨r, f1, f2⟩ := l_dg2i h (n := i) (by omega) (by omega) (b_285_109 q) (g_n (Y 3 i 0)) 0 q_N q_N (a * 31 + Y 3 i 0) (by omega) (by unfold q_N; omega) (by unfold q_N; omega)
      rw [show b_41_12 q_N y i (a * 31 + Y 3 i 0) 0 S = _ from f1, show b_285_132 (b_285_109 q) q_N (a * 31 + Y 3 i 0) (nI i) 0 T = _ from f2, w_bd, nI_1]
      exact l_dg2 h m (i + 1) p q _ (by omega) (by omega) (by omega)
theorem l_dg1 {c y : Nat} {Y V : GA} {X Z S T : QS} (h : g_R c y Y V X Z S T) : ∀ (m i p q : Nat) (a : Int32), i + m = g_n (Y 0 0 0) → m < p → m < q → ∃ r, b_120_12 p y a (nI i) S = some (r, S) ∧ b_285_13 q a (nI i) T = b_285_268 q_N r 0 T
  | m, i, 0, _, _, _, h1, _ => by omega
  | m, i, _, 0, _, _, _, h2 => by omega
  | m, i, p + 1, q + 1, a, hm, h1, h2 => by
    have n0 := h.2.2.1.2.1.1
    have n02 := n0.2
    have n12 := h.2.2.1.2.1.2.1.2
    rw [b_120_12, b_285_13, c_n0 h.1, w_i0, w_c0, t_n0 h.2.1]
    simp only [x_ck, x_let]
    cases m with
    | zero =>
      have e : Y 0 0 0 ≤ nI i := (g_N_le n0 (by omega) (by omega)).2 (by omega)
      rw [if_pos e, if_pos e, c_n1 h.1, w_i1, x_ck, w_c1, t_n1 h.2.1]
      exact l_dg2 h (g_n (Y 0 1 0)) 0 q_N q_N _ (by omega) (by unfold q_N; omega) (by unfold q_N; omega)
    | succ m =>
      have e : ¬ Y 0 0 0 ≤ nI i := fun e => by rw [g_N_le n0 (by omega) (by omega)] at e; omega
      have hi : i < g_n (Y 0 0 0) := by omega
      have hi4 : i < 40 := by omega
      rw [if_neg e, if_neg e, c_91 h.1 hi hi4, w_bd, t_190_0 h.2.1 hi4, w_bd, t_190_1 h.2.1 hi4, w_bd, t_190_2 h.2.1 hi4, w_bd, t_190_10 h.2.1 hi4, w_bd, t_190_5 h.2.1 hi4, w_bd, t_190_6 h.2.1 hi4, w_bd]
      unfold f_56
      dsimp only
      simp only [x_let]
      rw [c_h0 h.1 hi hi4, c_h1 h.1 hi hi4, c_h2 h.1 hi hi4, c_h10 h.1 hi hi4, c_h5 h.1 hi hi4, c_h6 h.1 hi hi4, w_bd, nI_1]
      exact l_dg1 h m (i + 1) p q _ (by omega) (by omega) (by omega)
theorem jj_167 {c y : Nat} {Y V : GA} {X Z S T : QS} (h : g_R c y Y V X Z S T) : g_Ok c X Z (f_167 S) (f_285 T) := by
  have n02 := h.2.2.1.2.1.1.2
  unfold f_167 f_285 f_120
  rw [c_now h.1, c_n0 h.1, w_i0, w_ck, w_c0, t_n0 h.2.1, w_let, w_let, w_let, show (17 : Int32) * 31 + Y 0 0 0 = 527 + Y 0 0 0 from rfl]
  obtain ⟨r, f1, f2⟩ := l_dg1 h (g_n (Y 0 0 0)) 0 q_N q_N (527 + Y 0 0 0) (by omega) (by unfold q_N; omega) (by unfold q_N; omega)
  rw [show b_120_12 q_N y (527 + Y 0 0 0) 0 S = _ from f1, w_bd, show b_285_13 q_N (527 + Y 0 0 0) 0 T = _ from f2]
  obtain ⟨s, g1, g2⟩ := l_dg5 h 17 0 q_N q_N r (by omega) (by unfold q_N; omega) (by unfold q_N; omega)
  rw [show b_167_12 q_N r 0 S = _ from g1, show b_285_268 q_N r 0 T = _ from g2]
  exact ⟨s, y, Y, V, S, T, rfl, rfl, h⟩
