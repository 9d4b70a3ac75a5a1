/-! ===== honey ===== -/
def g_hon (x : Int32) : Int32 := if x ≤ 0 then 0 else if 100 < x then 0 else x
theorem e_180 (x : Int32) (S : QS) : f_180 x S = some (g_hon x, S) := by
  unfold f_180 g_hon
  split
  · rfl
  · split <;> rfl
theorem e_203 (x : Int32) (S : QS) : f_203 x S = some (if x ≤ 0 then 0 else if 100 < x then 0 else 1, S) := by
  unfold f_203
  split
  · rfl
  · split <;> rfl
theorem e_203h (x : Int32) : (if (if x ≤ 0 then (0 : Int32) else if 100 < x then 0 else 1) = 0 then 0 else x) = g_hon x := by
  unfold g_hon
  by_cases h1 : x ≤ 0
  · rw [if_pos h1, if_pos h1, if_pos rfl]
  · rw [if_neg h1, if_neg h1]
    by_cases h2 : 100 < x
    · rw [if_pos h2, if_pos h2, if_pos rfl]
    · rw [if_neg h2, if_neg h2, if_neg (by decide)]
theorem l_32 {c y : Nat} {Y V : GA} {X Z S T : QS} (h : g_R c y Y V X Z S T) {n : Nat} (hn : n < g_n (Y 0 1 0)) (hn2 : n < 200) : ∀ (m i p q : Nat) (a : Int32), i + m = g_n (Y 3 n 0) → m < p → m < q → ∃ r, b_32_4 p y n a (nI i) S = some (r, S) ∧ b_221_4 q (nI n) a (nI i) T = some (r, T)
  | m, i, 0, _, _, _, h1, _ => by omega
  | m, i, _, 0, _, _, _, h2 => by omega
  | m, i, p + 1, q + 1, a, hm, h1, h2 => by
    have hl := h.2.2.1.2.2.2.1 n hn
    have hl2 := hl.2
    rw [b_32_4, b_221_4, c_l h.1 hn hn2, t_195 h.2.1 hn2, w_bd]
    cases m with
    | zero =>
      rw [if_pos ((g_N_le hl (by omega) (by omega)).2 (by omega)), if_pos ((g_N_le hl (by omega) (by omega)).2 (by omega))]
      exact ⟨a, rfl, rfl⟩
    | succ m =>
      have hnle : ¬ Y 3 n 0 ≤ nI i := fun e => by rw [g_N_le hl (by omega) (by omega)] at e; omega
      rw [if_neg hnle, if_neg hnle, w_in (show i < 64 by omega) (by omega), nI_clamp (by omega), w_ck, w_let, c_f h.1 hn hn2 (by omega) (by omega), t_196 h.2.1 hn2 (by omega), w_bd, e_180, w_bd, w_let, e_203, w_bd]
      obtain ⟨r, e1, e2⟩ := l_32 h hn hn2 m (i + 1) p q (a + g_hon (Y 4 n i)) (by omega) (by omega) (by omega)
      refine ⟨r, ?_, ?_⟩
      · rw [nI_1, e1]
      · unfold b_221_36
        rw [← e_203h] at e2
        by_cases e : (if Y 4 n i ≤ 0 then (0 : Int32) else if 100 < Y 4 n i then 0 else 1) = 0
        · rw [if_pos e] at e2 ⊢
          rw [w_let, nI_1, e2]
        · rw [if_neg e] at e2 ⊢
          rw [t_196 h.2.1 hn2 (by omega), w_bd, w_let, nI_1, e2]
theorem e_32 {c y : Nat} {Y V : GA} {X Z S T : QS} (h : g_R c y Y V X Z S T) {n : Nat} (hn : n < g_n (Y 0 1 0)) (hn2 : n < 200) : ∃ r, f_32 y n S = some (r, S) ∧ f_221 (nI n) T = some (r, T) := by
  have hl := (h.2.2.1.2.2.2.1 n hn).2
  exact l_32 h hn hn2 (g_n (Y 3 n 0)) 0 q_N q_N 0 (by omega) (by unfold q_N; omega) (by unfold q_N; omega)
theorem l_108 {c y : Nat} {Y V : GA} {X Z S T : QS} (h : g_R c y Y V X Z S T) : ∀ (m i p q : Nat) (a : Int32), i + m = g_n (Y 0 1 0) → m < p → m < q → ∃ r, b_108_4 p y a (nI i) S = some (r, S) ∧ b_224_19 q a (nI i) T = some (r, T)
  | m, i, 0, _, _, _, h1, _ => by omega
  | m, i, _, 0, _, _, _, h2 => by omega
  | m, i, p + 1, q + 1, a, hm, h1, h2 => by
    have n1 := h.2.2.1.2.1.2.1
    have n12 := n1.2
    rw [b_108_4, b_224_19, c_n1 h.1, w_i1, w_ck, w_let, w_c1, t_n1 h.2.1]
    cases m with
    | zero =>
      rw [if_pos ((g_N_le n1 (by omega) (by omega)).2 (by omega)), if_pos ((g_N_le n1 (by omega) (by omega)).2 (by omega))]
      exact ⟨a, rfl, rfl⟩
    | succ m =>
      have hnle : ¬ Y 0 1 0 ≤ nI i := fun e => by rw [g_N_le n1 (by omega) (by omega)] at e; omega
      obtain ⟨s, e3, e4⟩ := e_32 h (n := i) (by omega) (by omega)
      rw [if_neg hnle, if_neg hnle, c_92 h.1 (by omega) (by omega), w_bd]
      dsimp only
      rw [e3, e4, w_bd, w_bd, w_let, w_let, nI_1]
      exact l_108 h m (i + 1) p q (a + s) (by omega) (by omega) (by omega)
theorem e_108 {c y : Nat} {Y V : GA} {X Z S T : QS} (h : g_R c y Y V X Z S T) : ∃ r, f_108 y S = some (r, S) ∧ b_224_19 q_N 0 0 T = some (r, T) := by
  have n12 := h.2.2.1.2.1.2.1.2
  exact l_108 h (g_n (Y 0 1 0)) 0 q_N q_N 0 (by omega) (by unfold q_N; omega) (by unfold q_N; omega)
/-- honeyNumber, honeyOf -/
theorem e_107 {c y : Nat} {Y V : GA} {X Z S T : QS} (h : g_R c y Y V X Z S T) {w : Nat} (hw : w < 5) : ∃ r, f_107 y (nI w) S = some (r, S) ∧ f_224 (nI w) T = some (r, T) := by
  unfold f_107 f_224
  match w, hw with
  | 0, _ =>
    obtain ⟨r, e1, e2⟩ := e_108 h
    rw [if_pos (show nI 0 = 0 from rfl), if_pos (show nI 0 ≤ 0 from by decide), e1, e2, w_bd]
    exact ⟨r, rfl, rfl⟩
  | 1, _ =>
    rw [if_neg (by decide), if_pos (by decide), if_neg (by decide), c_n4 h.1, show (4 : Int32) + nI 1 - 1 = 4 from by decide, w_i4, w_c4, t_n4 h.2.1]
    exact ⟨_, rfl, rfl⟩
  | 2, _ =>
    rw [if_neg (by decide), if_neg (by decide), if_pos (by decide), if_neg (by decide), c_n5 h.1, show (4 : Int32) + nI 2 - 1 = 5 from by decide, w_i5, w_c5, t_n5 h.2.1]
    exact ⟨_, rfl, rfl⟩
  | 3, _ =>
    rw [if_neg (by decide), if_neg (by decide), if_neg (by decide), if_pos (by decide), if_neg (by decide), c_n6 h.1, show (4 : Int32) + nI 3 - 1 = 6 from by decide, w_i6, w_c6, t_n6 h.2.1]
    exact ⟨_, rfl, rfl⟩
  | 4, _ =>
    rw [if_neg (by decide), if_neg (by decide), if_neg (by decide), if_neg (by decide), if_neg (by decide), c_n7 h.1, show (4 : Int32) + nI 4 - 1 = 7 from by decide, w_i7, w_c7, t_n7 h.2.1]
    exact ⟨_, rfl, rfl⟩
  | n + 5, hw => omega
theorem jj_137 {c y : Nat} {Y V : GA} {X Z S T : QS} (h : g_R c y Y V X Z S T) (x : Int32) : g_Ok c X Z (f_137 x S) (f_225 x T) := by
  unfold f_137 f_225 f_189 b_137_9
  simp only [w_eta]
  rw [c_now h.1]
  by_cases h1 : x < 0
  · rw [if_pos h1, if_pos h1, w_bd, if_pos rfl]
    exact g_refuse h _
  · rw [if_neg h1, if_neg h1]
    by_cases h2 : x ≤ 4
    · rw [if_pos h2, if_neg ((g_nle _ _).1 h2), w_bd, if_neg (show ¬ (1 : Int32) = 0 from by decide)]
      obtain ⟨w, hw, rfl⟩ := nI_of2 (x := x) (M := 4) (n := 4) (by decide) h1 h2
      obtain ⟨r, e1, e2⟩ := e_107 h (w := w) (by omega)
      rw [e1, e2, w_bd, w_bd]
      exact g_accept h r
    · rw [if_neg h2, if_pos (Decidable.not_not.1 (fun q => h2 ((g_nle _ _).2 q))), w_bd, if_pos rfl]
      exact g_refuse h _
