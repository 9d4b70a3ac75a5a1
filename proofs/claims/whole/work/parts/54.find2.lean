/-! ===== find ===== -/
theorem l_277t {Y V : GA} {Z T : QS} (hT : g_T Y V Z T) {n : Nat} (hn2 : n < 200) (v : Int32) (hl : g_N (Y 3 n 0) 64) : ∀ (m i p : Nat), i + m = g_n (Y 3 n 0) → m < p → b_277_5 p (nI n) v 1 (nI i) T = some (1, T)
  | m, i, 0, _, h => by omega
  | m, i, p + 1, hm, hp => by
    have hl2 := hl.2
    rw [b_277_5, t_195 hT hn2, w_bd]
    cases m with
    | zero =>
      rw [if_pos ((g_N_le hl (by omega) (by omega)).2 (by omega)), show v_bool 1 = true from rfl, w_ck]
    | succ m =>
      rw [if_neg (fun e => by rw [g_N_le hl (by omega) (by omega)] at e; omega), if_pos (show ¬ (1 : Int32) = 0 from by decide)]
      unfold b_277_30 b_277_35
      rw [nI_1]
      exact l_277t hT hn2 v hl m (i + 1) p (by omega) (by omega)
theorem l_31 {c y : Nat} {Y V : GA} {X Z S T : QS} (h : g_R c y Y V X Z S T) {n : Nat} (hn : n < g_n (Y 0 1 0)) (hn2 : n < 200) (v : Int32) : ∀ (m i p q : Nat), i + m = g_n (Y 3 n 0) → m < p → m < q → ∃ r, (r = 0 ∨ r = 1) ∧ b_31_2 p y n v (nI i) S = some (r, S) ∧ b_277_5 q (nI n) v 0 (nI i) T = some (r, T)
  | m, i, 0, _, _, h1, _ => by omega
  | m, i, _, 0, _, _, h2 => by omega
  | m, i, p + 1, q + 1, hm, h1, h2 => by
    have hl := h.2.2.1.2.2.2.1 n hn
    have hl2 := hl.2
    rw [b_31_2, b_277_5, c_l h.1 hn hn2, t_195 h.2.1 hn2, w_bd]
    cases m with
    | zero =>
      rw [if_pos ((g_N_le hl (by omega) (by omega)).2 (by omega)), if_pos ((g_N_le hl (by omega) (by omega)).2 (by omega)), show v_bool 0 = true from rfl, w_ck]
      exact ⟨0, Or.inl rfl, rfl, rfl⟩
    | succ m =>
      have hnle : ¬ Y 3 n 0 ≤ nI i := fun e => by rw [g_N_le hl (by omega) (by omega)] at e; omega
      rw [if_neg hnle, if_neg hnle, if_neg (show ¬ ¬ (0 : Int32) = 0 from by decide), w_in (show i < 64 by omega) (by omega), nI_clamp (by omega), w_ck, w_let, c_f h.1 hn hn2 (by omega) (by omega), t_196 h.2.1 hn2 (by omega), w_bd]
      unfold b_277_30 b_277_35
      rw [nI_1]
      by_cases e : Y 4 n i = v
      · rw [if_neg (fun q => q e), if_neg (fun q => q e), l_277t h.2.1 hn2 v hl m (i + 1) q (by omega) (by omega)]
        exact ⟨1, Or.inr rfl, rfl, rfl⟩
      · rw [if_pos e, if_pos e]
        exact l_31 h hn hn2 v m (i + 1) p q (by omega) (by omega) (by omega)
theorem l_278t {Y V : GA} {Z T : QS} (hT : g_T Y V Z T) (v : Int32) : ∀ (m i p : Nat), i + m = 3840 → m < p → (∀ k, i ≤ k → k < 3840 → Y 2 (k / 96) (k % 96) = -1) → b_278_19 p v (nI i) T = f_187 (-1) T
  | m, i, 0, _, h, _ => by omega
  | m, i, p + 1, hm, hp, hd => by
    rw [b_278_19]
    unfold b_278_53 b_278_66 b_278_47
    simp only [w_eta]
    cases m with
    | zero =>
      have e : (3840 : Int32) ≤ nI i := by rw [show i = 3840 by omega]; decide
      rw [if_pos e, if_pos e]
    | succ m =>
      have e0 := t_194 hT (k := i / 96) (i := i % 96) (by omega) (by omega)
      rw [show 96 * (i / 96) + i % 96 = i by omega] at e0
      have e : ¬ (3840 : Int32) ≤ nI i := by rw [show (3840 : Int32) = nI 3840 from rfl]; exact nI_ge (by omega) (by omega)
      rw [if_neg e, e0, w_bd, hd i (by omega) (by omega), if_pos (show (-1 : Int32) < 0 from by decide), nI_1]
      exact l_278t hT v m (i + 1) p (by omega) (by omega) (fun k h1 h2 => hd k (by omega) h2)
theorem c_97 {c y : Nat} {Y V : GA} {X S : QS} (hC : g_C y Y V X S) (hW : g_W c Y) {p : Nat} (hp : p < 3840) : f_97 y (nI p) S = some (if p / 96 < g_n (Y 0 0 0) ∧ p % 96 < 12 * g_n (Y 1 (p / 96) 10) then 1 else 0, S) := by
  obtain ⟨w5, w0, wB, w⟩ := id hW
  unfold f_97
  rw [g_rem96 (p := p) (by omega), g_div96 (p := p) (by omega), w_let, c_n0 hC]
  by_cases h3 : p / 96 < g_n (Y 0 0 0)
  · have hb := (wB (p / 96) h3).2
    rw [if_neg (fun q => by rw [g_N_le w0.1 (by omega) (by omega)] at q; omega), c_91 hC h3 (by omega), w_bd]
    dsimp only
    rw [c_45 hC hW h3 (by omega), w_bd]
    by_cases h4 : p % 96 < 12 * g_n (Y 1 (p / 96) 10)
    · rw [if_neg (nI_ge h4 (by omega)), if_pos ⟨h3, h4⟩]
    · rw [if_pos (nI_le (by omega) (by omega)), if_neg (fun q => h4 q.2)]
  · rw [if_pos (by rw [g_N_le w0.1 (by omega) (by omega)]; omega), if_neg (fun q => h3 q.1)]
theorem l_104 {c y : Nat} {Y V : GA} {X Z S T : QS} (h : g_R c y Y V X Z S T) (v : Int32) : ∀ (m i p q : Nat), i + m = 3840 → m < p → m < q → ∃ r, b_104_2 p y v (nI i) S = some (r, S) ∧ b_278_19 q v (nI i) T = f_187 r T
  | m, i, 0, _, _, h1, _ => by omega
  | m, i, _, 0, _, _, h2 => by omega
  | m, i, p + 1, q + 1, hm, h1, h2 => by
    obtain ⟨hC, hT, hW, hV, hU⟩ := id h
    have n0 := hW.2.1.1
    have n02 := n0.2
    have e96 : Y 0 0 0 * 96 = nI (96 * g_n (Y 0 0 0)) := by
      have e := n0.1
      generalize g_n (Y 0 0 0) = a at e ⊢
      rw [e, (g_mul96 a).2]
    by_cases hend : 96 * g_n (Y 0 0 0) ≤ i
    · rw [l_278t hT v m i (q + 1) hm (by omega) (fun k k1 k2 => by
        rcases hW.2.2.2.2.1 (k / 96) (k % 96) (by omega) (by omega) with e | ⟨e, _⟩
        · exact e
        · omega), b_104_2, c_n0 hC, e96, if_pos (nI_le hend (by omega))]
      exact ⟨-1, rfl, rfl⟩
    · have e0 := t_194 hT (k := i / 96) (i := i % 96) (by omega) (by omega)
      rw [show 96 * (i / 96) + i % 96 = i by omega] at e0
      have e : ¬ (3840 : Int32) ≤ nI i := by rw [show (3840 : Int32) = nI 3840 from rfl]; exact nI_ge (by omega) (by omega)
      rw [b_104_2, b_278_19, c_n0 hC, e96, if_neg (nI_ge (by omega) (by omega)), if_neg e, e0, w_bd, c_97 hC hW (by omega), w_bd]
      unfold b_278_53 b_278_66 b_278_47 b_104_44
      simp only [w_eta]
      rw [nI_1]
      obtain ⟨r, f1, f2⟩ := l_104 h v (m - 1) (i + 1) p q (by omega) (by omega) (by omega)
      by_cases hl : i / 96 < g_n (Y 0 0 0) ∧ i % 96 < 12 * g_n (Y 1 (i / 96) 10)
      · have e1 := c_98 hC hl.1 (show i / 96 < 40 by omega) hl.2 (by omega)
        rw [show 96 * (i / 96) + i % 96 = i by omega] at e1
        rw [if_pos hl, if_neg (show ¬ (1 : Int32) = 0 from by decide), e1, w_bd]
        rcases hW.2.2.2.2.1 (i / 96) (i % 96) (by omega) (by omega) with ee | ⟨_, _, n, hn, ee⟩
        · rw [ee, if_pos rfl, if_pos (show (-1 : Int32) < 0 from by decide)]
          exact ⟨r, f1, f2⟩
        · have hn2 : n < 200 := by have := hW.2.1.2.1.2; omega
          have e2 := c_100 hC hl.1 (show i / 96 < 40 by omega) hl.2 (by omega) hn hn2 ee
          rw [show 96 * (i / 96) + i % 96 = i by omega] at e2
          have hl2 := (hW.2.2.2.1 n hn).2
          obtain ⟨b, hb, g1, g2⟩ := l_31 h hn hn2 v (g_n (Y 3 n 0)) 0 q_N q_N (by omega) (by unfold q_N; omega) (by unfold q_N; omega)
          rw [ee, if_neg (g_nI_m1 (by omega)), if_neg (nI_pos (by omega)), e2, w_bd]
          dsimp only
          rw [show f_31 y n v S = _ from g1, w_bd, e0, w_bd, ee, show f_277 (nI n) v T = _ from g2, w_bd]
          rcases hb with hb | hb
          · subst hb
            rw [if_pos rfl, if_neg (show ¬ ¬ (0 : Int32) = 0 from by decide)]
            exact ⟨r, f1, f2⟩
          · subst hb
            rw [if_neg (show ¬ (1 : Int32) = 0 from by decide), if_pos (show ¬ (1 : Int32) = 0 from by decide), if_neg e]
            exact ⟨_, rfl, rfl⟩
      · have ee : Y 2 (i / 96) (i % 96) = -1 := by
          rcases hW.2.2.2.2.1 (i / 96) (i % 96) (by omega) (by omega) with ee | ⟨q1, q2, _⟩
          · exact ee
          · exact absurd ⟨q1, q2⟩ hl
        rw [if_neg hl, if_pos rfl, ee, if_pos (show (-1 : Int32) < 0 from by decide)]
        exact ⟨r, f1, f2⟩
theorem jj_131 {c y : Nat} {Y V : GA} {X Z S T : QS} (h : g_R c y Y V X Z S T) (v x : Int32) : g_Ok c X Z (f_131 v x S) (f_278 v x T) := by
  unfold f_131 f_278 f_189 b_131_11
  simp only [w_eta]
  rw [c_now h.1]
  by_cases h1 : x < 0
  · rw [if_pos h1, if_pos h1, w_bd, if_neg (show ¬ ¬ (0 : Int32) = 0 from by decide)]
    exact g_refuse h _
  · rw [if_neg h1, if_neg h1]
    by_cases h2 : 3839 < x
    · rw [if_neg (fun q => (g_lt3840 x).1 q h2), if_pos h2, w_bd, if_neg (show ¬ ¬ (0 : Int32) = 0 from by decide)]
      exact g_refuse h _
    · obtain ⟨p, hp, rfl⟩ := g_pl3840 h1 h2
      rw [if_pos ((g_lt3840 _).2 h2), if_neg h2, w_bd, if_pos (show ¬ (1 : Int32) = 0 from by decide)]
      obtain ⟨r, f1, f2⟩ := l_104 h v (3840 - p) p q_N q_N (by omega) (by unfold q_N; omega) (by unfold q_N; omega)
      rw [show f_104 y v (nI p) S = _ from f1, w_bd, f2]
      exact g_accept h _
