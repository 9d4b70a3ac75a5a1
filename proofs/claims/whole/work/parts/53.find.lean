/-! ===== gap, where, find ===== -/
theorem g_mul96 (k : Nat) : (96 : Int32) * nI k = nI (96 * k) ∧ nI k * 96 = nI (96 * k) := by
  rw [show (96 : Int32) = nI 96 from rfl, pk_mul, pk_mul, Nat.mul_comm k 96]
  exact ⟨rfl, rfl⟩
theorem g_end {c : Nat} {Y : GA} (hW : g_W c Y) {k : Nat} (hk : k < g_n (Y 0 0 0)) : (96 : Int32) * nI k + 12 * Y 1 k 10 = nI (96 * k + 12 * g_n (Y 1 k 10)) := by
  rw [(g_mul96 k).1, (g_N_12 (hW.2.2.1 k hk)).2, nI_add]
theorem c_45 {c y : Nat} {Y V : GA} {X S : QS} (hC : g_C y Y V X S) (hW : g_W c Y) {k : Nat} (hk : k < g_n (Y 0 0 0)) (h4 : k < 40) : f_45 y k S = some (nI (12 * g_n (Y 1 k 10)), S) := by
  unfold f_45
  rw [c_h10 hC hk h4, (g_N_12 (hW.2.2.1 k hk)).1]
theorem l_53 {c y : Nat} {Y V : GA} {X Z S T : QS} (h : g_R c y Y V X Z S T) {k : Nat} (hk : k < g_n (Y 0 0 0)) (h4 : k < 40) : ∀ (m i p q : Nat), i + m = 12 * g_n (Y 1 k 10) → m < p → m < q → (b_53_2 p y k (nI i) S = some (-1, S) ∧ b_276_21 q (nI k) (nI (96 * k + i)) T = f_187 (-1) T) ∨ ∃ j, j < 96 ∧ b_53_2 p y k (nI i) S = some (nI j, S) ∧ b_276_21 q (nI k) (nI (96 * k + i)) T = f_187 (nI (96 * k + j)) T
  | m, i, 0, _, _, h1, _ => by omega
  | m, i, _, 0, _, _, h2 => by omega
  | m, i, p + 1, q + 1, hm, h1, h2 => by
    have hb := (h.2.2.1.2.2.1 k hk).2
    rw [b_53_2, b_276_21, c_45 h.1 h.2.2.1 hk h4, w_bd, t_190_10 h.2.1 h4, w_bd, g_end h.2.2.1 hk]
    unfold b_276_54 b_276_79
    simp only [w_eta]
    rw [t_190_10 h.2.1 h4, w_bd, g_end h.2.2.1 hk]
    cases m with
    | zero =>
      rw [if_pos (nI_le (by omega) (by omega)), if_pos (nI_le (by omega) (by omega)), if_pos (nI_le (by omega) (by omega))]
      exact Or.inl ⟨rfl, rfl⟩
    | succ m =>
      rw [if_neg (nI_ge (by omega) (by omega)), if_neg (nI_ge (by omega) (by omega)), w_in (show i < 96 by omega) (by omega), nI_clamp (by omega), w_ck, w_let, c_p h.1 hk h4 (by omega) (by omega), t_194 h.2.1 h4 (by omega), w_bd]
      rcases h.2.2.1.2.2.2.2.1 k i h4 (by omega) with e | ⟨_, _, n, hn, e⟩
      · rw [e, if_neg (show ¬ ¬ (-1 : Int32) = -1 from by decide), if_pos (show (-1 : Int32) < 0 from by decide), t_190_10 h.2.1 h4, w_bd, g_end h.2.2.1 hk, if_neg (nI_ge (by omega) (by omega))]
        exact Or.inr ⟨i, by omega, rfl, rfl⟩
      · have n1 := h.2.2.1.2.1.2.1.2
        rw [e, if_pos (g_nI_m1 (by omega)), if_neg (nI_pos (by omega)), nI_1, nI_1]
        exact l_53 h hk h4 m (i + 1) p q (by omega) (by omega) (by omega)
theorem jj_132 {c y : Nat} {Y V : GA} {X Z S T : QS} (h : g_R c y Y V X Z S T) (x : Int32) : g_Ok c X Z (f_132 x S) (f_276 x T) := by
  obtain ⟨hC, hT, hW, hV, hU⟩ := id h
  unfold f_132 f_276 b_132_44
  rw [c_172 hC, t_198 hT]
  simp only [w_bd, w_eta]
  rcases g_hw_cases hW x with q | ⟨q, k, a1, a2, rfl⟩
  · rw [if_neg (g_12a q), if_neg (g_12b q)]
    exact g_refuse h _
  · rw [if_pos q, if_pos (g_12c q), c_now hC, c_91 hC a1 a2, w_let, (g_mul96 k).1, (g_mul96 k).2]
    simp only [w_bd]
    have hb := (hW.2.2.1 k a1).2
    unfold f_53
    rcases l_53 h a1 a2 (12 * g_n (Y 1 k 10)) 0 q_N q_N (by omega) (by unfold q_N; omega) (by unfold q_N; omega) with ⟨e1, e2⟩ | ⟨j, hj, e1, e2⟩
    · rw [show b_53_2 q_N y k 0 S = _ from e1, show b_276_21 q_N (nI k) (nI (96 * k)) T = _ from e2, w_bd, if_neg (by decide)]
      exact g_accept h _
    · rw [show b_53_2 q_N y k 0 S = _ from e1, show b_276_21 q_N (nI k) (nI (96 * k)) T = _ from e2, w_bd, if_pos (g_nI_m1 (by omega)), nI_add]
      exact g_accept h _
/-- the bench -/
theorem l_102 {y : Nat} {Y V : GA} {X S : QS} (hC : g_C y Y V X S) (x : Int32) : ∀ (m i p : Nat), i + m = 24 → m < p → (b_102_2 p y x (nI i) S = some (-1, S) ∧ ∀ k, i ≤ k → k < 24 → Y 5 k 0 ≠ x) ∨ ∃ k, i ≤ k ∧ k < 24 ∧ Y 5 k 0 = x ∧ b_102_2 p y x (nI i) S = some (nI k, S)
  | m, i, 0, _, h => by omega
  | m, i, p + 1, hm, hp => by
    rw [b_102_2]
    cases m with
    | zero =>
      rw [if_pos (by rw [show i = 24 by omega]; decide)]
      exact Or.inl ⟨rfl, fun k h1 h2 => by omega⟩
    | succ m =>
      rw [if_neg (by rw [show (24 : Int32) = nI 24 from rfl]; exact nI_ge (by omega) (by omega)), w_in (show i < 24 by omega) (by omega), nI_clamp (by omega), w_ck, w_let, c_b hC (by omega), nI_1]
      by_cases e : Y 5 i 0 = x
      · rw [if_neg (fun q => q e)]
        exact Or.inr ⟨i, by omega, by omega, e, rfl⟩
      · rw [if_pos e]
        rcases l_102 hC x m (i + 1) p (by omega) (by omega) with ⟨e1, e2⟩ | ⟨k, k1, k2, k3, k4⟩
        · refine Or.inl ⟨e1, fun k h1 h2 => ?_⟩
          by_cases q : k = i
          · rw [q]; exact e
          · exact e2 k (by omega) h2
        · exact Or.inr ⟨k, by omega, k2, k3, k4⟩
theorem l_216b {Y V : GA} {Z T : QS} (hT : g_T Y V Z T) (x : Int32) : ∀ (m i p : Nat) (a : Int32), i + m = 24 → m < p → (b_216_67 p x a (nI i) T = f_187 a T ∧ ∀ k, i ≤ k → k < 24 → Y 5 k 0 ≠ x) ∨ ∃ k, i ≤ k ∧ k < 24 ∧ Y 5 k 0 = x ∧ b_216_67 p x a (nI i) T = f_187 (-2 - nI k) T
  | m, i, 0, _, _, h => by omega
  | m, i, p + 1, a, hm, hp => by
    rw [b_216_67]
    cases m with
    | zero =>
      rw [if_pos (by rw [show i = 24 by omega]; decide), w_eta]
      exact Or.inl ⟨rfl, fun k h1 h2 => by omega⟩
    | succ m =>
      rw [if_neg (by rw [show (24 : Int32) = nI 24 from rfl]; exact nI_ge (by omega) (by omega)), show (16850 : Int32) + nI i = nI (16850 + i) from nI_add 16850 i, w_in (show 16850 + i < 19520 by omega) (by omega), nI_clamp (by omega), w_ck, w_let, t_b hT (by omega)]
      unfold b_216_95
      rw [nI_1]
      by_cases e : Y 5 i 0 = x
      · rw [if_neg (fun q => q e)]
        rcases l_216b hT x m (i + 1) p (-2 - nI i) (by omega) (by omega) with ⟨e1, e2⟩ | ⟨k, k1, k2, k3, k4⟩
        · exact Or.inr ⟨i, by omega, by omega, e, e1⟩
        · exact Or.inr ⟨k, by omega, k2, k3, k4⟩
      · rw [if_pos e]
        rcases l_216b hT x m (i + 1) p a (by omega) (by omega) with ⟨e1, e2⟩ | ⟨k, k1, k2, k3, k4⟩
        · refine Or.inl ⟨e1, fun k h1 h2 => ?_⟩
          by_cases q : k = i
          · rw [q]; exact e
          · exact e2 k (by omega) h2
        · exact Or.inr ⟨k, by omega, k2, k3, k4⟩
theorem l_216p {Y V : GA} {Z T : QS} (hT : g_T Y V Z T) (x : Int32) : ∀ (m i p : Nat) (a : Int32), i + m = 3840 → m < p → (b_216_37 p x a (nI i) T = b_216_67 q_N x a 0 T ∧ ∀ k, i ≤ k → k < 3840 → Y 2 (k / 96) (k % 96) ≠ x) ∨ ∃ k, i ≤ k ∧ k < 3840 ∧ Y 2 (k / 96) (k % 96) = x ∧ b_216_37 p x a (nI i) T = b_216_67 q_N x (nI k) 0 T
  | m, i, 0, _, _, h => by omega
  | m, i, p + 1, a, hm, hp => by
    rw [b_216_37]
    cases m with
    | zero =>
      rw [if_pos (by rw [show i = 3840 by omega]; decide)]
      exact Or.inl ⟨rfl, fun k h1 h2 => by omega⟩
    | succ m =>
      have e0 := t_194 hT (k := i / 96) (i := i % 96) (by omega) (by omega)
      rw [show 96 * (i / 96) + i % 96 = i by omega] at e0
      rw [if_neg (by rw [show (3840 : Int32) = nI 3840 from rfl]; exact nI_ge (by omega) (by omega)), e0, w_bd]
      unfold b_216_58
      rw [nI_1]
      by_cases e : Y 2 (i / 96) (i % 96) = x
      · rw [if_neg (fun q => q e)]
        rcases l_216p hT x m (i + 1) p (nI i) (by omega) (by omega) with ⟨e1, e2⟩ | ⟨k, k1, k2, k3, k4⟩
        · exact Or.inr ⟨i, by omega, by omega, e, e1⟩
        · exact Or.inr ⟨k, by omega, k2, k3, k4⟩
      · rw [if_pos e]
        rcases l_216p hT x m (i + 1) p a (by omega) (by omega) with ⟨e1, e2⟩ | ⟨k, k1, k2, k3, k4⟩
        · refine Or.inl ⟨e1, fun k h1 h2 => ?_⟩
          by_cases q : k = i
          · rw [q]; exact e
          · exact e2 k (by omega) h2
        · exact Or.inr ⟨k, by omega, k2, k3, k4⟩
theorem l_103i {c y : Nat} {Y V : GA} {X S : QS} (hC : g_C y Y V X S) (hW : g_W c Y) (x : Int32) {k : Nat} (hk : k < g_n (Y 0 0 0)) (h4 : k < 40) (bk : Nat → Int32 → Int32 → QS → Option (Int32 × QS)) : ∀ (m i p : Nat), i + m = 12 * g_n (Y 1 k 10) → m < p → (b_103_19 bk p y x (nI k) y k (nI i) S = bk y x (nI (k + 1)) S ∧ ∀ j, i ≤ j → j < 12 * g_n (Y 1 k 10) → Y 2 k j ≠ x) ∨ ∃ j, i ≤ j ∧ j < 12 * g_n (Y 1 k 10) ∧ Y 2 k j = x ∧ b_103_19 bk p y x (nI k) y k (nI i) S = some (nI (96 * k + j), S)
  | m, i, 0, _, h => by omega
  | m, i, p + 1, hm, hp => by
    have hb := (hW.2.2.1 k hk).2
    rw [b_103_19, c_45 hC hW hk h4, w_bd]
    cases m with
    | zero =>
      rw [if_pos (nI_le (by omega) (by omega)), nI_1]
      exact Or.inl ⟨rfl, fun j h1 h2 => by omega⟩
    | succ m =>
      rw [if_neg (nI_ge (by omega) (by omega)), w_in (show i < 96 by omega) (by omega), nI_clamp (by omega), w_ck, w_let, c_p hC hk h4 (by omega) (by omega), nI_1 i, (g_mul96 k).2, nI_add]
      by_cases e : Y 2 k i = x
      · rw [if_neg (fun q => q e)]
        exact Or.inr ⟨i, by omega, by omega, e, rfl⟩
      · rw [if_pos e]
        rcases l_103i hC hW x hk h4 bk m (i + 1) p (by omega) (by omega) with ⟨e1, e2⟩ | ⟨j, k1, k2, k3, k4⟩
        · refine Or.inl ⟨e1, fun j h1 h2 => ?_⟩
          by_cases q : j = i
          · rw [q]; exact e
          · exact e2 j (by omega) h2
        · exact Or.inr ⟨j, by omega, k2, k3, k4⟩
theorem l_103 {c y : Nat} {Y V : GA} {X S : QS} (hC : g_C y Y V X S) (hW : g_W c Y) (x : Int32) : ∀ (m k p : Nat), k + m = g_n (Y 0 0 0) → m < p → (b_103_2 p y x (nI k) S = some (-1, S) ∧ ∀ h j, k ≤ h → h < g_n (Y 0 0 0) → j < 12 * g_n (Y 1 h 10) → Y 2 h j ≠ x) ∨ ∃ h j, h < g_n (Y 0 0 0) ∧ j < 12 * g_n (Y 1 h 10) ∧ Y 2 h j = x ∧ b_103_2 p y x (nI k) S = some (nI (96 * h + j), S)
  | m, k, 0, _, h => by omega
  | m, k, p + 1, hm, hp => by
    have n0 := hW.2.1.1
    have n02 := n0.2
    rw [b_103_2, c_n0 hC]
    cases m with
    | zero =>
      rw [if_pos ((g_N_le n0 (by omega) (by omega)).2 (by omega))]
      exact Or.inl ⟨rfl, fun h j h1 h2 _ => by omega⟩
    | succ m =>
      have hb := (hW.2.2.1 k (by omega)).2
      rw [if_neg (fun q => by rw [g_N_le n0 (by omega) (by omega)] at q; omega), c_91 hC (by omega) (by omega), w_bd]
      dsimp only
      rcases l_103i hC hW x (k := k) (by omega) (by omega) (b_103_2 p) (12 * g_n (Y 1 k 10)) 0 q_N (by omega) (by unfold q_N; omega) with ⟨e1, e2⟩ | ⟨j, k1, k2, k3, k4⟩
      · rw [show b_103_19 (b_103_2 p) q_N y x (nI k) y k 0 S = _ from e1]
        rcases l_103 hC hW x m (k + 1) p (by omega) (by omega) with ⟨f1, f2⟩ | f
        · refine Or.inl ⟨f1, fun h j h1 h2 h3 => ?_⟩
          by_cases q : h = k
          · subst q; exact e2 j (by omega) h3
          · exact f2 h j (by omega) h2 h3
        · exact Or.inr f
      · exact Or.inr ⟨k, j, by omega, k2, k3, k4⟩
theorem jj_128 {c y : Nat} {Y V : GA} {X Z S T : QS} (h : g_R c y Y V X Z S T) (x : Int32) : g_Ok c X Z (f_128 x S) (f_216 x T) := by
  obtain ⟨hC, hT, hW, hV, hU⟩ := id h
  have n1 := hW.2.1.2.1
  have n12 := n1.2
  have n02 := hW.2.1.1.2
  unfold f_128 f_216 f_189 b_128_11 b_128_64
  simp only [w_eta]
  rw [c_now hC, c_n1 hC]
  by_cases h1 : x < 0
  · rw [if_pos h1, if_pos h1, w_bd, if_neg (show ¬ ¬ (0 : Int32) = 0 from by decide)]
    exact g_refuse h _
  · rw [if_neg h1, if_neg h1]
    by_cases h2 : x < 200
    · rw [if_pos h2, if_neg ((g_ltT x 200 199 (by decide)).1 h2), w_bd, if_pos (show ¬ (1 : Int32) = 0 from by decide), w_i1, w_ck, w_let, w_c1, t_n1 hT]
      by_cases h3 : x < Y 0 1 0
      · rw [if_pos h3, if_pos h3]
        obtain ⟨f, hf, rfl⟩ := g_ixl (n := 200) (by decide) h1 h2 (by omega)
        have hU := hW.2.2.2.2.2.2.1
        have hm1 : nI f ≠ -1 := g_nI_m1 (by omega)
        rcases l_102 hC (nI f) 24 0 q_N (by omega) (by unfold q_N; omega) with ⟨e1, e2⟩ | ⟨k, k1, k2, k3, k4⟩
        · rw [show f_102 y (nI f) S = _ from e1, w_bd, if_pos rfl, c_now hC]
          rcases l_103 hC hW (nI f) (g_n (Y 0 0 0)) 0 q_N (by omega) (by unfold q_N; omega) with ⟨f1, f2⟩ | ⟨a, j, j1, j2, j3, j4⟩
          · rw [show f_103 y (nI f) S = _ from f1, w_bd]
            rcases l_216p hT (nI f) 3840 0 q_N (-1) (by omega) (by unfold q_N; omega) with ⟨g1, g2⟩ | ⟨p, p1, p2, p3, p4⟩
            · rw [show b_216_37 q_N (nI f) (-1) 0 T = _ from g1]
              rcases l_216b hT (nI f) 24 0 q_N (-1) (by omega) (by unfold q_N; omega) with ⟨i1, i2⟩ | ⟨k, k1, k2, k3, k4⟩
              · rw [show b_216_67 q_N (nI f) (-1) 0 T = _ from i1]
                exact g_accept h _
              · exact absurd k3 (e2 k k1 k2)
            · rcases hW.2.2.2.2.1 (p / 96) (p % 96) (by omega) (by omega) with q | ⟨q1, q2, _⟩
              · exact absurd (p3.symm.trans q) hm1
              · exact absurd p3 (f2 _ _ (by omega) q1 q2)
          · rw [show f_103 y (nI f) S = _ from j4, w_bd]
            have hb := (hW.2.2.1 a j1).2
            rcases l_216p hT (nI f) 3840 0 q_N (-1) (by omega) (by unfold q_N; omega) with ⟨g1, g2⟩ | ⟨p, p1, p2, p3, p4⟩
            · exact absurd (by rw [(g_d96 (k := a) (show j < 96 by omega)).1, (g_d96 (k := a) (show j < 96 by omega)).2]; exact j3) (g2 (96 * a + j) (by omega) (by omega))
            · rw [show b_216_37 q_N (nI f) (-1) 0 T = _ from p4]
              have q := hU.1 (p / 96) (p % 96) a j (by omega) (by omega) (by omega) (by omega) (by rw [p3, j3]) (by rw [p3]; exact hm1)
              have e : 96 * a + j = p := by omega
              rw [e]
              rcases l_216b hT (nI f) 24 0 q_N (nI p) (by omega) (by unfold q_N; omega) with ⟨i1, i2⟩ | ⟨k, k1, k2, k3, k4⟩
              · rw [show b_216_67 q_N (nI f) (nI p) 0 T = _ from i1]
                exact g_accept h _
              · exact absurd k3 (e2 k k1 k2)
        · rw [show f_102 y (nI f) S = _ from k4, w_bd, if_neg (g_nI_m1 (by omega))]
          have fin : ∀ a, b_216_67 q_N (nI f) a 0 T = f_187 (-2 - nI k) T := by
            intro a
            rcases l_216b hT (nI f) 24 0 q_N a (by omega) (by unfold q_N; omega) with ⟨i1, i2⟩ | ⟨k', j1, j2, j3, j4⟩
            · exact absurd k3 (i2 k k1 k2)
            · rw [show b_216_67 q_N (nI f) a 0 T = _ from j4, hU.2.1 k' k j2 k2 (by rw [j3, k3]) (by rw [j3]; exact hm1)]
          rcases l_216p hT (nI f) 3840 0 q_N (-1) (by omega) (by unfold q_N; omega) with ⟨g1, g2⟩ | ⟨p, p1, p2, p3, p4⟩
          · rw [show b_216_37 q_N (nI f) (-1) 0 T = _ from g1, fin]
            exact g_accept h _
          · rw [show b_216_37 q_N (nI f) (-1) 0 T = _ from p4, fin]
            exact g_accept h _
      · rw [if_neg h3, if_neg h3]
        exact g_refuse h _
    · rw [if_neg h2, if_pos (by rw [g_ltT x 200 199 (by decide)] at h2; exact Decidable.not_not.1 h2), w_bd, if_neg (show ¬ ¬ (0 : Int32) = 0 from by decide)]
      exact g_refuse h _
