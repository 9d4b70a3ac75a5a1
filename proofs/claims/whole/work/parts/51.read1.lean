/-! ===== calls that only answer ===== -/
theorem g_12a {e : Int32} (h : e = 2 ∨ e = 1) : ¬ e = 0 := by rcases h with h | h <;> (rw [h]; decide)
theorem g_12b {e : Int32} (h : e = 2 ∨ e = 1) : ¬ e ≤ 0 := by rcases h with h | h <;> (rw [h]; decide)
theorem g_12c {e : Int32} (h : e = 0) : e ≤ 0 := by rw [h]; decide
theorem jj_127 {c y : Nat} {Y V : GA} {X Z S T : QS} (h : g_R c y Y V X Z S T) (x : Int32) : g_Ok c X Z (f_127 x S) (f_215 x T) := by
  obtain ⟨hC, hT, hW, hV, hU⟩ := id h
  unfold f_127 f_215
  rw [c_176 hC hW, t_201 hT hW]
  simp only [w_bd, w_eta]
  rcases g_fw_cases hW x with q | ⟨q, k, i, n, a1, a2, a3, a4, a5, a6, a7, rfl⟩
  · rw [if_neg (g_12a q), if_neg (g_12b q)]
    exact g_refuse h _
  · rw [if_pos q, if_pos (g_12c q), c_now hC, c_98 hC a1 a2 a3 a4, t_194 hT a2 a4]
    simp only [w_bd, w_eta]
    exact g_accept h _
theorem jj_129 {c y : Nat} {Y V : GA} {X Z S T : QS} (h : g_R c y Y V X Z S T) (x z : Int32) : g_Ok c X Z (f_129 x z S) (f_218 x z T) := by
  obtain ⟨hC, hT, hW, hV, hU⟩ := id h
  unfold f_129 f_218
  rw [c_177 hC hW, t_217 hT hW]
  simp only [w_bd, w_eta]
  rcases g_dw_cases hW x z with q | ⟨q, k, i, n, f, a1, a2, a3, a4, a5, a6, a7, rfl, a8, a9, rfl⟩
  · rw [if_neg (g_12a q), if_neg (g_12b q)]
    exact g_refuse h _
  · rw [if_pos q, if_pos (g_12c q), c_now hC, c_100 hC a1 a2 a3 a4 a5 a6 a7, t_194 hT a2 a4, a7]
    simp only [w_bd]
    rw [w_in a9 (by omega), nI_clamp (by omega), c_f hC a5 a6 a8 a9, t_196 hT a6 a9]
    simp only [w_bd, w_eta, w_ck, w_let]
    exact g_accept h _
theorem jj_139 {c y : Nat} {Y V : GA} {X Z S T : QS} (h : g_R c y Y V X Z S T) : g_Ok c X Z (f_139 S) (f_229 T) := by
  unfold f_139 f_229
  rw [c_z1 h.1, t_z1 h.2.1]
  exact ⟨_, y, Y, V, S, T, rfl, rfl, h⟩
theorem jj_168 {c y : Nat} {Y V : GA} {X Z S T : QS} (h : g_R c y Y V X Z S T) : g_Ok c X Z (f_168 S) (f_286 T) := by
  unfold f_168 f_286
  rw [c_z0 h.1, t_z0 h.2.1]
  exact ⟨_, y, Y, V, S, T, rfl, rfl, h⟩
theorem g_ltT (x a b : Int32) (e : a.toInt = b.toInt + 1) : x < a ↔ ¬ b < x := by
  rw [Int32.lt_iff_toInt_lt, Int32.lt_iff_toInt_lt, e]
  omega
theorem g_ixl {x M : Int32} {n : Nat} (hM : M.toInt = (n : Int)) (h0 : ¬ x < 0) (h : x < M) (hn : n < 2 ^ 31) : ∃ k, k < n ∧ x = nI k := by
  obtain ⟨k, hk, rfl⟩ := nI_of h0
  rw [Int32.lt_iff_toInt_lt, hM, nI_toInt hk] at h
  exact ⟨k, by omega, rfl⟩
theorem jj_165 {c y : Nat} {Y V : GA} {X Z S T : QS} (h : g_R c y Y V X Z S T) (x : Int32) : g_Ok c X Z (f_165 x S) (f_283 x T) := by
  unfold f_165 f_283 f_189 b_165_10
  by_cases h1 : x < 0
  · rw [if_pos h1, if_pos h1, w_bd, if_pos rfl]
    exact ⟨_, y, Y, V, S, T, rfl, rfl, h⟩
  · rw [if_neg h1, if_neg h1]
    by_cases h2 : x < 17
    · rw [if_pos h2, if_neg ((g_ltT x 17 16 (by decide)).1 h2), w_bd, if_neg (by decide)]
      obtain ⟨k, hk, rfl⟩ := g_ixl (n := 17) (by decide) h1 h2 (by omega)
      rw [w_in hk (by omega), nI_clamp (by omega), c_r h.1 hk, t_r h.2.1 hk]
      exact ⟨_, y, Y, V, S, T, rfl, rfl, h⟩
    · rw [if_neg h2, if_pos (by rw [g_ltT x 17 16 (by decide)] at h2; exact Decidable.not_not.1 h2), w_bd, if_pos rfl]
      exact ⟨_, y, Y, V, S, T, rfl, rfl, h⟩
theorem jj_136 {c y : Nat} {Y V : GA} {X Z S T : QS} (h : g_R c y Y V X Z S T) (x z : Int32) : g_Ok c X Z (f_136 x z S) (f_223 x z T) := by
  obtain ⟨hC, hT, hW, hV, hU⟩ := id h
  have n8 := hW.2.1.2.2.2
  unfold f_136 f_223 f_189 b_136_11 b_136_46
  simp only [w_eta]
  rw [c_now hC, c_n8 hC]
  by_cases h1 : x < 0
  · rw [if_pos h1, if_pos h1, w_bd, if_neg (by decide)]
    exact g_refuse h _
  · rw [if_neg h1, if_neg h1]
    by_cases h2 : x < 200
    · rw [if_pos h2, if_neg ((g_ltT x 200 199 (by decide)).1 h2), w_bd, if_pos (show ¬ (1 : Int32) = 0 from by decide)]
      simp only [w_i8, w_ck, w_let, w_c8]
      rw [t_n8 hT]
      obtain ⟨k, hk, rfl⟩ := g_ixl (n := 200) (by decide) h1 h2 (by omega)
      by_cases h3 : nI k < Y 0 8 0
      · rw [if_pos h3, if_pos h3]
        rw [g_N_gt n8 (by omega) (by omega)] at h3
        by_cases h4 : z < 0
        · rw [if_pos h4, if_pos h4, w_bd, if_pos rfl]
          exact g_refuse h _
        · rw [if_neg h4, if_neg h4]
          by_cases h5 : z ≤ 2
          · rw [if_pos h5, if_neg ((g_nle _ _).1 h5), w_bd, if_neg (by decide)]
            obtain ⟨w, hw, rfl⟩ := nI_of2 (x := z) (M := 2) (n := 2) (by decide) h4 h5
            have e : (18920 : Int32) + 3 * nI k + nI w = nI (18920 + 3 * k + w) := by
              rw [show (18920 : Int32) = nI 18920 from rfl, show (3 : Int32) = nI 3 from rfl, pk_mul, nI_add, nI_add]
            rw [e, w_in (by omega) (by omega), nI_clamp (by omega), t_e hT hk (by omega)]
            have e2 : f_26 y (nI k) (nI w) S = some (Y 7 k w, S) := by
              unfold f_26
              rw [w_in hk (by omega), nI_clamp (by omega)]
              match w, hw with
              | 0, _ => rw [if_neg (by decide), c_e0 hC h3 hk]; rfl
              | 1, _ => rw [if_pos (by decide), if_neg (by decide), c_e1 hC h3 hk]; rfl
              | 2, _ => rw [if_pos (by decide), if_pos (by decide), c_e2 hC h3 hk]; rfl
              | n + 3, hw => omega
            rw [e2]
            simp only [w_bd, w_eta, w_ck, w_let]
            exact g_accept h _
          · rw [if_neg h5, if_pos (Decidable.not_not.1 (fun q => h5 ((g_nle _ _).2 q))), w_bd, if_pos rfl]
            exact g_refuse h _
      · rw [if_neg h3, if_neg h3]
        exact g_refuse h _
    · rw [if_neg h2, if_pos (by rw [g_ltT x 200 199 (by decide)] at h2; exact Decidable.not_not.1 h2), w_bd, if_neg (by decide)]
      exact g_refuse h _
/-- rows that are kept: shares, letters, the plan's order -/
theorem c_81 {c y : Nat} {Y V : GA} {X Z S T : QS} (h : g_R c y Y V X Z S T) (k : Nat) (hk : k < 3) (x : Int32) : (f_81 (g_rk k) x S = some (1, S) ∧ Y 14 k 0 = -1) ∨ (f_81 (g_rk k) x S = some (2, S) ∧ 0 ≤ Y 14 k 0 ∧ (x < 0 ∨ (¬ x < 0 ∧ Y 14 k 0 - 1 < x))) ∨ (f_81 (g_rk k) x S = some (0, S) ∧ 0 ≤ Y 14 k 0 ∧ ¬ x < 0 ∧ ¬ Y 14 k 0 - 1 < x ∧ ∃ i, i < g_cap k ∧ x = nI i) := by
  have hc : g_cap k < 2 ^ 31 := by unfold g_cap; split; omega; split <;> omega
  unfold f_81 b_81_21
  rcases h.1.2.2.2.2.2.1 k hk with ⟨e, q⟩ | ⟨e, q, m⟩
  · rw [if_neg (fun p => p q)]
    exact Or.inl ⟨rfl, e⟩
  · rw [if_pos (by rw [q]; decide), m]
    have h0 : 0 ≤ Y 14 k 0 := by rw [e.1]; exact nI_pos' (by omega)
    by_cases h1 : x < 0
    · rw [if_pos h1]
      exact Or.inr (Or.inl ⟨rfl, h0, Or.inl h1⟩)
    · rw [if_neg h1]
      by_cases h2 : x < Y 14 k 0
      · rw [if_pos h2]
        obtain ⟨i, hi, rfl⟩ := nI_of h1
        refine Or.inr (Or.inr ⟨rfl, h0, h1, fun p => (g_ltm1 _ _ h0).1 p h2, i, ?_, rfl⟩)
        rw [g_N_gt (m := g_cap k) e hc hi] at h2
        omega
      · rw [if_neg h2]
        exact Or.inr (Or.inl ⟨rfl, h0, Or.inr ⟨h1, (g_ltm1 _ _ h0).2 h2⟩⟩)
theorem jj_154 {c y : Nat} {Y V : GA} {X Z S T : QS} (h : g_R c y Y V X Z S T) (x : Int32) : g_Ok c X Z (f_154 x S) (f_261 x T) := by
  obtain ⟨hC, hT, hW, hV, hU⟩ := id h
  unfold f_154 f_261 f_189
  rw [t_m0 hT]
  simp only [w_eta]
  rcases c_81 h 0 (by omega) x with ⟨e, q⟩ | ⟨e, q, p⟩ | ⟨e, q, p1, p2, i, hi, rfl⟩
  · rw [show f_81 1 x S = some (1, S) from e, w_bd, if_neg (by decide), q, if_neg (by decide)]
    exact g_refuse h _
  · rw [show f_81 1 x S = some (2, S) from e, w_bd, if_neg (by decide), if_pos q]
    rcases p with p | ⟨p, p2⟩
    · rw [if_pos p, w_bd, if_pos rfl]
      exact g_refuse h _
    · rw [if_neg p, if_pos p2, w_bd, if_pos rfl]
      exact g_refuse h _
  · have hi' : i < 100 := hi
    rw [show f_81 1 (nI i) S = some (0, S) from e, w_bd, if_pos rfl, if_pos q, if_neg p1, if_neg p2, w_bd, if_neg (by decide), w_in hi' (by omega), nI_clamp (by omega), c_q11 hC hi', t_q11 hT hi']
    exact g_accept h _
theorem jj_163 {c y : Nat} {Y V : GA} {X Z S T : QS} (h : g_R c y Y V X Z S T) (x : Int32) : g_Ok c X Z (f_163 x S) (f_281 x T) := by
  obtain ⟨hC, hT, hW, hV, hU⟩ := id h
  unfold f_163 f_281 f_189
  rw [t_m1 hT]
  simp only [w_eta]
  rcases c_81 h 1 (by omega) x with ⟨e, q⟩ | ⟨e, q, p⟩ | ⟨e, q, p1, p2, i, hi, rfl⟩
  · rw [show f_81 2 x S = some (1, S) from e, w_bd, if_neg (by decide), q, if_neg (by decide)]
    exact g_refuse h _
  · rw [show f_81 2 x S = some (2, S) from e, w_bd, if_neg (by decide), if_pos q]
    rcases p with p | ⟨p, p2⟩
    · rw [if_pos p, w_bd, if_pos rfl]
      exact g_refuse h _
    · rw [if_neg p, if_pos p2, w_bd, if_pos rfl]
      exact g_refuse h _
  · have hi' : i < 64 := hi
    rw [show f_81 2 (nI i) S = some (0, S) from e, w_bd, if_pos rfl, if_pos q, if_neg p1, if_neg p2, w_bd, if_neg (by decide), w_in hi' (by omega), nI_clamp (by omega), c_q12 hC hi', t_q12 hT hi']
    exact g_accept h _
theorem jj_161 {c y : Nat} {Y V : GA} {X Z S T : QS} (h : g_R c y Y V X Z S T) (x : Int32) : g_Ok c X Z (f_161 x S) (f_272 x T) := by
  obtain ⟨hC, hT, hW, hV, hU⟩ := id h
  unfold f_161 f_272 f_189
  rw [t_m2 hT]
  simp only [w_eta]
  rcases c_81 h 2 (by omega) x with ⟨e, q⟩ | ⟨e, q, p⟩ | ⟨e, q, p1, p2, i, hi, rfl⟩
  · rw [show f_81 0 x S = some (1, S) from e, w_bd, if_neg (by decide), q, if_neg (by decide)]
    exact g_refuse h _
  · rw [show f_81 0 x S = some (2, S) from e, w_bd, if_neg (by decide), if_pos q]
    rcases p with p | ⟨p, p2⟩
    · rw [if_pos p, w_bd, if_pos rfl]
      exact g_refuse h _
    · rw [if_neg p, if_pos p2, w_bd, if_pos rfl]
      exact g_refuse h _
  · have hi' : i < 8 := hi
    rw [show f_81 0 (nI i) S = some (0, S) from e, w_bd, if_pos rfl, if_pos q, if_neg p1, if_neg p2, w_bd, if_neg (by decide), w_in hi' (by omega), nI_clamp (by omega), c_q13 hC hi', t_q13 hT hi']
    exact g_accept h _
/-- two hives -/
def g_hw2 (Y : GA) (x z : Int32) : Int32 := if g_hw Y x = 0 then g_hw Y z else g_hw Y x
theorem c_173 {y : Nat} {Y V : GA} {X S : QS} (h : g_C y Y V X S) (x z : Int32) : f_173 x z S = some (g_hw2 Y x z, S) := by
  unfold f_173 g_hw2
  rw [c_172 h, w_bd, c_172 h, w_bd]
  split <;> rfl
theorem t_202 {c : Nat} {Y V : GA} {Z T : QS} (h : g_T Y V Z T) (hW : g_W c Y) (x z : Int32) : f_202 (g_hw Y x) (g_hw Y z) T = some (g_hw2 Y x z, T) := by
  unfold f_202 g_hw2
  rcases g_hw_cases hW x with q | ⟨q, _⟩
  · rw [if_neg (g_12b q), if_neg (g_12a q)]
  · rw [if_pos (g_12c q), if_pos q]
theorem g_hw2_cases {c : Nat} {Y : GA} (h : g_W c Y) (x z : Int32) : (g_hw2 Y x z = 2 ∨ g_hw2 Y x z = 1) ∨ (g_hw2 Y x z = 0 ∧ ∃ k g, k < g_n (Y 0 0 0) ∧ k < 40 ∧ x = nI k ∧ g < g_n (Y 0 0 0) ∧ g < 40 ∧ z = nI g) := by
  unfold g_hw2
  rcases g_hw_cases h x with q | ⟨q, k, a1, a2, a3⟩
  · rw [if_neg (g_12a q)]
    exact Or.inl q
  · rw [if_pos q]
    rcases g_hw_cases h z with p | ⟨p, g, b1, b2, b3⟩
    · exact Or.inl p
    · exact Or.inr ⟨p, k, g, a1, a2, a3, b1, b2, b3⟩
theorem jj_157 {c y : Nat} {Y V : GA} {X Z S T : QS} (h : g_R c y Y V X Z S T) (x z : Int32) : g_Ok c X Z (f_157 x z S) (f_265 x z T) := by
  obtain ⟨hC, hT, hW, hV, hU⟩ := id h
  unfold f_157 f_265 b_265_40 b_265_38 b_157_53 b_157_115 b_265_40 b_265_112
  rw [c_173 hC, t_198 hT]
  simp only [w_bd, w_eta]
  rw [t_198 hT]
  simp only [w_bd]
  rw [t_202 hT hW]
  simp only [w_bd]
  rcases g_hw2_cases hW x z with q | ⟨q, k, g, a1, a2, rfl, b1, b2, rfl⟩
  · rw [if_neg (g_12a q), if_pos (g_12a q), if_neg (g_12b q)]
    exact g_refuse h _
  · rw [if_pos q, if_neg (fun p => p q), c_now hC, c_91 hC a1 a2, t_190_6 hT a2]
    simp only [w_bd]
    rw [c_now hC, c_91 hC b1 b2]
    simp only [w_bd]
    rw [c_h6 hC a1 a2, c_h6 hC b1 b2]
    by_cases e1 : Y 1 k 6 = 0
    · rw [if_pos e1, if_pos e1, if_neg (by decide)]
      exact g_refuse h _
    · rw [if_neg e1, if_neg e1, t_190_6 hT b2]
      simp only [w_bd]
      by_cases e2 : Y 1 g 6 = 0
      · rw [if_neg (fun p => p e2), if_neg (fun p => p e2), if_neg (by decide)]
        exact g_refuse h _
      · rw [if_pos e2, if_pos e2, if_pos (g_12c q), c_h5 hC a1 a2, c_h5 hC b1 b2, t_190_5 hT a2]
        simp only [w_bd]
        rw [t_190_6 hT b2]
        simp only [w_bd, w_let]
        rw [t_190_5 hT b2]
        simp only [w_bd]
        rw [t_190_6 hT a2]
        simp only [w_bd]
        split
        · split
          · exact g_accept h _
          · exact g_accept h _
        · exact g_accept h _
