/-! ===== ask ===== -/
theorem p_ask2 {c y : Nat} {Y V : GA} {X Z S T : QS} (h : g_R c y Y V X Z S T) {t w : Nat} (ht : t < g_n (Y 0 2 0)) (h2 : t < 200) (hw : 2 ≤ w) (hw2 : w ≤ 7) (hq : w = 4 ∨ w = 7 → Y 6 t 0 = 0 ∨ Y 6 t 0 = 1 ∨ Y 6 t 0 = 2) : ∃ r Y' S' T', f_2 y t (nI w) S = some (r, S') ∧ f_247 (nI t) (nI w) T = some (r, T') ∧ g_R c y Y' V X Z S' T' := by
  obtain ⟨hC, hT, hW, hV, hU⟩ := id h
  have hk := (hW.2.2.2.2.2.2.2.2.1 t ht).1
  sorry
theorem jj_146 {c y : Nat} {Y V : GA} {X Z S T : QS} (h : g_R c y Y V X Z S T) (x z : Int32) : g_Ok c X Z (f_146 x z S) (f_248 x z T) := by
  obtain ⟨hC, hT, hW, hV, hU⟩ := id h
  unfold f_146 f_248
  rw [c_174 hC, t_199 hT]
  simp only [x_bd, w_eta]
  sorry
