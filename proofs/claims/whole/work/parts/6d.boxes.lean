/-! ===== boxes that are carried from hive to hive ===== -/
def g_cb (Y : GA) (h k g : Nat) : GA := fun r a b => if r = 2 ∧ a = g ∧ 12 * g_n (Y 1 g 10) ≤ b ∧ b < 12 * g_n (Y 1 g 10) + 12 * (g_n (Y 1 h 10) - k) then Y 2 h (12 * k + (b - 12 * g_n (Y 1 g 10))) else if r = 2 ∧ a = h ∧ 12 * k ≤ b ∧ b < 12 * g_n (Y 1 h 10) then -1 else if r = 1 ∧ a = h ∧ b = 10 then nI k else if r = 1 ∧ a = g ∧ b = 10 then nI (g_n (Y 1 g 10) + g_n (Y 1 h 10) - k) else Y r a b
theorem g_cb_r {Y : GA} {h k g r : Nat} (h1 : r ≠ 1) (h2 : r ≠ 2) : g_cb Y h k g r = Y r := by
  funext a b
  unfold g_cb
  rw [if_neg (by omega), if_neg (by omega), if_neg (by omega), if_neg (by omega)]
theorem g_cb_1 {Y : GA} {h k g a b : Nat} (hb : b ≠ 10) : g_cb Y h k g 1 a b = Y 1 a b := by
  unfold g_cb
  rw [if_neg (by omega), if_neg (by omega), if_neg (by omega), if_neg (by omega)]
theorem g_cb_1h {Y : GA} {h k g : Nat} : g_cb Y h k g 1 h 10 = nI k := by
  unfold g_cb
  rw [if_neg (by omega), if_neg (by omega), if_pos ⟨rfl, rfl, rfl⟩]
theorem g_cb_1g {Y : GA} {h k g : Nat} (hg : g ≠ h) : g_cb Y h k g 1 g 10 = nI (g_n (Y 1 g 10) + g_n (Y 1 h 10) - k) := by
  unfold g_cb
  rw [if_neg (by omega), if_neg (by omega), if_neg (by omega), if_pos ⟨rfl, rfl, rfl⟩]
theorem g_cb_1o {Y : GA} {h k g a b : Nat} (h1 : a ≠ h) (h2 : a ≠ g) : g_cb Y h k g 1 a b = Y 1 a b := by
  unfold g_cb
  rw [if_neg (by omega), if_neg (by omega), if_neg (by omega), if_neg (by omega)]
theorem g_cb_2 {Y : GA} {h k g a b : Nat} : g_cb Y h k g 2 a b = if a = g ∧ 12 * g_n (Y 1 g 10) ≤ b ∧ b < 12 * g_n (Y 1 g 10) + 12 * (g_n (Y 1 h 10) - k) then Y 2 h (12 * k + (b - 12 * g_n (Y 1 g 10))) else if a = h ∧ 12 * k ≤ b ∧ b < 12 * g_n (Y 1 h 10) then -1 else Y 2 a b := by
  unfold g_cb
  by_cases q1 : a = g ∧ 12 * g_n (Y 1 g 10) ≤ b ∧ b < 12 * g_n (Y 1 g 10) + 12 * (g_n (Y 1 h 10) - k)
  · rw [if_pos ⟨rfl, q1⟩, if_pos q1]
  · rw [if_neg (fun q => q1 q.2), if_neg q1]
    by_cases q2 : a = h ∧ 12 * k ≤ b ∧ b < 12 * g_n (Y 1 h 10)
    · rw [if_pos ⟨rfl, q2⟩, if_pos q2]
    · rw [if_neg (fun q => q2 q.2), if_neg q2, if_neg (by omega), if_neg (by omega)]
theorem g_W_cb {c : Nat} {Y : GA} {h k g : Nat} (hW : g_W c Y) (hg : g ≠ h) (hh : h < g_n (Y 0 0 0)) (hgg : g < g_n (Y 0 0 0)) (hk : k ≤ g_n (Y 1 h 10)) (h8 : g_n (Y 1 g 10) + g_n (Y 1 h 10) - k ≤ 8) : g_W c (g_cb Y h k g) := by
  obtain ⟨w5, w0, wB, wL, wP, wK, wU, wF, wT, wS, wI, wD, wN⟩ := id hW
  have n0 := w0.1.2
  have bh := (wB h hh).2
  have bg := (wB g hgg).2
  have sm : ∀ j, j ≠ 10 → g_su (fun a => g_cb Y h k g 1 a j) (g_n (Y 0 0 0)) = g_su (fun a => Y 1 a j) (g_n (Y 0 0 0)) := fun j hj => g_su_eq _ (fun a _ => g_cb_1 hj)
  unfold g_W
  rw [g_cb_r (r := 0) (by omega) (by omega), g_cb_r (r := 3) (by omega) (by omega), g_cb_r (r := 4) (by omega) (by omega), g_cb_r (r := 5) (by omega) (by omega), g_cb_r (r := 6) (by omega) (by omega), g_cb_r (r := 8) (by omega) (by omega)]
  have b10h : g_n (g_cb Y h k g 1 h 10) = k := by rw [g_cb_1h, g_n_nI (by omega)]
  have b10g : g_n (g_cb Y h k g 1 g 10) = g_n (Y 1 g 10) + g_n (Y 1 h 10) - k := by rw [g_cb_1g hg, g_n_nI (by omega)]
  refine ⟨w5, w0, ?_, wL, ?_, wK, ?_, wF, wT, ?_, ?_, wD, ?_⟩
  · intro a ha
    by_cases e1 : a = h
    · subst e1
      rw [g_cb_1h]
      exact g_N_nI (by omega) (by omega)
    · by_cases e2 : a = g
      · subst e2
        rw [g_cb_1g hg]
        exact g_N_nI h8 (by omega)
      · rw [g_cb_1o e1 e2]
        exact wB a ha
  · intro a b h1 h2
    rw [g_cb_2]
    by_cases q1 : a = g ∧ 12 * g_n (Y 1 g 10) ≤ b ∧ b < 12 * g_n (Y 1 g 10) + 12 * (g_n (Y 1 h 10) - k)
    · rw [if_pos q1]
      obtain ⟨rfl, q2, q3⟩ := q1
      rw [b10g]
      rcases wP h (12 * k + (b - 12 * g_n (Y 1 a 10))) (by omega) (by omega) with e | ⟨_, _, e⟩
      · exact Or.inl e
      · exact Or.inr ⟨hgg, by omega, e⟩
    · rw [if_neg q1]
      by_cases q2 : a = h ∧ 12 * k ≤ b ∧ b < 12 * g_n (Y 1 h 10)
      · rw [if_pos q2]
        exact Or.inl rfl
      · rw [if_neg q2]
        rcases wP a b h1 h2 with e | ⟨e1, e2, e3⟩
        · exact Or.inl e
        · refine Or.inr ⟨e1, ?_, e3⟩
          by_cases p1 : a = h
          · subst p1
            rw [b10h]
            omega
          · by_cases p2 : a = g
            · subst p2
              rw [b10g]
              omega
            · rw [g_cb_1o p1 p2]
              exact e2
  · have pi : ∀ a b, a < 40 → b < 96 → g_cb Y h k g 2 a b ≠ -1 → ∃ a' b', a' < 40 ∧ b' < 96 ∧ g_cb Y h k g 2 a b = Y 2 a' b' ∧ ((a = g ∧ 12 * g_n (Y 1 g 10) ≤ b ∧ b < 12 * g_n (Y 1 g 10) + 12 * (g_n (Y 1 h 10) - k) ∧ a' = h ∧ b' = 12 * k + (b - 12 * g_n (Y 1 g 10))) ∨ (a' = a ∧ b' = b ∧ ¬ (a = h ∧ 12 * k ≤ b ∧ b < 12 * g_n (Y 1 h 10)))) := by
      intro a b h1 h2 hne
      rw [g_cb_2] at hne ⊢
      by_cases q1 : a = g ∧ 12 * g_n (Y 1 g 10) ≤ b ∧ b < 12 * g_n (Y 1 g 10) + 12 * (g_n (Y 1 h 10) - k)
      · rw [if_pos q1]
        exact ⟨h, _, by omega, by omega, rfl, Or.inl ⟨q1.1, q1.2.1, q1.2.2, rfl, rfl⟩⟩
      · rw [if_neg q1] at hne ⊢
        by_cases q2 : a = h ∧ 12 * k ≤ b ∧ b < 12 * g_n (Y 1 h 10)
        · rw [if_pos q2] at hne
          exact absurd rfl hne
        · rw [if_neg q2] at hne ⊢
          exact ⟨a, b, h1, h2, rfl, Or.inr ⟨rfl, rfl, q2⟩⟩
    refine ⟨?_, wU.2.1, ?_⟩
    · intro a b a' b' h1 h2 h3 h5 q1 q2
      obtain ⟨u, v, u1, v1, e1, d1⟩ := pi a b h1 h2 q2
      obtain ⟨u', v', u2, v2, e2, d2⟩ := pi a' b' h3 h5 (by rw [← q1]; exact q2)
      rw [e1] at q1 q2
      rw [e2] at q1
      have := wU.1 u v u' v' u1 v1 u2 v2 q1 q2
      omega
    · intro a b b' h1 h2 h3 q1
      by_cases q2 : g_cb Y h k g 2 a b = -1
      · exact q2
      · obtain ⟨u, v, u1, v1, e1, d1⟩ := pi a b h1 h2 q2
        rw [e1] at q1 ⊢
        exact wU.2.2 u v b' u1 v1 h3 q1
  · intro a ha
    rw [g_cb_1 (b := 0) (by omega), g_cb_1 (b := 3) (by omega), g_cb_1 (b := 5) (by omega), g_cb_1 (b := 6) (by omega), g_cb_1 (b := 7) (by omega), g_cb_1 (b := 8) (by omega), g_cb_1 (b := 1) (by omega), g_cb_1 (b := 2) (by omega)]
    exact wS a ha
  · refine ⟨?_, wI.2.1, ?_⟩
    · intro a a'
      rw [g_cb_1 (by omega), g_cb_1 (by omega)]
      exact wI.1 a a'
    · intro a s
      rw [g_cb_1 (by omega)]
      exact wI.2.2 a s
  · obtain ⟨q1, q2, q3⟩ := wN
    refine ⟨?_, ?_, ?_⟩
    · rw [sm 0 (by omega)]; exact q1
    · rw [sm 5 (by omega)]; exact q2
    · rw [sm 6 (by omega), sm 1 (by omega), sm 2 (by omega)]; exact q3
theorem c_47 {c y : Nat} {Y V : GA} {X S : QS} (hC : g_C y Y V X S) (hW : g_W c Y) {h k g : Nat} (hg : g ≠ h) (hh : h < g_n (Y 0 0 0)) (hgg : g < g_n (Y 0 0 0)) (hk : k ≤ g_n (Y 1 h 10)) (h8 : g_n (Y 1 g 10) + g_n (Y 1 h 10) - k ≤ 8) : ∃ S', f_47 y g y h (nI k) S = some ((), S') ∧ g_C y (g_cb Y h k g) V X S' := by
  have n0 := hW.2.1.1.2
  have wh := hW.2.2.1 h hh
  have wg := hW.2.2.1 g hgg
  have bh := wh.2
  have bg := wg.2
  have hy := hC.1.2.2
  unfold f_47
  rw [c_h10 hC hh (by omega), wh.1, pk_sub hk, x_let, c_45 hC hW hgg (by omega), x_bd]
  rw [show nI k * 12 = nI (12 * k) from by rw [show (12 : Int32) = nI 12 from rfl, pk_mul, Nat.mul_comm], show nI (g_n (Y 1 h 10) - k) * 12 = nI (12 * (g_n (Y 1 h 10) - k)) from by rw [show (12 : Int32) = nI 12 from rfl, pk_mul, Nat.mul_comm]]
  rw [nI_clamp (show 12 * k < 2 ^ 31 by omega), nI_clamp (show 12 * g_n (Y 1 g 10) < 2 ^ 31 by omega), nI_clamp (show 12 * (g_n (Y 1 h 10) - k) < 2 ^ 31 by omega), decide_eq_true (nI_pos (show 12 * k < 2 ^ 31 by omega)), decide_eq_true (nI_pos (show 12 * g_n (Y 1 g 10) < 2 ^ 31 by omega)), decide_eq_true (nI_pos (show 12 * (g_n (Y 1 h 10) - k) < 2 ^ 31 by omega)), decide_eq_true (show 12 * k + 12 * (g_n (Y 1 h 10) - k) ≤ 96 by omega), decide_eq_true (show 12 * g_n (Y 1 g 10) + 12 * (g_n (Y 1 h 10) - k) ≤ 96 by omega)]
  rw [show (true && true && true && true && true) = true from rfl, x_ck, x_let, x_let, x_let]
  generalize hS1 : q_row S (25, y, g) (va_cpy (S.1 (25, y, h)) (S.1 (25, y, g)) (12 * k) (12 * g_n (Y 1 g 10)) (12 * (g_n (Y 1 h 10) - k))) = S1
  have a1 : ∀ a : VA, a ≠ (25, y, g) → S1.1 a = S.1 a := fun a ha => by rw [← hS1, w_row_ne ha]
  have a2 : ∀ b, S1.1 (25, y, g) b = va_cpy (S.1 (25, y, h)) (S.1 (25, y, g)) (12 * k) (12 * g_n (Y 1 g 10)) (12 * (g_n (Y 1 h 10) - k)) b := fun b => by rw [← hS1, w_row_same]
  have a3 : S1.2 = S.2 := by rw [← hS1]; rfl
  have e4g : S1.1 (4, y, g) 1 = nI (g_n (Y 1 g 10)) := by
    rw [a1 _ (fun q => by injection q with q1 q2; omega), c_h10 hC hgg (by omega)]
    exact wg.1
  rw [e4g, nI_add, show g_n (Y 1 g 10) + (g_n (Y 1 h 10) - k) = g_n (Y 1 g 10) + g_n (Y 1 h 10) - k by omega]
  have cells : ∀ a j, (q_set (q_set S1 (4, y, g) 1 (nI (g_n (Y 1 g 10) + g_n (Y 1 h 10) - k))) (4, y, h) 1 (nI k)).1 a j = if a = (4, y, h) ∧ j = 1 then nI k else if a = (4, y, g) ∧ j = 1 then nI (g_n (Y 1 g 10) + g_n (Y 1 h 10) - k) else S1.1 a j := fun a j => by rw [g_set1, g_set1]
  refine ⟨_, rfl, ?_⟩
  refine g_C_ext hC (g_D_eq a3) ?_ (fun j => ?_) ?_ ?_ ?_
  · rw [g_cb_r (by omega) (by omega)]
  · rw [g_cb_r (by omega) (by omega)]
  · intro r i j hr hv hl
    rw [cells]
    have e1 := g_uc_cl (y := y) hr hv
    by_cases q1 : r = 1 ∧ i = h ∧ j = 10
    · obtain ⟨rfl, rfl, rfl⟩ := q1
      right
      rw [if_pos ⟨rfl, rfl⟩, g_cb_1h]
    · have p1 : ¬ ((g_cl y r i j).1 = (4, y, h) ∧ (g_cl y r i j).2 = 1) := by
        intro q
        have e2 := g_uc_cl (y := y) (r := 1) (i := h) (j := 10) (by omega) ⟨by omega, by omega⟩
        rw [show g_cl y r i j = g_cl y 1 h 10 from Prod.ext q.1 q.2, e2] at e1
        injection e1 with p1 p2
        injection p2 with p2 p3
        exact q1 ⟨p1.symm, p2.symm, p3.symm⟩
      rw [if_neg p1]
      by_cases q2 : r = 1 ∧ i = g ∧ j = 10
      · obtain ⟨rfl, rfl, rfl⟩ := q2
        right
        rw [if_pos ⟨rfl, rfl⟩, g_cb_1g hg]
      · have p2 : ¬ ((g_cl y r i j).1 = (4, y, g) ∧ (g_cl y r i j).2 = 1) := by
          intro q
          have e2 := g_uc_cl (y := y) (r := 1) (i := g) (j := 10) (by omega) ⟨by omega, by omega⟩
          rw [show g_cl y r i j = g_cl y 1 g 10 from Prod.ext q.1 q.2, e2] at e1
          injection e1 with p1 p2
          injection p2 with p2 p3
          exact q2 ⟨p1.symm, p2.symm, p3.symm⟩
        rw [if_neg p2]
        by_cases q3 : r = 2
        · subst q3
          have hlj : i < g_n (Y 0 0 0) ∧ j < 12 * g_n (g_cb Y h k g 1 i 10) := by
            have := hl
            unfold g_lv at this
            rw [g_cb_r (r := 0) (by omega) (by omega)] at this
            exact this
          show _ ∨ S1.1 (25, y, i) j = _
          by_cases ei : i = g
          · subst ei
            right
            rw [g_cb_1g hg, g_n_nI (by omega)] at hlj
            rw [a2, g_cb_2]
            unfold va_cpy
            by_cases ej : 12 * g_n (Y 1 i 10) ≤ j
            · rw [if_pos ⟨ej, by omega⟩, if_pos ⟨rfl, ej, by omega⟩]
              exact hC.2.1 2 h (12 * k + (j - 12 * g_n (Y 1 i 10))) (by omega) ⟨by omega, by omega⟩ ⟨hh, by omega⟩
            · rw [if_neg (by omega), if_neg (by omega), if_neg (fun q => hg q.1)]
              exact hC.2.1 2 i j (by omega) hv ⟨hgg, by omega⟩
          · left
            have live : g_lv Y 2 i j ∧ g_cb Y h k g 2 i j = Y 2 i j := by
              rw [g_cb_2, if_neg (fun q => ei q.1)]
              by_cases eh : i = h
              · subst eh
                rw [g_cb_1h, g_n_nI (by omega)] at hlj
                rw [if_neg (by omega)]
                exact ⟨⟨hlj.1, by omega⟩, rfl⟩
              · rw [if_neg (fun q => eh q.1)]
                rw [g_cb_1o eh ei] at hlj
                exact ⟨hlj, rfl⟩
            refine ⟨live.1, live.2, ?_⟩
            show S1.1 (25, y, i) j = S.1 (25, y, i) j
            rw [a1 _ (fun q => ei (by injection q with q1 q2; injection q2))]
        · left
          have nr : (g_cl y r i j).1 ≠ (25, y, g) := by
            intro q
            unfold g_uc at e1
            rw [q] at e1
            injection e1 with p1 p2
            exact q3 p1.symm
          refine ⟨?_, ?_, by rw [a1 _ nr]⟩
          · unfold g_lv at hl ⊢
            rw [g_cb_r (r := 0) (by omega) (by omega), g_cb_r (r := 3) (by omega) (by omega)] at hl
            split at hl
            · exact hl
            · exact absurd rfl q3
            · exact hl
            · exact hl
            · exact hl
            · exact hl
            · exact hl
            · exact trivial
          · by_cases r1 : r = 1
            · subst r1
              by_cases j10 : j = 10
              · subst j10
                exact g_cb_1o (fun q => q1 ⟨rfl, q, rfl⟩) (fun q => q2 ⟨rfl, q, rfl⟩)
              · exact g_cb_1 j10
            · rw [g_cb_r r1 q3]
  · unfold g_md
    rw [g_cb_r (r := 0) (by omega) (by omega)]
    show (∀ h_1, _ → S1.2.2.1.2.2.1 y h_1 = true) ∧ (∀ n, _ → S1.2.2.1.2.2.2.1 y n = true) ∧ (∀ t, _ → S1.2.2.1.2.2.2.2.1 y t = true)
    rw [a3]
    exact hC.2.2.2.1
  · intro a ha
    have na : ∀ t u, t = 4 ∨ t = 25 → a ≠ (t, y, u) := by
      intro t u ht q
      subst q
      rcases ha with ⟨ha, _⟩ | ha | ha
      · have : y = 1 - y := ha
        omega
      · have : t = 7 := ha
        omega
      · rcases ht with ht | ht <;> (subst ht; cases ha)
    rw [g_set_a (na 4 h (by omega)), g_set_a (na 4 g (by omega)), a1 a (na 25 g (by omega))]
