/-! ===== new things, hives, frames, boxes ===== -/
def g_rs (Y : GA) (r i : Nat) (f : Nat → Int32) : GA := fun a b c => if a = r ∧ b = i then f c else Y a b c
theorem g_rs_same (Y : GA) (r i c : Nat) (f : Nat → Int32) : g_rs Y r i f r i c = f c := if_pos ⟨rfl, rfl⟩
theorem g_rs_ne {Y : GA} {r i a b c : Nat} {f : Nat → Int32} (h : ¬ (a = r ∧ b = i)) : g_rs Y r i f a b c = Y a b c := if_neg h
theorem g_rs_r {Y : GA} {r i a : Nat} {f : Nat → Int32} (h : a ≠ r) : g_rs Y r i f a = Y a := by
  funext b c
  exact g_rs_ne (fun q => h q.1)
theorem g_T_ext {Y Y' V : GA} {Z T : QS} (h : g_T Y V Z T) (he : ∀ r i j, r ≠ 8 → g_vd r i j → Y' r i j = Y r i j) : g_T Y' V Z T := by
  have e10 := he 10 3 0 (by omega) ⟨by omega, rfl⟩
  refine ⟨?_, ?_, h.2.2⟩
  · intro r i j hr hv
    rw [he r i j hr hv]
    exact h.1 r i j hr hv
  · rw [e10]
    exact h.2.1
theorem g_C_ext {y : Nat} {Y Y' V : GA} {X S S' : QS} (h : g_C y Y V X S) (hD : g_D S S') (h10 : Y' 10 3 0 = Y 10 3 0) (h14 : ∀ k, Y' 14 k 0 = Y 14 k 0) (hc : ∀ r i j, r ≤ 13 → g_vd r i j → g_lv Y' r i j → (g_lv Y r i j ∧ Y' r i j = Y r i j ∧ S'.1 (g_cl y r i j).1 (g_cl y r i j).2 = S.1 (g_cl y r i j).1 (g_cl y r i j).2) ∨ S'.1 (g_cl y r i j).1 (g_cl y r i j).2 = Y' r i j) (hm : g_md S' y Y') (ho : ∀ a : VA, a.2.1 = 1 - y ∧ a.1 ≠ 20 ∧ a.1 ≠ 10 ∧ a.1 ≠ 35 ∨ a.1 = 7 ∨ g_isR a.1 = true → S'.1 a = S.1 a) : g_C y Y' V X S' := by
  obtain ⟨b1, b2, b3, b4, b5, b6, b7, b8⟩ := h
  refine ⟨⟨hD.1.trans b1.1, hD.2.1.trans b1.2.1, b1.2.2⟩, ?_, ?_, hm, ?_, ?_, ?_, hD.2.2.2.2.2 b8⟩
  · intro r i j hr hv hl
    rcases hc r i j hr hv hl with ⟨q1, q2, q3⟩ | q
    · rw [q3, q2]
      exact b2 r i j hr hv q1
    · exact q
  · rw [h10]
    intro hc r i j hr hv hl
    have q := g_cl_y (y := 1 - y) hr hv
    rw [ho _ (Or.inl ⟨q.1, q.2.1, q.2.2.1, q.2.2.2.1⟩)]
    exact b3 hc r i j hr hv hl
  · rw [h10]
    intro q
    have q2 := b5 q
    exact ⟨fun k hk => hD.2.2.1 _ _ (q2.1 k hk), fun k hk => hD.2.2.2.1 _ _ (q2.2.1 k hk), fun k hk => hD.2.2.2.2.1 _ _ (q2.2.2 k hk)⟩
  · intro k hk
    rw [h14]
    unfold g_rw
    rw [ho _ (Or.inr (Or.inl rfl))]
    exact b6 k hk
  · intro a ha
    rw [ho a (Or.inr (Or.inr ha))]
    exact b7 a ha
/-- slots of one row, one behind the other -/
def g_ws (S0 : QS) (a : VA) (lo n : Nat) (f : Nat → Int32) (S : QS) : Prop := (∀ c, c ≠ a → S.1 c = S0.1 c) ∧ (∀ s, lo ≤ s → s < n → S.1 a s = f s) ∧ S.2 = S0.2
theorem g_ws0 (S : QS) (a : VA) (lo : Nat) (f : Nat → Int32) : g_ws S a lo lo f S := ⟨fun _ _ => rfl, fun s h1 h2 => by omega, rfl⟩
theorem g_ws1 {S0 S : QS} {a : VA} {lo n : Nat} {f : Nat → Int32} {v : Int32} (h : g_ws S0 a lo n f S) (hv : f n = v) : ∃ S1, q_set S a n v = S1 ∧ g_ws S0 a lo (n + 1) f S1 := by
  refine ⟨_, rfl, ?_, ?_, h.2.2⟩
  · intro c hc
    rw [g_set_a hc]
    exact h.1 c hc
  · intro s h1 h2
    rw [g_set1]
    by_cases e : s = n
    · subst e
      rw [if_pos ⟨rfl, rfl⟩, hv]
    · rw [if_neg (fun q => e q.2)]
      exact h.2.1 s h1 (by omega)
/-- a new thing -/
def g_tf (x : Int32) (c : Nat) : Int32 := if c = 0 then x else if c = 2 ∨ c = 3 ∨ c = 5 ∨ c = 7 then -1 else 0
def g_tfc (x : Int32) (s : Nat) : Int32 := if s = 0 then x else if s = 2 ∨ s = 3 ∨ s = 6 ∨ s = 8 then -1 else 0
def g_nt (Y : GA) (x : Int32) : GA := g_up (g_up (g_rs Y 6 (g_n (Y 0 2 0)) (g_tf x)) 8 (g_n (Y 0 2 0)) 0 0) 0 2 0 (nI (g_n (Y 0 2 0) + 1))
theorem n_83 {y k : Nat} (x : Int32) (S : QS) : ∃ S', f_83 y k x S = some ((), S') ∧ (∀ a, a ≠ (8, y, k) → S'.1 a = S.1 a) ∧ (∀ s, s < 9 → S'.1 (8, y, k) s = g_tfc x s) ∧ S'.2 = S.2 := by
  unfold f_83
  have p0 := g_ws0 S (8, y, k) 0 (g_tfc x)
  obtain ⟨S1, e1, p1⟩ := g_ws1 (v := x) p0 rfl
  rw [e1, x_let]
  obtain ⟨S2, e2, p2⟩ := g_ws1 (v := 0) p1 rfl
  rw [e2, x_let]
  obtain ⟨S3, e3, p3⟩ := g_ws1 (v := -1) p2 rfl
  rw [e3, x_let]
  obtain ⟨S4, e4, p4⟩ := g_ws1 (v := -1) p3 rfl
  rw [e4, x_let]
  obtain ⟨S5, e5, p5⟩ := g_ws1 (v := 0) p4 rfl
  rw [e5, x_let]
  obtain ⟨S6, e6, p6⟩ := g_ws1 (v := 0) p5 rfl
  rw [e6, x_let]
  obtain ⟨S7, e7, p7⟩ := g_ws1 (v := -1) p6 rfl
  rw [e7, x_let]
  obtain ⟨S8, e8, p8⟩ := g_ws1 (v := 0) p7 rfl
  rw [e8, x_let]
  obtain ⟨S9, e9, p9⟩ := g_ws1 (v := -1) p8 rfl
  rw [e9, x_let]
  exact ⟨S9, rfl, p9.1, fun s hs => p9.2.1 s (by omega) hs, p9.2.2⟩
theorem c_96 {c y : Nat} {Y V : GA} {X S : QS} (hC : g_C y Y V X S) (hW : g_W c Y) (ht : g_n (Y 0 2 0) < 200) (x : Int32) : ∃ S', f_96 y x S = some (nI (g_n (Y 0 2 0)), S') ∧ g_C y (g_nt Y x) V X S' := by
  have n2 := hW.2.1.2.2.1
  have hy := hC.1.2.2
  obtain ⟨t, et⟩ : ∃ t, t = g_n (Y 0 2 0) := ⟨_, rfl⟩
  have eY : Y 0 2 0 = nI t := by rw [et]; exact n2.1
  unfold g_nt
  rw [← et] at ht ⊢
  unfold f_96
  obtain ⟨S1, e1, a1, a2, a3⟩ := n_93 (y := y) (k := t) hy ht S
  rw [c_n2 hC, eY, e1, x_bd]
  obtain ⟨S2, e2, b1, b2, b3⟩ := n_83 (y := y) (k := t) x S1
  dsimp only
  have e97 : S2.1 (9, y, 0) 7 = nI t := by
    rw [b1 _ (fun q => by injection q with q1 q2; omega), a1 _ (fun q => by injection q with q1 q2; omega), c_n2 hC, eY]
  rw [e2, x_bd, e97, nI_1, x_let, g_set1, if_pos ⟨rfl, rfl⟩, nI_pred]
  refine ⟨_, rfl, ?_⟩
  have oth : ∀ a : VA, a ≠ (8, y, t) → a ≠ (9, y, 0) → (q_set S2 (9, y, 0) 7 (nI (t + 1))).1 a = S.1 a := by
    intro a h1 h2
    rw [g_set_a h2, b1 a h1, a1 a h1]
  have r8 : ∀ s, s < 9 → (q_set S2 (9, y, 0) 7 (nI (t + 1))).1 (8, y, t) s = g_tfc x s := by
    intro s hs
    rw [g_set_a (fun q => by injection q with q1 q2; omega), b2 s hs]
  have r9 : ∀ s, s ≠ 7 → (q_set S2 (9, y, 0) 7 (nI (t + 1))).1 (9, y, 0) s = S.1 (9, y, 0) s := by
    intro s hs
    rw [g_set1, if_neg (fun q => hs q.2), b1 _ (fun q => by injection q with q1 q2; omega), a1 _ (fun q => by injection q with q1 q2; omega)]
  have u2 : (g_up (g_up (g_rs Y 6 t (g_tf x)) 8 t 0 0) 0 2 0 (nI (t + 1))) 0 2 0 = nI (t + 1) := g_up_same _ _ _ _ _
  have uo : ∀ r i j, ¬ (r = 0 ∧ i = 2 ∧ j = 0) → ¬ (r = 8 ∧ i = t ∧ j = 0) → ¬ (r = 6 ∧ i = t) → (g_up (g_up (g_rs Y 6 t (g_tf x)) 8 t 0 0) 0 2 0 (nI (t + 1))) r i j = Y r i j := by
    intro r i j h1 h2 h3
    rw [g_up_ne h1, g_up_ne h2, g_rs_ne h3]
  have dD : g_D S (q_set S2 (9, y, 0) 7 (nI (t + 1))) := g_D_trans a2 (g_D_eq (show (q_set S2 (9, y, 0) 7 (nI (t + 1))).2 = S1.2 from b3))
  refine g_C_ext hC dD (uo 10 3 0 (by omega) (by omega) (by omega)) (fun k => uo 14 k 0 (by omega) (by omega) (by omega)) ?_ ?_ ?_
  · intro r i j hr hv hl
    by_cases h02 : r = 0 ∧ i = 2 ∧ j = 0
    · obtain ⟨rfl, rfl, rfl⟩ := h02
      right
      show (q_set S2 (9, y, 0) 7 (nI (t + 1))).1 (9, y, 0) 7 = _
      rw [g_set1, if_pos ⟨rfl, rfl⟩, u2]
    · by_cases h8 : r = 8 ∧ i = t ∧ j = 0
      · obtain ⟨rfl, rfl, rfl⟩ := h8
        right
        show (q_set S2 (9, y, 0) 7 (nI (i + 1))).1 (8, y, i) 4 = _
        rw [r8 4 (by omega), g_up_ne (fun q => by omega), g_up_same]
        rfl
      · by_cases h6 : r = 6 ∧ i = t
        · obtain ⟨rfl, rfl⟩ := h6
          right
          show (q_set S2 (9, y, 0) 7 (nI (i + 1))).1 (8, y, i) (if j < 4 then j else j + 1) = _
          have hj : j < 8 := hv.2
          rw [r8 _ (by split <;> omega), g_up_ne (fun q => by omega), g_up_ne (fun q => by omega), g_rs_same]
          have : j = 0 ∨ j = 1 ∨ j = 2 ∨ j = 3 ∨ j = 4 ∨ j = 5 ∨ j = 6 ∨ j = 7 := by omega
          rcases this with e | e | e | e | e | e | e | e <;> (subst e; rfl)
        · left
          have eu := uo r i j h02 h8 h6
          refine ⟨?_, eu, ?_⟩
          · have e0 := uo 0 0 0 (by omega) (by omega) (by omega)
            have e1 := uo 0 1 0 (by omega) (by omega) (by omega)
            have e8 := uo 0 8 0 (by omega) (by omega) (by omega)
            unfold g_lv at hl ⊢
            rw [e0, e1, e8, u2, uo 1 i 10 (by omega) (by omega) (by omega), uo 3 i 0 (by omega) (by omega) (by omega), g_n_nI (by omega)] at hl
            rw [← et]
            split at hl
            · exact hl
            · exact hl
            · exact hl
            · exact hl
            · have : i ≠ t := fun q => h6 ⟨rfl, q⟩
              omega
            · exact hl
            · have : i ≠ t := fun q => h8 ⟨rfl, q, hv.2⟩
              omega
            · exact trivial
          · by_cases ha : (g_cl y r i j).1 = (9, y, 0)
            · have e1 := g_uc_cl (y := y) hr hv
              have hs : (g_cl y r i j).2 ≠ 7 := by
                intro q
                have e2 := g_uc_cl (y := y) (r := 0) (i := 2) (j := 0) (by omega) ⟨by omega, rfl⟩
                rw [show g_cl y r i j = g_cl y 0 2 0 from Prod.ext ha q, e2] at e1
                injection e1 with p1 p2
                injection p2 with p2 p3
                exact h02 ⟨p1.symm, p2.symm, p3.symm⟩
              rw [ha, r9 _ hs]
            · rw [oth _ ?_ ha]
              intro q
              have e1 := g_uc_cl (y := y) hr hv
              have e2 : (g_uc (g_cl y r i j)).2.1 = t ∧ ((g_uc (g_cl y r i j)).1 = 8 ∨ (g_uc (g_cl y r i j)).1 = 6) := by
                unfold g_uc
                rw [q]
                show (if (g_cl y r i j).2 = 4 then ((8, t, 0) : Nat × Nat × Nat) else _).2.1 = t ∧ _
                split
                · exact ⟨rfl, Or.inl rfl⟩
                · exact ⟨rfl, Or.inr rfl⟩
              rw [e1] at e2
              obtain ⟨p1, p2⟩ := e2
              dsimp only at p1 p2
              rcases p2 with p2 | p2
              · subst p2
                exact h8 ⟨rfl, p1, hv.2⟩
              · exact h6 ⟨p2, p1⟩
  · refine ⟨?_, ?_, ?_⟩
    · intro k hk
      rw [uo 0 0 0 (by omega) (by omega) (by omega)] at hk
      exact dD.2.2.1 y k (hC.2.2.2.1.1 k hk)
    · intro k hk
      rw [uo 0 1 0 (by omega) (by omega) (by omega)] at hk
      exact dD.2.2.2.1 y k (hC.2.2.2.1.2.1 k hk)
    · intro k hk
      rw [u2, g_n_nI (by omega)] at hk
      by_cases e : k = t
      · subst e
        show S2.2.2.1.2.2.2.2.1 y k = true
        rw [b3]
        exact a3
      · exact dD.2.2.2.2.1 y k (hC.2.2.2.1.2.2 k (by omega))
  · intro a ha
    refine oth a ?_ ?_
    · intro q
      subst q
      rcases ha with ⟨ha, _⟩ | ha | ha
      · have : y = 1 - y := ha
        omega
      · exact absurd (show (8 : Nat) = 7 from ha) (by decide)
      · exact absurd ha (show ¬ g_isR 8 = true from by decide)
    · intro q
      subst q
      rcases ha with ⟨ha, _⟩ | ha | ha
      · have : y = 1 - y := ha
        omega
      · exact absurd (show (9 : Nat) = 7 from ha) (by decide)
      · exact absurd ha (show ¬ g_isR 9 = true from by decide)
theorem t_235 {c : Nat} {Y V : GA} {Z T : QS} (hT : g_T Y V Z T) (hW : g_W c Y) (ht : g_n (Y 0 2 0) < 200) (x : Int32) : ∃ T', f_235 x T = some (nI (g_n (Y 0 2 0)), T') ∧ g_T (g_nt Y x) V Z T' := by
  have n2 := hW.2.1.2.2.1
  obtain ⟨t, et⟩ : ∃ t, t = g_n (Y 0 2 0) := ⟨_, rfl⟩
  have eY : Y 0 2 0 = nI t := by rw [et]; exact n2.1
  unfold g_nt
  rw [← et] at ht ⊢
  unfold f_235
  rw [w_i2, w_c2, t_n2 hT, eY, x_ck, x_let, show q_N = 19991 + 1 + 1 + 1 + 1 + 1 + 1 + 1 + 1 + 1 from rfl]
  obtain ⟨T0, e0, h0⟩ := t_193_0 hT ht 0
  rw [b_235_9, if_neg (show ¬ (8 : Int32) ≤ 0 from by decide), e0, x_bd, show (0 : Int32) + 1 = 1 from rfl]
  obtain ⟨T1, e1, h1⟩ := t_193_1 h0 ht 0
  rw [b_235_9, if_neg (show ¬ (8 : Int32) ≤ 1 from by decide), e1, x_bd, show (1 : Int32) + 1 = 2 from rfl]
  obtain ⟨T2, e2, h2⟩ := t_193_2 h1 ht 0
  rw [b_235_9, if_neg (show ¬ (8 : Int32) ≤ 2 from by decide), e2, x_bd, show (2 : Int32) + 1 = 3 from rfl]
  obtain ⟨T3, e3, h3⟩ := t_193_3 h2 ht 0
  rw [b_235_9, if_neg (show ¬ (8 : Int32) ≤ 3 from by decide), e3, x_bd, show (3 : Int32) + 1 = 4 from rfl]
  obtain ⟨T4, e4, h4⟩ := t_193_4 h3 ht 0
  rw [b_235_9, if_neg (show ¬ (8 : Int32) ≤ 4 from by decide), e4, x_bd, show (4 : Int32) + 1 = 5 from rfl]
  obtain ⟨T5, e5, h5⟩ := t_193_5 h4 ht 0
  rw [b_235_9, if_neg (show ¬ (8 : Int32) ≤ 5 from by decide), e5, x_bd, show (5 : Int32) + 1 = 6 from rfl]
  obtain ⟨T6, e6, h6⟩ := t_193_6 h5 ht 0
  rw [b_235_9, if_neg (show ¬ (8 : Int32) ≤ 6 from by decide), e6, x_bd, show (6 : Int32) + 1 = 7 from rfl]
  obtain ⟨T7, e7, h7⟩ := t_193_7 h6 ht 0
  rw [b_235_9, if_neg (show ¬ (8 : Int32) ≤ 7 from by decide), e7, x_bd, show (7 : Int32) + 1 = 8 from rfl]
  rw [b_235_9, if_pos (show (8 : Int32) ≤ 8 from by decide)]
  obtain ⟨T8, e8, h8⟩ := t_193_0 h7 ht x
  rw [e8, x_bd]
  obtain ⟨T9, e9, h9⟩ := t_193_2 h8 ht (-1)
  rw [e9, x_bd]
  obtain ⟨Ta, ea, ha⟩ := t_193_3 h9 ht (-1)
  rw [ea, x_bd]
  obtain ⟨Tb, eb, hb⟩ := t_193_5 ha ht (-1)
  rw [eb, x_bd]
  obtain ⟨Tc, ec, hc⟩ := t_193_7 hb ht (-1)
  rw [ec, x_bd, w_i2, w_c2, t_n2 hc, x_ck, x_let, x_ck]
  have e2v : g_up (g_up (g_up (g_up (g_up (g_up (g_up (g_up (g_up (g_up (g_up (g_up (g_up Y 6 t 0 0) 6 t 1 0) 6 t 2 0) 6 t 3 0) 6 t 4 0) 6 t 5 0) 6 t 6 0) 6 t 7 0) 6 t 0 x) 6 t 2 (-1)) 6 t 3 (-1)) 6 t 5 (-1)) 6 t 7 (-1) 0 2 0 = nI t := eY
  obtain ⟨Td, ed, hd⟩ := ts_n2 hc (nI (t + 1))
  rw [e2v, nI_1, ed, x_let]
  refine ⟨Td, rfl, g_T_ext hd ?_⟩
  intro r i j hr hv
  by_cases h02 : r = 0 ∧ i = 2 ∧ j = 0
  · obtain ⟨rfl, rfl, rfl⟩ := h02
    rw [g_up_same, g_up_same]
  · rw [g_up_ne h02, g_up_ne h02, g_up_ne (fun q => hr q.1)]
    by_cases hh : r = 6 ∧ i = t
    · obtain ⟨rfl, rfl⟩ := hh
      rw [g_rs_same]
      have hj : j < 8 := hv.2
      have : j = 0 ∨ j = 1 ∨ j = 2 ∨ j = 3 ∨ j = 4 ∨ j = 5 ∨ j = 6 ∨ j = 7 := by omega
      rcases this with e | e | e | e | e | e | e | e <;> subst e <;> simp [g_up, g_tf]
    · rw [g_rs_ne hh]
      have k : ∀ (W : GA) (w : Nat) (v : Int32), g_up W 6 t w v r i j = W r i j := fun W w v => g_up_ne (fun q => hh ⟨q.1, q.2.1⟩)
      rw [k, k, k, k, k, k, k, k, k, k, k, k, k]
theorem g_W_nt {c : Nat} {Y : GA} {x : Int32} (hW : g_W c Y) (ht : g_n (Y 0 2 0) < 200) (hx : g_N x 5) : g_W c (g_nt Y x) := by
  obtain ⟨w5, w0, wB, wL, wP, wK, wU, wF, wT, wS, wI, wD, wN⟩ := id hW
  obtain ⟨t, et⟩ : ∃ t, t = g_n (Y 0 2 0) := ⟨_, rfl⟩
  unfold g_nt
  rw [← et] at ht ⊢
  generalize hY' : g_up (g_up (g_rs Y 6 t (g_tf x)) 8 t 0 0) 0 2 0 (nI (t + 1)) = Y'
  have uo : ∀ r i j, ¬ (r = 0 ∧ i = 2 ∧ j = 0) → ¬ (r = 8 ∧ i = t ∧ j = 0) → ¬ (r = 6 ∧ i = t) → Y' r i j = Y r i j := by
    intro r i j h1 h2 h3
    rw [← hY', g_up_ne h1, g_up_ne h2, g_rs_ne h3]
  have ur : ∀ r, r ≠ 0 → r ≠ 8 → r ≠ 6 → Y' r = Y r := by
    intro r h1 h2 h3
    funext i j
    exact uo r i j (by omega) (by omega) (by omega)
  have u2 : Y' 0 2 0 = nI (t + 1) := by rw [← hY', g_up_same]
  have u6 : ∀ j, Y' 6 t j = g_tf x j := by intro j; rw [← hY', g_up_ne (fun q => by omega), g_up_ne (fun q => by omega), g_rs_same]
  have u8 : Y' 8 t 0 = 0 := by rw [← hY', g_up_ne (fun q => by omega), g_up_same]
  have n0 : Y' 0 0 0 = Y 0 0 0 := uo 0 0 0 (by omega) (by omega) (by omega)
  have n1 : Y' 0 1 0 = Y 0 1 0 := uo 0 1 0 (by omega) (by omega) (by omega)
  have n8 : Y' 0 8 0 = Y 0 8 0 := uo 0 8 0 (by omega) (by omega) (by omega)
  have m2 : g_n (Y' 0 2 0) = t + 1 := by rw [u2, g_n_nI (by omega)]
  have o6 : ∀ k j, k ≠ t → Y' 6 k j = Y 6 k j := fun k j hk => uo 6 k j (by omega) (by omega) (by omega)
  have o8 : ∀ k, k ≠ t → Y' 8 k 0 = Y 8 k 0 := fun k hk => uo 8 k 0 (by omega) (by omega) (by omega)
  have lt : ∀ v, g_M v t → v ≠ -1 → g_n v < t := by
    intro v hv hn
    obtain ⟨n, h1, h2⟩ := g_M_of hv hn
    rw [h2, g_n_nI (by omega)]
    exact h1
  have pd : ∀ v, g_M v t → g_pd (Y' 8) v = g_pd (Y 8) v := by
    intro v hv
    unfold g_pd
    by_cases e : v = -1
    · rw [if_pos e, if_pos e]
    · rw [if_neg e, if_neg e, o8 _ (by have := lt v hv e; omega)]
  unfold g_W
  rw [ur 1 (by omega) (by omega) (by omega), ur 2 (by omega) (by omega) (by omega), ur 3 (by omega) (by omega) (by omega), ur 4 (by omega) (by omega) (by omega), ur 5 (by omega) (by omega) (by omega)]
  refine ⟨w5, ?_, ?_, ?_, ?_, ?_, wU, ?_, ?_, ?_, ?_, ?_, ?_⟩
  · unfold g_w0
    rw [n0, n1, n8, u2]
    exact ⟨w0.1, w0.2.1, g_N_nI (by omega) (by omega), w0.2.2.2⟩
  · unfold g_wB; rw [n0]; exact wB
  · unfold g_wL; rw [n1]; exact wL
  · unfold g_wP; rw [n0, n1]; exact wP
  · unfold g_wK; rw [n1]; exact wK
  · unfold g_wF; rw [n1]; exact wF
  · intro k hk
    rw [m2] at hk ⊢
    by_cases e : k = t
    · subst e
      rw [u6, u6, u6, u6, u6, u6, u6]
      exact ⟨hx, g_N_nI (a := 0) (by omega) (by omega), Or.inl rfl, Or.inl rfl, g_N_nI (a := 0) (by omega) (by omega), by show (0 : Int32) ≤ 0; decide, Or.inl rfl⟩
    · have q := wT k (by omega)
      rw [o6 k 0 e, o6 k 1 e, o6 k 2 e, o6 k 3 e, o6 k 4 e, o6 k 6 e, o6 k 7 e]
      exact ⟨q.1, q.2.1, g_M_mono q.2.2.1 (by omega), g_M_mono q.2.2.2.1 (by omega), q.2.2.2.2.1, q.2.2.2.2.2.1, g_M_mono q.2.2.2.2.2.2 (by omega)⟩
  · intro k hk
    rw [n0] at hk
    have q := wS k hk
    rw [m2]
    exact ⟨q.1, g_M_mono q.2.1 (by omega), q.2.2⟩
  · have s7 : ∀ s, s < t + 1 → (s = t ∧ Y' 6 s 7 = -1) ∨ (s < t ∧ Y' 6 s 7 = Y 6 s 7) := by
      intro s hs
      by_cases e : s = t
      · left
        refine ⟨e, ?_⟩
        rw [e, u6]
        rfl
      · right
        exact ⟨by omega, o6 s 7 e⟩
    refine ⟨?_, ?_, ?_⟩
    · rw [n0]; exact wI.1
    · intro s s' hs hs' q1 q2
      rw [m2] at hs hs'
      rcases s7 s hs with ⟨_, a⟩ | ⟨a1, a2⟩
      · exact absurd a q2
      · rcases s7 s' hs' with ⟨_, b⟩ | ⟨b1, b2⟩
        · exact absurd (q1.trans b) q2
        · rw [a2, b2] at q1
          rw [a2] at q2
          exact wI.2.1 s s' (by omega) (by omega) q1 q2
    · intro k s hk hs q1
      rw [n0] at hk
      rw [m2] at hs
      rcases s7 s hs with ⟨_, a⟩ | ⟨a1, a2⟩
      · exact q1.trans a
      · rw [a2] at q1
        exact wI.2.2 k s hk (by omega) q1
  · intro k hk
    rw [m2] at hk
    by_cases e : k = t
    · subst e
      rw [u8, u6, u6]
      refine ⟨g_N_nI (a := 0) (by omega) (by omega), rfl, fun q => absurd rfl q, fun q => absurd rfl q⟩
    · have q := wD k (by omega)
      have qt := wT k (by omega)
      rw [← et] at qt
      rw [o6 k 2 e, o6 k 3 e, o8 k e, pd _ qt.2.2.1, pd _ qt.2.2.2.1]
      refine ⟨q.1, q.2.1, ?_, ?_⟩
      · intro p
        rw [o6 _ 0 (by have := lt _ qt.2.2.1 p; omega)]
        exact q.2.2.1 p
      · intro p
        rw [o6 _ 0 (by have := lt _ qt.2.2.2.1 p; omega)]
        exact q.2.2.2 p
  · unfold g_wN
    rw [n0, n1, m2]
    have s6 : g_su (fun k => Y' 6 k 6) (t + 1) = g_su (fun k => Y 6 k 6) t := by
      show g_su (fun k => Y' 6 k 6) t + (Y' 6 t 6).toInt = _
      rw [u6, show (g_tf x 6).toInt = 0 from rfl, g_su_eq (f := fun k => Y 6 k 6) t (fun k hk => o6 k 6 (by omega))]
      omega
    rw [s6, et]
    exact wN
theorem jj_143 {c y : Nat} {Y V : GA} {X Z S T : QS} (h : g_R c y Y V X Z S T) (x : Int32) : g_Ok c X Z (f_143 x S) (f_236 x T) := by
  obtain ⟨hC, hT, hW, hV, hU⟩ := id h
  have n2 := hW.2.1.2.2.1
  unfold f_143 f_236 f_189 b_143_22 b_236_21
  simp only [w_eta]
  rw [c_now hC, c_n2 hC]
  by_cases h1 : x < 0
  · rw [if_pos h1, if_pos h1, x_bd, if_pos rfl]
    exact g_refuse h _
  · rw [if_neg h1, if_neg h1]
    by_cases h2 : 3 < x
    · rw [if_pos h2, if_pos h2, x_bd, if_pos rfl]
      exact g_refuse h _
    · rw [if_neg h2, if_neg h2, x_bd, if_neg (show ¬ (1 : Int32) = 0 from by decide), w_i2, w_c2, t_n2 hT, x_ck, x_let]
      by_cases h3 : g_n (Y 0 2 0) < 200
      · rw [if_pos (show Y 0 2 0 < 200 from (g_N_lt (k := 200) n2 (by omega) (by omega)).2 h3), if_pos (show ¬ Y 0 2 0 = 200 from fun q => by rw [show (200 : Int32) = nI 200 from rfl, g_N_eq n2 (by omega) (by omega)] at q; omega)]
        obtain ⟨S1, T1, e1, e2, hk⟩ := k_keep h
        obtain ⟨kC, kT, kW, _, _⟩ := id hk
        obtain ⟨S2, e3, hC2⟩ := c_96 kC kW h3 x
        obtain ⟨T2, e4, hT2⟩ := t_235 kT kW h3 x
        rw [e1, e2, x_bd, x_bd, c_now kC, e3, e4, x_bd, x_bd]
        exact g_fin hC2 hT2 (g_W_nt kW h3 (g_N_mono (g_N_of (M := 3) (m := 3) (by decide) h1 ((g_nle _ _).2 h2) (by omega)) (by omega))) hW (Nat.le_refl c) rfl _
      · have e : g_n (Y 0 2 0) = 200 := by have := n2.2; omega
        rw [if_neg (show ¬ Y 0 2 0 < 200 from fun q => h3 ((g_N_lt (k := 200) n2 (by omega) (by omega)).1 q)), if_neg (show ¬ ¬ Y 0 2 0 = 200 from fun q => q ((g_N_eq (k := 200) n2 (by omega) (by omega)).2 e))]
        exact g_refuse h _
