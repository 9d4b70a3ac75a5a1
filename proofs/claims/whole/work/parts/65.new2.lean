/-! ===== a new box, a new hive, a new frame ===== -/
theorem l_46 {c y : Nat} {Y V : GA} {X : QS} (hW : g_W c Y) {h : Nat} (hh : h < g_n (Y 0 0 0)) (h4 : h < 40) (h8 : g_n (Y 1 h 10) < 8) : ∀ (m x p : Nat) (S : QS), x + m = 12 → m < p → g_C y Y V X S → (∀ i, 12 * g_n (Y 1 h 10) ≤ i → i < 12 * g_n (Y 1 h 10) + x → S.1 (25, y, h) i = -1) → ∃ S', b_46_2 p y h (nI x) S = q_let (q_set S' (4, y, h) 1 ((S'.1 (4, y, h) 1) + 1)) (fun S_1 => some ((S_1.1 (4, y, h) 1) - 1, S_1)) ∧ g_C y Y V X S' ∧ (∀ i, 12 * g_n (Y 1 h 10) ≤ i → i < 12 * g_n (Y 1 h 10) + 12 → S'.1 (25, y, h) i = -1)
  | m, x, 0, _, _, h1, _, _ => by omega
  | m, x, p + 1, S, hm, hp, hC, hx => by
    rw [b_46_2]
    cases m with
    | zero =>
      have e : x = 12 := by omega
      subst e
      rw [if_pos (show (12 : Int32) ≤ nI 12 from by decide)]
      exact ⟨S, rfl, hC, hx⟩
    | succ m =>
      have hd : Y 2 h (12 * g_n (Y 1 h 10) + x) = -1 := by
        rcases hW.2.2.2.2.1 h (12 * g_n (Y 1 h 10) + x) h4 (by omega) with e | ⟨_, e, _⟩
        · exact e
        · omega
      obtain ⟨S1, e1, hC1⟩ := cs_p hC h4 (show 12 * g_n (Y 1 h 10) + x < 96 by omega) (-1)
      rw [g_up_id hd] at hC1
      rw [if_neg (show ¬ (12 : Int32) ≤ nI x from nI_ge (b := 12) (by omega) (by omega)), c_45 hC hW hh h4, x_bd, nI_add, w_in (show 12 * g_n (Y 1 h 10) + x < 96 by omega) (by omega), nI_clamp (by omega), x_ck, e1, x_let, nI_1]
      refine l_46 hW hh h4 h8 m (x + 1) p S1 (by omega) (by omega) hC1 ?_
      intro i i1 i2
      rw [← e1, g_set1]
      by_cases e : i = 12 * g_n (Y 1 h 10) + x
      · rw [if_pos ⟨rfl, e⟩]
      · rw [if_neg (fun q => e q.2)]
        exact hx i i1 (by omega)
theorem g_W_box {c : Nat} {Y : GA} {h : Nat} (hW : g_W c Y) (h8 : g_n (Y 1 h 10) < 8) : g_W c (g_up Y 1 h 10 (nI (g_n (Y 1 h 10) + 1))) := by
  obtain ⟨w5, w0, wB, wL, wP, wK, wU, wF, wT, wS, wI, wD, wN⟩ := id hW
  have e : ∀ k j, j ≠ 10 → g_up Y 1 h 10 (nI (g_n (Y 1 h 10) + 1)) 1 k j = Y 1 k j := fun k j hj => g_up_ne (fun q => hj q.2.2)
  have eo : ∀ k j, k ≠ h → g_up Y 1 h 10 (nI (g_n (Y 1 h 10) + 1)) 1 k j = Y 1 k j := fun k j hj => g_up_ne (fun q => hj q.2.1)
  have es : g_up Y 1 h 10 (nI (g_n (Y 1 h 10) + 1)) 1 h 10 = nI (g_n (Y 1 h 10) + 1) := g_up_same _ _ _ _ _
  have sm : ∀ j, j ≠ 10 → g_su (fun k => g_up Y 1 h 10 (nI (g_n (Y 1 h 10) + 1)) 1 k j) (g_n (Y 0 0 0)) = g_su (fun k => Y 1 k j) (g_n (Y 0 0 0)) := fun j hj => g_su_eq _ (fun k _ => e k j hj)
  unfold g_W
  rw [g_up_r (r' := 0) (by omega), g_up_r (r' := 2) (by omega), g_up_r (r' := 3) (by omega), g_up_r (r' := 4) (by omega), g_up_r (r' := 5) (by omega), g_up_r (r' := 6) (by omega), g_up_r (r' := 8) (by omega)]
  refine ⟨w5, w0, ?_, wL, ?_, wK, wU, wF, wT, ?_, ?_, wD, ?_⟩
  · intro k hk
    by_cases q : k = h
    · subst q
      rw [es]
      exact g_N_nI (by omega) (by omega)
    · rw [eo k 10 q]
      exact wB k hk
  · intro k i h1 h2
    rcases wP k i h1 h2 with q | ⟨q1, q2, q3⟩
    · exact Or.inl q
    · refine Or.inr ⟨q1, ?_, q3⟩
      by_cases q : k = h
      · subst q
        rw [es, g_n_nI (by omega)]
        omega
      · rw [eo k 10 q]
        exact q2
  · intro k hk
    rw [e k 0 (by omega), e k 3 (by omega), e k 5 (by omega), e k 6 (by omega), e k 7 (by omega), e k 8 (by omega), e k 1 (by omega), e k 2 (by omega)]
    exact wS k hk
  · refine ⟨?_, wI.2.1, ?_⟩
    · intro k k'
      rw [e k 3 (by omega), e k' 3 (by omega)]
      exact wI.1 k k'
    · intro k s
      rw [e k 3 (by omega)]
      exact wI.2.2 k s
  · obtain ⟨n1, n2, n3⟩ := wN
    refine ⟨?_, ?_, ?_⟩
    · rw [sm 0 (by omega)]; exact n1
    · rw [sm 5 (by omega)]; exact n2
    · rw [sm 6 (by omega), sm 1 (by omega), sm 2 (by omega)]; exact n3
theorem g_lv_box {Y : GA} {h m : Nat} (hm : m < 100) {r i j : Nat} (hl : g_lv (g_up Y 1 h 10 (nI m)) r i j) : g_lv Y r i j ∨ (r = 2 ∧ i = h ∧ i < g_n (Y 0 0 0) ∧ j < 12 * m) := by
  unfold g_lv at hl ⊢
  rw [show g_up Y 1 h 10 (nI m) 0 = Y 0 from g_up_r (by omega), show g_up Y 1 h 10 (nI m) 3 = Y 3 from g_up_r (by omega)] at hl
  by_cases e : i = h
  · subst e
    rw [g_up_same, g_n_nI (by omega)] at hl
    split at hl
    · exact Or.inl hl
    · exact Or.inr ⟨rfl, rfl, hl.1, hl.2⟩
    · exact Or.inl hl
    · exact Or.inl hl
    · exact Or.inl hl
    · exact Or.inl hl
    · exact Or.inl hl
    · exact Or.inl hl
  · rw [g_up_ne (fun q => e q.2.1)] at hl
    exact Or.inl hl
theorem jj_123 {c y : Nat} {Y V : GA} {X Z S T : QS} (h : g_R c y Y V X Z S T) (x : Int32) : g_Ok c X Z (f_123 x S) (f_211 x T) := by
  obtain ⟨hC, hT, hW, hV, hU⟩ := id h
  unfold f_123 f_211 b_211_25
  rw [c_172 hC, t_198 hT]
  simp only [x_bd, w_eta]
  rcases g_hw_cases hW x with q | ⟨q, k, a1, a2, rfl⟩
  · rw [if_neg (g_12a q), if_pos (g_12a q), if_neg (g_12b q)]
    exact g_refuse h _
  · have hb := hW.2.2.1 k a1
    have hb2 := hb.2
    rw [if_pos q, if_neg (show ¬ ¬ g_hw Y (nI k) = 0 from fun p => p q), c_now hC, c_91 hC a1 a2, t_190_10 hT a2]
    simp only [x_bd]
    rw [c_h10 hC a1 a2]
    by_cases h8 : g_n (Y 1 k 10) < 8
    · rw [if_pos (show Y 1 k 10 < 8 from (g_N_lt (k := 8) hb (by omega) (by omega)).2 h8), if_pos (show ¬ Y 1 k 10 = 8 from fun p => by rw [show (8 : Int32) = nI 8 from rfl, g_N_eq hb (by omega) (by omega)] at p; omega), if_pos (g_12c q)]
      obtain ⟨S1, T1, e1, e2, hk⟩ := k_keep h
      obtain ⟨kC, kT, kW, _, _⟩ := id hk
      rw [e1, e2, x_bd, x_bd, t_190_10 kT a2, x_bd]
      obtain ⟨S2, e3, hC2, hx⟩ := l_46 (y := y) (V := Y) (X := X) kW a1 a2 h8 12 0 q_N S1 (by omega) (by unfold q_N; omega) kC (fun i h1 h2 => by omega)
      rw [show f_46 y k S1 = _ from e3, c_h10 hC2 a1 a2]
      have eb : g_up Y 10 3 0 1 1 k 10 = nI (g_n (Y 1 k 10)) := hb.1
      rw [eb, nI_1, x_let, g_set1, if_pos ⟨rfl, rfl⟩, nI_pred, x_bd]
      obtain ⟨T2, f3, hT2⟩ := t_191_10 kT a2 (nI (g_n (Y 1 k 10) + 1))
      rw [f3, x_bd]
      have hC3 := g_C_gen (r := 1) (i := k) (j := 10) (v := nI (g_n (Y 1 k 10) + 1)) hC2 (by omega) ⟨a2, by omega⟩ (by omega) (fun r' i' j' hr' hv' hne hl' => by
        rcases g_lv_box (by omega) hl' with q1 | ⟨rfl, rfl, q2, q3⟩
        · exact hC2.2.1 r' i' j' hr' hv' q1
        · by_cases q4 : j' < 12 * g_n (Y 1 i' 10)
          · exact hC2.2.1 2 i' j' hr' hv' ⟨q2, q4⟩
          · show S2.1 (25, y, i') j' = Y 2 i' j'
            rw [hx j' (by show 12 * g_n (Y 1 i' 10) ≤ j'; omega) (by show j' < 12 * g_n (Y 1 i' 10) + 12; omega)]
            rcases hW.2.2.2.2.1 i' j' hv'.1 hv'.2 with q5 | ⟨_, q5, _⟩
            · exact q5.symm
            · omega) (by
        have md := hC2.2.2.2.1
        exact md)
      exact g_fin hC3 hT2 (g_W_box kW h8) hW (Nat.le_refl c) rfl _
    · have e : g_n (Y 1 k 10) = 8 := by omega
      rw [if_neg (show ¬ Y 1 k 10 < 8 from fun p => h8 ((g_N_lt (k := 8) hb (by omega) (by omega)).1 p)), if_neg (show ¬ ¬ Y 1 k 10 = 8 from fun p => p ((g_N_eq (k := 8) hb (by omega) (by omega)).2 e)), if_neg (show ¬ (6 : Int32) ≤ 0 from by decide)]
      exact g_refuse h _
/-- a new hive -/
def g_hf (x : Int32) (c : Nat) : Int32 := if c = 0 then x else if c = 3 then -1 else 0
def g_hfc (x : Int32) (s : Nat) : Int32 := if s = 2 then x else if s = 5 then -1 else 0
def g_nh (Y : GA) (x : Int32) : GA := g_up (g_rs Y 1 (g_n (Y 0 0 0)) (g_hf x)) 0 0 0 (nI (g_n (Y 0 0 0) + 1))
theorem n_43 {y k : Nat} (x : Int32) (S : QS) : ∃ S', f_43 y k x S = some ((), S') ∧ (∀ a, a ≠ (4, y, k) → S'.1 a = S.1 a) ∧ (∀ s, 1 ≤ s → s < 12 → S'.1 (4, y, k) s = g_hfc x s) ∧ S'.2 = S.2 := by
  unfold f_43 f_52
  have p0 := g_ws0 S (4, y, k) 1 (g_hfc x)
  obtain ⟨S1, e1, p1⟩ := g_ws1 (v := 0) p0 rfl
  rw [e1, x_let]
  obtain ⟨S2, e2, p2⟩ := g_ws1 (v := x) p1 rfl
  rw [e2, x_let]
  obtain ⟨S3, e3, p3⟩ := g_ws1 (v := 0) p2 rfl
  rw [e3, x_let]
  obtain ⟨S4, e4, p4⟩ := g_ws1 (v := 0) p3 rfl
  rw [e4, x_let]
  obtain ⟨S5, e5, p5⟩ := g_ws1 (v := -1) p4 rfl
  rw [e5, x_let]
  obtain ⟨S6, e6, p6⟩ := g_ws1 (v := 0) p5 rfl
  rw [e6, x_let]
  obtain ⟨S7, e7, p7⟩ := g_ws1 (v := 0) p6 rfl
  rw [e7, x_let]
  obtain ⟨S8, e8, p8⟩ := g_ws1 (v := 0) p7 rfl
  rw [e8, x_let, x_bd]
  obtain ⟨S9, e9, p9⟩ := g_ws1 (v := 0) p8 rfl
  rw [e9, x_let]
  obtain ⟨Sa, ea, pa⟩ := g_ws1 (v := 0) p9 rfl
  rw [ea, x_let]
  obtain ⟨Sb, eb, pb⟩ := g_ws1 (v := 0) pa rfl
  rw [eb, x_let]
  exact ⟨Sb, rfl, pb.1, fun s h1 hs => pb.2.1 s h1 hs, pb.2.2⟩
/-- parts that are not counted yet may change -/
theorem g_C_dead {y : Nat} {Y Y' V : GA} {X S S' : QS} (h : g_C y Y V X S) (hD : g_D S S') (hr0 : Y' 0 = Y 0) (hr : ∀ r, 9 ≤ r → Y' r = Y r) (hlv : ∀ r i j, g_lv Y' r i j → g_lv Y r i j) (hc : ∀ r i j, r ≤ 13 → g_vd r i j → g_lv Y r i j → Y' r i j = Y r i j ∧ S'.1 (g_cl y r i j).1 (g_cl y r i j).2 = S.1 (g_cl y r i j).1 (g_cl y r i j).2) (ho : ∀ a : VA, a.2.1 = 1 - y ∧ a.1 ≠ 20 ∧ a.1 ≠ 10 ∧ a.1 ≠ 35 ∨ a.1 = 7 ∨ g_isR a.1 = true → S'.1 a = S.1 a) : g_C y Y' V X S' := by
  refine g_C_ext h hD (by rw [hr 10 (by omega)]) (fun k => by rw [hr 14 (by omega)]) (fun r i j h1 h2 h3 => Or.inl ⟨hlv r i j h3, (hc r i j h1 h2 (hlv r i j h3)).1, (hc r i j h1 h2 (hlv r i j h3)).2⟩) ?_ ho
  unfold g_md
  rw [hr0]
  exact ⟨fun k hk => hD.2.2.1 _ _ (h.2.2.2.1.1 k hk), fun k hk => hD.2.2.2.1 _ _ (h.2.2.2.1.2.1 k hk), fun k hk => hD.2.2.2.2.1 _ _ (h.2.2.2.1.2.2 k hk)⟩
theorem c_94 {c y : Nat} {Y V : GA} {X S : QS} (hC : g_C y Y V X S) (hW : g_W c Y) (ht : g_n (Y 0 0 0) < 40) (x : Int32) : ∃ S', f_94 y x S = some (nI (g_n (Y 0 0 0)), S') ∧ g_C y (g_nh Y x) V X S' := by
  have n0 := hW.2.1.1
  have hy := hC.1.2.2
  obtain ⟨t, et⟩ : ∃ t, t = g_n (Y 0 0 0) := ⟨_, rfl⟩
  have eY : Y 0 0 0 = nI t := by rw [et]; exact n0.1
  unfold g_nh
  rw [← et] at ht ⊢
  unfold f_94
  obtain ⟨S1, e1, a1, a2, a3⟩ := n_91 (y := y) (k := t) hy ht S
  rw [c_n0 hC, eY, e1, x_bd]
  obtain ⟨S2, e2, b1, b2, b3⟩ := n_43 (y := y) (k := t) x S1
  dsimp only
  have hD : g_D S S2 := g_D_trans a2 (g_D_eq b3)
  have oth : ∀ a : VA, a ≠ (4, y, t) → a ≠ (25, y, t) → S2.1 a = S.1 a := fun a h1 h2 => by rw [b1 a h1, a1 a h1 h2]
  have uo : ∀ r i j, ¬ (r = 1 ∧ i = t) → g_rs Y 1 t (g_hf x) r i j = Y r i j := fun r i j hh => g_rs_ne hh
  have hC2 : g_C y (g_rs Y 1 t (g_hf x)) V X S2 := by
    refine g_C_dead hC hD (g_rs_r (by omega)) (fun r hr => g_rs_r (by omega)) ?_ ?_ ?_
    · intro r i j hl
      unfold g_lv at hl ⊢
      rw [g_rs_r (a := 0) (by omega), g_rs_r (a := 3) (by omega)] at hl
      split at hl
      · exact hl
      · rw [uo 1 i 10 (fun q => by omega)] at hl
        exact hl
      · exact hl
      · exact hl
      · exact hl
      · exact hl
      · exact hl
      · exact trivial
    · intro r i j hr hv hl
      have nl : ¬ (r = 1 ∧ i = t) := by
        intro q
        obtain ⟨rfl, rfl⟩ := q
        have : i < g_n (Y 0 0 0) := hl
        omega
      have nl2 : ¬ (r = 2 ∧ i = t) := by
        intro q
        obtain ⟨rfl, rfl⟩ := q
        have : i < g_n (Y 0 0 0) := hl.1
        omega
      have e1 := g_uc_cl (y := y) hr hv
      refine ⟨uo r i j nl, ?_⟩
      rw [oth]
      · intro q
        unfold g_uc at e1
        rw [q] at e1
        injection e1 with p1 p2
        injection p2 with p2 p3
        exact nl ⟨p1.symm, p2.symm⟩
      · intro q
        unfold g_uc at e1
        rw [q] at e1
        injection e1 with p1 p2
        injection p2 with p2 p3
        exact nl2 ⟨p1.symm, p2.symm⟩
    · intro a ha
      refine oth a ?_ ?_
      · intro q
        subst q
        rcases ha with ⟨ha, _⟩ | ha | ha
        · have : y = 1 - y := ha
          omega
        · exact absurd (show (4 : Nat) = 7 from ha) (by decide)
        · exact absurd ha (show ¬ g_isR 4 = true from by decide)
      · intro q
        subst q
        rcases ha with ⟨ha, _⟩ | ha | ha
        · have : y = 1 - y := ha
          omega
        · exact absurd (show (25 : Nat) = 7 from ha) (by decide)
        · exact absurd ha (show ¬ g_isR 25 = true from by decide)
  have eY2 : g_rs Y 1 t (g_hf x) 0 0 0 = nI t := eY
  rw [e2, x_bd, c_n0 hC2, eY2, nI_1, x_let, g_set1, if_pos ⟨rfl, rfl⟩, nI_pred]
  refine ⟨_, rfl, ?_⟩
  refine g_C_gen (r := 0) (i := 0) (j := 0) hC2 (by omega) ⟨by omega, rfl⟩ (by omega) ?_ ?_
  · intro r i j hr hv hne hl
    by_cases h1 : r = 1 ∧ i = t
    · obtain ⟨rfl, rfl⟩ := h1
      show S2.1 (4, y, i) (if j = 10 then 1 else j + 2) = g_rs Y 1 i (g_hf x) 1 i j
      have hj : j < 11 := hv.2
      rw [b2 _ (by split <;> omega) (by split <;> omega), g_rs_same]
      have : j = 0 ∨ j = 1 ∨ j = 2 ∨ j = 3 ∨ j = 4 ∨ j = 5 ∨ j = 6 ∨ j = 7 ∨ j = 8 ∨ j = 9 ∨ j = 10 := by omega
      rcases this with e | e | e | e | e | e | e | e | e | e | e <;> (subst e; rfl)
    · refine hC2.2.1 r i j hr hv ?_
      unfold g_lv at hl ⊢
      have es10 : g_n (g_rs Y 1 t (g_hf x) 1 t 10) = 0 := by rw [g_rs_same]; rfl
      generalize g_rs Y 1 t (g_hf x) = W at hl eY2 es10 ⊢
      rw [g_up_same, show g_up W 0 0 0 (nI (t + 1)) 0 1 0 = W 0 1 0 from g_up_ne (fun q => by omega), show g_up W 0 0 0 (nI (t + 1)) 0 2 0 = W 0 2 0 from g_up_ne (fun q => by omega), show g_up W 0 0 0 (nI (t + 1)) 0 8 0 = W 0 8 0 from g_up_ne (fun q => by omega), show g_up W 0 0 0 (nI (t + 1)) 1 = W 1 from g_up_r (by omega), show g_up W 0 0 0 (nI (t + 1)) 3 = W 3 from g_up_r (by omega), g_n_nI (by omega)] at hl
      rw [eY2, g_n_nI (by omega)]
      split at hl
      · have : i ≠ t := fun q => h1 ⟨rfl, q⟩
        omega
      · have : i ≠ t := fun q => by
          subst q
          have h2 := hl.2
          omega
        exact ⟨by omega, hl.2⟩
      · exact hl
      · exact hl
      · exact hl
      · exact hl
      · exact hl
      · exact trivial
  · refine ⟨?_, ?_, ?_⟩
    · intro k hk
      rw [g_up_same, g_n_nI (by omega)] at hk
      by_cases e : k = t
      · subst e
        rw [b3]
        exact a3
      · exact hD.2.2.1 y k (hC.2.2.2.1.1 k (by omega))
    · intro k hk
      exact hD.2.2.2.1 y k (hC.2.2.2.1.2.1 k hk)
    · intro k hk
      exact hD.2.2.2.2.1 y k (hC.2.2.2.1.2.2 k hk)
