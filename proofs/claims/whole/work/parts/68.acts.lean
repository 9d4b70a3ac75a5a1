/-! ===== the acts of things ===== -/
theorem e_run {α : Type} {y : Nat} {Y V : GA} {X Z S T : QS} (hC : g_C y Y V X S) (hT : g_T Y V Z T) (b : Nat) (hb : b < 17) : ∃ S' T', (∀ K : QS → Option (α × QS), q_ck (v_in (nI b) 17) (q_let (S.1 (20, 0, 0) (nI b).toNatClampNeg) (fun y_1 => q_ck (v_in (nI b) 17) (q_let (q_set S (20, 0, 0) (nI b).toNatClampNeg (y_1 + 1)) (fun S_2 => K S_2)))) = K S') ∧ f_205 (nI b) T = some ((), T') ∧ g_C y (g_up Y 9 b 0 (Y 9 b 0 + 1)) V X S' ∧ g_T (g_up Y 9 b 0 (Y 9 b 0 + 1)) V Z T' := by
  obtain ⟨S1, e1, h1⟩ := cs_r hC hb (Y 9 b 0 + 1)
  have e2 := r_205 hb T
  rw [t_r hT hb] at e2
  refine ⟨S1, _, ?_, e2, h1, g_T_set (r := 9) (i := b) (j := 0) _ hT (by omega) ⟨hb, rfl⟩ (by omega)⟩
  intro K
  rw [w_in hb (by omega), nI_clamp (by omega), c_r hC hb, x_ck, x_let, x_ck, e1, x_let]
/-- pictures that differ in their runs alone -/
def g_o9 (Y Y' : GA) : Prop := ∀ r, r ≠ 9 → Y' r = Y r
theorem g_o9_0 (Y : GA) : g_o9 Y Y := fun _ _ => rfl
theorem g_o9_1 {Y Y' : GA} (h : g_o9 Y Y') (b : Nat) (v : Int32) : g_o9 Y (g_up Y' 9 b 0 v) := fun r hr => by rw [g_up_r hr, h r hr]
theorem g_W_o9 {c : Nat} {Y Y' : GA} (h : g_o9 Y Y') (hW : g_W c Y) : g_W c Y' := by
  unfold g_W
  rw [h 0 (by omega), h 1 (by omega), h 2 (by omega), h 3 (by omega), h 4 (by omega), h 5 (by omega), h 6 (by omega), h 8 (by omega)]
  exact hW
theorem g_R_o9 {c y : Nat} {Y Y' V : GA} {X Z S T S' T' : QS} (h : g_R c y Y V X Z S T) (h9 : g_o9 Y Y') (hC : g_C y Y' V X S') (hT : g_T Y' V Z T') : g_R c y Y' V X Z S' T' := by
  refine ⟨hC, hT, g_W_o9 h9 h.2.2.1, ?_, ?_⟩
  · rw [h9 10 (by omega)]; exact h.2.2.2.1
  · rw [h9 10 (by omega)]; exact h.2.2.2.2
theorem g_kn {x : Int32} (h : g_N x 5) : x = 0 ∨ x = 1 ∨ x = 2 ∨ x = 3 ∨ x = 4 ∨ x = 5 := by
  obtain ⟨e, b⟩ := h
  generalize g_n x = a at e b
  subst e
  have : a = 0 ∨ a = 1 ∨ a = 2 ∨ a = 3 ∨ a = 4 ∨ a = 5 := by omega
  rcases this with q | q | q | q | q | q <;> subst q
  · exact Or.inl rfl
  · exact Or.inr (Or.inl rfl)
  · exact Or.inr (Or.inr (Or.inl rfl))
  · exact Or.inr (Or.inr (Or.inr (Or.inl rfl)))
  · exact Or.inr (Or.inr (Or.inr (Or.inr (Or.inl rfl))))
  · exact Or.inr (Or.inr (Or.inr (Or.inr (Or.inr rfl))))
theorem e_12 {y : Nat} {Y V : GA} {X Z S T : QS} (hC : g_C y Y V X S) (hT : g_T Y V Z T) {t : Nat} (ht : t < g_n (Y 0 2 0)) (h2 : t < 200) : ∃ S' T', f_12 y t S = some (Y 6 t 1, S') ∧ f_205 1 T = some ((), T') ∧ g_C y (g_up Y 9 1 0 (Y 9 1 0 + 1)) V X S' ∧ g_T (g_up Y 9 1 0 (Y 9 1 0 + 1)) V Z T' := by
  obtain ⟨S1, T1, e1, e2, h1, h3⟩ := e_run (α := Int32) hC hT 1 (by omega)
  refine ⟨S1, T1, ?_, e2, h1, h3⟩
  rw [show f_12 y t S = some (S1.1 (8, y, t) 1, S1) from e1 (fun S_2 => some (S_2.1 (8, y, t) 1, S_2)), c_t1 h1 ht h2]
  rfl

theorem e_3 {y : Nat} {Y V : GA} {X Z S T : QS} (hC : g_C y Y V X S) (hT : g_T Y V Z T) {t : Nat} (ht : t < g_n (Y 0 2 0)) (h2 : t < 200) (hk : g_N (Y 6 t 0) 5) : ∃ r Y' S' T', f_3 y t S = some (r, S') ∧ f_206 (nI t) T = some (r, T') ∧ g_C y Y' V X S' ∧ g_T Y' V Z T' ∧ g_o9 Y Y' := by
  unfold f_3 f_206
  rw [c_t0 hC ht h2, t_192_0 hT h2, x_let, x_bd, t_192_1 hT h2, x_bd]
  simp only [w_eta]
  unfold b_206_24 b_206_35 b_206_46
  rcases g_kn hk with e | e | e | e | e | e <;> rw [e]
  · obtain ⟨S1, T1, e1, e2, hC1, hT1⟩ := e_run (α := Int32) hC hT 3 (by omega)
    obtain ⟨S2, T2, e3, e4, hC2, hT2⟩ := e_12 hC1 hT1 ht h2
    have ec : f_14 y t S = q_bd (f_12 y t S1) (fun r_3 S_4 => some (r_3 + 1000, S_4)) := e1 (fun S_2 => q_bd (f_12 y t S_2) (fun r_3 S_4 => some (r_3 + 1000, S_4)))
    rw [if_neg (show ¬ (0 : Int32) = 3 from by decide), if_neg (show ¬ (0 : Int32) = 4 from by decide), if_neg (show ¬ (0 : Int32) = 5 from by decide), ec, e3, x_bd]
    rw [if_neg (show ¬ (2 : Int32) < 0 from by decide), show f_205 3 T = some ((), T1) from e2, x_bd, if_pos (show ¬ (0 : Int32) = 3 from by decide), if_pos (show ¬ (0 : Int32) = 5 from by decide), e4, x_bd, if_neg (show ¬ (2 : Int32) < 0 from by decide)]
    exact ⟨_, _, S2, T2, rfl, rfl, hC2, hT2, g_o9_1 (g_o9_1 (g_o9_0 Y) _ _) _ _⟩
  · obtain ⟨S1, T1, e1, e2, hC1, hT1⟩ := e_run (α := Int32) hC hT 3 (by omega)
    obtain ⟨S2, T2, e3, e4, hC2, hT2⟩ := e_12 hC1 hT1 ht h2
    have ec : f_14 y t S = q_bd (f_12 y t S1) (fun r_3 S_4 => some (r_3 + 1000, S_4)) := e1 (fun S_2 => q_bd (f_12 y t S_2) (fun r_3 S_4 => some (r_3 + 1000, S_4)))
    rw [if_neg (show ¬ (1 : Int32) = 3 from by decide), if_neg (show ¬ (1 : Int32) = 4 from by decide), if_neg (show ¬ (1 : Int32) = 5 from by decide), ec, e3, x_bd]
    rw [if_neg (show ¬ (2 : Int32) < 1 from by decide), show f_205 3 T = some ((), T1) from e2, x_bd, if_pos (show ¬ (1 : Int32) = 3 from by decide), if_pos (show ¬ (1 : Int32) = 5 from by decide), e4, x_bd, if_neg (show ¬ (2 : Int32) < 1 from by decide)]
    exact ⟨_, _, S2, T2, rfl, rfl, hC2, hT2, g_o9_1 (g_o9_1 (g_o9_0 Y) _ _) _ _⟩
  · obtain ⟨S1, T1, e1, e2, hC1, hT1⟩ := e_run (α := Int32) hC hT 3 (by omega)
    obtain ⟨S2, T2, e3, e4, hC2, hT2⟩ := e_12 hC1 hT1 ht h2
    have ec : f_14 y t S = q_bd (f_12 y t S1) (fun r_3 S_4 => some (r_3 + 1000, S_4)) := e1 (fun S_2 => q_bd (f_12 y t S_2) (fun r_3 S_4 => some (r_3 + 1000, S_4)))
    rw [if_neg (show ¬ (2 : Int32) = 3 from by decide), if_neg (show ¬ (2 : Int32) = 4 from by decide), if_neg (show ¬ (2 : Int32) = 5 from by decide), ec, e3, x_bd]
    rw [if_neg (show ¬ (2 : Int32) < 2 from by decide), show f_205 3 T = some ((), T1) from e2, x_bd, if_pos (show ¬ (2 : Int32) = 3 from by decide), if_pos (show ¬ (2 : Int32) = 5 from by decide), e4, x_bd, if_neg (show ¬ (2 : Int32) < 2 from by decide)]
    exact ⟨_, _, S2, T2, rfl, rfl, hC2, hT2, g_o9_1 (g_o9_1 (g_o9_0 Y) _ _) _ _⟩
  · obtain ⟨S1, T1, e1, e2, hC1, hT1⟩ := e_run (α := Int32) hC hT 8 (by omega)
    obtain ⟨S2, T2, e3, e4, hC2, hT2⟩ := e_12 hC1 hT1 ht h2
    have ec : f_19 y t S = q_bd (f_12 y t S1) (fun r_3 S_4 => some ((-1) - r_3, S_4)) := e1 (fun S_2 => q_bd (f_12 y t S_2) (fun r_3 S_4 => some ((-1) - r_3, S_4)))
    rw [if_pos (show (3 : Int32) = 3 from rfl), ec, e3, x_bd]
    rw [if_pos (show (2 : Int32) < 3 from by decide), if_neg (show ¬ ¬ (3 : Int32) = 3 from by decide), show f_205 8 T = some ((), T1) from e2, x_bd, if_pos (show ¬ (3 : Int32) = 5 from by decide), e4, x_bd, if_pos (show (2 : Int32) < 3 from by decide), if_neg (show ¬ ¬ (3 : Int32) = 3 from by decide)]
    exact ⟨_, _, S2, T2, rfl, rfl, hC2, hT2, g_o9_1 (g_o9_1 (g_o9_0 Y) _ _) _ _⟩
  · obtain ⟨S2, T2, e3, e4, hC2, hT2⟩ := e_12 hC hT ht h2
    rw [if_neg (show ¬ (4 : Int32) = 3 from by decide), if_pos (show (4 : Int32) = 4 from rfl), e3]
    rw [if_pos (show (2 : Int32) < 4 from by decide), if_pos (show ¬ (4 : Int32) = 3 from by decide), if_pos (show ¬ (4 : Int32) = 5 from by decide), e4, x_bd, if_pos (show (2 : Int32) < 4 from by decide), if_pos (show ¬ (4 : Int32) = 3 from by decide), if_pos (show ¬ (4 : Int32) = 5 from by decide)]
    exact ⟨_, _, S2, T2, rfl, rfl, hC2, hT2, g_o9_1 (g_o9_0 Y) _ _⟩
  · obtain ⟨S1, T1, e1, e2, hC1, hT1⟩ := e_run (α := Int32) hC hT 11 (by omega)
    obtain ⟨S2, T2, e3, e4, hC2, hT2⟩ := e_12 hC1 hT1 ht h2
    have ec : f_22 y t S = q_bd (f_12 y t S1) (fun r_3 S_4 => some (r_3 + 5000, S_4)) := e1 (fun S_2 => q_bd (f_12 y t S_2) (fun r_3 S_4 => some (r_3 + 5000, S_4)))
    rw [if_neg (show ¬ (5 : Int32) = 3 from by decide), if_neg (show ¬ (5 : Int32) = 4 from by decide), if_pos (show (5 : Int32) = 5 from rfl), ec, e3, x_bd]
    rw [if_pos (show (2 : Int32) < 5 from by decide), if_pos (show ¬ (5 : Int32) = 3 from by decide), if_neg (show ¬ ¬ (5 : Int32) = 5 from by decide), show f_205 11 T = some ((), T1) from e2, x_bd, e4, x_bd, if_pos (show (2 : Int32) < 5 from by decide), if_pos (show ¬ (5 : Int32) = 3 from by decide), if_neg (show ¬ ¬ (5 : Int32) = 5 from by decide)]
    exact ⟨_, _, S2, T2, rfl, rfl, hC2, hT2, g_o9_1 (g_o9_1 (g_o9_0 Y) _ _) _ _⟩
def g_car (k l : Int32) : Int32 := if k < 4 then 0 else if k = 5 then (if 1000 < l then 1000 else l) else l
theorem e_4 {y : Nat} {Y V : GA} {X Z S T : QS} (hC : g_C y Y V X S) (hT : g_T Y V Z T) {t : Nat} (ht : t < g_n (Y 0 2 0)) (h2 : t < 200) (hk : g_N (Y 6 t 0) 5) : ∃ Y' S' T', f_4 y t S = some (g_car (Y 6 t 0) (Y 6 t 6), S') ∧ f_208 (nI t) T = some (g_car (Y 6 t 0) (Y 6 t 6), T') ∧ g_C y Y' V X S' ∧ g_T Y' V Z T' ∧ g_o9 Y Y' := by
  unfold f_4 f_208 g_car
  rw [c_t0 hC ht h2, t_192_0 hT h2, x_let, x_bd]
  simp only [w_eta]
  unfold b_208_18 b_208_30 b_208_49
  rcases g_kn hk with e | e | e | e | e | e <;> rw [e]
  · obtain ⟨S1, T1, e1, e2, hC1, hT1⟩ := e_run (α := Int32) hC hT 2 (by omega)
    have ec : f_13 S = some (0, S1) := e1 (fun S_2 => some (0, S_2))
    rw [if_neg (show ¬ (0 : Int32) = 4 from by decide), if_neg (show ¬ (0 : Int32) = 5 from by decide), ec, if_pos (show (0 : Int32) < 4 from by decide)]
    rw [if_pos (show ¬ (0 : Int32) = 5 from by decide), if_pos (show (0 : Int32) < 4 from by decide), show f_205 2 T = some ((), T1) from e2, x_bd, if_pos (show (0 : Int32) < 4 from by decide), if_pos (show ¬ (0 : Int32) = 5 from by decide)]
    exact ⟨_, S1, T1, rfl, rfl, hC1, hT1, g_o9_1 (g_o9_0 Y) _ _⟩
  · obtain ⟨S1, T1, e1, e2, hC1, hT1⟩ := e_run (α := Int32) hC hT 2 (by omega)
    have ec : f_13 S = some (0, S1) := e1 (fun S_2 => some (0, S_2))
    rw [if_neg (show ¬ (1 : Int32) = 4 from by decide), if_neg (show ¬ (1 : Int32) = 5 from by decide), ec, if_pos (show (1 : Int32) < 4 from by decide)]
    rw [if_pos (show ¬ (1 : Int32) = 5 from by decide), if_pos (show (1 : Int32) < 4 from by decide), show f_205 2 T = some ((), T1) from e2, x_bd, if_pos (show (1 : Int32) < 4 from by decide), if_pos (show ¬ (1 : Int32) = 5 from by decide)]
    exact ⟨_, S1, T1, rfl, rfl, hC1, hT1, g_o9_1 (g_o9_0 Y) _ _⟩
  · obtain ⟨S1, T1, e1, e2, hC1, hT1⟩ := e_run (α := Int32) hC hT 2 (by omega)
    have ec : f_13 S = some (0, S1) := e1 (fun S_2 => some (0, S_2))
    rw [if_neg (show ¬ (2 : Int32) = 4 from by decide), if_neg (show ¬ (2 : Int32) = 5 from by decide), ec, if_pos (show (2 : Int32) < 4 from by decide)]
    rw [if_pos (show ¬ (2 : Int32) = 5 from by decide), if_pos (show (2 : Int32) < 4 from by decide), show f_205 2 T = some ((), T1) from e2, x_bd, if_pos (show (2 : Int32) < 4 from by decide), if_pos (show ¬ (2 : Int32) = 5 from by decide)]
    exact ⟨_, S1, T1, rfl, rfl, hC1, hT1, g_o9_1 (g_o9_0 Y) _ _⟩
  · obtain ⟨S1, T1, e1, e2, hC1, hT1⟩ := e_run (α := Int32) hC hT 2 (by omega)
    have ec : f_13 S = some (0, S1) := e1 (fun S_2 => some (0, S_2))
    rw [if_neg (show ¬ (3 : Int32) = 4 from by decide), if_neg (show ¬ (3 : Int32) = 5 from by decide), ec, if_pos (show (3 : Int32) < 4 from by decide)]
    rw [if_pos (show ¬ (3 : Int32) = 5 from by decide), if_pos (show (3 : Int32) < 4 from by decide), show f_205 2 T = some ((), T1) from e2, x_bd, if_pos (show (3 : Int32) < 4 from by decide), if_pos (show ¬ (3 : Int32) = 5 from by decide)]
    exact ⟨_, S1, T1, rfl, rfl, hC1, hT1, g_o9_1 (g_o9_0 Y) _ _⟩
  · obtain ⟨S1, T1, e1, e2, hC1, hT1⟩ := e_run (α := Int32) hC hT 10 (by omega)
    have ec : f_21 y t S = some (S1.1 (8, y, t) 7, S1) := e1 (fun S_2 => some (S_2.1 (8, y, t) 7, S_2))
    have e6 : g_up Y 9 10 0 (Y 9 10 0 + 1) 6 t 6 = Y 6 t 6 := rfl
    rw [if_pos (show (4 : Int32) = 4 from rfl), ec, c_t6 hC1 ht h2, e6, if_neg (show ¬ (4 : Int32) < 4 from by decide), if_neg (show ¬ (4 : Int32) = 5 from by decide)]
    rw [if_pos (show ¬ (4 : Int32) = 5 from by decide), if_neg (show ¬ (4 : Int32) < 4 from by decide), show f_205 10 T = some ((), T1) from e2, x_bd, if_neg (show ¬ (4 : Int32) < 4 from by decide), t_192_6 hT1 h2, x_bd, if_pos (show ¬ (4 : Int32) = 5 from by decide), e6]
    exact ⟨_, S1, T1, rfl, rfl, hC1, hT1, g_o9_1 (g_o9_0 Y) _ _⟩
  · obtain ⟨S1, T1, e1, e2, hC1, hT1⟩ := e_run (α := Int32) hC hT 12 (by omega)
    obtain ⟨S2, T2, e3, e4, hC2, hT2⟩ := e_run (α := Int32) hC1 hT1 10 (by omega)
    have ec : f_23 y t S = q_bd (f_21 y t S1) (fun r_3 S_4 => q_let (if 1000 < r_3 then 1000 else r_3) (fun y_5 => some (y_5, S_4))) := e1 (fun S_2 => q_bd (f_21 y t S_2) (fun r_3 S_4 => q_let (if 1000 < r_3 then 1000 else r_3) (fun y_5 => some (y_5, S_4))))
    have ed : f_21 y t S1 = some (S2.1 (8, y, t) 7, S2) := e3 (fun S_2 => some (S_2.1 (8, y, t) 7, S_2))
    have e6 : ∀ b v, g_up (g_up Y 9 12 0 (Y 9 12 0 + 1)) 9 10 b v 6 t 6 = Y 6 t 6 := fun _ _ => rfl
    rw [if_neg (show ¬ (5 : Int32) = 4 from by decide), if_pos (show (5 : Int32) = 5 from rfl), ec, ed, x_bd, x_let, c_t6 hC2 ht h2, e6, if_neg (show ¬ (5 : Int32) < 4 from by decide), if_pos (show (5 : Int32) = 5 from rfl)]
    rw [if_neg (show ¬ ¬ (5 : Int32) = 5 from by decide), show f_205 12 T = some ((), T1) from e2, x_bd, if_neg (show ¬ (5 : Int32) < 4 from by decide), show f_205 10 T1 = some ((), T2) from e4, x_bd, if_neg (show ¬ (5 : Int32) < 4 from by decide), t_192_6 hT2 h2, x_bd, if_neg (show ¬ ¬ (5 : Int32) = 5 from by decide), e6]
    have fin : (if Y 6 t 6 ≤ 1000 then some (Y 6 t 6, T2) else some (1000, T2)) = some ((if 1000 < Y 6 t 6 then 1000 else Y 6 t 6), T2) := by
      by_cases q : Y 6 t 6 ≤ 1000
      · rw [if_pos q, if_neg ((g_nle _ _).1 q)]
      · rw [if_neg q, if_pos (Decidable.not_not.1 (fun p => q ((g_nle _ _).2 p)))]
    rw [fin]
    exact ⟨_, S2, T2, rfl, rfl, hC2, hT2, g_o9_1 (g_o9_1 (g_o9_0 Y) _ _) _ _⟩
def g_lay (k d r : Int32) : Int32 := if k = 1 then (if 30 < d then -5 else 0) else if k = 2 then (if 0 ≤ 5 + r - d / 100 then 5 + r - d / 100 else 0) else 5
theorem g_max0 (x : Int32) : (if 0 < x then x else 0) = if 0 ≤ x then x else 0 := by
  by_cases q : 0 < x
  · rw [if_pos q, if_pos (by rw [g_nle, Int32.lt_iff_toInt_lt]; rw [Int32.lt_iff_toInt_lt] at q; omega)]
  · rw [if_neg q]
    by_cases p : 0 ≤ x
    · rw [if_pos p]
      have h1 : ¬ (0 : Int32).toInt < x.toInt := fun r => q (Int32.lt_iff_toInt_lt.2 r)
      have h2 := Int32.le_iff_toInt_le.1 p
      exact Int32.toInt_inj.1 (by omega)
    · rw [if_neg p]
theorem e_5 {y : Nat} {Y V : GA} {X Z S T : QS} (hC : g_C y Y V X S) (hT : g_T Y V Z T) {t : Nat} (ht : t < g_n (Y 0 2 0)) (h2 : t < 200) (hk : Y 6 t 0 = 0 ∨ Y 6 t 0 = 1 ∨ Y 6 t 0 = 2) : ∃ Y' S' T', f_5 y t S = some (g_lay (Y 6 t 0) (Y 6 t 1) (Y 6 t 4), S') ∧ f_209 (nI t) T = some (g_lay (Y 6 t 0) (Y 6 t 1) (Y 6 t 4), T') ∧ g_C y Y' V X S' ∧ g_T Y' V Z T' ∧ g_o9 Y Y' := by
  unfold f_5 f_209 g_lay
  rw [c_t0 hC ht h2, t_192_0 hT h2, x_let, x_bd, t_192_1 hT h2, x_bd]
  simp only [w_eta]
  unfold b_209_52
  rcases hk with e | e | e <;> rw [e]
  · obtain ⟨S1, T1, e1, e2, hC1, hT1⟩ := e_run (α := Int32) hC hT 4 (by omega)
    have ec : f_15 S = some (5, S1) := e1 (fun S_2 => some (5, S_2))
    rw [if_neg (show ¬ (0 : Int32) = 1 from by decide), if_neg (show ¬ (0 : Int32) = 2 from by decide), ec, if_neg (show ¬ (0 : Int32) = 1 from by decide), if_neg (show ¬ (0 : Int32) = 2 from by decide)]
    rw [if_pos (show ¬ (0 : Int32) = 1 from by decide), if_pos (show ¬ (0 : Int32) = 2 from by decide), show f_205 4 T = some ((), T1) from e2, x_bd, t_192_4 hT1 h2, x_bd, x_let, if_neg (show ¬ ¬ (0 : Int32) = 0 from by decide)]
    exact ⟨_, S1, T1, rfl, rfl, hC1, hT1, g_o9_1 (g_o9_0 Y) _ _⟩
  · obtain ⟨S1, T1, e1, e2, hC1, hT1⟩ := e_run (α := Int32) hC hT 6 (by omega)
    have ec : f_17 y t S = if 30 < (S1.1 (8, y, t) 1) then (q_bd (f_15 S1) (fun r_3 S_4 => some (-r_3, S_4))) else (some (0, S1)) := e1 (fun S_2 => if 30 < (S_2.1 (8, y, t) 1) then (q_bd (f_15 S_2) (fun r_3 S_4 => some (-r_3, S_4))) else (some (0, S_2)))
    have ed : g_up Y 9 6 0 (Y 9 6 0 + 1) 6 t 1 = Y 6 t 1 := rfl
    rw [if_pos (show (1 : Int32) = 1 from rfl), ec, c_t1 hC1 ht h2, ed, if_pos (show (1 : Int32) = 1 from rfl)]
    rw [if_neg (show ¬ ¬ (1 : Int32) = 1 from by decide), show f_205 6 T = some ((), T1) from e2, x_bd]
    by_cases q : 30 < Y 6 t 1
    · obtain ⟨S2, T2, e3, e4, hC2, hT2⟩ := e_run (α := Int32) hC1 hT1 4 (by omega)
      have ee : f_15 S1 = some (5, S2) := e3 (fun S_2 => some (5, S_2))
      rw [if_pos q, if_pos q, if_pos q, ee, x_bd, show f_205 4 T1 = some ((), T2) from e4, x_bd]
      exact ⟨_, S2, T2, rfl, rfl, hC2, hT2, g_o9_1 (g_o9_1 (g_o9_0 Y) _ _) _ _⟩
    · rw [if_neg q, if_neg q, if_neg q]
      exact ⟨_, S1, T1, rfl, rfl, hC1, hT1, g_o9_1 (g_o9_0 Y) _ _⟩
  · obtain ⟨S1, T1, e1, e2, hC1, hT1⟩ := e_run (α := Int32) hC hT 7 (by omega)
    obtain ⟨S2, T2, e3, e4, hC2, hT2⟩ := e_run (α := Int32) hC1 hT1 4 (by omega)
    have ec : f_18 y t S = q_bd (f_15 S1) (fun r_3 S_4 => q_let (if 0 < ((r_3 + (S_4.1 (8, y, t) 5)) - ((S_4.1 (8, y, t) 1) / 100)) then ((r_3 + (S_4.1 (8, y, t) 5)) - ((S_4.1 (8, y, t) 1) / 100)) else 0) (fun y_5 => some (y_5, S_4))) := e1 (fun S_2 => q_bd (f_15 S_2) (fun r_3 S_4 => q_let (if 0 < ((r_3 + (S_4.1 (8, y, t) 5)) - ((S_4.1 (8, y, t) 1) / 100)) then ((r_3 + (S_4.1 (8, y, t) 5)) - ((S_4.1 (8, y, t) 1) / 100)) else 0) (fun y_5 => some (y_5, S_4))))
    have ee : f_15 S1 = some (5, S2) := e3 (fun S_2 => some (5, S_2))
    have ed : ∀ b v, g_up (g_up Y 9 7 0 (Y 9 7 0 + 1)) 9 4 b v 6 t 1 = Y 6 t 1 := fun _ _ => rfl
    have ef : ∀ b v, g_up (g_up Y 9 7 0 (Y 9 7 0 + 1)) 9 4 b v 6 t 4 = Y 6 t 4 := fun _ _ => rfl
    rw [if_neg (show ¬ (2 : Int32) = 1 from by decide), if_pos (show (2 : Int32) = 2 from rfl), ec, ee, x_bd, x_let, c_t1 hC2 ht h2, c_t4 hC2 ht h2, ed, ef, if_neg (show ¬ (2 : Int32) = 1 from by decide), if_pos (show (2 : Int32) = 2 from rfl), g_max0]
    rw [if_pos (show ¬ (2 : Int32) = 1 from by decide), if_neg (show ¬ ¬ (2 : Int32) = 2 from by decide), show f_205 7 T = some ((), T1) from e2, x_bd, show f_205 4 T1 = some ((), T2) from e4, x_bd, t_192_4 hT2 h2, x_bd, ef, x_let, if_pos (show ¬ (2 : Int32) = 0 from by decide)]
    have fin : (if 0 ≤ 5 + Y 6 t 4 - Y 6 t 1 / 100 then some (5 + Y 6 t 4 - Y 6 t 1 / 100, T2) else some (0, T2)) = some ((if 0 ≤ 5 + Y 6 t 4 - Y 6 t 1 / 100 then 5 + Y 6 t 4 - Y 6 t 1 / 100 else 0), T2) := by
      split <;> rfl
    rw [fin]
    exact ⟨_, S2, T2, rfl, rfl, hC2, hT2, g_o9_1 (g_o9_1 (g_o9_0 Y) _ _) _ _⟩
