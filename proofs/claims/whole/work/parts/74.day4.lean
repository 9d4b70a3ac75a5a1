/-! ===== a day: things age; the whole day ===== -/
theorem d_11 {wd : Int32} {y : Nat} {Y V : GA} {X Z S T : QS} (hC : g_Cw wd y Y V X S) (hT : g_T Y V Z T) {t : Nat} (ht : t < g_n (Y 0 2 0)) (h2 : t < 200) : ∃ S' T', f_11 y t S = some ((), S') ∧ f_205 0 T = some ((), T') ∧ g_Cw wd y (g_up (g_up Y 9 0 0 (Y 9 0 0 + 1)) 6 t 1 (Y 6 t 1 + 1)) V X S' ∧ g_T (g_up Y 9 0 0 (Y 9 0 0 + 1)) V Z T' := by
  obtain ⟨S1, T1, e1, e2, h1, h3⟩ := d_run (α := Unit) hC hT 0 (by omega)
  obtain ⟨S2, e4, h4⟩ := ds_t1 h1 h2 (Y 6 t 1 + 1)
  refine ⟨S2, T1, ?_, e2, h4, h3⟩
  rw [show f_11 y t S = q_let (q_set S1 (8, y, t) 1 ((S1.1 (8, y, t) 1) + 1)) (fun S_3 => some ((), S_3)) from e1 (fun S_2 => q_let (q_set S_2 (8, y, t) 1 ((S_2.1 (8, y, t) 1) + 1)) (fun S_3 => some ((), S_3))), d_t1 h1 ht h2]
  rw [show g_up Y 9 0 0 (Y 9 0 0 + 1) 6 t 1 = Y 6 t 1 from rfl, e4, x_let]
theorem d_11c {wd : Int32} {y : Nat} {Y V : GA} {X S : QS} (hC : g_Cw wd y Y V X S) {t : Nat} (ht : t < g_n (Y 0 2 0)) (h2 : t < 200) : ∃ S', f_11 y t S = some ((), S') ∧ g_Cw wd y (g_up (g_up Y 9 0 0 (Y 9 0 0 + 1)) 6 t 1 (Y 6 t 1 + 1)) V X S' := by
  obtain ⟨S1, e1, h1⟩ := ds_r hC (show 0 < 17 by omega) (Y 9 0 0 + 1)
  obtain ⟨S2, e4, h4⟩ := ds_t1 h1 h2 (Y 6 t 1 + 1)
  refine ⟨S2, ?_, h4⟩
  unfold f_11
  rw [show v_in 0 17 = true from by decide, w_c0, d_r hC (by omega), x_ck, x_let, x_ck, e1, x_let, d_t1 h1 ht h2]
  rw [show g_up Y 9 0 0 (Y 9 0 0 + 1) 6 t 1 = Y 6 t 1 from rfl, e4, x_let]
/-- a thing's day: its days, its load -/
theorem d_10 {wd : Int32} {y : Nat} {Y V : GA} {X Z S T : QS} (hC : g_Cw wd y Y V X S) (hT : g_T Y V Z T) {t : Nat} (ht : t < g_n (Y 0 2 0)) (h2 : t < 200) (hk : g_N (Y 6 t 0) 5) : ∃ Y9 d l S' T', g_o9 Y Y9 ∧ (d = Y 6 t 1 + 1 ∨ d = Y 6 t 1 + 2) ∧ (l = Y 6 t 6 ∨ l = Y 6 t 6 - Y 6 t 6 / 10) ∧ f_10 y t S = some ((), S') ∧ q_bd (f_205 16 T) (fun r S_25 => f_207 (nI t) S_25) = some ((), T') ∧ g_Cw wd y (g_up (g_up Y9 6 t 1 d) 6 t 6 l) V X S' ∧ g_T (g_up (g_up Y9 6 t 1 d) 6 t 6 l) V Z T' := by
  obtain ⟨S1, T1, e1, e2, hC1, hT1⟩ := d_run (α := Unit) hC hT 16 (by omega)
  have ec : f_10 y t S = q_bd (f_6 y t S1) (fun r_3 S_4 => some ((), S_4)) := e1 (fun S_2 => q_bd (f_6 y t S_2) (fun r_3 S_4 => some ((), S_4)))
  rw [ec, show f_205 16 T = some ((), T1) from e2, x_bd]
  have o1 : g_o9 Y (g_up Y 9 16 0 (Y 9 16 0 + 1)) := g_o9_1 (g_o9_0 Y) _ _
  have k0 : g_up Y 9 16 0 (Y 9 16 0 + 1) 6 t 0 = Y 6 t 0 := rfl
  have ks : ∀ j, g_up Y 9 16 0 (Y 9 16 0 + 1) 6 t j = Y 6 t j := fun _ => rfl
  have kt : g_up Y 9 16 0 (Y 9 16 0 + 1) 0 = Y 0 := g_up_r (by omega)
  unfold f_6 f_207 b_207_17 b_207_28 b_207_38
  generalize g_up Y 9 16 0 (Y 9 16 0 + 1) = Y1 at hC1 hT1 o1 k0 ks kt
  have ht1 : t < g_n (Y1 0 2 0) := by rw [kt]; exact ht
  rw [d_t0 hC1 ht1 h2, t_192_0 hT1 h2, x_let, x_bd, k0]
  have one : ∀ kk : Int32, kk < 4 → ∃ Y9 d l S' T', g_o9 Y Y9 ∧ (d = Y 6 t 1 + 1 ∨ d = Y 6 t 1 + 2) ∧ (l = Y 6 t 6 ∨ l = Y 6 t 6 - Y 6 t 6 / 10) ∧ q_bd (q_bd (f_11 y t S1) (fun r_11 S_12 => some ((), S_12))) (fun r_3 S_4 => some ((), S_4)) = some ((), S') ∧ b_207_42 q_N (nI t) kk 1 0 T1 = some ((), T') ∧ g_Cw wd y (g_up (g_up Y9 6 t 1 d) 6 t 6 l) V X S' ∧ g_T (g_up (g_up Y9 6 t 1 d) 6 t 6 l) V Z T' := by
    intro kk hkk
    obtain ⟨S2, T2, e3, e4, hC2, hT2⟩ := d_11 hC1 hT1 ht1 h2
    obtain ⟨T3, e5, hT3⟩ := t_193_1 hT2 h2 (Y1 6 t 1 + 1)
    have kd : g_up Y1 9 0 0 (Y1 9 0 0 + 1) 6 t 1 = Y1 6 t 1 := rfl
    rw [e3, x_bd, x_bd, show q_N = 19998 + 1 + 1 from rfl, b_207_42, if_neg (show ¬ (1 : Int32) ≤ 0 from by decide), e4, x_bd, show (0 : Int32) + 1 = 1 from rfl, b_207_42, if_pos (show (1 : Int32) ≤ 1 from by decide), t_192_1 hT2 h2, x_bd, kd, e5, x_bd, if_pos hkk]
    refine ⟨g_up Y1 9 0 0 (Y1 9 0 0 + 1), Y1 6 t 1 + 1, Y1 6 t 6, S2, T3, g_o9_1 o1 _ _, Or.inl (by rw [ks]), Or.inl (by rw [ks]), rfl, rfl, ?_, ?_⟩
    · rw [show g_up (g_up (g_up Y1 9 0 0 (Y1 9 0 0 + 1)) 6 t 1 (Y1 6 t 1 + 1)) 6 t 6 (Y1 6 t 6) = g_up (g_up Y1 9 0 0 (Y1 9 0 0 + 1)) 6 t 1 (Y1 6 t 1 + 1) from g_up_id rfl]; exact hC2
    · rw [show g_up (g_up (g_up Y1 9 0 0 (Y1 9 0 0 + 1)) 6 t 1 (Y1 6 t 1 + 1)) 6 t 6 (Y1 6 t 6) = g_up (g_up Y1 9 0 0 (Y1 9 0 0 + 1)) 6 t 1 (Y1 6 t 1 + 1) from g_up_id rfl]; exact hT3
  have swarm : ∀ kk : Int32, ¬ kk < 4 → ¬ kk = 1 → ∃ Y9 d l S' T', g_o9 Y Y9 ∧ (d = Y 6 t 1 + 1 ∨ d = Y 6 t 1 + 2) ∧ (l = Y 6 t 6 ∨ l = Y 6 t 6 - Y 6 t 6 / 10) ∧ q_bd (q_bd (f_20 y t S1) (fun r_6 S_7 => some ((), S_7))) (fun r_3 S_4 => some ((), S_4)) = some ((), S') ∧ q_bd (f_205 9 T1) (fun r_15 S_16 => if ¬ kk = 1 then b_207_42 q_N (nI t) kk 1 0 S_16 else b_207_42 q_N (nI t) kk 2 0 S_16) = some ((), T') ∧ g_Cw wd y (g_up (g_up Y9 6 t 1 d) 6 t 6 l) V X S' ∧ g_T (g_up (g_up Y9 6 t 1 d) 6 t 6 l) V Z T' := by
    intro kk hk4 hk1
    obtain ⟨Sa, Ta, ea, eb, hCa, hTa⟩ := d_run (α := Unit) hC1 hT1 9 (by omega)
    have ka : ∀ j, g_up Y1 9 9 0 (Y1 9 9 0 + 1) 6 t j = Y1 6 t j := fun _ => rfl
    have oa := g_o9_1 o1 9 (Y1 9 9 0 + 1)
    have kta : g_up Y1 9 9 0 (Y1 9 9 0 + 1) 0 = Y1 0 := g_up_r (by omega)
    generalize g_up Y1 9 9 0 (Y1 9 9 0 + 1) = Ya at hCa hTa ka oa kta
    have hta : t < g_n (Ya 0 2 0) := by rw [kta]; exact ht1
    obtain ⟨S2, T2, e3, e4, hC2, hT2⟩ := d_11 hCa hTa hta h2
    have ec2 : f_20 y t S1 = q_bd (f_11 y t Sa) (fun r_3 S_4 => q_let (q_set S_4 (8, y, t) 7 ((S_4.1 (8, y, t) 7) - ((S_4.1 (8, y, t) 7) / 10))) (fun S_5 => some ((), S_5))) := ea (fun S_2 => q_bd (f_11 y t S_2) (fun r_3 S_4 => q_let (q_set S_4 (8, y, t) 7 ((S_4.1 (8, y, t) 7) - ((S_4.1 (8, y, t) 7) / 10))) (fun S_5 => some ((), S_5))))
    obtain ⟨T3, e5, hT3⟩ := t_193_1 hT2 h2 (Ya 6 t 1 + 1)
    have kd : g_up Ya 9 0 0 (Ya 9 0 0 + 1) 6 t 1 = Ya 6 t 1 := rfl
    have kl : g_up (g_up Ya 9 0 0 (Ya 9 0 0 + 1)) 6 t 1 (Ya 6 t 1 + 1) 6 t 6 = Ya 6 t 6 := rfl
    obtain ⟨S3, e6, hC3⟩ := ds_t6 hC2 h2 (Ya 6 t 6 - Ya 6 t 6 / 10)
    obtain ⟨T4, e7, hT4⟩ := t_193_6 hT3 h2 (Ya 6 t 6 - Ya 6 t 6 / 10)
    rw [ec2, e3, x_bd, d_t6 hC2 (by exact hta) h2, kl, e6, x_let, x_bd, x_bd, show f_205 9 T1 = some ((), Ta) from eb, x_bd, if_pos hk1, show q_N = 19998 + 1 + 1 from rfl, b_207_42, if_neg (show ¬ (1 : Int32) ≤ 0 from by decide), e4, x_bd, show (0 : Int32) + 1 = 1 from rfl, b_207_42, if_pos (show (1 : Int32) ≤ 1 from by decide), t_192_1 hT2 h2, x_bd, kd, e5, x_bd, if_neg hk4, t_192_6 hT3 h2, x_bd, t_192_6 hT3 h2, x_bd, kl, e7, x_bd]
    exact ⟨_, _, _, S3, T4, g_o9_1 oa 0 _, Or.inl (by rw [ka, ks]), Or.inr (by rw [ka, ks]), rfl, rfl, hC3, hT4⟩
  rcases g_kn hk with e | e | e | e | e | e <;> rw [e]
  · rw [if_neg (show ¬ (0 : Int32) = 1 from by decide), if_neg (show ¬ (0 : Int32) = 4 from by decide), if_neg (show ¬ (0 : Int32) = 5 from by decide), if_neg (show ¬ (0 : Int32) = 2 from by decide), if_neg (show ¬ (0 : Int32) = 3 from by decide), if_pos (show ¬ (0 : Int32) = 1 from by decide), if_pos (show (0 : Int32) < 4 from by decide), if_pos (show ¬ (0 : Int32) = 1 from by decide)]
    exact one 0 (by decide)
  · rw [if_pos rfl, if_neg (show ¬ ¬ (1 : Int32) = 1 from by decide)]
    obtain ⟨Sa, Ta, ea, eb, hCa, hTa⟩ := d_run (α := Unit) hC1 hT1 5 (by omega)
    have ec2 : f_16 y t S1 = q_bd (f_11 y t Sa) (fun r_3 S_4 => q_bd (f_11 y t S_4) (fun r_5 S_6 => some ((), S_6))) := ea (fun S_2 => q_bd (f_11 y t S_2) (fun r_3 S_4 => q_bd (f_11 y t S_4) (fun r_5 S_6 => some ((), S_6))))
    have ka : ∀ j, g_up Y1 9 5 0 (Y1 9 5 0 + 1) 6 t j = Y1 6 t j := fun _ => rfl
    have oa := g_o9_1 o1 5 (Y1 9 5 0 + 1)
    have kta : g_up Y1 9 5 0 (Y1 9 5 0 + 1) 0 = Y1 0 := g_up_r (by omega)
    generalize g_up Y1 9 5 0 (Y1 9 5 0 + 1) = Ya at hCa hTa ka oa kta
    have hta : t < g_n (Ya 0 2 0) := by rw [kta]; exact ht1
    obtain ⟨S2, T2, e3, e4, hC2, hT2⟩ := d_11 hCa hTa hta h2
    obtain ⟨T3, f3, hT3⟩ := t_205_0 hT2
    obtain ⟨Sb, eb1, hCb⟩ := d_11c hC2 (by exact hta) h2
    have kv : g_up Ya 9 0 0 (Ya 9 0 0 + 1) 9 0 0 = Ya 9 0 0 + 1 := g_up_same _ _ _ _ _
    have kv2 : g_up (g_up Ya 9 0 0 (Ya 9 0 0 + 1)) 6 t 1 (Ya 6 t 1 + 1) 9 0 0 = Ya 9 0 0 + 1 := kv
    have kd2 : g_up (g_up Ya 9 0 0 (Ya 9 0 0 + 1)) 6 t 1 (Ya 6 t 1 + 1) 6 t 1 = Ya 6 t 1 + 1 := g_up_same _ _ _ _ _
    rw [kv2, kd2, g_up_comm (r := 6) (r' := 9) (fun p => by omega), g_up_up, g_up_up] at hCb
    rw [kv, g_up_up] at hT3
    obtain ⟨T4, f4, hT4⟩ := t_193_1 hT3 h2 (Ya 6 t 1 + 1 + 1)
    have kd3 : ∀ v, g_up Ya 9 0 0 v 6 t 1 = Ya 6 t 1 := fun _ => rfl
    rw [ec2, e3, x_bd, eb1, x_bd, x_bd, x_bd, show f_205 5 T1 = some ((), Ta) from eb, x_bd, if_pos (show (1 : Int32) < 4 from by decide), if_neg (show ¬ ¬ (1 : Int32) = 1 from by decide), show q_N = 19997 + 1 + 1 + 1 from rfl, b_207_42, if_neg (show ¬ (2 : Int32) ≤ 0 from by decide), e4, x_bd, show (0 : Int32) + 1 = 1 from rfl, b_207_42, if_neg (show ¬ (2 : Int32) ≤ 1 from by decide), f3, x_bd, show (1 : Int32) + 1 = 2 from rfl, b_207_42, if_pos (show (2 : Int32) ≤ 2 from by decide), t_192_1 hT3 h2, x_bd, kd3, show Ya 6 t 1 + 2 = Ya 6 t 1 + 1 + 1 from by rw [Int32.add_assoc]; rfl, f4, x_bd, if_pos (show (1 : Int32) < 4 from by decide)]
    refine ⟨g_up Ya 9 0 0 (Ya 9 0 0 + 1 + 1), Ya 6 t 1 + 1 + 1, Ya 6 t 6, Sb, T4, g_o9_1 oa 0 _, Or.inr (by rw [ka, ks, Int32.add_assoc]; rfl), Or.inl (by rw [ka, ks]), rfl, rfl, ?_, ?_⟩
    · rw [show g_up (g_up (g_up Ya 9 0 0 (Ya 9 0 0 + 1 + 1)) 6 t 1 (Ya 6 t 1 + 1 + 1)) 6 t 6 (Ya 6 t 6) = g_up (g_up Ya 9 0 0 (Ya 9 0 0 + 1 + 1)) 6 t 1 (Ya 6 t 1 + 1 + 1) from g_up_id rfl]; exact hCb
    · rw [show g_up (g_up (g_up Ya 9 0 0 (Ya 9 0 0 + 1 + 1)) 6 t 1 (Ya 6 t 1 + 1 + 1)) 6 t 6 (Ya 6 t 6) = g_up (g_up Ya 9 0 0 (Ya 9 0 0 + 1 + 1)) 6 t 1 (Ya 6 t 1 + 1 + 1) from g_up_id rfl]; exact hT4
  · rw [if_neg (show ¬ (2 : Int32) = 1 from by decide), if_neg (show ¬ (2 : Int32) = 4 from by decide), if_neg (show ¬ (2 : Int32) = 5 from by decide), if_pos rfl, if_pos (show ¬ (2 : Int32) = 1 from by decide), if_pos (show (2 : Int32) < 4 from by decide), if_pos (show ¬ (2 : Int32) = 1 from by decide)]
    exact one 2 (by decide)
  · rw [if_neg (show ¬ (3 : Int32) = 1 from by decide), if_neg (show ¬ (3 : Int32) = 4 from by decide), if_neg (show ¬ (3 : Int32) = 5 from by decide), if_neg (show ¬ (3 : Int32) = 2 from by decide), if_pos rfl, if_pos (show ¬ (3 : Int32) = 1 from by decide), if_pos (show (3 : Int32) < 4 from by decide), if_pos (show ¬ (3 : Int32) = 1 from by decide)]
    exact one 3 (by decide)
  · rw [if_neg (show ¬ (4 : Int32) = 1 from by decide), if_pos rfl, if_pos (show ¬ (4 : Int32) = 1 from by decide), if_neg (show ¬ (4 : Int32) < 4 from by decide)]
    exact swarm 4 (by decide) (by decide)
  · rw [if_neg (show ¬ (5 : Int32) = 1 from by decide), if_neg (show ¬ (5 : Int32) = 4 from by decide), if_pos rfl, if_pos (show ¬ (5 : Int32) = 1 from by decide), if_neg (show ¬ (5 : Int32) < 4 from by decide)]
    exact swarm 5 (by decide) (by decide)
