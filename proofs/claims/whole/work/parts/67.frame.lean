/-! ===== frame; swarm ===== -/
theorem g_ph_eq2 {l l' f f' : Nat → Nat → Int32} : ∀ n, (∀ k, k < n → f' k = f k ∧ l' k 0 = l k 0) → g_ph l' f' n = g_ph l f n
  | 0, _ => rfl
  | n + 1, h => by
    unfold g_ph
    rw [g_ph_eq2 n (fun k hk => h k (by omega)), (h n (by omega)).1, (h n (by omega)).2]
theorem g_yo_0 {f : Nat → Int32} : ∀ n, (∀ k, k < n → f k = 0) → g_yo f n = 0
  | 0, _ => rfl
  | n + 1, h => by
    unfold g_yo
    rw [g_yo_0 n (fun k hk => h k (by omega)), h n (by omega)]
    rfl
theorem g_W_nf {c : Nat} {Y : GA} {m k i : Nat} (hW : g_W c Y) (ht : g_n (Y 0 1 0) < 200) (hm : m ≤ 64) (hk : k < g_n (Y 0 0 0)) (h4 : k < 40) (hi : i < 96) (hb : i < 12 * g_n (Y 1 k 10)) : g_W c (g_nf Y m k i) := by
  obtain ⟨w5, w0, wB, wL, wP, wK, wU, wF, wT, wS, wI, wD, wN⟩ := id hW
  obtain ⟨t, et⟩ : ∃ t, t = g_n (Y 0 1 0) := ⟨_, rfl⟩
  unfold g_nf
  rw [← et] at ht ⊢
  generalize hY' : g_up (g_up (g_rs (g_up Y 3 t 0 (nI m)) 4 t (fun _ => 0)) 2 k i (nI t)) 0 1 0 (nI (t + 1)) = Y'
  have uo : ∀ r a b, ¬ (r = 0 ∧ a = 1 ∧ b = 0) → ¬ (r = 2 ∧ a = k ∧ b = i) → ¬ (r = 4 ∧ a = t) → ¬ (r = 3 ∧ a = t ∧ b = 0) → Y' r a b = Y r a b := by
    intro r a b h1 h2 h3 h5
    rw [← hY', g_up_ne h1, g_up_ne h2, g_rs_ne h3, g_up_ne h5]
  have ur : ∀ r, r ≠ 0 → r ≠ 2 → r ≠ 3 → r ≠ 4 → Y' r = Y r := by
    intro r h1 h2 h3 h4
    funext a b
    exact uo r a b (by omega) (by omega) (by omega) (by omega)
  have u1 : Y' 0 1 0 = nI (t + 1) := by rw [← hY', g_up_same]
  have u2 : Y' 2 k i = nI t := by rw [← hY', g_up_ne (fun q => by omega), g_up_same]
  have u3 : Y' 3 t 0 = nI m := by rw [← hY', g_up_ne (fun q => by omega), g_up_ne (fun q => by omega), g_rs_ne (fun q => by omega), g_up_same]
  have u4 : ∀ b, Y' 4 t b = 0 := by intro b; rw [← hY', g_up_ne (fun q => by omega), g_up_ne (fun q => by omega), g_rs_same]
  have n0 : Y' 0 0 0 = Y 0 0 0 := uo 0 0 0 (by omega) (by omega) (by omega) (by omega)
  have n2 : Y' 0 2 0 = Y 0 2 0 := uo 0 2 0 (by omega) (by omega) (by omega) (by omega)
  have n8 : Y' 0 8 0 = Y 0 8 0 := uo 0 8 0 (by omega) (by omega) (by omega) (by omega)
  have m1 : g_n (Y' 0 1 0) = t + 1 := by rw [u1, g_n_nI (by omega)]
  have o3 : ∀ a, a ≠ t → Y' 3 a 0 = Y 3 a 0 := fun a ha => uo 3 a 0 (by omega) (by omega) (by omega) (by omega)
  have o4 : ∀ a b, a ≠ t → Y' 4 a b = Y 4 a b := fun a b ha => uo 4 a b (by omega) (by omega) (by omega) (by omega)
  have o2 : ∀ a b, ¬ (a = k ∧ b = i) → Y' 2 a b = Y 2 a b := fun a b hh => uo 2 a b (by omega) (by omega) (by omega) (by omega)
  have old2 : ∀ a b, a < 40 → b < 96 → Y 2 a b ≠ nI t := by
    intro a b h1 h2 q
    rcases wP a b h1 h2 with e | ⟨_, _, n, hn, e⟩
    · rw [e] at q
      exact g_nI_m1 (n := t) (by omega) q.symm
    · rw [e, nI_eq (by omega) (by omega)] at q
      omega
  have old5 : ∀ b, b < 24 → Y 5 b 0 ≠ nI t := by
    intro b h1 q
    rcases wK b h1 with e | ⟨n, hn, e⟩
    · rw [e] at q
      exact g_nI_m1 (n := t) (by omega) q.symm
    · rw [e, nI_eq (by omega) (by omega)] at q
      omega
  unfold g_W
  rw [ur 1 (by omega) (by omega) (by omega) (by omega), ur 5 (by omega) (by omega) (by omega) (by omega), ur 6 (by omega) (by omega) (by omega) (by omega), ur 8 (by omega) (by omega) (by omega) (by omega)]
  refine ⟨w5, ?_, ?_, ?_, ?_, ?_, ?_, ?_, ?_, ?_, ?_, ?_, ?_⟩
  · unfold g_w0
    rw [n0, u1, n2, n8]
    exact ⟨w0.1, g_N_nI (by omega) (by omega), w0.2.2⟩
  · unfold g_wB; rw [n0]; exact wB
  · intro a ha
    rw [m1] at ha
    by_cases e : a = t
    · subst e
      rw [u3]
      exact g_N_nI hm (by omega)
    · rw [o3 a e]
      exact wL a (by omega)
  · intro a b h1 h2
    rw [n0, m1]
    by_cases e : a = k ∧ b = i
    · obtain ⟨rfl, rfl⟩ := e
      rw [u2]
      exact Or.inr ⟨hk, hb, t, by omega, rfl⟩
    · rw [o2 a b e]
      rcases wP a b h1 h2 with q | ⟨q1, q2, n, q3, q4⟩
      · exact Or.inl q
      · exact Or.inr ⟨q1, q2, n, by omega, q4⟩
  · intro b hb
    rw [m1]
    exact g_M_mono (wK b hb) (by omega)
  · refine ⟨?_, wU.2.1, ?_⟩
    · intro a b a' b' h1 h2 h3 h5 q1 q2
      by_cases e : a = k ∧ b = i
      · by_cases e' : a' = k ∧ b' = i
        · omega
        · obtain ⟨rfl, rfl⟩ := e
          rw [u2, o2 a' b' e'] at q1
          exact absurd q1.symm (old2 a' b' h3 h5)
      · by_cases e' : a' = k ∧ b' = i
        · obtain ⟨rfl, rfl⟩ := e'
          rw [u2, o2 a b e] at q1
          exact absurd q1 (old2 a b h1 h2)
        · rw [o2 a b e, o2 a' b' e'] at q1
          rw [o2 a b e] at q2
          exact wU.1 a b a' b' h1 h2 h3 h5 q1 q2
    · intro a b b' h1 h2 h3 q1
      by_cases e : a = k ∧ b = i
      · obtain ⟨rfl, rfl⟩ := e
        rw [u2] at q1
        exact absurd q1.symm (old5 b' h3)
      · rw [o2 a b e] at q1 ⊢
        exact wU.2.2 a b b' h1 h2 h3 q1
  · intro a b ha hb
    rw [m1] at ha
    by_cases e : a = t
    · subst e
      rw [u4]
      exact Or.inl ⟨by decide, by decide⟩
    · rw [o3 a e] at hb
      rw [o4 a b e]
      exact wF a b (by omega) hb
  · unfold g_wT; rw [n2]; exact wT
  · unfold g_wS; rw [n0, n2]; exact wS
  · unfold g_wI; rw [n0, n2]; exact wI
  · unfold g_wD; rw [n2]; exact wD
  · unfold g_wN
    rw [n0, n2, m1]
    have e : g_ph (Y' 3) (Y' 4) (t + 1) = g_ph (Y 3) (Y 4) t := by
      show g_ph (Y' 3) (Y' 4) t + g_yo (Y' 4 t) (g_n (Y' 3 t 0)) = _
      rw [g_yo_0 _ (fun b _ => u4 b), g_ph_eq2 (l := Y 3) (f := Y 4) t (fun a ha => ⟨funext (fun b => o4 a b (by omega)), o3 a (by omega)⟩)]
      omega
    rw [e, et]
    exact wN
theorem jj_124 {c y : Nat} {Y V : GA} {X Z S T : QS} (h : g_R c y Y V X Z S T) (x z : Int32) : g_Ok c X Z (f_124 x z S) (f_212 x z T) := by
  obtain ⟨hC, hT, hW, hV, hU⟩ := id h
  have n1 := hW.2.1.2.1
  unfold f_124 f_212 b_212_36 b_124_47
  rw [c_175 hC hW, t_200 hT hW]
  simp only [x_bd, w_eta]
  have no : ∀ e, ¬ e = 0 → ¬ e ≤ 0 → b_212_39 x z e T = f_186 e T := by
    intro e h1 h2
    unfold b_212_39 b_212_49
    rw [if_pos h1, if_neg h2, w_eta]
  rcases g_pw_cases hW x with q | ⟨q, k, i, a1, a2, a3, a4, rfl⟩
  · rw [if_neg (g_12a q), if_pos (g_12a q), no _ (g_12a q) (g_12b q)]
    exact g_refuse h _
  · rw [if_pos q, if_neg (show ¬ ¬ g_pw Y (nI (96 * k + i)) = 0 from fun p => p q)]
    by_cases h1 : 64 < z
    · rw [if_pos h1, if_pos h1, no 6 (by decide) (by decide)]
      exact g_refuse h _
    · rw [if_neg h1, if_neg h1, c_now hC, c_n1 hC, w_i1, w_c1, t_n1 hT, x_ck, x_let]
      by_cases h2 : g_n (Y 0 1 0) < 200
      · rw [if_neg (show ¬ 200 ≤ Y 0 1 0 from fun p => by rw [show (200 : Int32) = nI 200 from rfl, g_N_ge n1 (by omega) (by omega)] at p; omega), if_neg (show ¬ Y 0 1 0 = 200 from fun p => by rw [show (200 : Int32) = nI 200 from rfl, g_N_eq n1 (by omega) (by omega)] at p; omega), c_98 hC a1 a2 a3 a4, t_194 hT a2 a4, x_bd, x_bd]
        rcases hW.2.2.2.2.1 k i a2 a4 with e | ⟨_, _, n, hn, e⟩
        · rw [e, if_pos rfl, if_pos (show (-1 : Int32) < 0 from by decide)]
          unfold b_212_39 b_212_49
          rw [if_neg (show ¬ ¬ g_pw Y (nI (96 * k + i)) = 0 from fun p => p q)]
          by_cases h3 : 0 ≤ z
          · rw [if_pos h3, if_pos h3, if_pos (g_12c q)]
            obtain ⟨m, hm, rfl⟩ := nI_of2 (x := z) (M := 64) (n := 64) (by decide) ((g_nle 0 z).1 h3) ((g_nle _ _).2 h1)
            obtain ⟨S1, T1, e1, e2, hk⟩ := k_keep h
            obtain ⟨kC, kT, kW, _, _⟩ := id hk
            obtain ⟨S2, e3, hC2⟩ := c_95 kC kW h2 hm a1 a2 a4
            obtain ⟨T2, e4, hT2⟩ := t_212 (m := m) (k := k) (i := i) kT kW h2 a2 a4
            rw [e1, e2, x_bd, x_bd, c_now kC, e3, x_bd, e4]
            exact g_fin hC2 hT2 (g_W_nf kW h2 hm a1 a2 a4 a3) hW (Nat.le_refl c) rfl _
          · rw [if_neg h3, if_neg h3, if_neg (show ¬ (5 : Int32) ≤ 0 from by decide), w_eta]
            exact g_refuse h _
        · have n12 := n1.2
          rw [e, if_neg (g_nI_m1 (by omega)), if_neg (nI_pos (by omega)), no 6 (by decide) (by decide)]
          exact g_refuse h _
      · have e : g_n (Y 0 1 0) = 200 := by have := n1.2; omega
        rw [if_pos (show 200 ≤ Y 0 1 0 from (g_N_ge (k := 200) n1 (by omega) (by omega)).2 (by omega)), if_pos (show Y 0 1 0 = 200 from (g_N_eq (k := 200) n1 (by omega) (by omega)).2 e), no 6 (by decide) (by decide)]
        exact g_refuse h _
