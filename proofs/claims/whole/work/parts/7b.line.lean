/-! ===== line ===== -/
theorem ln_mo {c y : Nat} {Y V : GA} {X Z S T : QS} (h : g_R c y Y V X Z S T) (x : Int32) : ∃ cm, (∀ K : Int32 → QS → Option (Int32 × QS), (if x = -1 then K 0 S else q_bd (f_174 x S) (fun r S1 => if ¬ r = 0 then K r S1 else q_bd (f_93 S1.2.2.1.1 x S1) (fun r1 S2 => q_bd (f_86 r1.1 r1.2 S2) (fun r2 S3 => if ¬ r2 = 0 then K r S3 else K 3 S3)))) = K cm S) ∧ f_239 x 1 T = some (cm, T) ∧ ((cm = 0 ∧ (x = -1 ∨ ∃ p, p < g_n (Y 0 2 0) ∧ x = nI p ∧ Y 6 p 0 ≤ 2)) ∨ (¬ cm = 0 ∧ ¬ cm ≤ 0)) := by
  obtain ⟨hC, hT, hW, hV, hU⟩ := id h
  unfold f_239
  by_cases hx : x = -1
  · refine ⟨0, fun K => if_pos hx, ?_, Or.inl ⟨rfl, Or.inl hx⟩⟩
    rw [if_neg (fun q => q hx)]
  · rw [if_pos hx, t_199 hT, x_bd]
    rcases g_tw_cases hW x with q | ⟨q, p, b1, b2, rfl⟩
    · refine ⟨g_tw Y x, fun K => ?_, ?_, Or.inr ⟨g_12a q, g_12b q⟩⟩
      · rw [if_neg hx, c_174 hC, x_bd, if_pos (g_12a q)]
      · rw [if_neg (g_12b q)]
    · have hk := (hW.2.2.2.2.2.2.2.2.1 p b1).1
      rw [q, if_pos (by decide), if_neg (by decide), e_204 hT b2, x_bd]
      have ck : ∀ K : Int32 → QS → Option (Int32 × QS), (if nI p = -1 then K 0 S else q_bd (f_174 (nI p) S) (fun r S1 => if ¬ r = 0 then K r S1 else q_bd (f_93 S1.2.2.1.1 (nI p) S1) (fun r1 S2 => q_bd (f_86 r1.1 r1.2 S2) (fun r2 S3 => if ¬ r2 = 0 then K r S3 else K 3 S3)))) = if ¬ g_qn (Y 6 p 0) = 0 then K 0 S else K 3 S := by
        intro K
        rw [if_neg hx, c_174 hC, x_bd, q, if_neg (by decide), c_now hC, c_93 hC b1 b2, x_bd]
        dsimp only
        rw [e_86 hC b1 b2 hk, x_bd]
      by_cases e : g_qn (Y 6 p 0) = 0
      · refine ⟨3, fun K => ?_, if_pos e, Or.inr ⟨by decide, by decide⟩⟩
        rw [ck, if_neg (fun z => z e)]
      · refine ⟨0, fun K => ?_, if_neg e, Or.inl ⟨rfl, Or.inr ⟨p, b1, rfl, ?_⟩⟩⟩
        · rw [ck, if_pos e]
        · rcases g_qn_1 hk e with z | z | z <;> rw [z] <;> decide
theorem ln_fa {c y : Nat} {Y V : GA} {X Z S T : QS} (h : g_R c y Y V X Z S T) (x : Int32) : ∃ cm, (∀ K : Int32 → QS → Option (Int32 × QS), (if x = -1 then K 0 S else q_bd (f_174 x S) (fun r S1 => if ¬ r = 0 then K r S1 else q_bd (f_93 S1.2.2.1.1 x S1) (fun r1 S2 => if (S2.1 (8, r1.1, r1.2) 0) = 3 then K r S2 else K 3 S2))) = K cm S) ∧ f_239 x 0 T = some (cm, T) ∧ ((cm = 0 ∧ (x = -1 ∨ ∃ p, p < g_n (Y 0 2 0) ∧ x = nI p ∧ Y 6 p 0 = 3)) ∨ (¬ cm = 0 ∧ ¬ cm ≤ 0)) := by
  obtain ⟨hC, hT, hW, hV, hU⟩ := id h
  unfold f_239
  by_cases hx : x = -1
  · refine ⟨0, fun K => if_pos hx, ?_, Or.inl ⟨rfl, Or.inl hx⟩⟩
    rw [if_neg (fun q => q hx)]
  · rw [if_pos hx, t_199 hT, x_bd]
    rcases g_tw_cases hW x with q | ⟨q, p, b1, b2, rfl⟩
    · refine ⟨g_tw Y x, fun K => ?_, ?_, Or.inr ⟨g_12a q, g_12b q⟩⟩
      · rw [if_neg hx, c_174 hC, x_bd, if_pos (g_12a q)]
      · rw [if_neg (g_12b q)]
    · rw [q, if_pos (by decide), if_pos rfl, t_192_0 hT b2, x_bd]
      have ck : ∀ K : Int32 → QS → Option (Int32 × QS), (if nI p = -1 then K 0 S else q_bd (f_174 (nI p) S) (fun r S1 => if ¬ r = 0 then K r S1 else q_bd (f_93 S1.2.2.1.1 (nI p) S1) (fun r1 S2 => if (S2.1 (8, r1.1, r1.2) 0) = 3 then K r S2 else K 3 S2))) = if Y 6 p 0 = 3 then K 0 S else K 3 S := by
        intro K
        rw [if_neg hx, c_174 hC, x_bd, q, if_neg (by decide), c_now hC, c_93 hC b1 b2, x_bd]
        dsimp only
        rw [c_t0 hC b1 b2]
      by_cases e : Y 6 p 0 = 3
      · refine ⟨0, fun K => ?_, ?_, Or.inl ⟨rfl, Or.inr ⟨p, b1, rfl, e⟩⟩⟩
        · rw [ck, if_pos e]
        · rw [if_neg (fun z => z e)]
      · refine ⟨3, fun K => ?_, ?_, Or.inr ⟨by decide, by decide⟩⟩
        · rw [ck, if_neg e]
        · rw [if_pos e]
theorem ln_clr {T : QS} (x1 x2 x3 : Int32) : ∀ (m k p : Nat) (f : Nat → Int32), (∀ j, j < k → f j = 0) → k + m = 200 → m < p → ∃ f', b_240_63 p x1 x2 x3 (nI k) (q_row T (48, 0, 0) f) = b_240_63 1 x1 x2 x3 (nI 200) (q_row T (48, 0, 0) f') ∧ ∀ j, j < 200 → f' j = 0
  | m, k, 0, _, _, _, h => by omega
  | 0, k, p + 1, f, hf, hm, h => by
    refine ⟨f, ?_, fun j hj => hf j (by omega)⟩
    have : k = 200 := by omega
    subst this
    rw [b_240_63, b_240_63, if_pos (show (200 : Int32) ≤ nI 200 from by decide), if_pos (show (200 : Int32) ≤ nI 200 from by decide)]
  | m + 1, k, p + 1, f, hf, hm, h => by
    rw [b_240_63, if_neg (show ¬ (200 : Int32) ≤ nI k from nI_ge (b := 200) (by omega) (by omega)), w_in (by omega) (by omega), nI_clamp (by omega), x_ck, x_let, dp_set, nI_1]
    refine ln_clr x1 x2 x3 m (k + 1) p _ (fun j hj => ?_) (by omega) (by omega)
    by_cases e : j = k
    · subst e; rw [pk_us]
    · rw [pk_un e]; exact hf j (by omega)
theorem ln_154 {Y V : GA} {Z T : QS} {n : Nat} {D : Nat → Nat} (hn : n ≤ 200) (h2 : Y 0 2 0 = nI n) (hT : g_T Y V Z T) (hD : dp_r n (T.1 (46, 0, 0)) D 16) (x1 x2 x3 x5 x6 : Int32) : ∀ (m k p : Nat) (fl : Int32), (fl = 0 ∨ fl = 1) → k + m = n → m < p → ∃ fl', b_240_154 p x1 x2 x3 x5 x6 fl (nI k) T = b_240_154 1 x1 x2 x3 x5 x6 fl' (nI n) T ∧ (fl' = 0 ∨ fl' = 1) ∧ (fl' = 0 ↔ fl = 0 ∧ ∀ j, k ≤ j → j < n → D j ≤ 15)
  | m, k, 0, _, _, _, h => by omega
  | 0, k, p + 1, fl, hf, hm, h => by
    have : k = n := by omega
    subst this
    refine ⟨fl, ?_, hf, ⟨fun e => ⟨e, fun j a b => by omega⟩, fun e => e.1⟩⟩
    rw [b_240_154, b_240_154, w_i2, w_c2, t_n2 hT, h2]
    simp only [x_ck, x_let]
    rw [if_pos (nI_le (Nat.le_refl _) (by omega)), if_pos (nI_le (Nat.le_refl _) (by omega))]
  | m + 1, k, p + 1, fl, hf, hm, h => by
    obtain ⟨a1, a2⟩ := hD k (by omega)
    rw [b_240_154, w_i2, w_c2, t_n2 hT, h2, x_ck, x_let, if_neg (nI_ge (by omega) (by omega)), w_in (show k < 200 by omega) (by omega), nI_clamp (by omega), x_ck, x_let, a1]
    unfold b_240_182 b_240_187
    rw [nI_1]
    rcases hf with e | e
    · rw [if_neg (fun q => q e)]
      by_cases hd : D k ≤ 15
      · rw [if_pos (show nI (D k) ≤ 15 from (show nI (D k) ≤ nI 15 from nI_le hd (by omega)))]
        obtain ⟨fl', b1, b2, b3⟩ := ln_154 hn h2 hT hD x1 x2 x3 x5 x6 m (k + 1) p 0 (Or.inl rfl) (by omega) (by omega)
        refine ⟨fl', b1, b2, b3.trans ⟨fun q => ⟨e, fun j c1 c2 => ?_⟩, fun q => ⟨rfl, fun j c1 c2 => q.2 j (by omega) c2⟩⟩⟩
        by_cases ej : j = k
        · rw [ej]; exact hd
        · exact q.2 j (by omega) c2
      · rw [if_neg (show ¬ nI (D k) ≤ 15 from (show ¬ nI (D k) ≤ nI 15 from nI_ge (by omega) (by omega)))]
        obtain ⟨fl', b1, b2, b3⟩ := ln_154 hn h2 hT hD x1 x2 x3 x5 x6 m (k + 1) p 1 (Or.inr rfl) (by omega) (by omega)
        exact ⟨fl', b1, b2, b3.trans ⟨fun q => absurd q.1 (by decide), fun q => absurd (q.2 k (Nat.le_refl _) (by omega)) hd⟩⟩
    · rw [if_pos (show ¬ fl = 0 by rw [e]; decide)]
      obtain ⟨fl', b1, b2, b3⟩ := ln_154 hn h2 hT hD x1 x2 x3 x5 x6 m (k + 1) p 1 (Or.inr rfl) (by omega) (by omega)
      exact ⟨fl', b1, b2, b3.trans ⟨fun q => absurd q.1 (by decide), fun q => absurd q.1 (by rw [e]; decide)⟩⟩
theorem ln_193 {Y V : GA} {Z T : QS} (h : g_T Y V Z T) {k : Nat} (h4 : k < 200) (v w : Int32) : ∃ T1 T2, f_193 (nI k) 2 v T = some ((), T1) ∧ f_193 (nI k) 3 w T1 = some ((), T2) ∧ g_T (g_up (g_up Y 6 k 2 v) 6 k 3 w) V Z T2 ∧ T2.1 (46, 0, 0) = T.1 (46, 0, 0) := by
  have a := g_T_set (r := 6) (i := k) (j := 2) v h (by omega) ⟨h4, by omega⟩ (by omega)
  exact ⟨_, _, r_193 (h := k) (w := 2) h4 (by omega) v T, r_193 (h := k) (w := 3) h4 (by omega) w _, g_T_set (r := 6) (i := k) (j := 3) w a (by omega) ⟨h4, by omega⟩ (by omega), rfl⟩
theorem ln_63 {y n : Nat} {V Y1 : GA} {X Z T : QS} {f : Nat → Int32} (hn : n ≤ 200) (h2 : Y1 0 2 0 = nI n) : ∀ (m k p : Nat) (Yc : GA) (S : QS), g_C y Yc V X S → g_T Yc V Z T → S.1 (27, 0, 0) = f → (∀ r, r ≠ 8 → Yc r = Y1 r) → (∀ j, j < k → Yc 8 j 0 = f j) → k + m = n → m < p → ∃ Y2 S', b_63_2 p y (nI k) S = some ((), S') ∧ g_C y Y2 V X S' ∧ g_T Y2 V Z T ∧ (∀ r, r ≠ 8 → Y2 r = Y1 r) ∧ (∀ j, j < n → Y2 8 j 0 = f j)
  | m, k, 0, _, _, _, _, _, _, _, _, h => by omega
  | 0, k, p + 1, Yc, S, hC, hT, hf, hr, hj, hm, h => by
    have e0 : Yc 0 2 0 = nI n := by rw [hr 0 (by omega)]; exact h2
    rw [b_63_2, c_n2 hC, e0, if_pos (nI_le (by omega) (by omega))]
    exact ⟨Yc, S, rfl, hC, hT, hr, fun j hj' => hj j (by omega)⟩
  | m + 1, k, p + 1, Yc, S, hC, hT, hf, hr, hj, hm, h => by
    have e0 : Yc 0 2 0 = nI n := by rw [hr 0 (by omega)]; exact h2
    have en : g_n (Yc 0 2 0) = n := by rw [e0, g_n_nI (by omega)]
    rw [b_63_2, c_n2 hC, e0, if_neg (nI_ge (by omega) (by omega)), c_93 hC (by omega) (by omega), x_bd]
    dsimp only
    rw [w_in (by omega) (by omega), nI_clamp (by omega), x_ck, x_let, hf]
    obtain ⟨S1, e1, hC1⟩ := cs_d hC (show k < 200 by omega) (f k)
    rw [e1, x_let, nI_1]
    refine ln_63 hn h2 m (k + 1) p _ S1 hC1 (g_T_dep hT) ?_ ?_ ?_ (by omega) (by omega)
    · rw [← e1, ← hf]
      rfl
    · intro r h8
      rw [g_up_r h8]
      exact hr r h8
    · intro j hj'
      by_cases e : j = k
      · subst e; exact g_up_same _ _ _ _ _
      · rw [g_up_ne (by omega)]
        exact hj j (by omega)
theorem ln_171 {c y : Nat} {Y V : GA} {X S S' : QS} (hC : g_C y Y V X S) (hW : g_W c Y) (h : f_171 S = some ((), S')) : S'.1 (27, 0, 0) = S.1 (27, 0, 0) := by
  obtain ⟨S1, e1, a1, _⟩ := c_90 hC hW
  unfold f_171 at h
  rw [hC.1.1, hC.1.2.1, e1, x_bd, x_let] at h
  have e := congrArg Prod.snd (Option.some.inj h)
  have e' : S' = q_set S1 (10, 0, 0) 2 1 := e.symm
  rw [e']
  exact a1 (27, 0, 0) (fun q => absurd q.2 (by decide))
theorem ln_188 {T T' : QS} (h : f_188 T = some ((), T')) : T'.1 (46, 0, 0) = T.1 (46, 0, 0) := by
  rw [r_188] at h
  have e : _ = T' := congrArg Prod.snd (Option.some.inj h)
  rw [← e]
  rfl
theorem ln_W {c : Nat} {Y Y2 : GA} {t : Nat} {x2 x3 : Int32} {A : Nat → Nat} (hW : g_W c Y) (ht : t < g_n (Y 0 2 0)) (hr : ∀ r, r ≠ 8 → r ≤ 8 → Y2 r = g_up (g_up Y 6 t 2 x2) 6 t 3 x3 r) (h2 : x2 = -1 ∨ ∃ p, p < g_n (Y 0 2 0) ∧ x2 = nI p ∧ Y 6 p 0 ≤ 2) (h3 : x3 = -1 ∨ ∃ p, p < g_n (Y 0 2 0) ∧ x3 = nI p ∧ Y 6 p 0 = 3) (h8 : ∀ j, j < g_n (Y 0 2 0) → Y2 8 j 0 = nI (A j) ∧ A j ≤ 15) (hA : ∀ x, x < g_n (Y 0 2 0) → A x = dp_q (g_up (g_up Y 6 t 2 x2) 6 t 3 x3) A x) : g_W c Y2 := by
  have n2 := hW.2.1.2.2.1
  have n22 := n2.2
  obtain ⟨a1, a2, a3, a4, a5, a6, a7, a8, a9, a10, a11, a12, a13⟩ := hW
  have r0 : Y2 0 = Y 0 := hr 0 (by omega) (by omega)
  have r1 : Y2 1 = Y 1 := hr 1 (by omega) (by omega)
  have r2 : Y2 2 = Y 2 := hr 2 (by omega) (by omega)
  have r3 : Y2 3 = Y 3 := hr 3 (by omega) (by omega)
  have r4 : Y2 4 = Y 4 := hr 4 (by omega) (by omega)
  have r5 : Y2 5 = Y 5 := hr 5 (by omega) (by omega)
  have r6 : Y2 6 = g_up (g_up Y 6 t 2 x2) 6 t 3 x3 6 := hr 6 (by omega) (by omega)
  have w6 : ∀ k w, w ≠ 2 → w ≠ 3 → Y2 6 k w = Y 6 k w := fun k w b1 b2 => by rw [r6, g_up_ne (by omega), g_up_ne (by omega)]
  have w2 : ∀ k, Y2 6 k 2 = if k = t then x2 else Y 6 k 2 := fun k => by
    rw [r6, g_up_ne (by omega)]
    by_cases e : k = t
    · rw [if_pos e, e]; exact g_up_same _ _ _ _ _
    · rw [if_neg e, g_up_ne (by omega)]
  have w3 : ∀ k, Y2 6 k 3 = if k = t then x3 else Y 6 k 3 := fun k => by
    rw [r6]
    by_cases e : k = t
    · rw [if_pos e, e]; exact g_up_same _ _ _ _ _
    · rw [if_neg e, g_up_ne (by omega), g_up_ne (by omega)]
  have m2 : g_M x2 (g_n (Y 0 2 0)) := by
    rcases h2 with e | ⟨p, hp, e, _⟩
    · exact Or.inl e
    · exact Or.inr ⟨p, hp, e⟩
  have m3 : g_M x3 (g_n (Y 0 2 0)) := by
    rcases h3 with e | ⟨p, hp, e, _⟩
    · exact Or.inl e
    · exact Or.inr ⟨p, hp, e⟩
  have M2 : ∀ k, k < g_n (Y 0 2 0) → g_M (Y2 6 k 2) (g_n (Y 0 2 0)) := fun k hk => by
    rw [w2 k]
    by_cases e : k = t
    · rw [if_pos e]; exact m2
    · rw [if_neg e]; exact (a9 k hk).2.2.1
  have M3 : ∀ k, k < g_n (Y 0 2 0) → g_M (Y2 6 k 3) (g_n (Y 0 2 0)) := fun k hk => by
    rw [w3 k]
    by_cases e : k = t
    · rw [if_pos e]; exact m3
    · rw [if_neg e]; exact (a9 k hk).2.2.2.1
  unfold g_W g_V
  rw [r0, r1, r2, r3, r4, r5]
  refine ⟨a1, a2, a3, a4, a5, a6, a7, a8, ?_, a10, ?_, ?_, ?_⟩
  · intro k hk
    obtain ⟨q0, q1, q2, q3, q4, q6, q7⟩ := a9 k hk
    rw [w6 k 0 (by omega) (by omega), w6 k 1 (by omega) (by omega), w6 k 4 (by omega) (by omega), w6 k 6 (by omega) (by omega), w6 k 7 (by omega) (by omega)]
    exact ⟨q0, q1, M2 k hk, M3 k hk, q4, q6, q7⟩
  · obtain ⟨b1, b2, b3⟩ := a11
    refine ⟨b1, ?_, ?_⟩
    · intro s s' hs hs'
      rw [w6 s 7 (by omega) (by omega), w6 s' 7 (by omega) (by omega)]
      exact b2 s s' hs hs'
    · intro h s hh hs
      rw [w6 s 7 (by omega) (by omega)]
      exact b3 h s hh hs
  · intro k hk
    obtain ⟨e8, l8⟩ := h8 k hk
    have pd : ∀ x, g_M x (g_n (Y 0 2 0)) → g_pd (Y2 8) x = dp_p A x := by
      intro x hx
      unfold g_pd dp_p
      rcases hx with rfl | ⟨j, hj, rfl⟩
      · rfl
      · rw [if_neg (g_nI_m1 (by omega)), if_neg (g_nI_m1 (by omega)), g_n_nI (by omega), (h8 j hj).1, g_n_nI (by have := (h8 j hj).2; omega)]
    refine ⟨by rw [e8]; exact g_N_nI l8 (by omega), ?_, ?_, ?_⟩
    · rw [e8, g_n_nI (by omega), pd _ (M2 k hk), pd _ (M3 k hk), r6]
      exact hA k hk
    · rw [w2 k, w6 _ 0 (by omega) (by omega)]
      by_cases e : k = t
      · rw [if_pos e]
        rcases h2 with q | ⟨p, hp, q, hq⟩
        · exact fun z => absurd q z
        · intro _
          rw [q, g_n_nI (by omega)]
          exact hq
      · rw [if_neg e]
        exact (a12 k hk).2.2.1
    · rw [w3 k, w6 _ 0 (by omega) (by omega)]
      by_cases e : k = t
      · rw [if_pos e]
        rcases h3 with q | ⟨p, hp, q, hq⟩
        · exact fun z => absurd q z
        · intro _
          rw [q, g_n_nI (by omega)]
          exact hq
      · rw [if_neg e]
        exact (a12 k hk).2.2.2
  · unfold g_wN at a13 ⊢
    rw [show (fun k => Y2 6 k 6) = (fun k => Y 6 k 6) from funext (fun k => w6 k 6 (by omega) (by omega))]
    exact a13
theorem ln_back {Y : GA} {t : Nat} {x2 x3 m f : Int32} (hm : Y 6 t 2 = m) (hf : Y 6 t 3 = f) : g_up (g_up (g_up (g_up Y 6 t 2 x2) 6 t 3 x3) 6 t 2 m) 6 t 3 f = Y := by
  rw [g_up_comm (Y := g_up Y 6 t 2 x2) (by omega), g_up_up, g_up_up, g_up_id hm, g_up_id hf]
