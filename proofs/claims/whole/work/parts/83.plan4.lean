/-! ===== the plan: both sides ===== -/
theorem kc_set2 {y : Nat} {Y V : GA} {X S : QS} {a : VA} {k : Nat} {v : Int32} (h : g_C y Y V X S) (ha : a.1 = 6 ∨ a.1 = 31 ∨ a.1 = 32 ∨ a.1 = 33 ∨ a.1 = 34) : g_C y Y V X (q_set S a k v) := by
  rw [w_set]
  exact g_C_scr h (by omega)
def cg (v : Nat → Nat → Int32) (a b h : Nat) (S : QS) : Prop := S.1 (6, 0, 0) 5 = nI (tc v h) ∧ ∀ g, g < h → ¬ v g 7 = 0 → S.1 (31, 0, 0) (tc v g) = nI g ∧ S.1 (32, 0, 0) (tc v g) = v g 7 ∧ S.1 (33, 0, 0) (tc v g) = nI (min (ov v a b g) 100000)
theorem pl_75 {c y : Nat} {Y V : GA} {X : QS} {a b : Nat} (hW : g_W c Y) (n8 : tc (Y 1) (g_n (Y 0 0 0)) ≤ 8) (ha : a ≤ 10000) (hb : b ≤ 10000) (hb1 : 0 < tc (Y 1) (g_n (Y 0 0 0)) → 1 ≤ b) : ∀ (d h p : Nat) (S : QS), g_C y Y V X S → cg (Y 1) a b h S → h + d = g_n (Y 0 0 0) → d < p → ∃ S', b_75_8 p y (nI a) (nI b) (nI h) S = some ((), S') ∧ g_C y Y V X S' ∧ cg (Y 1) a b (g_n (Y 0 0 0)) S'
  | d, h, 0, _, _, _, _, q => by omega
  | 0, h, p + 1, S, hC, hg, hd, q => by
    have n0 := hW.2.1.1
    have n02 := n0.2
    have e : h = g_n (Y 0 0 0) := by omega
    rw [b_75_8, c_n0 hC, if_pos (show Y 0 0 0 ≤ nI h by rw [n0.1]; exact nI_le (by omega) (by omega))]
    rw [e] at hg
    exact ⟨S, rfl, hC, hg⟩
  | d + 1, h, p + 1, S, hC, hg, hd, q => by
    have n0 := hW.2.1.1
    have n02 := n0.2
    have hm := tc_mono (v := Y 1) (show h ≤ g_n (Y 0 0 0) by omega)
    obtain ⟨h6, h3⟩ := id hg
    rw [b_75_8, c_n0 hC, if_neg (show ¬ Y 0 0 0 ≤ nI h by rw [n0.1]; exact nI_ge (by omega) (by omega)), h6]
    by_cases e8 : tc (Y 1) h = 8
    · rw [if_pos (show (8 : Int32) ≤ nI (tc (Y 1) h) by rw [e8]; decide)]
      refine ⟨S, rfl, hC, ?_, fun g hg' e7 => ?_⟩
      · rw [h6]
        congr 1
        omega
      · by_cases e : g < h
        · exact h3 g e e7
        · have h1 := tc_lt hg' e7
          have h2 := tc_mono (v := Y 1) (show h ≤ g by omega)
          omega
    · rw [if_neg (show ¬ (8 : Int32) ≤ nI (tc (Y 1) h) from nI_ge (b := 8) (by omega) (by omega)), c_91 hC (by omega) (by omega), x_bd]
      dsimp only
      rw [c_h7 hC (by omega) (by omega)]
      unfold b_75_94
      rw [nI_1]
      by_cases e7 : Y 1 h 7 = 0
      · rw [if_pos ((hv_le hW (by omega)).2 e7)]
        refine pl_75 hW n8 ha hb hb1 d (h + 1) p S hC ⟨by rw [tc_0 e7]; exact h6, fun g hg' e => ?_⟩ (by omega) (by omega)
        by_cases e2 : g = h
        · rw [e2] at e; exact absurd e7 e
        · exact h3 g (by omega) e
      · have ht := tc_lt (v := Y 1) (show h < g_n (Y 0 0 0) by omega) e7
        rw [if_neg (fun z => e7 ((hv_le hW (by omega)).1 z)), h6, w_in (show tc (Y 1) h < 8 by omega) (by omega), nI_clamp (show tc (Y 1) h < 2 ^ 31 by omega), x_ck, x_let]
        have hC4 : g_C y Y V X (q_set S (31, 0, 0) (tc (Y 1) h) (nI h)) := kc_set2 hC (by omega)
        have a4 : ∀ r : VA, r ≠ (31, 0, 0) → (q_set S (31, 0, 0) (tc (Y 1) h) (nI h)).1 r = S.1 r := fun r hr => g_set_a hr
        have b4 : (q_set S (31, 0, 0) (tc (Y 1) h) (nI h)).1 (31, 0, 0) = upd (S.1 (31, 0, 0)) (tc (Y 1) h) (nI h) := kc_same _ _ _ _
        generalize q_set S (31, 0, 0) (tc (Y 1) h) (nI h) = S4 at hC4 a4 b4
        have k4 : S4.1 (6, 0, 0) 5 = nI (tc (Y 1) h) := by rw [a4 _ (by decide)]; exact h6
        rw [k4, w_in (show tc (Y 1) h < 8 by omega) (by omega), nI_clamp (show tc (Y 1) h < 2 ^ 31 by omega), x_ck, c_h7 hC4 (by omega) (by omega), x_let]
        have hC5 : g_C y Y V X (q_set S4 (32, 0, 0) (tc (Y 1) h) (Y 1 h 7)) := kc_set2 hC4 (by omega)
        have a5 : ∀ r : VA, r ≠ (32, 0, 0) → (q_set S4 (32, 0, 0) (tc (Y 1) h) (Y 1 h 7)).1 r = S4.1 r := fun r hr => g_set_a hr
        have b5 : (q_set S4 (32, 0, 0) (tc (Y 1) h) (Y 1 h 7)).1 (32, 0, 0) = upd (S4.1 (32, 0, 0)) (tc (Y 1) h) (Y 1 h 7) := kc_same _ _ _ _
        generalize q_set S4 (32, 0, 0) (tc (Y 1) h) (Y 1 h 7) = S5 at hC5 a5 b5
        have k5 : S5.1 (6, 0, 0) 5 = nI (tc (Y 1) h) := by rw [a5 _ (by decide)]; exact k4
        rw [pl_76 hW hC5 ha hb (hb1 (by omega)) (by omega) e7, x_bd, k5, w_in (show tc (Y 1) h < 8 by omega) (by omega), nI_clamp (show tc (Y 1) h < 2 ^ 31 by omega), x_ck, x_let]
        have hC6 : g_C y Y V X (q_set S5 (33, 0, 0) (tc (Y 1) h) (nI (min (ov (Y 1) a b h) 100000))) := kc_set2 hC5 (by omega)
        have a6 : ∀ r : VA, r ≠ (33, 0, 0) → (q_set S5 (33, 0, 0) (tc (Y 1) h) (nI (min (ov (Y 1) a b h) 100000))).1 r = S5.1 r := fun r hr => g_set_a hr
        have b6 : (q_set S5 (33, 0, 0) (tc (Y 1) h) (nI (min (ov (Y 1) a b h) 100000))).1 (33, 0, 0) = upd (S5.1 (33, 0, 0)) (tc (Y 1) h) (nI (min (ov (Y 1) a b h) 100000)) := kc_same _ _ _ _
        generalize q_set S5 (33, 0, 0) (tc (Y 1) h) (nI (min (ov (Y 1) a b h) 100000)) = S6 at hC6 a6 b6
        have k6 : S6.1 (6, 0, 0) 5 = nI (tc (Y 1) h) := by rw [a6 _ (by decide)]; exact k5
        rw [k6, nI_1, x_let]
        have hC7 : g_C y Y V X (q_set S6 (6, 0, 0) 5 (nI (tc (Y 1) h + 1))) := kc_set2 hC6 (by omega)
        have a7 : ∀ r : VA, r ≠ (6, 0, 0) → (q_set S6 (6, 0, 0) 5 (nI (tc (Y 1) h + 1))).1 r = S6.1 r := fun r hr => g_set_a hr
        have b7 : (q_set S6 (6, 0, 0) 5 (nI (tc (Y 1) h + 1))).1 (6, 0, 0) 5 = nI (tc (Y 1) h + 1) := by rw [kc_same, pk_us]
        generalize q_set S6 (6, 0, 0) 5 (nI (tc (Y 1) h + 1)) = S7 at hC7 a7 b7
        refine pl_75 hW n8 ha hb hb1 d (h + 1) p S7 hC7 ⟨by rw [tc_1 e7]; exact b7, fun g hg' e => ?_⟩ (by omega) (by omega)
        rw [a7 (31, 0, 0) (by decide), a7 (32, 0, 0) (by decide), a7 (33, 0, 0) (by decide), a6 (31, 0, 0) (by decide), a6 (32, 0, 0) (by decide), b6, a5 (31, 0, 0) (by decide), b5, a5 (33, 0, 0) (by decide), b4, a4 (32, 0, 0) (by decide), a4 (33, 0, 0) (by decide)]
        by_cases e2 : g = h
        · rw [e2, pk_us, pk_us, pk_us]
          exact ⟨rfl, rfl, rfl⟩
        · have := tc_lt (v := Y 1) (show g < h by omega) e
          rw [pk_un (by omega), pk_un (by omega), pk_un (by omega)]
          exact h3 g (by omega) e
theorem pl_141 {c : Nat} {Y V : GA} {Z T : QS} {a b n : Nat} {H : Nat → Nat} (hW : g_W c Y) (hT : g_T Y V Z T) (ha : a ≤ 10000) (hb : b ≤ 10000) (hb1 : 0 < n → 1 ≤ b) (n8 : n ≤ 8) (hH : ∀ k, k < n → H k < g_n (Y 0 0 0) ∧ ¬ Y 1 (H k) 7 = 0 ∧ T.1 (49, 0, 0) k = nI (H k)) : ∀ (d i p : Nat) (g : Nat → Int64), (∀ k, k < i → g k = lN (ov (Y 1) a b (H k))) → i + d = n → d < p →
    ∃ g', b_271_141 p (nI a) (nI b) (nI n) (nI i) (q_rowL T (50, 0, 0) g) = q_bd (f_270 (nI n) (q_rowL T (50, 0, 0) g')) (fun r_8 S_9 => b_271_184 q_N (nI n) 0 0 S_9) ∧ ∀ k, k < n → g' k = lN (ov (Y 1) a b (H k))
  | d, i, 0, _, _, _, q => by omega
  | 0, i, p + 1, g, hg, hd, q => by
    rw [b_271_141, if_pos (nI_le (by omega) (by omega))]
    exact ⟨g, rfl, fun k hk => hg k (by omega)⟩
  | d + 1, i, p + 1, g, hg, hd, q => by
    obtain ⟨q1, q2, q3⟩ := hH i (by omega)
    have hT' : g_T Y V Z (q_rowL T (50, 0, 0) g) := l_T hT
    have e49 : (q_rowL T (50, 0, 0) g).1 (49, 0, 0) i = nI (H i) := q3
    rw [b_271_141, if_neg (nI_ge (by omega) (by omega)), w_in (show i < 40 by omega) (by omega), nI_clamp (show i < 2 ^ 31 by omega), x_ck, x_let, e49, pl_268 hW hT' ha hb (hb1 (by omega)) q1 q2, x_bd, w_in (show i < 8 by omega) (by omega), x_ck, x_let, l_set, nI_1]
    refine pl_141 hW hT ha hb hb1 n8 hH d (i + 1) p _ (fun k hk => ?_) (by omega) (by omega)
    by_cases e : k = i
    · rw [e, pk_uLs]
    · rw [pk_uLn e]
      exact hg k (by omega)
theorem p_plan {c y : Nat} {Y V : GA} {X Z S T : QS} {a b : Nat} (h : g_R c y Y V X Z S T) (n8 : tc (Y 1) (g_n (Y 0 0 0)) ≤ 8) (ha : a ≤ 10000) (hb : b ≤ 10000) (hb1 : 0 < tc (Y 1) (g_n (Y 0 0 0)) → 1 ≤ b) (ht : tl (Y 1) (g_n (Y 0 0 0)) (T.1 (49, 0, 0))) : g_Ok c X Z (b_160_74 (nI a) (nI b) S) (b_271_138 (nI a) (nI b) (nI (tc (Y 1) (g_n (Y 0 0 0)))) T) := by
  obtain ⟨hC, hT, hW, hV, hU⟩ := id h
  have n02 := hW.2.1.1.2
  obtain ⟨n, en⟩ : ∃ n, n = tc (Y 1) (g_n (Y 0 0 0)) := ⟨_, rfl⟩
  have hn : n < 9 := by omega
  have h3 := pb_2n n hn
  have hk : ∀ k, k < n → ∃ g, g < g_n (Y 0 0 0) ∧ ¬ Y 1 g 7 = 0 ∧ tc (Y 1) g = k ∧ g_n (T.1 (49, 0, 0) k) = g ∧ T.1 (49, 0, 0) k = nI g := fun k hk => by
    obtain ⟨g, g1, g2, g3⟩ := tc_sur (v := Y 1) (g_n (Y 0 0 0)) k (by omega)
    have q := ht g g1 g2
    rw [g3] at q
    exact ⟨g, g1, g2, g3, by rw [q, g_n_nI (by omega)], q⟩
  have hH : ∀ k, k < n → g_n (T.1 (49, 0, 0) k) < g_n (Y 0 0 0) ∧ ¬ Y 1 (g_n (T.1 (49, 0, 0) k)) 7 = 0 ∧ T.1 (49, 0, 0) k = nI (g_n (T.1 (49, 0, 0) k)) ∧ tc (Y 1) (g_n (T.1 (49, 0, 0) k)) = k := fun k hk' => by
    obtain ⟨g, g1, g2, g3, g4, g5⟩ := hk k hk'
    rw [g4]
    exact ⟨g1, g2, g5, g3⟩
  generalize eH : (fun k => g_n (T.1 (49, 0, 0) k)) = H at *
  have hH' : ∀ k, k < n → H k < g_n (Y 0 0 0) ∧ ¬ Y 1 (H k) 7 = 0 ∧ T.1 (49, 0, 0) k = nI (H k) ∧ tc (Y 1) (H k) = k := fun k hk' => by
    rw [← eH]
    exact hH k hk'
  obtain ⟨g, r1, r2⟩ := pl_141 (H := H) (n := n) hW hT ha hb (by rw [en]; exact hb1) (by omega) (fun k hk => ⟨(hH' k hk).1, (hH' k hk).2.1, (hH' k hk).2.2.1⟩) n 0 q_N (T.2.1 (50, 0, 0)) (fun k hk => by omega) (by omega) (by unfold q_N; omega)
  rw [l_id] at r1
  have hT1 : g_T Y V Z (q_rowL T (50, 0, 0) g) := l_T hT
  have hpr : pr Y n H (fun k => g_n (Y 1 (H k) 7)) (fun k => ov (Y 1) a b (H k)) (q_rowL T (50, 0, 0) g) := fun i hi => by
    obtain ⟨q1, q2, q3, q4⟩ := hH' i hi
    have q7 := hv_7 hW q1
    refine ⟨by omega, q3, q7.1, q7.2, by rw [l_same]; exact r2 i hi, ov_lt ha (ov_h hW q1 q2).2.1.2⟩
  generalize q_rowL T (50, 0, 0) g = T1 at r1 hT1 hpr
  obtain ⟨T2, F, t1, t2, t3, t4, t5, t6⟩ := pr_270 hn hT1 hpr
  rw [t1, x_bd] at r1
  have hC0 : g_C y Y V X (q_set S (6, 0, 0) 5 0) := kc_set2 hC (by omega)
  have b0 : (q_set S (6, 0, 0) 5 0).1 (6, 0, 0) 5 = nI (tc (Y 1) 0) := by
    rw [kc_same, pk_us]
    rfl
  obtain ⟨S1, s1, s2, s3⟩ := pl_75 hW n8 ha hb hb1 (g_n (Y 0 0 0)) 0 q_N (q_set S (6, 0, 0) 5 0) hC0 ⟨b0, fun g hg => by omega⟩ (by omega) (by unfold q_N; omega)
  have hcp : cp n H (fun k => g_n (Y 1 (H k) 7)) (fun k => ov (Y 1) a b (H k)) S1 := by
    refine ⟨by rw [en]; exact s3.1, fun i hi => ?_⟩
    obtain ⟨q1, q2, q3, q4⟩ := hH' i hi
    have q7 := hv_7 hW q1
    obtain ⟨u1, u2, u3⟩ := s3.2 (H i) q1 q2
    rw [q4] at u1 u2 u3
    exact ⟨u1, u2.trans q7.1, u3, q7.2⟩
  have h6 := hcp.1
  have e1 : nI (2 ^ n) - 1 = nI (2 ^ n - 1) := by
    rw [show (1 : Int32) = nI 1 from rfl, pk_sub h3.1]
  obtain ⟨f, c1, c2⟩ := cp_31 hn s2 hcp t5 (2 ^ n - 1) q_N (upd (S1.1 (34, 0, 0)) (2 ^ n - 1) 0) (Nat.le_refl _) (fun z z1 z2 => by
    have ez : z = 2 ^ n - 1 := by omega
    rw [ez, pk_us, (t5 (2 ^ n - 1) (Nat.zero_le _) (by omega)).2.1 rfl]
    rfl) (by unfold q_N; omega)
  have hC3 : g_C y Y V X (q_row S1 (34, 0, 0) f) := g_C_scr s2 (by omega)
  have hcp3 : cp n H (fun k => g_n (Y 1 (H k) 7)) (fun k => ov (Y 1) a b (H k)) (q_row S1 (34, 0, 0) f) := by
    unfold cp
    rw [w_row_ne (show ((6, 0, 0) : VA) ≠ (34, 0, 0) by decide), w_row_ne (show ((31, 0, 0) : VA) ≠ (34, 0, 0) by decide), w_row_ne (show ((32, 0, 0) : VA) ≠ (34, 0, 0) by decide), w_row_ne (show ((33, 0, 0) : VA) ≠ (34, 0, 0) by decide)]
    exact hcp
  have c34 : ∀ z, z < 2 ^ n → (q_row S1 (34, 0, 0) f).1 (34, 0, 0) z = nI (F z) := fun z hz => by
    rw [w_row_same]
    exact c2 z hz
  generalize q_row S1 (34, 0, 0) f = S3 at c1 hC3 hcp3 c34
  obtain ⟨S4, d1, d2⟩ := g_C_row hC3 (k := 2) (by omega) (m := nI n) (g_N_nI (show n ≤ g_cap 2 by show n ≤ 8; omega) (by decide))
  have d3 : q_set (q_set S3 (7, 0, 0) 1 (nI n)) (7, 0, 0) 2 1 = S4 := by
    have q : some (((), q_set (q_set S3 (7, 0, 0) 1 (nI n)) (7, 0, 0) 2 1) : Unit × QS) = some ((), S4) := d1
    exact (Prod.mk.inj (Option.some.inj q)).2
  have d4 : ∀ r : VA, r ≠ (7, 0, 0) → S4.1 r = S3.1 r := fun r hr => by
    rw [← d3, g_set_a hr, g_set_a hr]
  rw [show f_80 0 (nI n) S3 = _ from d1, x_bd] at c1
  unfold b_160_74 b_271_138
  simp only [w_eta]
  rw [← en, show b_271_141 q_N (nI a) (nI b) (nI n) 0 T = _ from r1, c_now hC]
  unfold f_74 f_75
  rw [x_let, show b_75_8 q_N y (nI a) (nI b) 0 (q_set S (6, 0, 0) 5 0) = _ from s1, x_bd, h6, pb_shl n hn, e1, x_let, w_in (show 2 ^ n - 1 < 256 by omega) (by omega), nI_clamp (show 2 ^ n - 1 < 2 ^ 31 by omega), x_ck, x_let, x_let, w_set, Int32.sub_eq_add_neg, show b_74_31 q_N (nI (2 ^ n - 1) + -1) (q_row S1 (34, 0, 0) (upd (S1.1 (34, 0, 0)) (2 ^ n - 1) 0)) = _ from c1]
  exact pl_ord (H := H) hn t5 n 0 0 q_N q_N Y V S4 T2 d2 t2 hW hV hU (by
    unfold cp
    rw [d4 _ (by decide), d4 _ (by decide), d4 _ (by decide), d4 _ (by decide)]
    exact hcp3) (by rw [d4 _ (by decide)]; exact c34) t3 t4 t6 rfl (by omega) (by omega) (by unfold q_N; omega) (by unfold q_N; omega)
theorem jj_160 {c y : Nat} {Y V : GA} {X Z S T : QS} (h : g_R c y Y V X Z S T) (x z : Int32) : g_Ok c X Z (f_160 x z S) (f_271 x z T) := by
  obtain ⟨hC, hT, hW, hV, hU⟩ := id h
  have n0 := hW.2.1.1
  have n02 := n0.2
  have r6 : g_Ok c X Z (b_160_22 S) (b_271_22 T) := by
    unfold b_160_22 b_271_22
    rw [w_eta, w_eta]
    exact g_refuse h _
  unfold f_160 f_271 f_189
  by_cases h1 : x < 0
  · rw [if_pos h1, if_pos h1, x_bd, if_pos rfl]
    exact r6
  · rw [if_neg h1, if_neg h1]
    by_cases h2 : x ≤ 10000
    · rw [if_neg ((g_nle _ _).1 h2), if_neg ((g_nle _ _).1 h2), x_bd, if_neg (show ¬ (1 : Int32) = 0 by decide)]
      by_cases h3 : z < 0
      · rw [if_pos h3, if_pos h3, x_bd, if_neg (show ¬ ¬ (0 : Int32) = 0 from fun q => q rfl)]
        exact r6
      · rw [if_neg h3, if_neg h3]
        by_cases h4 : z ≤ 10000
        · rw [if_pos h4, if_neg ((g_nle _ _).1 h4), x_bd, if_pos (show ¬ (1 : Int32) = 0 by decide)]
          obtain ⟨a, ha, rfl⟩ := nI_of2 (M := 10000) (n := 10000) (by decide) h1 h2
          obtain ⟨b, hb, rfl⟩ := nI_of2 (M := 10000) (n := 10000) (by decide) h3 h4
          have hb0 : nI b = 0 ↔ b = 0 := nI_eq (b := 0) (by omega) (by omega)
          obtain ⟨f, x4, a1, a2, a3⟩ := pl_45 hW hT (nI a) (nI b) (g_n (Y 0 0 0)) 0 q_N (T.1 (49, 0, 0)) (if nI b = 0 then 1 else 0) (fun g hg => by omega) (by
            by_cases e : nI b = 0
            · rw [if_pos e]
              exact Or.inr ⟨rfl, Or.inl e⟩
            · rw [if_neg e]
              exact Or.inl ⟨rfl, e, fun g hg => by omega⟩) (by omega) (by unfold q_N; omega)
          rw [w_row_id] at a1
          have hle := tc_le (v := Y 1) (g_n (Y 0 0 0))
          have hT1 : g_T Y V Z (q_row T (49, 0, 0) f) := g_T_scr hT (by omega)
          have f49 : (q_row T (49, 0, 0) f).1 (49, 0, 0) = f := w_row_same _ _ _
          generalize q_row T (49, 0, 0) f = T1 at a1 hT1 f49
          have h' : g_R c y Y V X Z S T1 := ⟨hC, hT1, hW, hV, hU⟩
          rw [b_271_45, w_i0, w_c0, t_n0 hT1, x_ck, x_let, if_pos (show Y 0 0 0 ≤ nI (g_n (Y 0 0 0)) by rw [← n0.1]; exact Int32.le_refl _)] at a1
          have ref : (if ¬ nI b = 0 then b_271_40 (nI a) (nI b) 0 0 T else b_271_40 (nI a) (nI b) 0 1 T) = b_271_45 q_N (nI a) (nI b) (nI (tc (Y 1) 0)) (if nI b = 0 then 1 else 0) (nI 0) T := by
            unfold b_271_40
            by_cases e : nI b = 0
            · rw [if_neg (show ¬ ¬ nI b = 0 from fun q => q e), if_pos e]
              rfl
            · rw [if_pos e, if_neg e]
              rfl
          rw [ref, a1, c_now hC]
          unfold f_113
          rw [show b_113_4 q_N y 0 0 S = _ from pl_113 hW hC (g_n (Y 0 0 0)) 0 q_N (by omega) (by unfold q_N; omega), x_bd]
          by_cases h8 : tc (Y 1) (g_n (Y 0 0 0)) ≤ 8
          · rw [if_pos (show nI (tc (Y 1) (g_n (Y 0 0 0))) ≤ 8 from nI_le (b := 8) h8 (by omega)), if_pos (show nI (tc (Y 1) (g_n (Y 0 0 0))) ≤ 8 from nI_le (b := 8) h8 (by omega)), c_now hC]
            unfold f_114
            have go : (0 < tc (Y 1) (g_n (Y 0 0 0)) → 1 ≤ b) → g_Ok c X Z (b_160_74 (nI a) (nI b) S) (b_271_138 (nI a) (nI b) (nI (tc (Y 1) (g_n (Y 0 0 0)))) T1) := fun hb1 => p_plan h' h8 ha hb hb1 (by rw [f49]; exact a2)
            have no : g_Ok c X Z (b_160_68 S) (q_bd (f_186 4 T1) (fun r_25 S_26 => some (r_25, S_26))) := by
              unfold b_160_68
              rw [w_eta, w_eta]
              exact g_refuse h' _
            have hle0 : nI (tc (Y 1) (g_n (Y 0 0 0))) ≤ 0 ↔ tc (Y 1) (g_n (Y 0 0 0)) = 0 := by
              rw [show (0 : Int32) = nI 0 from rfl, nI_leI (by omega) (by omega)]
              omega
            rcases pl_114 hW hC (g_n (Y 0 0 0)) 0 q_N (fun g hg => by omega) (by omega) (by unfold q_N; omega) with ⟨e1, g, g1, g2, g3⟩ | ⟨e1, hwo⟩
            · have hpos := tc_lt g1 g2
              rw [show b_114_2 q_N y 0 S = _ from e1, x_bd, if_pos (by decide), if_neg (fun q => by have := hle0.1 q; omega)]
              rcases a3 with ⟨b1, b2, b3⟩ | ⟨b1, b2⟩
              · exact absurd g3 (b3 g g1 g2)
              · rw [b1, if_neg (by decide)]
                exact no
            · rw [show b_114_2 q_N y 0 S = _ from e1, x_bd, if_neg (show ¬ ¬ (0 : Int32) = 0 from fun q => q rfl)]
              by_cases eb : nI b = 0
              · rw [if_neg (show ¬ ¬ nI b = 0 from fun q => q eb)]
                by_cases e0 : tc (Y 1) (g_n (Y 0 0 0)) = 0
                · rw [if_pos (hle0.2 e0), if_pos (hle0.2 e0)]
                  exact go (fun q => by omega)
                · rw [if_neg (fun q => e0 (hle0.1 q)), if_neg (fun q => e0 (hle0.1 q))]
                  rcases a3 with ⟨b1, b2, b3⟩ | ⟨b1, b2⟩
                  · exact absurd eb b2
                  · rw [b1, if_neg (by decide)]
                    exact no
              · rw [if_pos eb]
                have hb1 : 1 ≤ b := by
                  have : ¬ b = 0 := fun q => eb (hb0.2 q)
                  omega
                have e4 : x4 = 0 := by
                  rcases a3 with ⟨b1, b2, b3⟩ | ⟨b1, b2 | ⟨g, g1, g2, g3⟩⟩
                  · exact b1
                  · exact absurd b2 eb
                  · exact absurd g3 (hwo g g1 g2)
                rw [if_pos e4]
                by_cases e0 : tc (Y 1) (g_n (Y 0 0 0)) = 0
                · rw [if_pos (hle0.2 e0)]
                  exact go (fun _ => hb1)
                · rw [if_neg (fun q => e0 (hle0.1 q))]
                  exact go (fun _ => hb1)
          · rw [if_neg (show ¬ nI (tc (Y 1) (g_n (Y 0 0 0))) ≤ 8 from nI_ge (a := 8) (by omega) (by omega)), if_neg (show ¬ nI (tc (Y 1) (g_n (Y 0 0 0))) ≤ 8 from nI_ge (a := 8) (by omega) (by omega)), w_eta, w_eta]
            exact g_refuse h' _
        · rw [if_neg h4, if_pos (show 10000 < z from Decidable.byContradiction (fun q => h4 ((g_nle _ _).2 q))), x_bd, if_neg (show ¬ ¬ (0 : Int32) = 0 from fun q => q rfl)]
          exact r6
    · rw [if_pos (show 10000 < x from Decidable.byContradiction (fun q => h2 ((g_nle _ _).2 q))), if_pos (show 10000 < x from Decidable.byContradiction (fun q => h2 ((g_nle _ _).2 q))), x_bd, if_pos rfl]
      exact r6
