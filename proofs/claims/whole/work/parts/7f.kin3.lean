/-! ===== kin: the class gathers ===== -/
theorem kc_set {y : Nat} {Y V : GA} {X S : QS} {a : VA} {k : Nat} {v : Int32} (h : g_C y Y V X S) (ha : a.1 = 5 ∨ a.1 = 26 ∨ a.1 = 28 ∨ a.1 = 29 ∨ a.1 = 30) : g_C y Y V X (q_set S a k v) := by
  rw [w_set]
  exact g_C_scr h (by omega)
theorem kc_same (S : QS) (a : VA) (k : Nat) (v : Int32) : (q_set S a k v).1 a = upd (S.1 a) k v := if_pos rfl
def kg (n m : Nat) (S : QS) : Prop := S.1 (5, 0, 0) 4 = nI m ∧ (∀ t, t < n → S.1 (26, 0, 0) t = 0 ∨ S.1 (26, 0, 0) t = 1) ∧ dp_s (fun t => g_n (S.1 (26, 0, 0) t)) n = m ∧ (∀ i, i < m → ∃ t, t < n ∧ S.1 (28, 0, 0) i = nI t ∧ S.1 (26, 0, 0) t = 1) ∧ (∀ i j, i < m → j < m → S.1 (28, 0, 0) i = S.1 (28, 0, 0) j → i = j) ∧ (∀ t, t < n → S.1 (26, 0, 0) t = 1 → ∃ i, i < m ∧ S.1 (28, 0, 0) i = nI t)
theorem kg_le {n m : Nat} {S : QS} (h : kg n m S) : m ≤ n := by
  have q : dp_s (fun t => g_n (S.1 (26, 0, 0) t)) n ≤ 1 * n := dp_s_le (fun j hj => by
    show g_n (S.1 (26, 0, 0) j) ≤ 1
    rcases h.2.1 j hj with e | e <;> (rw [e]; decide))
  have := h.2.2.1
  omega
theorem kg_66 {y : Nat} {Y V : GA} {X S : QS} {n m : Nat} {x : Int32} (hn : n ≤ 200) (hC : g_C y Y V X S) (hx : g_M x n) (hg : kg n m S) : ∃ S' m', f_66 x S = some ((), S') ∧ g_C y Y V X S' ∧ kg n m' S' ∧ m ≤ m' ∧ (∀ i, i < m → S'.1 (28, 0, 0) i = S.1 (28, 0, 0) i) ∧ (∀ t, t < n → S.1 (26, 0, 0) t = 1 → S'.1 (26, 0, 0) t = 1) ∧ (∀ p, p < n → x = nI p → S'.1 (26, 0, 0) p = 1) := by
  unfold f_66
  rcases hx with rfl | ⟨p, hp, rfl⟩
  · rw [if_pos rfl]
    exact ⟨S, m, rfl, hC, hg, Nat.le_refl _, fun _ _ => rfl, fun _ _ q => q, fun p hp e => absurd e.symm (g_nI_m1 (by omega))⟩
  · rw [if_neg (g_nI_m1 (by omega)), w_in (by omega) (by omega), nI_clamp (by omega), x_ck, x_let]
    obtain ⟨h1, h2, h3, h4, h5, h6⟩ := id hg
    have hD : ∀ j, j < n → (fun t => g_n (S.1 (26, 0, 0) t)) j ≤ 1 := fun j hj => by
      show g_n (S.1 (26, 0, 0) j) ≤ 1
      rcases h2 j hj with e | e <;> (rw [e]; decide)
    by_cases h0 : S.1 (26, 0, 0) p = 0
    · have hm : m < n := by
        rw [← h3]
        exact kn_lt1 hD hp (by show g_n (S.1 (26, 0, 0) p) = 0; rw [h0]; rfl)
      rw [if_neg (fun q => q h0), h1, if_neg (show ¬ (200 : Int32) ≤ nI m from nI_ge (b := 200) (by omega) (by omega)), show (true && v_bool 1) = true from by decide, x_ck, x_let, g_set_a (show ((5, 0, 0) : VA) ≠ (26, 0, 0) from by decide), h1, w_in (by omega) (by omega), nI_clamp (by omega), x_ck, x_let, x_let, g_set_a (show ((5, 0, 0) : VA) ≠ (28, 0, 0) from by decide), g_set_a (show ((5, 0, 0) : VA) ≠ (26, 0, 0) from by decide), h1, nI_1]
      have r26 : (q_set (q_set (q_set S (26, 0, 0) p 1) (28, 0, 0) m (nI p)) (5, 0, 0) 4 (nI (m + 1))).1 (26, 0, 0) = upd (S.1 (26, 0, 0)) p 1 := by
        rw [g_set_a (by decide), g_set_a (by decide), kc_same]
      have r28 : (q_set (q_set (q_set S (26, 0, 0) p 1) (28, 0, 0) m (nI p)) (5, 0, 0) 4 (nI (m + 1))).1 (28, 0, 0) = upd (S.1 (28, 0, 0)) m (nI p) := by
        rw [g_set_a (by decide), kc_same, g_set_a (by decide)]
      have r5 : (q_set (q_set (q_set S (26, 0, 0) p 1) (28, 0, 0) m (nI p)) (5, 0, 0) 4 (nI (m + 1))).1 (5, 0, 0) 4 = nI (m + 1) := by
        rw [kc_same, pk_us]
      have hC' : g_C y Y V X (q_set (q_set (q_set S (26, 0, 0) p 1) (28, 0, 0) m (nI p)) (5, 0, 0) 4 (nI (m + 1))) := kc_set (kc_set (kc_set hC (by omega)) (by omega)) (by omega)
      generalize q_set (q_set (q_set S (26, 0, 0) p 1) (28, 0, 0) m (nI p)) (5, 0, 0) 4 (nI (m + 1)) = S' at r26 r28 r5 hC'
      have keep : ∀ t, t < n → S.1 (26, 0, 0) t = 1 → S'.1 (26, 0, 0) t = 1 := by
        intro t ht q
        rw [r26]
        by_cases e : t = p
        · rw [e, pk_us]
        · rw [pk_un e]; exact q
      refine ⟨S', m + 1, rfl, hC', ⟨r5, ?_, ?_, ?_, ?_, ?_⟩, by omega, ?_, keep, ?_⟩
      · intro t ht
        rw [r26]
        by_cases e : t = p
        · rw [e, pk_us]; exact Or.inr rfl
        · rw [pk_un e]; exact h2 t ht
      · rw [r26, kn_ud]
        have q : dp_s (dp_u (fun t => g_n (S.1 (26, 0, 0) t)) p 1) n + g_n (S.1 (26, 0, 0) p) = dp_s (fun t => g_n (S.1 (26, 0, 0) t)) n + 1 := dp_s_u (D := fun t => g_n (S.1 (26, 0, 0) t)) (v := 1) hp
        have q0 : g_n (S.1 (26, 0, 0) p) = 0 := by rw [h0]; rfl
        omega
      · intro i hi
        rw [r28]
        by_cases e : i = m
        · rw [e, pk_us]
          exact ⟨p, hp, rfl, by rw [r26, pk_us]⟩
        · rw [pk_un e]
          obtain ⟨t, t1, t2, t3⟩ := h4 i (by omega)
          exact ⟨t, t1, t2, keep t t1 t3⟩
      · have ne : ∀ i, i < m → S.1 (28, 0, 0) i ≠ nI p := by
          intro i hi e
          obtain ⟨t, t1, t2, t3⟩ := h4 i hi
          rw [t2] at e
          have := (nI_eq (by omega) (by omega)).1 e
          subst this
          rw [h0] at t3
          exact absurd t3 (by decide)
        intro i j hi hj
        rw [r28]
        by_cases e : i = m
        · by_cases e' : j = m
          · intro _; omega
          · rw [e, pk_us, pk_un e']
            intro q
            exact absurd q.symm (ne j (by omega))
        · by_cases e' : j = m
          · rw [e', pk_us, pk_un e]
            intro q
            exact absurd q (ne i (by omega))
          · rw [pk_un e, pk_un e']
            exact h5 i j (by omega) (by omega)
      · intro t ht q
        rw [r28]
        by_cases e : t = p
        · exact ⟨m, by omega, by rw [pk_us, e]⟩
        · rw [r26, pk_un e] at q
          obtain ⟨i, i1, i2⟩ := h6 t ht q
          exact ⟨i, by omega, by rw [pk_un (by omega)]; exact i2⟩
      · intro i hi
        rw [r28, pk_un (by omega)]
      · intro z hz e
        have := (nI_eq (by omega) (by omega)).1 e
        subst this
        rw [r26, pk_us]
    · have h1' : S.1 (26, 0, 0) p = 1 := (h2 p hp).resolve_left h0
      rw [if_pos h0]
      refine ⟨S, m, rfl, hC, hg, Nat.le_refl _, fun _ _ => rfl, fun _ _ q => q, fun z hz e => ?_⟩
      have := (nI_eq (by omega) (by omega)).1 e
      subst this
      exact h1'
/-- the loop: parents of all that are gathered -/
theorem kg_22 {c y : Nat} {Y V : GA} {X : QS} {n : Nat} (hW : g_W c Y) (hn : n = g_n (Y 0 2 0)) : ∀ (d k p m : Nat) (S : QS), g_C y Y V X S → kg n m S → k ≤ m → (∀ i t q, i < k → t < n → q < n → S.1 (28, 0, 0) i = nI t → pa Y t q → S.1 (26, 0, 0) q = 1) → n ≤ k + d → d < p →
    ∃ S' m', b_65_22 p y (nI k) S = some ((), S') ∧ g_C y Y V X S' ∧ kg n m' S' ∧ (∀ t, t < n → S.1 (26, 0, 0) t = 1 → S'.1 (26, 0, 0) t = 1) ∧ mk_up Y n (fun t => S'.1 (26, 0, 0) t = 1)
  | d, k, 0, _, _, _, _, _, _, _, h => by omega
  | d, k, p + 1, m, S, hC, hg, hk, hc, hd, h => by
    have n22 := hW.2.1.2.2.1.2
    rw [← hn] at n22
    have hP := dp_P_W hW
    rw [← hn] at hP
    have hle := kg_le hg
    obtain ⟨h1, h2, h3, h4, h5, h6⟩ := id hg
    rw [b_65_22, h1]
    by_cases e : k = m
    · rw [if_pos (nI_le (by omega) (by omega))]
      refine ⟨S, m, rfl, hC, hg, fun _ _ q => q, fun x z hx hz hpa hq => ?_⟩
      obtain ⟨i, i1, i2⟩ := h6 x hx hq
      exact hc i x z (by omega) hx hz i2 hpa
    · obtain ⟨t, t1, t2, t3⟩ := h4 k (by omega)
      rw [if_neg (nI_ge (by omega) (by omega)), if_neg (show ¬ (200 : Int32) ≤ nI k from nI_ge (b := 200) (by omega) (by omega)), w_in (by omega) (by omega), nI_clamp (by omega), x_ck, x_let, t2, c_93 hC (by omega) (by omega), x_bd]
      dsimp only
      rw [c_t2 hC (by omega) (by omega)]
      obtain ⟨S1, m1, a1, a2, a3, a4, a5, a6, a7⟩ := kg_66 n22 hC (hP t t1).1 hg
      rw [a1, x_bd, c_t3 a2 (by omega) (by omega)]
      obtain ⟨S2, m2, b1, b2, b3, b4, b5, b6, b7⟩ := kg_66 n22 a2 (hP t t1).2 a3
      rw [b1, x_bd, nI_1]
      cases d with
      | zero => omega
      | succ d =>
        obtain ⟨S3, m3, c1, c2, c3, c4, c5⟩ := kg_22 hW hn d (k + 1) p m2 S2 b2 b3 (by omega) (by
          intro i z q hi hz hq hi2 hpa
          rw [b5 i (by omega), a5 i (by omega)] at hi2
          by_cases ei : i = k
          · rw [ei, t2] at hi2
            have := (nI_eq (by omega) (by omega)).1 hi2
            subst this
            rcases hpa with hpa | hpa
            · exact b6 q hq (a7 q hq hpa)
            · exact b7 q hq hpa
          · exact b6 q hq (a6 q hq (hc i z q (by omega) hz hq hi2 hpa))) (by omega) (by omega)
        exact ⟨S3, m3, c1, c2, c3, fun t ht q => c4 t ht (b6 t ht (a6 t ht q)), c5⟩
theorem kg_65 {c y : Nat} {Y V : GA} {X S : QS} {a b : Nat} (hW : g_W c Y) (hC : g_C y Y V X S) (ha : a < g_n (Y 0 2 0)) (hb : b < g_n (Y 0 2 0)) : ∃ S' m, f_65 y (nI a) (nI b) S = some ((), S') ∧ g_C y Y V X S' ∧ kg (g_n (Y 0 2 0)) m S' ∧ S'.1 (26, 0, 0) a = 1 ∧ S'.1 (26, 0, 0) b = 1 ∧ mk_up Y (g_n (Y 0 2 0)) (fun t => S'.1 (26, 0, 0) t = 1) := by
  have n22 := hW.2.1.2.2.1.2
  unfold f_65 f_59
  obtain ⟨f0, a1, a2⟩ := mk_59 (S := S) 200 0 q_N (S.1 (26, 0, 0)) (fun j hj => by omega) (by omega) (by unfold q_N; omega)
  rw [w_row_id] at a1
  rw [show b_59_2 q_N 0 S = _ from a1, x_bd, x_let]
  have hC0 : g_C y Y V X (q_set (q_row S (26, 0, 0) f0) (5, 0, 0) 4 0) := kc_set (g_C_scr hC (by omega)) (by omega)
  have r26 : (q_set (q_row S (26, 0, 0) f0) (5, 0, 0) 4 0).1 (26, 0, 0) = f0 := by
    rw [g_set_a (by decide), w_row_same]
  have r5 : (q_set (q_row S (26, 0, 0) f0) (5, 0, 0) 4 0).1 (5, 0, 0) 4 = nI 0 := by
    rw [kc_same, pk_us]
    rfl
  generalize q_set (q_row S (26, 0, 0) f0) (5, 0, 0) 4 0 = S0 at hC0 r26 r5
  have hg0 : kg (g_n (Y 0 2 0)) 0 S0 := by
    refine ⟨r5, ?_, ?_, fun i hi => by omega, fun i j hi => by omega, ?_⟩
    · intro t ht
      rw [r26, a2 t (by omega)]
      exact Or.inl rfl
    · have q : dp_s (fun t => g_n (S0.1 (26, 0, 0) t)) (g_n (Y 0 2 0)) ≤ 0 * g_n (Y 0 2 0) := dp_s_le (fun j hj => by
        show g_n (S0.1 (26, 0, 0) j) ≤ 0
        rw [r26, a2 j (by omega)]
        decide)
      omega
    · intro t ht q
      rw [r26, a2 t (by omega)] at q
      exact absurd q (by decide)
  obtain ⟨S1, m1, b1, b2, b3, b4, b5, b6, b7⟩ := kg_66 n22 hC0 (Or.inr ⟨a, ha, rfl⟩) hg0
  rw [b1, x_bd]
  obtain ⟨S2, m2, c1, c2, c3, c4, c5, c6, c7⟩ := kg_66 n22 b2 (Or.inr ⟨b, hb, rfl⟩) b3
  rw [c1, x_bd]
  obtain ⟨S3, m3, d1, d2, d3, d4, d5⟩ := kg_22 (n := g_n (Y 0 2 0)) hW rfl (g_n (Y 0 2 0)) 0 q_N m2 S2 c2 c3 (by omega) (fun i t q hi => by omega) (by omega) (by unfold q_N; omega)
  exact ⟨S3, m3, d1, d2, d3, d4 a ha (c6 a ha (b7 a ha rfl)), d4 b hb (c7 b hb rfl), d5⟩
