/-! ===== kin: the reference's whole table ===== -/
theorem kn_full {D : Nat → Nat} : ∀ {n : Nat}, (∀ j, j < n → D j = 1) → dp_s D n = n
  | 0, _ => rfl
  | n + 1, h => by
    show dp_s D n + D n = n + 1
    rw [kn_full (fun j hj => h j (by omega)), h n (by omega)]
theorem kn_as {Y : GA} {a b : Nat} (h : kn_lt Y a b) (h' : kn_lt Y b a) : False := by
  unfold kn_lt at h h'
  omega
theorem kn_35 {c : Nat} {Y V : GA} {Z T : QS} {n : Nat} (hW : g_W c Y) (hn : n = g_n (Y 0 2 0)) (hT : g_T Y V Z T) (hd : ∀ k, k < n → T.1 (46, 0, 0) k = Y 8 k 0) : ∀ (m p : Nat) (f g : Nat → Int32) (K : Nat → Nat → Nat), (∀ x, x < n → g x = 0 ∨ g x = 1) → (∀ x z, x < n → z < n → g x = 1 → kn_lt Y z x → g z = 1) → kn_T Y n (fun x => g x = 1) K → kn_f n (fun x => g x = 1) f K → dp_s (fun z => g_n (g z)) n + m = n → m < p →
    ∃ f' g' K', b_242_35 p (nI n) (nI (n - m)) (kn_s T f g) = some ((), kn_s T f' g') ∧ kn_T Y n (fun _ => True) K' ∧ kn_f n (fun _ => True) f' K'
  | m, 0, _, _, _, _, _, _, _, _, h => by omega
  | 0, p + 1, f, g, K, hg, hdn, hK, hf, hs, h => by
    have n22 := hW.2.1.2.2.1.2
    rw [← hn] at n22
    have hD : ∀ j, j < n → (fun z => g_n (g z)) j ≤ 1 := fun j hj => by
      show g_n (g j) ≤ 1
      rcases hg j hj with e | e <;> (rw [e]; decide)
    have all : ∀ x, x < n → g x = 1 := by
      intro x hx
      have q : g_n (g x) = 1 := kn_all hD (by omega) hx
      rcases hg x hx with e | e
      · rw [e] at q
        exact absurd q (by decide)
      · exact e
    rw [b_242_35, if_pos (nI_le (by omega) (by omega))]
    exact ⟨f, g, K, rfl, ⟨fun a ha _ => hK.1 a ha (all a ha), fun a b ha hb _ _ => hK.2.1 a b ha hb (all a ha) (all b hb), fun a b ha hb _ _ => hK.2.2.1 a b ha hb (all a ha) (all b hb), fun a b ha hb _ _ => hK.2.2.2 a b ha hb (all a ha) (all b hb)⟩, fun a b ha hb _ _ => hf a b ha hb (all a ha) (all b hb)⟩
  | m + 1, p + 1, f, g, K, hg, hdn, hK, hf, hs, h => by
    have n22 := hW.2.1.2.2.1.2
    rw [← hn] at n22
    rw [b_242_35, if_neg (nI_ge (by omega) (by omega))]
    obtain ⟨x3, a1, a2⟩ := kn_45 (f := f) (g := g) hW hn hT hd (b_242_35 p) (nI (n - (m + 1))) n 0 q_N (-1) (Or.inl ⟨rfl, fun x hx => by omega⟩) (by omega) (by unfold q_N; omega)
    rw [show b_242_45 (b_242_35 p) q_N (nI n) (nI (n - (m + 1))) (-1) 0 (kn_s T f g) = _ from a1]
    rcases a2 with ⟨_, a2⟩ | ⟨a, ha, rfl, ga, hmin⟩
    · exfalso
      have q : dp_s (fun z => g_n (g z)) n = n := kn_full (fun j hj => by
        show g_n (g j) = 1
        rcases hg j hj with e | e
        · exact absurd e (a2 j hj)
        · rw [e]; rfl)
      omega
    · have hlow : ∀ z, z < n → kn_lt Y z a → g z = 1 := by
        intro z hz hlt
        rcases hg z hz with e | e
        · rcases hmin z hz e with q | q
          · subst q
            exact absurd hlt (kn_ir Y z)
          · exact (kn_as hlt q).elim
        · exact e
      have hpa : ∀ p, p < n → pa Y a p → g p = 1 := fun p hp q => hlow p hp (kn_pl hW (by omega) (by omega) q)
      have hPa : ¬ (g a = 1) := by rw [ga]; decide
      obtain ⟨f1, b1, b2, b3⟩ := kn_93 (f := f) (g := g) (K := K) hW hn hT ha ga hg hpa hK hf (b_242_35 p) (nI (n - (m + 1))) n 0 q_N f (fun _ _ _ _ _ _ => rfl) (fun b hb => by omega) (by omega) (by unfold q_N; omega)
      rw [show b_242_93 (b_242_35 p) q_N (nI n) (nI (n - (m + 1))) (nI a) 0 (kn_s T f g) = _ from b1, nI_1, show n - (m + 1) + 1 = n - m by omega]
      have eP : (fun x => upd g a 1 x = 1) = (fun x => x = a ∨ g x = 1) := by
        funext x
        by_cases e : x = a
        · subst e
          rw [pk_us]
          exact propext ⟨fun _ => Or.inl rfl, fun _ => rfl⟩
        · rw [pk_un e]
          exact propext ⟨fun q => Or.inr q, fun q => q.resolve_left e⟩
      have hT2 := kn_uT (P := fun x => g x = 1) hW hn ha hPa hdn hlow hK
      refine kn_35 hW hn hT hd m p _ _ (kn_u Y K a) ?_ ?_ (by rw [eP]; exact hT2) ?_ ?_ (by omega)
      · intro x hx
        by_cases e : x = a
        · subst e; rw [pk_us]; exact Or.inr rfl
        · rw [pk_un e]; exact hg x hx
      · intro x z hx hz hx1 hlt
        by_cases e : z = a
        · subst e; exact pk_us
        · rw [pk_un e]
          by_cases e' : x = a
          · subst e'; exact hlow z hz hlt
          · rw [pk_un e'] at hx1
            exact hdn x z hx hz hx1 hlt
      · rw [eP]
        intro x z hx hz hpx hpz
        by_cases e : x = a
        · by_cases e' : z = a
          · rw [e, e', pk_us, kn_u_3]
            rfl
          · rw [e, pk_un (by omega), (b3 z hz (hpz.resolve_left e')).1, kn_u_1 e']
        · by_cases e' : z = a
          · rw [e', pk_un (by omega), (b3 x hx (hpx.resolve_left e)).2, kn_u_2 e]
          · rw [pk_un (by omega), b2 x z (by omega) (by omega) e e', kn_u_ne e e']
            exact hf x z hx hz (hpx.resolve_left e) (hpz.resolve_left e')
      · rw [kn_ud]
        have q : dp_s (dp_u (fun z => g_n (g z)) a 1) n + g_n (g a) = dp_s (fun z => g_n (g z)) n + 1 := dp_s_u (D := fun z => g_n (g z)) (v := 1) ha
        have q0 : g_n (g a) = 0 := by rw [ga]; rfl
        omega
theorem kn_15 {T : QS} {n : Nat} {f : Nat → Int32} (hn : n ≤ 200) : ∀ (m k p : Nat) (g : Nat → Int32), (∀ j, j < k → g j = 0) → k + m = n → m < p → ∃ g', b_242_15 p (nI n) (nI k) (kn_s T f g) = b_242_35 q_N (nI n) 0 (kn_s T f g') ∧ ∀ j, j < n → g' j = 0
  | m, k, 0, _, _, _, h => by omega
  | 0, k, p + 1, g, hg, hm, h => by
    refine ⟨g, ?_, fun j hj => hg j (by omega)⟩
    rw [b_242_15, if_pos (nI_le (by omega) (by omega))]
  | m + 1, k, p + 1, g, hg, hm, h => by
    rw [b_242_15, if_neg (nI_ge (by omega) (by omega)), w_in (by omega) (by omega), nI_clamp (by omega), x_ck, x_let, kn_u48, nI_1]
    refine kn_15 hn m (k + 1) p _ (fun j hj => ?_) (by omega) (by omega)
    by_cases e : j = k
    · subst e; rw [pk_us]
    · rw [pk_un e]; exact hg j (by omega)
theorem kn_id (T : QS) : kn_s T (T.1 (47, 0, 0)) (T.1 (48, 0, 0)) = T := by
  unfold kn_s
  rw [w_row_id, w_row_id]
/-- the reference's table -/
theorem kn_242 {c : Nat} {Y V : GA} {Z T : QS} (hW : g_W c Y) (hT : g_T Y V Z T) : ∃ T' f g K, f_242 T = some ((), kn_s T' f g) ∧ g_T Y V Z T' ∧ kn_T Y (g_n (Y 0 2 0)) (fun _ => True) K ∧ kn_f (g_n (Y 0 2 0)) (fun _ => True) f K := by
  have n2 := hW.2.1.2.2.1
  have n22 := n2.2
  unfold f_242
  rw [w_i2, w_c2, t_n2 hT, x_ck, x_let]
  obtain ⟨f0, a1, a2⟩ := dp_ask hW hT
  rw [a1, x_bd]
  have hT1 : g_T Y V Z (q_row T (46, 0, 0) f0) := g_T_scr hT (by omega)
  have hd : ∀ k, k < g_n (Y 0 2 0) → (q_row T (46, 0, 0) f0).1 (46, 0, 0) k = Y 8 k 0 := fun k hk => by
    rw [w_row_same]
    exact a2 k hk
  generalize q_row T (46, 0, 0) f0 = T1 at hT1 hd
  obtain ⟨g, b1, b2⟩ := kn_15 (T := T1) (f := T1.1 (47, 0, 0)) n22 (g_n (Y 0 2 0)) 0 q_N (T1.1 (48, 0, 0)) (fun j hj => by omega) (by omega) (by unfold q_N; omega)
  rw [kn_id, ← n2.1] at b1
  have b1' : b_242_15 q_N (Y 0 2 0) 0 T1 = _ := b1
  have g1 : ∀ x, x < g_n (Y 0 2 0) → ¬ g x = 1 := fun x hx e => by
    rw [b2 x hx] at e
    exact absurd e (by decide)
  have s0 : dp_s (fun z => g_n (g z)) (g_n (Y 0 2 0)) = 0 := by
    have q : dp_s (fun z => g_n (g z)) (g_n (Y 0 2 0)) ≤ 0 * g_n (Y 0 2 0) := dp_s_le (fun j hj => by
      show g_n (g j) ≤ 0
      rw [b2 j hj]
      decide)
    omega
  obtain ⟨f', g', K, c1, c2, c3⟩ := kn_35 hW rfl hT1 hd (g_n (Y 0 2 0)) q_N (T1.1 (47, 0, 0)) g (fun _ _ => 0) (fun x hx => Or.inl (b2 x hx)) (fun x z hx _ e => absurd e (g1 x hx)) ⟨fun a ha e => absurd e (g1 a ha), fun a b ha hb e => absurd e (g1 a ha), fun a b ha hb e => absurd e (g1 a ha), fun a b ha hb e => absurd e (g1 a ha)⟩ (fun a b ha hb e => absurd e (g1 a ha)) (by omega) (by unfold q_N; omega)
  rw [Nat.sub_self, ← n2.1] at c1
  refine ⟨T1, f', g', K, ?_, hT1, c2, c3⟩
  rw [b1']
  exact c1
