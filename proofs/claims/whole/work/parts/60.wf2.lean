/-! ===== what holds of every picture: after a cell is written ===== -/
theorem g_su_eq {f g : Nat → Int32} : ∀ n, (∀ k, k < n → g k = f k) → g_su g n = g_su f n
  | 0, _ => rfl
  | n + 1, h => by
    unfold g_su
    rw [g_su_eq n (fun k hk => h k (by omega)), h n (by omega)]
theorem g_su_up {f g : Nat → Int32} {k : Nat} (ho : ∀ j, j ≠ k → g j = f j) : ∀ n, k < n → g_su g n = g_su f n + (g k).toInt - (f k).toInt
  | 0, h => by omega
  | n + 1, h => by
    unfold g_su
    by_cases e : k = n
    · subst e
      rw [g_su_eq k (fun j hj => ho j (by omega))]
      omega
    · rw [g_su_up ho n (by omega), ho n (fun q => e q.symm)]
      omega
theorem g_W_0 {c : Nat} {Y : GA} {i : Nat} {v : Int32} (hW : g_W c Y) (h3 : 3 ≤ i) (h7 : i ≤ 7) : g_W c (g_up Y 0 i 0 v) := by
  have e0 : g_up Y 0 i 0 v 0 0 0 = Y 0 0 0 := g_up_ne (fun q => by omega)
  have e1 : g_up Y 0 i 0 v 0 1 0 = Y 0 1 0 := g_up_ne (fun q => by omega)
  have e2 : g_up Y 0 i 0 v 0 2 0 = Y 0 2 0 := g_up_ne (fun q => by omega)
  have e8 : g_up Y 0 i 0 v 0 8 0 = Y 0 8 0 := g_up_ne (fun q => by omega)
  unfold g_W at hW ⊢
  rw [g_up_r (r' := 1) (by omega), g_up_r (r' := 2) (by omega), g_up_r (r' := 3) (by omega), g_up_r (r' := 4) (by omega), g_up_r (r' := 5) (by omega), g_up_r (r' := 6) (by omega), g_up_r (r' := 8) (by omega)]
  unfold g_V g_w0 g_wB g_wL g_wP g_wK g_wF g_wT g_wS g_wI g_wD g_wN at hW ⊢
  rw [e0, e1, e2, e8]
  exact hW
/-- a hive's cell -/
theorem g_W_1 {c c' : Nat} {Y : GA} {h w : Nat} {v : Int32} (hW : g_W c Y) (hw : w ≠ 10) (hc : c ≤ c') (hc5 : c' ≤ 512) (hS : g_wS (Y 0) (g_up Y 1 h w v 1)) (hI : g_wI (Y 0) (g_up Y 1 h w v 1) (Y 6)) (hN : g_wN c' (Y 0) (g_up Y 1 h w v 1) (Y 3) (Y 4) (Y 6)) : g_W c' (g_up Y 1 h w v) := by
  obtain ⟨w5, w0, wB, wL, wP, wK, wU, wF, wT, wS, wI, wD, wN⟩ := hW
  have e10 : ∀ k, g_up Y 1 h w v 1 k 10 = Y 1 k 10 := fun k => g_up_ne (fun q => hw q.2.2.symm)
  unfold g_W
  rw [g_up_r (r' := 0) (by omega), g_up_r (r' := 2) (by omega), g_up_r (r' := 3) (by omega), g_up_r (r' := 4) (by omega), g_up_r (r' := 5) (by omega), g_up_r (r' := 6) (by omega), g_up_r (r' := 8) (by omega)]
  refine ⟨hc5, w0, ?_, wL, ?_, wK, wU, wF, ?_, hS, hI, wD, hN⟩
  · intro k hk
    rw [e10]
    exact wB k hk
  · intro k i h1 h2
    rw [e10]
    exact wP k i h1 h2
  · intro k hk
    have q := wT k hk
    exact ⟨q.1, g_N_mono q.2.1 (by omega), q.2.2⟩
theorem g_W_h {c c' : Nat} {Y : GA} {h w : Nat} {v : Int32} (hW : g_W c Y) (hh : h < g_n (Y 0 0 0)) (hw : w ≠ 10 ∧ w ≠ 7 ∧ w ≠ 8 ∧ w ≠ 3 ∧ w ≠ 1 ∧ w ≠ 2) (hc : c ≤ c') (hc5 : c' ≤ 512) (h0 : w = 0 ∨ w = 5 ∨ w = 6 → 0 ≤ v) (b0 : w = 0 → g_su (fun h => Y 1 h 0) (g_n (Y 0 0 0)) + v.toInt - (Y 1 h 0).toInt + g_su (fun k => Y 6 k 6) (g_n (Y 0 2 0)) + g_ph (Y 3) (Y 4) (g_n (Y 0 1 0)) ≤ 400000 * c') (b5 : w = 5 → g_su (fun h => Y 1 h 5) (g_n (Y 0 0 0)) + v.toInt - (Y 1 h 5).toInt ≤ 10000 * c') (b6 : w = 6 → g_su (fun h => Y 1 h 6) (g_n (Y 0 0 0)) + v.toInt - (Y 1 h 6).toInt ≤ 10000 * c') : g_W c' (g_up Y 1 h w v) := by
  obtain ⟨w5, w0, wB, wL, wP, wK, wU, wF, wT, wS, wI, wD, wN⟩ := id hW
  have e : ∀ k j, j ≠ w → g_up Y 1 h w v 1 k j = Y 1 k j := fun k j hj => g_up_ne (fun q => hj q.2.2)
  have eo : ∀ k j, k ≠ h → g_up Y 1 h w v 1 k j = Y 1 k j := fun k j hj => g_up_ne (fun q => hj q.2.1)
  have es : g_up Y 1 h w v 1 h w = v := g_up_same _ _ _ _ _
  have sm : ∀ j, j ≠ w → g_su (fun k => g_up Y 1 h w v 1 k j) (g_n (Y 0 0 0)) = g_su (fun k => Y 1 k j) (g_n (Y 0 0 0)) := fun j hj => g_su_eq _ (fun k _ => e k j hj)
  have su : g_su (fun k => g_up Y 1 h w v 1 k w) (g_n (Y 0 0 0)) = g_su (fun k => Y 1 k w) (g_n (Y 0 0 0)) + v.toInt - (Y 1 h w).toInt := by
    have q := g_su_up (f := fun k => Y 1 k w) (g := fun k => g_up Y 1 h w v 1 k w) (k := h) (fun j hj => eo j w hj) (g_n (Y 0 0 0)) hh
    rw [es] at q
    exact q
  have nn : ∀ k j, (j = 0 ∨ j = 5 ∨ j = 6) → 0 ≤ Y 1 k j → 0 ≤ g_up Y 1 h w v 1 k j := by
    intro k j hj hy
    by_cases q : j = w
    · subst q
      by_cases q2 : k = h
      · subst q2
        rw [es]
        exact h0 hj
      · rw [eo k j q2]
        exact hy
    · rw [e k j q]
      exact hy
  refine g_W_1 hW hw.1 hc hc5 ?_ ?_ ?_
  · intro k hk
    have q := wS k hk
    rw [e k 3 (by omega), e k 7 (by omega), e k 8 (by omega), e k 1 (by omega), e k 2 (by omega)]
    exact ⟨nn k 0 (by omega) q.1, q.2.1, nn k 5 (by omega) q.2.2.1, nn k 6 (by omega) q.2.2.2.1, q.2.2.2.2⟩
  · refine ⟨?_, wI.2.1, ?_⟩
    · intro k k'
      rw [e k 3 (by omega), e k' 3 (by omega)]
      exact wI.1 k k'
    · intro k s
      rw [e k 3 (by omega)]
      exact wI.2.2 k s
  · obtain ⟨n1, n2, n3, n4, n5⟩ := wN
    refine ⟨?_, ?_, ?_, by rw [sm 1 (by omega)]; omega, by rw [sm 2 (by omega)]; omega⟩
    · by_cases q : w = 0
      · subst q
        have := b0 rfl
        omega
      · rw [sm 0 (by omega)]
        omega
    · by_cases q : w = 5
      · subst q
        have := b5 rfl
        omega
      · rw [sm 5 (by omega)]
        omega
    · by_cases q : w = 6
      · subst q
        have := b6 rfl
        omega
      · rw [sm 6 (by omega)]
        omega
theorem g_W_hf {c : Nat} {Y : GA} {h w : Nat} {v : Int32} (hW : g_W c Y) (hh : h < g_n (Y 0 0 0)) (hw : w = 4 ∨ w = 9) : g_W c (g_up Y 1 h w v) :=
  g_W_h hW hh (by omega) (Nat.le_refl c) hW.1 (fun q => by omega) (fun q => by omega) (fun q => by omega) (fun q => by omega)
theorem g_W_sl {c : Nat} {Y : GA} {h : Nat} {v : Int32} (hW : g_W c Y) (hh : h < g_n (Y 0 0 0)) (hv : v = -1 ∨ ((∃ t, t < g_n (Y 0 2 0) ∧ v = nI t) ∧ (∀ k, k < g_n (Y 0 0 0) → k ≠ h → Y 1 k 3 ≠ v) ∧ (∀ s, s < g_n (Y 0 2 0) → Y 6 s 7 ≠ v))) : g_W c (g_up Y 1 h 3 v) := by
  obtain ⟨w5, w0, wB, wL, wP, wK, wU, wF, wT, wS, wI, wD, wN⟩ := id hW
  have e : ∀ k j, j ≠ 3 → g_up Y 1 h 3 v 1 k j = Y 1 k j := fun k j hj => g_up_ne (fun q => hj q.2.2)
  have eo : ∀ k j, k ≠ h → g_up Y 1 h 3 v 1 k j = Y 1 k j := fun k j hj => g_up_ne (fun q => hj q.2.1)
  have es : g_up Y 1 h 3 v 1 h 3 = v := g_up_same _ _ _ _ _
  refine g_W_1 hW (by omega) (Nat.le_refl c) w5 ?_ ?_ ?_
  · intro k hk
    have q := wS k hk
    rw [e k 0 (by omega), e k 5 (by omega), e k 6 (by omega), e k 7 (by omega), e k 8 (by omega), e k 1 (by omega), e k 2 (by omega)]
    refine ⟨q.1, ?_, q.2.2⟩
    by_cases q2 : k = h
    · subst q2
      rw [es]
      rcases hv with hv | ⟨hv, _⟩
      · exact Or.inl hv
      · exact Or.inr hv
    · rw [eo k 3 q2]
      exact q.2.1
  · refine ⟨?_, wI.2.1, ?_⟩
    · intro k k' hk hk' q1 q2
      by_cases a : k = h
      · by_cases b : k' = h
        · rw [a, b]
        · subst a
          rw [es, eo k' 3 b] at q1
          rw [es] at q2
          rcases hv with hv | ⟨_, hv, _⟩
          · exact absurd hv q2
          · exact absurd q1.symm (hv k' hk' b)
      · by_cases b : k' = h
        · subst b
          rw [es, eo k 3 a] at q1
          rw [eo k 3 a] at q2
          rcases hv with hv | ⟨_, hv, _⟩
          · exact absurd (q1.trans hv) q2
          · exact absurd q1 (hv k hk a)
        · rw [eo k 3 a, eo k' 3 b] at q1
          rw [eo k 3 a] at q2
          exact wI.1 k k' hk hk' q1 q2
    · intro k s hk hs q1
      by_cases a : k = h
      · subst a
        rw [es] at q1 ⊢
        rcases hv with hv | ⟨_, _, hv⟩
        · exact hv
        · exact absurd q1.symm (hv s hs)
      · rw [eo k 3 a] at q1 ⊢
        exact wI.2.2 k s hk hs q1
  · obtain ⟨n1, n2, n3⟩ := wN
    have sm : ∀ j, j ≠ 3 → g_su (fun k => g_up Y 1 h 3 v 1 k j) (g_n (Y 0 0 0)) = g_su (fun k => Y 1 k j) (g_n (Y 0 0 0)) := fun j hj => g_su_eq _ (fun k _ => e k j hj)
    refine ⟨?_, ?_, ?_⟩
    · rw [sm 0 (by omega)]; exact n1
    · rw [sm 5 (by omega)]; exact n2
    · rw [sm 6 (by omega), sm 1 (by omega), sm 2 (by omega)]; exact n3
theorem g_W_due {c : Nat} {Y : GA} {h : Nat} {d g : Int32} (hW : g_W c Y) (hd : g_N d 30) (hg : g_N g 1000) (hdg : d ≠ 0 → g ≠ 0) : g_W c (g_up (g_up Y 1 h 7 d) 1 h 8 g) := by
  obtain ⟨w5, w0, wB, wL, wP, wK, wU, wF, wT, wS, wI, wD, wN⟩ := id hW
  have e : ∀ k j, j ≠ 7 → j ≠ 8 → g_up (g_up Y 1 h 7 d) 1 h 8 g 1 k j = Y 1 k j := fun k j h1 h2 => by rw [g_up_ne (fun q => h2 q.2.2), g_up_ne (fun q => h1 q.2.2)]
  have eo : ∀ k j, k ≠ h → g_up (g_up Y 1 h 7 d) 1 h 8 g 1 k j = Y 1 k j := fun k j h1 => by rw [g_up_ne (fun q => h1 q.2.1), g_up_ne (fun q => h1 q.2.1)]
  have es7 : g_up (g_up Y 1 h 7 d) 1 h 8 g 1 h 7 = d := by rw [g_up_ne (fun q => by omega), g_up_same]
  have es8 : g_up (g_up Y 1 h 7 d) 1 h 8 g 1 h 8 = g := g_up_same _ _ _ _ _
  have sm : ∀ j, j ≠ 7 → j ≠ 8 → g_su (fun k => g_up (g_up Y 1 h 7 d) 1 h 8 g 1 k j) (g_n (Y 0 0 0)) = g_su (fun k => Y 1 k j) (g_n (Y 0 0 0)) := fun j h1 h2 => g_su_eq _ (fun k _ => e k j h1 h2)
  unfold g_W
  rw [show g_up (g_up Y 1 h 7 d) 1 h 8 g 0 = Y 0 from by rw [g_up_r (by omega), g_up_r (by omega)], show g_up (g_up Y 1 h 7 d) 1 h 8 g 2 = Y 2 from by rw [g_up_r (by omega), g_up_r (by omega)], show g_up (g_up Y 1 h 7 d) 1 h 8 g 3 = Y 3 from by rw [g_up_r (by omega), g_up_r (by omega)], show g_up (g_up Y 1 h 7 d) 1 h 8 g 4 = Y 4 from by rw [g_up_r (by omega), g_up_r (by omega)], show g_up (g_up Y 1 h 7 d) 1 h 8 g 5 = Y 5 from by rw [g_up_r (by omega), g_up_r (by omega)], show g_up (g_up Y 1 h 7 d) 1 h 8 g 6 = Y 6 from by rw [g_up_r (by omega), g_up_r (by omega)], show g_up (g_up Y 1 h 7 d) 1 h 8 g 8 = Y 8 from by rw [g_up_r (by omega), g_up_r (by omega)]]
  refine ⟨w5, w0, ?_, wL, ?_, wK, wU, wF, wT, ?_, ?_, wD, ?_⟩
  · intro k hk
    rw [e k 10 (by omega) (by omega)]
    exact wB k hk
  · intro k i h1 h2
    rw [e k 10 (by omega) (by omega)]
    exact wP k i h1 h2
  · intro k hk
    have q := wS k hk
    rw [e k 0 (by omega) (by omega), e k 3 (by omega) (by omega), e k 5 (by omega) (by omega), e k 6 (by omega) (by omega), e k 1 (by omega) (by omega), e k 2 (by omega) (by omega)]
    refine ⟨q.1, q.2.1, q.2.2.1, q.2.2.2.1, ?_⟩
    by_cases a : k = h
    · subst a
      rw [es7, es8]
      exact ⟨hd, hg, hdg, q.2.2.2.2.2.2.2⟩
    · rw [eo k 7 a, eo k 8 a]
      exact q.2.2.2.2
  · refine ⟨?_, wI.2.1, ?_⟩
    · intro k k'
      rw [e k 3 (by omega) (by omega), e k' 3 (by omega) (by omega)]
      exact wI.1 k k'
    · intro k s
      rw [e k 3 (by omega) (by omega)]
      exact wI.2.2 k s
  · obtain ⟨n1, n2, n3⟩ := wN
    refine ⟨?_, ?_, ?_⟩
    · rw [sm 0 (by omega) (by omega)]; exact n1
    · rw [sm 5 (by omega) (by omega)]; exact n2
    · rw [sm 6 (by omega) (by omega), sm 1 (by omega) (by omega), sm 2 (by omega) (by omega)]; exact n3
/-- a thing's cell -/
theorem g_W_6 {c c' : Nat} {Y : GA} {t w : Nat} {v : Int32} (hW : g_W c Y) (hc : c ≤ c') (hc5 : c' ≤ 512) (hT : g_wT c' (Y 0) (g_up Y 6 t w v 6)) (hI : g_wI (Y 0) (Y 1) (g_up Y 6 t w v 6)) (hD : g_wD (Y 0) (g_up Y 6 t w v 6) (Y 8)) (hN : g_wN c' (Y 0) (Y 1) (Y 3) (Y 4) (g_up Y 6 t w v 6)) : g_W c' (g_up Y 6 t w v) := by
  obtain ⟨w5, w0, wB, wL, wP, wK, wU, wF, wT, wS, wI, wD, wN⟩ := hW
  unfold g_W
  rw [g_up_r (r' := 0) (by omega), g_up_r (r' := 1) (by omega), g_up_r (r' := 2) (by omega), g_up_r (r' := 3) (by omega), g_up_r (r' := 4) (by omega), g_up_r (r' := 5) (by omega), g_up_r (r' := 8) (by omega)]
  exact ⟨hc5, w0, wB, wL, wP, wK, wU, wF, hT, wS, hI, hD, hN⟩
/-- days, rate, sire, load, inside -/
theorem g_W_t {c c' : Nat} {Y : GA} {t w : Nat} {v : Int32} (hW : g_W c Y) (ht : t < g_n (Y 0 2 0)) (hw : w ≠ 0 ∧ w ≠ 2 ∧ w ≠ 3) (hc : c ≤ c') (hc5 : c' ≤ 512) (h1 : w = 1 → g_N v (60 * c')) (h4 : w = 4 → g_N v 200) (h6 : w = 6 → 0 ≤ v ∧ g_su (fun h => Y 1 h 0) (g_n (Y 0 0 0)) + (g_su (fun k => Y 6 k 6) (g_n (Y 0 2 0)) + v.toInt - (Y 6 t 6).toInt) + g_ph (Y 3) (Y 4) (g_n (Y 0 1 0)) ≤ 400000 * c') (h7 : w = 7 → v = -1 ∨ ((∃ t, t < g_n (Y 0 2 0) ∧ v = nI t) ∧ (∀ k, k < g_n (Y 0 0 0) → Y 1 k 3 ≠ v) ∧ (∀ s, s < g_n (Y 0 2 0) → s ≠ t → Y 6 s 7 ≠ v))) : g_W c' (g_up Y 6 t w v) := by
  obtain ⟨w5, w0, wB, wL, wP, wK, wU, wF, wT, wS, wI, wD, wN⟩ := id hW
  have e : ∀ k j, j ≠ w → g_up Y 6 t w v 6 k j = Y 6 k j := fun k j hj => g_up_ne (fun q => hj q.2.2)
  have eo : ∀ k j, k ≠ t → g_up Y 6 t w v 6 k j = Y 6 k j := fun k j hj => g_up_ne (fun q => hj q.2.1)
  have es : g_up Y 6 t w v 6 t w = v := g_up_same _ _ _ _ _
  refine g_W_6 hW hc hc5 ?_ ?_ ?_ ?_
  · intro k hk
    have q := wT k hk
    rw [e k 0 (by omega), e k 2 (by omega), e k 3 (by omega)]
    refine ⟨q.1, ?_, q.2.2.1, q.2.2.2.1, ?_, ?_, ?_⟩
    · by_cases a : w = 1 ∧ k = t
      · obtain ⟨rfl, rfl⟩ := a
        rw [es]; exact h1 rfl
      · rw [g_up_ne (fun q => a ⟨q.2.2.symm, q.2.1⟩)]
        exact g_N_mono q.2.1 (by omega)
    · by_cases a : w = 4 ∧ k = t
      · obtain ⟨rfl, rfl⟩ := a
        rw [es]; exact h4 rfl
      · rw [g_up_ne (fun q => a ⟨q.2.2.symm, q.2.1⟩)]
        exact q.2.2.2.2.1
    · by_cases a : w = 6 ∧ k = t
      · obtain ⟨rfl, rfl⟩ := a
        rw [es]; exact (h6 rfl).1
      · rw [g_up_ne (fun q => a ⟨q.2.2.symm, q.2.1⟩)]
        exact q.2.2.2.2.2.1
    · by_cases a : w = 7 ∧ k = t
      · obtain ⟨rfl, rfl⟩ := a
        rw [es]
        rcases h7 rfl with p | ⟨p, _⟩
        · exact Or.inl p
        · exact Or.inr p
      · rw [g_up_ne (fun q => a ⟨q.2.2.symm, q.2.1⟩)]
        exact q.2.2.2.2.2.2
  · by_cases a : w = 7
    · subst a
      have hv := h7 rfl
      refine ⟨wI.1, ?_, ?_⟩
      · intro s s' hs hs' q1 q2
        by_cases a : s = t
        · by_cases b : s' = t
          · rw [a, b]
          · subst a
            rw [es, eo s' 7 b] at q1
            rw [es] at q2
            rcases hv with hv | ⟨_, _, hv⟩
            · exact absurd hv q2
            · exact absurd q1.symm (hv s' hs' b)
        · by_cases b : s' = t
          · subst b
            rw [es, eo s 7 a] at q1
            rw [eo s 7 a] at q2
            rcases hv with hv | ⟨_, _, hv⟩
            · exact absurd (q1.trans hv) q2
            · exact absurd q1 (hv s hs a)
          · rw [eo s 7 a, eo s' 7 b] at q1
            rw [eo s 7 a] at q2
            exact wI.2.1 s s' hs hs' q1 q2
      · intro k s hk hs q1
        by_cases a : s = t
        · subst a
          rw [es] at q1
          rcases hv with hv | ⟨_, hv, _⟩
          · rw [q1, hv]
          · exact absurd q1 (hv k hk)
        · rw [eo s 7 a] at q1
          exact wI.2.2 k s hk hs q1
    · refine ⟨wI.1, ?_, ?_⟩
      · intro s s'
        rw [e s 7 (by omega), e s' 7 (by omega)]
        exact wI.2.1 s s'
      · intro k s
        rw [e s 7 (by omega)]
        exact wI.2.2 k s
  · intro k hk
    have q := wD k hk
    rw [e k 2 (by omega), e k 3 (by omega), e _ 0 (by omega), e _ 0 (by omega)]
    exact q
  · obtain ⟨n1, n2, n3, n4, n5⟩ := wN
    refine ⟨?_, by omega, by omega, by omega, by omega⟩
    by_cases a : w = 6
    · subst a
      have q := g_su_up (f := fun k => Y 6 k 6) (g := fun k => g_up Y 6 t 6 v 6 k 6) (k := t) (fun j hj => eo j 6 hj) (g_n (Y 0 2 0)) ht
      rw [es] at q
      have := (h6 rfl).2
      omega
    · rw [show g_su (fun k => g_up Y 6 t w v 6 k 6) (g_n (Y 0 2 0)) = g_su (fun k => Y 6 k 6) (g_n (Y 0 2 0)) from g_su_eq _ (fun k _ => e k 6 (by omega))]
      omega
/-- places and bench -/
theorem g_W_25 {c : Nat} {Y Y' : GA} (hW : g_W c Y) (hr : ∀ r, r ≠ 2 → r ≠ 5 → Y' r = Y r) (hP : g_wP (Y 0) (Y 1) (Y' 2)) (hK : g_wK (Y 0) (Y' 5)) (hU : g_wU (Y' 2) (Y' 5)) : g_W c Y' := by
  obtain ⟨w5, w0, wB, wL, wP, wK, wU, wF, wT, wS, wI, wD, wN⟩ := hW
  unfold g_W
  rw [hr 0 (by omega) (by omega), hr 1 (by omega) (by omega), hr 3 (by omega) (by omega), hr 4 (by omega) (by omega), hr 6 (by omega) (by omega), hr 8 (by omega) (by omega)]
  exact ⟨w5, w0, wB, wL, hP, hK, hU, wF, wT, wS, wI, wD, wN⟩
theorem g_W_p {c : Nat} {Y : GA} {h i : Nat} {v : Int32} (hW : g_W c Y) (h4 : h < 40) (hi : i < 96) (hv : v = -1 ∨ (h < g_n (Y 0 0 0) ∧ i < 12 * g_n (Y 1 h 10) ∧ (∃ n, n < g_n (Y 0 1 0) ∧ v = nI n) ∧ (∀ k j, k < 40 → j < 96 → Y 2 k j ≠ v) ∧ (∀ k, k < 24 → Y 5 k 0 ≠ v))) : g_W c (g_up Y 2 h i v) := by
  obtain ⟨w5, w0, wB, wL, wP, wK, wU, wF, wT, wS, wI, wD, wN⟩ := id hW
  have eo : ∀ k j, ¬ (k = h ∧ j = i) → g_up Y 2 h i v 2 k j = Y 2 k j := fun k j hj => g_up_ne (fun q => hj q.2)
  have es : g_up Y 2 h i v 2 h i = v := g_up_same _ _ _ _ _
  have e5 : g_up Y 2 h i v 5 = Y 5 := g_up_r (by omega)
  refine g_W_25 hW (fun r h2 h5 => g_up_r h2) ?_ ?_ ?_
  · intro k j h1 h2
    by_cases a : k = h ∧ j = i
    · obtain ⟨rfl, rfl⟩ := a
      rw [es]
      rcases hv with hv | ⟨a1, a2, a3, _⟩
      · exact Or.inl hv
      · exact Or.inr ⟨a1, a2, a3⟩
    · rw [eo k j a]
      exact wP k j h1 h2
  · rw [e5]; exact wK
  · rw [e5]
    refine ⟨?_, wU.2.1, ?_⟩
    · intro k j k' j' h1 h2 h3 h5 q1 q2
      by_cases a : k = h ∧ j = i
      · by_cases b : k' = h ∧ j' = i
        · omega
        · obtain ⟨rfl, rfl⟩ := a
          rw [es, eo k' j' b] at q1
          rw [es] at q2
          rcases hv with hv | ⟨_, _, _, hv, _⟩
          · exact absurd hv q2
          · exact absurd q1.symm (hv k' j' h3 h5)
      · by_cases b : k' = h ∧ j' = i
        · obtain ⟨rfl, rfl⟩ := b
          rw [es, eo k j a] at q1
          rw [eo k j a] at q2
          rcases hv with hv | ⟨_, _, _, hv, _⟩
          · exact absurd (q1.trans hv) q2
          · exact absurd q1 (hv k j h1 h2)
        · rw [eo k j a, eo k' j' b] at q1
          rw [eo k j a] at q2
          exact wU.1 k j k' j' h1 h2 h3 h5 q1 q2
    · intro k j b h1 h2 h3 q1
      by_cases a : k = h ∧ j = i
      · obtain ⟨rfl, rfl⟩ := a
        rw [es] at q1 ⊢
        rcases hv with hv | ⟨_, _, _, _, hv⟩
        · exact hv
        · exact absurd q1.symm (hv b h3)
      · rw [eo k j a] at q1 ⊢
        exact wU.2.2 k j b h1 h2 h3 q1
theorem g_W_b {c : Nat} {Y : GA} {b : Nat} {v : Int32} (hW : g_W c Y) (hb : b < 24) (hv : v = -1 ∨ ((∃ n, n < g_n (Y 0 1 0) ∧ v = nI n) ∧ (∀ k j, k < 40 → j < 96 → Y 2 k j ≠ v) ∧ (∀ k, k < 24 → Y 5 k 0 ≠ v))) : g_W c (g_up Y 5 b 0 v) := by
  obtain ⟨w5, w0, wB, wL, wP, wK, wU, wF, wT, wS, wI, wD, wN⟩ := id hW
  have eo : ∀ k, k ≠ b → g_up Y 5 b 0 v 5 k 0 = Y 5 k 0 := fun k hj => g_up_ne (fun q => hj q.2.1)
  have es : g_up Y 5 b 0 v 5 b 0 = v := g_up_same _ _ _ _ _
  have e2 : g_up Y 5 b 0 v 2 = Y 2 := g_up_r (by omega)
  refine g_W_25 hW (fun r h2 h5 => g_up_r h5) ?_ ?_ ?_
  · rw [e2]; exact wP
  · intro k hk
    by_cases a : k = b
    · subst a
      rw [es]
      rcases hv with hv | ⟨hv, _⟩
      · exact Or.inl hv
      · exact Or.inr hv
    · rw [eo k a]
      exact wK k hk
  · rw [e2]
    refine ⟨wU.1, ?_, ?_⟩
    · intro k k' h1 h2 q1 q2
      by_cases a : k = b
      · by_cases a' : k' = b
        · omega
        · subst a
          rw [es, eo k' a'] at q1
          rw [es] at q2
          rcases hv with hv | ⟨_, _, hv⟩
          · exact absurd hv q2
          · exact absurd q1.symm (hv k' h2)
      · by_cases a' : k' = b
        · subst a'
          rw [es, eo k a] at q1
          rw [eo k a] at q2
          rcases hv with hv | ⟨_, _, hv⟩
          · exact absurd (q1.trans hv) q2
          · exact absurd q1 (hv k h1)
        · rw [eo k a, eo k' a'] at q1
          rw [eo k a] at q2
          exact wU.2.1 k k' h1 h2 q1 q2
    · intro k j b' h1 h2 h3 q1
      by_cases a : b' = b
      · subst a
        rw [es] at q1
        rcases hv with hv | ⟨_, hv, _⟩
        · rw [q1, hv]
        · exact absurd q1 (hv k j h1 h2)
      · rw [eo b' a] at q1
        exact wU.2.2 k j b' h1 h2 h3 q1
/-- fields -/
theorem g_yo_eq {f g : Nat → Int32} : ∀ n, (∀ k, k < n → g k = f k) → g_yo g n = g_yo f n
  | 0, _ => rfl
  | n + 1, h => by
    unfold g_yo
    rw [g_yo_eq n (fun k hk => h k (by omega)), h n (by omega)]
def g_iy (x : Int32) : Int := if 300 ≤ x then 1 else 0
theorem g_yo_up {f g : Nat → Int32} {k : Nat} (ho : ∀ j, j ≠ k → g j = f j) : ∀ n, k < n → g_yo g n = g_yo f n + g_iy (g k) - g_iy (f k)
  | 0, h => by omega
  | n + 1, h => by
    unfold g_yo
    by_cases e : k = n
    · subst e
      rw [g_yo_eq k (fun j hj => ho j (by omega))]
      unfold g_iy
      omega
    · rw [g_yo_up ho n (by omega), ho n (fun q => e q.symm)]
      omega
theorem g_ph_eq {l f g : Nat → Nat → Int32} : ∀ n, (∀ k, k < n → g k = f k) → g_ph l g n = g_ph l f n
  | 0, _ => rfl
  | n + 1, h => by
    unfold g_ph
    rw [g_ph_eq n (fun k hk => h k (by omega)), h n (by omega)]
theorem g_ph_up {l f g : Nat → Nat → Int32} {k i : Nat} (ho : ∀ a b, ¬ (a = k ∧ b = i) → g a b = f a b) (hi : i < g_n (l k 0)) : ∀ n, k < n → g_ph l g n = g_ph l f n + g_iy (g k i) - g_iy (f k i)
  | 0, h => by omega
  | n + 1, h => by
    unfold g_ph
    by_cases e : k = n
    · subst e
      rw [g_ph_eq k (fun j hj => funext (fun b => ho j b (by omega))), g_yo_up (f := f k) (g := g k) (k := i) (fun j hj => ho k j (by omega)) _ hi]
      omega
    · rw [g_ph_up ho hi n (by omega), show g n = f n from funext (fun b => ho n b (by omega))]
      omega
theorem g_W_f {c c' : Nat} {Y : GA} {n i : Nat} {v : Int32} (hW : g_W c Y) (hn : n < g_n (Y 0 1 0)) (hi : i < g_n (Y 3 n 0)) (hc : c ≤ c') (hc5 : c' ≤ 512) (hv : g_ok v) (hN : g_su (fun h => Y 1 h 0) (g_n (Y 0 0 0)) + g_su (fun k => Y 6 k 6) (g_n (Y 0 2 0)) + g_ph (Y 3) (Y 4) (g_n (Y 0 1 0)) + g_iy v - g_iy (Y 4 n i) ≤ 400000 * c') (hN4 : g_su (fun h => Y 1 h 1) (g_n (Y 0 0 0)) + g_ph (Y 3) (Y 4) (g_n (Y 0 1 0)) + g_iy v - g_iy (Y 4 n i) ≤ 400000 * c') : g_W c' (g_up Y 4 n i v) := by
  obtain ⟨w5, w0, wB, wL, wP, wK, wU, wF, wT, wS, wI, wD, wN⟩ := hW
  have eo : ∀ a b, ¬ (a = n ∧ b = i) → g_up Y 4 n i v 4 a b = Y 4 a b := fun a b hj => g_up_ne (fun q => hj q.2)
  have es : g_up Y 4 n i v 4 n i = v := g_up_same _ _ _ _ _
  unfold g_W
  rw [g_up_r (r' := 0) (by omega), g_up_r (r' := 1) (by omega), g_up_r (r' := 2) (by omega), g_up_r (r' := 3) (by omega), g_up_r (r' := 5) (by omega), g_up_r (r' := 6) (by omega), g_up_r (r' := 8) (by omega)]
  refine ⟨hc5, w0, wB, wL, wP, wK, wU, ?_, ?_, wS, wI, wD, ?_⟩
  · intro a b h1 h2
    by_cases q : a = n ∧ b = i
    · obtain ⟨rfl, rfl⟩ := q
      rw [es]; exact hv
    · rw [eo a b q]
      exact wF a b h1 h2
  · intro k hk
    have q := wT k hk
    exact ⟨q.1, g_N_mono q.2.1 (by omega), q.2.2⟩
  · obtain ⟨n1, n2, n3, n4, n5⟩ := wN
    have q := g_ph_up (l := Y 3) (f := Y 4) (g := g_up Y 4 n i v 4) (k := n) (i := i) eo hi (g_n (Y 0 1 0)) hn
    rw [es] at q
    refine ⟨by omega, by omega, by omega, by omega, by omega⟩
theorem g_W_f0 {c : Nat} {Y : GA} {n i : Nat} {v : Int32} (hW : g_W c Y) (hn : n < g_n (Y 0 1 0)) (hi : i < g_n (Y 3 n 0)) (hv : g_ok v) (hy : 300 ≤ v → 300 ≤ Y 4 n i) : g_W c (g_up Y 4 n i v) := by
  have n1 := hW.2.2.2.2.2.2.2.2.2.2.2.2.1
  have n4 := hW.2.2.2.2.2.2.2.2.2.2.2.2.2.2.2.1
  have hi0 : g_iy v ≤ g_iy (Y 4 n i) := by
    unfold g_iy
    by_cases a : 300 ≤ v
    · rw [if_pos a, if_pos (hy a)]
      omega
    · rw [if_neg a]
      split <;> omega
  exact g_W_f hW hn hi (Nat.le_refl c) hW.1 hv (by omega) (by omega)
/-- drones, hunger -/
theorem g_W_h12 {c c' : Nat} {Y : GA} {h w : Nat} {v : Int32} (hW : g_W c Y) (hh : h < g_n (Y 0 0 0)) (hw : w = 1 ∨ w = 2) (hc : c ≤ c') (hc5 : c' ≤ 512) (h0 : 0 ≤ v) (b1 : w = 1 → g_su (fun h => Y 1 h 1) (g_n (Y 0 0 0)) + v.toInt - (Y 1 h 1).toInt + g_ph (Y 3) (Y 4) (g_n (Y 0 1 0)) ≤ 400000 * c') (b2 : w = 2 → g_su (fun h => Y 1 h 2) (g_n (Y 0 0 0)) + v.toInt - (Y 1 h 2).toInt ≤ 400000 * c') : g_W c' (g_up Y 1 h w v) := by
  obtain ⟨w5, w0, wB, wL, wP, wK, wU, wF, wT, wS, wI, wD, wN⟩ := id hW
  have e : ∀ k j, j ≠ w → g_up Y 1 h w v 1 k j = Y 1 k j := fun k j hj => g_up_ne (fun q => hj q.2.2)
  have eo : ∀ k j, k ≠ h → g_up Y 1 h w v 1 k j = Y 1 k j := fun k j hj => g_up_ne (fun q => hj q.2.1)
  have es : g_up Y 1 h w v 1 h w = v := g_up_same _ _ _ _ _
  have sm : ∀ j, j ≠ w → g_su (fun k => g_up Y 1 h w v 1 k j) (g_n (Y 0 0 0)) = g_su (fun k => Y 1 k j) (g_n (Y 0 0 0)) := fun j hj => g_su_eq _ (fun k _ => e k j hj)
  have su : g_su (fun k => g_up Y 1 h w v 1 k w) (g_n (Y 0 0 0)) = g_su (fun k => Y 1 k w) (g_n (Y 0 0 0)) + v.toInt - (Y 1 h w).toInt := by
    have q := g_su_up (f := fun k => Y 1 k w) (g := fun k => g_up Y 1 h w v 1 k w) (k := h) (fun j hj => eo j w hj) (g_n (Y 0 0 0)) hh
    rw [es] at q
    exact q
  have nn : ∀ k j, 0 ≤ Y 1 k j → 0 ≤ g_up Y 1 h w v 1 k j := by
    intro k j hy
    by_cases q : j = w ∧ k = h
    · obtain ⟨rfl, rfl⟩ := q
      rw [es]
      exact h0
    · rw [g_up_ne (fun p => q ⟨p.2.2, p.2.1⟩)]
      exact hy
  refine g_W_1 hW (by omega) hc hc5 ?_ ?_ ?_
  · intro k hk
    have q := wS k hk
    rw [e k 0 (by omega), e k 3 (by omega), e k 5 (by omega), e k 6 (by omega), e k 7 (by omega), e k 8 (by omega)]
    exact ⟨q.1, q.2.1, q.2.2.1, q.2.2.2.1, q.2.2.2.2.1, q.2.2.2.2.2.1, q.2.2.2.2.2.2.1, nn k 1 q.2.2.2.2.2.2.2.1, nn k 2 q.2.2.2.2.2.2.2.2⟩
  · refine ⟨?_, wI.2.1, ?_⟩
    · intro k k'
      rw [e k 3 (by omega), e k' 3 (by omega)]
      exact wI.1 k k'
    · intro k s
      rw [e k 3 (by omega)]
      exact wI.2.2 k s
  · obtain ⟨n1, n2, n3, n4, n5⟩ := wN
    refine ⟨by rw [sm 0 (by omega)]; omega, by rw [sm 5 (by omega)]; omega, by rw [sm 6 (by omega)]; omega, ?_, ?_⟩
    · by_cases q : w = 1
      · subst q
        have := b1 rfl
        omega
      · rw [sm 1 (by omega)]
        omega
    · by_cases q : w = 2
      · subst q
        have := b2 rfl
        omega
      · rw [sm 2 (by omega)]
        omega
