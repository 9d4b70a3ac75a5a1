/-! ===== Yard.become, loop by loop ===== -/
theorem mm_91 {y k : Nat} {S : QS} (hk : k < 40) (h : S.2.2.1.2.2.1 y k = true) : f_91 y (nI k) S = some ((y, k), S) := by
  unfold f_91
  rw [w_in hk (by omega), nI_clamp (by omega), w_ck, if_pos h]
theorem mm_92 {y k : Nat} {S : QS} (hk : k < 200) (h : S.2.2.1.2.2.2.1 y k = true) : f_92 y (nI k) S = some ((y, k), S) := by
  unfold f_92
  rw [w_in hk (by omega), nI_clamp (by omega), w_ck, if_pos h]
theorem mm_93 {y k : Nat} {S : QS} (hk : k < 200) (h : S.2.2.1.2.2.2.2.1 y k = true) : f_93 y (nI k) S = some ((y, k), S) := by
  unfold f_93
  rw [w_in hk (by omega), nI_clamp (by omega), w_ck, if_pos h]
theorem n_90_10 {y z m : Nat} (hz : z < 2) (hyz : y ≠ z) (hm : m ≤ 40) : ∀ (n k : Nat) (S : QS), k ≤ m → m - k < n → S.1 (9, z, 0) 5 = nI m → (∀ h, h < m → S.2.2.1.2.2.1 y h = true) → ∃ S', b_90_10 n z y (nI k) S = q_let (q_set S' (9, z, 0) 6 (S'.1 (9, y, 0) 6)) (fun S_2 => b_90_47 q_N z y 0 S_2) ∧ (∀ a : VA, (∀ h, k ≤ h → h < m → a ≠ (4, z, h) ∧ a ≠ (25, z, h)) → S'.1 a = S.1 a) ∧ (∀ h, k ≤ h → h < m → (∀ s, 1 ≤ s → s < 12 → S'.1 (4, z, h) s = S.1 (4, y, h) s) ∧ (∀ i, i < 96 → S'.1 (25, z, h) i = S.1 (25, y, h) i) ∧ S'.2.2.1.2.2.1 z h = true) ∧ g_D S S'
  | 0, k, S, _, h, _, _ => by omega
  | n + 1, k, S, hk, hn, h9, hmd => by
    rw [b_90_10, h9]
    by_cases e : k = m
    · subst e
      rw [if_pos (nI_le (Nat.le_refl k) (by omega))]
      exact ⟨S, rfl, fun _ _ => rfl, fun h h1 h2 => by omega, g_D_refl S⟩
    · rw [if_neg (nI_ge (by omega) (by omega))]
      obtain ⟨S1, e1, a1, a2, a3⟩ := n_91 hz (show k < 40 by omega) S
      rw [e1, w_bd, mm_91 (by omega) (a2.2.2.1 y k (hmd k (by omega))), w_bd]
      obtain ⟨S2, e2, b1, b2, b3, b4⟩ := n_44 (k := k) hyz S1
      dsimp only
      rw [e2, w_bd, nI_1]
      have d2 : g_D S S2 := g_D_trans a2 (g_D_eq b4)
      have f2 : ∀ a : VA, a ≠ (4, z, k) → a ≠ (25, z, k) → S2.1 a = S.1 a := fun a q1 q2 => by rw [b1 a q1 q2, a1 a q1 q2]
      obtain ⟨S3, e3, c1, c2, c3⟩ := n_90_10 hz hyz hm n (k + 1) S2 (by omega) (by omega) (by rw [f2 _ (fun q => by injection q with q1 q2; omega) (fun q => by injection q with q1 q2; omega), h9]) (fun h q => d2.2.2.1 y h (hmd h q))
      refine ⟨S3, e3, ?_, ?_, g_D_trans d2 c3⟩
      · intro a ha
        rw [c1 a (fun h q1 q2 => ha h (by omega) q2), f2 a (ha k (by omega) (by omega)).1 (ha k (by omega) (by omega)).2]
      · intro h q1 q2
        by_cases e : h = k
        · subst e
          have n4 : ∀ h', h + 1 ≤ h' → ((4, z, h) : VA) ≠ (4, z, h') ∧ ((4, z, h) : VA) ≠ (25, z, h') := fun h' hh => ⟨fun q => by injection q with q1 q2; injection q2 with q2 q3; omega, fun q => by injection q with q1 q2; omega⟩
          have n5 : ∀ h', h + 1 ≤ h' → ((25, z, h) : VA) ≠ (4, z, h') ∧ ((25, z, h) : VA) ≠ (25, z, h') := fun h' hh => ⟨fun q => by injection q with q1 q2; omega, fun q => by injection q with q1 q2; injection q2 with q2 q3; omega⟩
          have y4 : S1.1 (4, y, h) = S.1 (4, y, h) := a1 _ (fun q => hyz (by injection q with q1 q2; injection q2)) (fun q => by injection q with q1 q2; omega)
          have y5 : S1.1 (25, y, h) = S.1 (25, y, h) := a1 _ (fun q => by injection q with q1 q2; omega) (fun q => hyz (by injection q with q1 q2; injection q2))
          refine ⟨?_, ?_, ?_⟩
          · intro s s1 s2
            rw [c1 _ (fun h' q1 _ => n4 h' q1), b2 s s1 s2, y4]
          · intro i hi
            rw [c1 _ (fun h' q1 _ => n5 h' q1), b3 i hi, y5]
          · exact c3.2.2.1 z h (by rw [b4]; exact a3)
        · have t := c2 h (by omega) q2
          have y4 : S2.1 (4, y, h) = S.1 (4, y, h) := f2 _ (fun q => hyz (by injection q with q1 q2; injection q2)) (fun q => by injection q with q1 q2; omega)
          have y5 : S2.1 (25, y, h) = S.1 (25, y, h) := f2 _ (fun q => by injection q with q1 q2; omega) (fun q => hyz (by injection q with q1 q2; injection q2))
          rw [y4, y5] at t
          exact t
theorem n_90_47 {y z m : Nat} (hz : z < 2) (hyz : y ≠ z) (hm : m ≤ 200) : ∀ (n k : Nat) (S : QS), k ≤ m → m - k < n → S.1 (9, z, 0) 6 = nI m → (∀ h, h < m → S.2.2.1.2.2.2.1 y h = true ∧ ∃ l, l ≤ 64 ∧ S.1 (3, y, h) 1 = nI l) → ∃ S', b_90_47 n z y (nI k) S = q_let (q_set S' (9, z, 0) 7 (S'.1 (9, y, 0) 7)) (fun S_3 => b_90_84 q_N z y 0 S_3) ∧ (∀ a : VA, (∀ h, k ≤ h → h < m → a ≠ (3, z, h) ∧ a ≠ (24, z, h)) → S'.1 a = S.1 a) ∧ (∀ h, k ≤ h → h < m → S'.1 (3, z, h) 1 = S.1 (3, y, h) 1 ∧ (∀ i, i < g_n (S.1 (3, y, h) 1) → S'.1 (24, z, h) i = S.1 (24, y, h) i) ∧ S'.2.2.1.2.2.2.1 z h = true) ∧ g_D S S'
  | 0, k, S, _, h, _, _ => by omega
  | n + 1, k, S, hk, hn, h9, hmd => by
    rw [b_90_47, h9]
    by_cases e : k = m
    · subst e
      rw [if_pos (nI_le (Nat.le_refl k) (by omega))]
      exact ⟨S, rfl, fun _ _ => rfl, fun h h1 h2 => by omega, g_D_refl S⟩
    · rw [if_neg (nI_ge (by omega) (by omega))]
      obtain ⟨S1, e1, a1, a2, a3⟩ := n_92 hz (show k < 200 by omega) S
      obtain ⟨l, hl, el⟩ := (hmd k (by omega)).2
      have y3 : S1.1 (3, y, k) = S.1 (3, y, k) := a1 _ (fun q => hyz (by injection q with q1 q2; injection q2)) (fun q => by injection q with q1 q2; omega)
      have y24 : S1.1 (24, y, k) = S.1 (24, y, k) := a1 _ (fun q => by injection q with q1 q2; omega) (fun q => hyz (by injection q with q1 q2; injection q2))
      rw [e1, w_bd, mm_92 (by omega) (a2.2.2.2.1 y k (hmd k (by omega)).1), w_bd]
      obtain ⟨S2, e2, b1, b2, b3, b4⟩ := n_30 (k := k) hyz hl S1 (by rw [y3, el])
      dsimp only
      rw [e2, w_bd, nI_1]
      have d2 : g_D S S2 := g_D_trans a2 (g_D_eq b4)
      have f2 : ∀ a : VA, a ≠ (3, z, k) → a ≠ (24, z, k) → S2.1 a = S.1 a := fun a q1 q2 => by rw [b1 a q1 q2, a1 a q1 q2]
      have y3a : ∀ h, S2.1 (3, y, h) = S.1 (3, y, h) := fun h => f2 _ (fun q => hyz (by injection q with q1 q2; injection q2)) (fun q => by injection q with q1 q2; omega)
      have y24a : ∀ h, S2.1 (24, y, h) = S.1 (24, y, h) := fun h => f2 _ (fun q => by injection q with q1 q2; omega) (fun q => hyz (by injection q with q1 q2; injection q2))
      obtain ⟨S3, e3, c1, c2, c3⟩ := n_90_47 hz hyz hm n (k + 1) S2 (by omega) (by omega) (by rw [f2 _ (fun q => by injection q with q1 q2; omega) (fun q => by injection q with q1 q2; omega), h9]) (fun h q => ⟨d2.2.2.2.1 y h (hmd h q).1, by rw [y3a]; exact (hmd h q).2⟩)
      refine ⟨S3, e3, ?_, ?_, g_D_trans d2 c3⟩
      · intro a ha
        rw [c1 a (fun h q1 q2 => ha h (by omega) q2), f2 a (ha k (by omega) (by omega)).1 (ha k (by omega) (by omega)).2]
      · intro h q1 q2
        by_cases e : h = k
        · subst e
          have n4 : ∀ h', h + 1 ≤ h' → ((3, z, h) : VA) ≠ (3, z, h') ∧ ((3, z, h) : VA) ≠ (24, z, h') := fun h' hh => ⟨fun q => by injection q with q1 q2; injection q2 with q2 q3; omega, fun q => by injection q with q1 q2; omega⟩
          have n5 : ∀ h', h + 1 ≤ h' → ((24, z, h) : VA) ≠ (3, z, h') ∧ ((24, z, h) : VA) ≠ (24, z, h') := fun h' hh => ⟨fun q => by injection q with q1 q2; omega, fun q => by injection q with q1 q2; injection q2 with q2 q3; omega⟩
          refine ⟨?_, ?_, ?_⟩
          · rw [c1 _ (fun h' q1 _ => n4 h' q1), b2, el]
          · intro i hi
            rw [el, g_n_nI (by omega)] at hi
            rw [c1 _ (fun h' q1 _ => n5 h' q1), b3 i hi, y24]
          · exact c3.2.2.2.1 z h (by rw [b4]; exact a3)
        · have t := c2 h (by omega) q2
          rw [y3a, y24a] at t
          exact t
theorem n_90_84 {y z m : Nat} (hz : z < 2) (hyz : y ≠ z) (hm : m ≤ 200) : ∀ (n k : Nat) (S : QS), k ≤ m → m - k < n → S.1 (9, z, 0) 7 = nI m → (∀ h, h < m → S.2.2.1.2.2.2.2.1 y h = true) → ∃ S', b_90_84 n z y (nI k) S = b_90_84 1 z y (nI m) S' ∧ (∀ a : VA, (∀ h, k ≤ h → h < m → a ≠ (8, z, h)) → S'.1 a = S.1 a) ∧ (∀ h, k ≤ h → h < m → (∀ s, s < 9 → S'.1 (8, z, h) s = S.1 (8, y, h) s) ∧ S'.2.2.1.2.2.2.2.1 z h = true) ∧ g_D S S' ∧ S'.1 (9, z, 0) 7 = nI m
  | 0, k, S, _, h, _, _ => by omega
  | n + 1, k, S, hk, hn, h9, hmd => by
    by_cases e : k = m
    · subst e
      refine ⟨S, ?_, fun _ _ => rfl, fun h h1 h2 => by omega, g_D_refl S, h9⟩
      rw [b_90_84, b_90_84, h9, if_pos (nI_le (Nat.le_refl k) (by omega)), if_pos (nI_le (Nat.le_refl k) (by omega))]
    · rw [b_90_84, h9, if_neg (nI_ge (by omega) (by omega))]
      obtain ⟨S1, e1, a1, a2, a3⟩ := n_93 hz (show k < 200 by omega) S
      rw [e1, w_bd, mm_93 (by omega) (a2.2.2.2.2.1 y k (hmd k (by omega))), w_bd]
      obtain ⟨S2, e2, b1, b2, b4⟩ := n_84 (k := k) hyz S1
      dsimp only
      rw [e2, w_bd, nI_1]
      have d2 : g_D S S2 := g_D_trans a2 (g_D_eq b4)
      have f2 : ∀ a : VA, a ≠ (8, z, k) → S2.1 a = S.1 a := fun a q1 => by rw [b1 a q1, a1 a q1]
      have y8 : ∀ h, S2.1 (8, y, h) = S.1 (8, y, h) := fun h => f2 _ (fun q => hyz (by injection q with q1 q2; injection q2))
      obtain ⟨S3, e3, c1, c2, c3, c4⟩ := n_90_84 hz hyz hm n (k + 1) S2 (by omega) (by omega) (by rw [f2 _ (fun q => by injection q with q1 q2; omega), h9]) (fun h q => d2.2.2.2.2.1 y h (hmd h q))
      refine ⟨S3, e3, ?_, ?_, g_D_trans d2 c3, c4⟩
      · intro a ha
        rw [c1 a (fun h q1 q2 => ha h (by omega) q2), f2 a (ha k (by omega) (by omega))]
      · intro h q1 q2
        by_cases e : h = k
        · subst e
          refine ⟨?_, ?_⟩
          · intro s hs
            rw [c1 _ (fun h' q1 _ => fun q => by injection q with q1 q2; injection q2 with q2 q3; omega), b2 s hs, a1 _ (fun q => hyz (by injection q with q1 q2; injection q2))]
          · exact c3.2.2.2.2.1 z h (by rw [b4]; exact a3)
        · have t := c2 h (by omega) q2
          rw [y8] at t
          exact t
def g_yt (t : Nat) : Bool := t == 2 || t == 3 || t == 4 || t == 8 || t == 9 || t == 21 || t == 22 || t == 23 || t == 24 || t == 25 || t == 39
/-- the end of become: bench, book, numbers -/
theorem n_90_end {y z m e : Nat} (hyz : y ≠ z) (he : e ≤ 200) (hm : m ≤ 200) (S : QS) (h9 : S.1 (9, z, 0) 7 = nI m) (h2 : S.1 (2, y, 0) 3 = nI e) : ∃ S', b_90_84 1 z y (nI m) S = some ((), S') ∧ (∀ a : VA, ¬ (a.2.1 = z ∧ (a.1 = 2 ∨ a.1 = 21 ∨ a.1 = 22 ∨ a.1 = 23 ∨ a.1 = 39 ∨ a.1 = 9)) → S'.1 a = S.1 a) ∧ (∀ s, 5 ≤ s → s < 8 → S'.1 (9, z, 0) s = S.1 (9, z, 0) s) ∧ (∀ s, 8 ≤ s → s < 13 → S'.1 (9, z, 0) s = S.1 (9, y, 0) s) ∧ (∀ i, i < 24 → S'.1 (39, z, 0) i = S.1 (39, y, 0) i) ∧ S'.1 (2, z, 0) 3 = nI e ∧ (∀ t i, t < 3 → i < e → S'.1 (21 + t, z, 0) i = S.1 (21 + t, y, 0) i) ∧ S'.2 = S.2 := by
  rw [b_90_84, h9, if_pos (nI_le (Nat.le_refl m) (by omega)), show (decide (¬ (0 : Int32) < 0) && decide (¬ (0 : Int32) < 0) && decide (¬ (24 : Int32) < 0) && decide ((0 : Int32).toNatClampNeg + (24 : Int32).toNatClampNeg ≤ 24) && decide ((0 : Int32).toNatClampNeg + (24 : Int32).toNatClampNeg ≤ 24)) = true from by decide, w_ck, show (0 : Int32).toNatClampNeg = 0 from rfl, show (24 : Int32).toNatClampNeg = 24 from rfl]
  obtain ⟨S1, e1, a1, a2, a3⟩ := n_cpr S (39, z, 0) (39, y, 0) 24
  rw [e1, w_let]
  obtain ⟨S2, e2, b1, b2, b3, b4⟩ := n_27 hyz he S1 (by rw [a1 _ (fun q => by injection q with q1 q2; omega), h2])
  rw [e2, w_bd]
  have hab : ((9, y, 0) : VA) ≠ (9, z, 0) := fun q => hyz (by injection q with q1 q2; injection q2)
  have p0 := g_cp0 S2 (9, z, 0) (9, y, 0) 8
  obtain ⟨S3, e3, p3⟩ := g_cp1 hab p0
  rw [e3, w_let]
  obtain ⟨S4, e4, p4⟩ := g_cp1 hab p3
  rw [e4, w_let]
  obtain ⟨S5, e5, p5⟩ := g_cp1 hab p4
  rw [e5, w_let]
  obtain ⟨S6, e6, p6⟩ := g_cp1 hab p5
  rw [e6, w_let]
  obtain ⟨S7, e7, p7⟩ := g_cp1 hab p6
  rw [e7, w_let]
  have f2 : ∀ a : VA, ¬ (a.2.1 = z ∧ (a.1 = 2 ∨ a.1 = 21 ∨ a.1 = 22 ∨ a.1 = 23 ∨ a.1 = 39)) → S2.1 a = S.1 a := by
    intro a ha
    rw [b1 a (fun q => ha ⟨q.1, by omega⟩), a1 a (fun q => ha (by subst q; exact ⟨rfl, by omega⟩))]
  have low : ∀ s, 5 ≤ s → s < 8 → S7.1 (9, z, 0) s = S2.1 (9, z, 0) s := by
    intro s s1 s2
    rw [← e7, g_set1, if_neg (fun q => by omega), ← e6, g_set1, if_neg (fun q => by omega), ← e5, g_set1, if_neg (fun q => by omega), ← e4, g_set1, if_neg (fun q => by omega), ← e3, g_set1, if_neg (fun q => by omega)]
  refine ⟨S7, rfl, ?_, ?_, ?_, ?_, ?_, ?_, ?_⟩
  · intro a ha
    rw [p7.1 a (fun q => ha (by subst q; exact ⟨rfl, by omega⟩)), f2 a (fun q => ha ⟨q.1, by omega⟩)]
  · intro s s1 s2
    rw [low s s1 s2, f2 _ (fun q => by dsimp only at q; omega)]
  · intro s s1 s2
    rw [p7.2.1 s s1 (by omega), f2 _ (fun q => by dsimp only at q; omega)]
  · intro i hi
    rw [p7.1 _ (fun q => by injection q with q1 q2; omega), b1 _ (fun q => by dsimp only at q; omega), a2 i hi]
  · rw [p7.1 _ (fun q => by injection q with q1 q2; omega), b2]
  · intro t i ht hi
    rw [p7.1 _ (fun q => by injection q with q1 q2; omega), b3 t i ht hi, a1 _ (fun q => by injection q with q1 q2; omega)]
  · rw [p7.2.2, b4, a3]
