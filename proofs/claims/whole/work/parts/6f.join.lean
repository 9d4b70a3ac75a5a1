/-! ===== join, split ===== -/
def g_jn (Y : GA) (h g : Nat) : GA := fun r i j => if r = 1 ∧ i = h then (if j = 3 then (if Y 1 h 3 = -1 then Y 1 g 3 else Y 1 h 3) else if j < 7 then Y 1 h j + Y 1 g j else Y 1 h j) else if r = 1 ∧ i = g then (if j = 3 then -1 else if j < 7 then 0 else Y 1 g j) else Y r i j
theorem g_jn_h {Y : GA} {h g j : Nat} : g_jn Y h g 1 h j = if j = 3 then (if Y 1 h 3 = -1 then Y 1 g 3 else Y 1 h 3) else if j < 7 then Y 1 h j + Y 1 g j else Y 1 h j := by
  unfold g_jn
  rw [if_pos ⟨rfl, rfl⟩]
theorem g_jn_g {Y : GA} {h g j : Nat} (hg : g ≠ h) : g_jn Y h g 1 g j = if j = 3 then -1 else if j < 7 then 0 else Y 1 g j := by
  unfold g_jn
  rw [if_neg (fun q => hg q.2), if_pos ⟨rfl, rfl⟩]
theorem g_jn_o {Y : GA} {h g r i j : Nat} (h1 : ¬ (r = 1 ∧ i = h)) (h2 : ¬ (r = 1 ∧ i = g)) : g_jn Y h g r i j = Y r i j := by
  unfold g_jn
  rw [if_neg h1, if_neg h2]
theorem g_jn_r {Y : GA} {h g r : Nat} (h1 : r ≠ 1) : g_jn Y h g r = Y r := by
  funext i j
  exact g_jn_o (fun q => h1 q.1) (fun q => h1 q.1)
theorem g_su_2 {f f' : Nat → Int32} {h g : Nat} (hg : g ≠ h) (ho : ∀ j, j ≠ h → j ≠ g → f' j = f j) (n : Nat) (hh : h < n) (hgg : g < n) : g_su f' n = g_su f n + (f' h).toInt - (f h).toInt + (f' g).toInt - (f g).toInt := by
  have a1 := g_su_up (f := f) (g := fun j => if j = h then f' h else f j) (k := h) (fun j hj => if_neg hj) n hh
  have a2 := g_su_up (f := fun j => if j = h then f' h else f j) (g := f') (k := g) (fun j hj => by
    by_cases e : j = h
    · subst e
      exact (if_pos rfl).symm
    · rw [if_neg e]
      exact ho j e hj) n hgg
  rw [if_pos rfl] at a1
  rw [if_neg hg] at a2
  omega
theorem g_W_jn {c : Nat} {Y : GA} {h g : Nat} (hW : g_W c Y) (hg : g ≠ h) (hh : h < g_n (Y 0 0 0)) (hgg : g < g_n (Y 0 0 0)) : g_W c (g_jn Y h g) := by
  obtain ⟨w5, w0, wB, wL, wP, wK, wU, wF, wT, wS, wI, wD, wN⟩ := id hW
  obtain ⟨bh0, bh5, bh6⟩ := g_bees hW hh
  obtain ⟨bg0, bg5, bg6⟩ := g_bees hW hgg
  obtain ⟨s0, t0⟩ := g_addN bh0 bg0 (by omega)
  obtain ⟨s5, t5⟩ := g_addN bh5 bg5 (by omega)
  obtain ⟨s6, t6⟩ := g_addN bh6 bg6 (by omega)
  obtain ⟨bh1, bh2⟩ := g_drh hW hh
  obtain ⟨bg1, bg2⟩ := g_drh hW hgg
  obtain ⟨s1, t1⟩ := g_addN bh1 bg1 (by omega)
  obtain ⟨s2, t2⟩ := g_addN bh2 bg2 (by omega)
  have o1 : ∀ a j, a ≠ h → a ≠ g → g_jn Y h g 1 a j = Y 1 a j := fun a j h1 h2 => g_jn_o (fun q => h1 q.2) (fun q => h2 q.2)
  have hj : ∀ j, 7 ≤ j → ∀ a, g_jn Y h g 1 a j = Y 1 a j := by
    intro j hj a
    by_cases e1 : a = h
    · rw [e1, g_jn_h, if_neg (by omega), if_neg (by omega)]
    · by_cases e2 : a = g
      · rw [e2, g_jn_g hg, if_neg (by omega), if_neg (by omega)]
      · exact o1 a j e1 e2
  have z0 : (0 : Int32).toInt = 0 := by decide
  have sums : ∀ j, j < 7 → j ≠ 3 → (Y 1 h j + Y 1 g j).toInt = (Y 1 h j).toInt + (Y 1 g j).toInt → g_su (fun a => g_jn Y h g 1 a j) (g_n (Y 0 0 0)) = g_su (fun a => Y 1 a j) (g_n (Y 0 0 0)) := by
    intro j h7 h3 he
    have := g_su_2 (f := fun a => Y 1 a j) (f' := fun a => g_jn Y h g 1 a j) hg (fun a h1 h2 => o1 a j h1 h2) (g_n (Y 0 0 0)) hh hgg
    rw [g_jn_h, g_jn_g hg, if_neg h3, if_pos h7, if_neg h3, if_pos h7, he, z0] at this
    omega
  have slots : ∀ a, a < g_n (Y 0 0 0) → (g_jn Y h g 1 a 3 = -1) ∨ (∃ a', a' < g_n (Y 0 0 0) ∧ g_jn Y h g 1 a 3 = Y 1 a' 3 ∧ (a' = a ∨ (a = h ∧ a' = g)) ∧ (a ≠ g) ∧ (a = h → a' = h → Y 1 h 3 ≠ -1)) := by
    intro a ha
    by_cases e1 : a = h
    · subst e1
      rw [g_jn_h, if_pos rfl]
      by_cases e3 : Y 1 a 3 = -1
      · rw [if_pos e3]
        exact Or.inr ⟨g, hgg, rfl, Or.inr ⟨rfl, rfl⟩, fun q => hg q.symm, fun _ q => absurd q hg⟩
      · rw [if_neg e3]
        exact Or.inr ⟨a, ha, rfl, Or.inl rfl, fun q => hg q.symm, fun _ _ => e3⟩
    · by_cases e2 : a = g
      · subst e2
        rw [g_jn_g hg, if_pos rfl]
        exact Or.inl rfl
      · rw [o1 a 3 e1 e2]
        exact Or.inr ⟨a, ha, rfl, Or.inl rfl, e2, fun q => absurd q e1⟩
  unfold g_W
  rw [g_jn_r (r := 0) (by omega), g_jn_r (r := 2) (by omega), g_jn_r (r := 3) (by omega), g_jn_r (r := 4) (by omega), g_jn_r (r := 5) (by omega), g_jn_r (r := 6) (by omega), g_jn_r (r := 8) (by omega)]
  refine ⟨w5, w0, ?_, wL, ?_, wK, wU, wF, wT, ?_, ?_, wD, ?_⟩
  · intro a ha
    rw [hj 10 (by omega)]
    exact wB a ha
  · intro a i h1 h2
    rw [hj 10 (by omega)]
    exact wP a i h1 h2
  · intro a ha
    have q := wS a ha
    rw [hj 7 (by omega), hj 8 (by omega)]
    have nn : ∀ j, (j = 0 ∨ j = 5 ∨ j = 6 ∨ j = 1 ∨ j = 2) → 0 ≤ Y 1 a j → 0 ≤ Y 1 h j + Y 1 g j → 0 ≤ g_jn Y h g 1 a j := by
      intro j hj hy hs
      by_cases e1 : a = h
      · rw [e1, g_jn_h, if_neg (by omega), if_pos (by omega)]
        exact hs
      · by_cases e2 : a = g
        · rw [e2, g_jn_g hg, if_neg (by omega), if_pos (by omega)]
          decide
        · rw [o1 a j e1 e2]
          exact hy
    refine ⟨nn 0 (by omega) q.1 (g_N_nn s0 (by omega)), ?_, nn 5 (by omega) q.2.2.1 (g_N_nn s5 (by omega)), nn 6 (by omega) q.2.2.2.1 (g_N_nn s6 (by omega)), q.2.2.2.2.1, q.2.2.2.2.2.1, q.2.2.2.2.2.2.1, nn 1 (by omega) q.2.2.2.2.2.2.2.1 (g_N_nn s1 (by omega)), nn 2 (by omega) q.2.2.2.2.2.2.2.2 (g_N_nn s2 (by omega))⟩
    rcases slots a ha with e | ⟨a', h1, h2, _⟩
    · exact Or.inl e
    · rw [h2]
      exact (wS a' h1).2.1
  · refine ⟨?_, wI.2.1, ?_⟩
    · intro a b ha hb q1 q2
      rcases slots a ha with e | ⟨a', p1, p2, p3, p4, p5⟩
      · exact absurd e q2
      · rcases slots b hb with e | ⟨b', r1, r2, r3, r4, r5⟩
        · exact absurd (q1.trans e) q2
        · rw [p2, r2] at q1
          rw [p2] at q2
          have := wI.1 a' b' p1 r1 q1 q2
          omega
    · intro a s ha hs q1
      rcases slots a ha with e | ⟨a', p1, p2, p3, p4, p5⟩
      · exact e
      · rw [p2] at q1 ⊢
        exact wI.2.2 a' s p1 hs q1
  · obtain ⟨q1, q2, q3⟩ := wN
    refine ⟨?_, ?_, ?_⟩
    · rw [sums 0 (by omega) (by omega) t0]; exact q1
    · rw [sums 5 (by omega) (by omega) t5]; exact q2
    · rw [sums 6 (by omega) (by omega) t6, sums 1 (by omega) (by omega) t1, sums 2 (by omega) (by omega) t2]; exact q3
theorem c_48 {c y : Nat} {Y V : GA} {X S : QS} (hC : g_C y Y V X S) (hW : g_W c Y) {h g : Nat} (hg : g ≠ h) (hh : h < g_n (Y 0 0 0)) (hgg : g < g_n (Y 0 0 0)) : ∃ S', f_48 y h y g S = some ((), S') ∧ g_C y (g_jn Y h g) V X S' := by
  have n0 := hW.2.1.1.2
  have h4 : h < 40 := by omega
  have g4 : g < 40 := by omega
  unfold f_48 b_48_94 f_52
  rw [c_h0 hC hh h4, c_h0 hC hgg g4]
  obtain ⟨S0, e0, h0⟩ := cs_h0 hC h4 (Y 1 h 0 + Y 1 g 0)
  rw [e0, x_let, c_h1 h0 hh h4, c_h1 h0 hgg g4]
  obtain ⟨S1, e1, h1⟩ := cs_h1 h0 h4 (Y 1 h 1 + Y 1 g 1)
  rw [show (g_up Y 1 h 0 (Y 1 h 0 + Y 1 g 0)) 1 h 1 + (g_up Y 1 h 0 (Y 1 h 0 + Y 1 g 0)) 1 g 1 = Y 1 h 1 + Y 1 g 1 from rfl, e1, x_let, c_h2 h1 hh h4, c_h2 h1 hgg g4]
  generalize hA1 : g_up (g_up Y 1 h 0 (Y 1 h 0 + Y 1 g 0)) 1 h 1 (Y 1 h 1 + Y 1 g 1) = A1 at h1
  have r1 : ∀ a j, j ≠ 0 → j ≠ 1 → A1 1 a j = Y 1 a j := fun a j q0 q1 => by rw [← hA1, g_up_ne (fun p => q1 p.2.2), g_up_ne (fun p => q0 p.2.2)]
  have z1 : A1 0 = Y 0 := by rw [← hA1, g_up_r (by omega), g_up_r (by omega)]
  rw [r1 h 2 (by omega) (by omega), r1 g 2 (by omega) (by omega)]
  obtain ⟨S2, e2, h2⟩ := cs_h2 h1 h4 (Y 1 h 2 + Y 1 g 2)
  have hh1 : h < g_n (A1 0 0 0) := by rw [z1]; exact hh
  have hg1 : g < g_n (A1 0 0 0) := by rw [z1]; exact hgg
  rw [e2, x_let, c_h4 h2 hh1 h4, c_h4 h2 hg1 g4, show g_up A1 1 h 2 (Y 1 h 2 + Y 1 g 2) 1 h 4 = A1 1 h 4 from rfl, show g_up A1 1 h 2 (Y 1 h 2 + Y 1 g 2) 1 g 4 = A1 1 g 4 from rfl, r1 h 4 (by omega) (by omega), r1 g 4 (by omega) (by omega)]
  obtain ⟨S3, e3, h3⟩ := cs_h4 h2 h4 (Y 1 h 4 + Y 1 g 4)
  rw [e3, x_let, c_h5 h3 hh1 h4, c_h5 h3 hg1 g4]
  generalize hA3 : g_up (g_up A1 1 h 2 (Y 1 h 2 + Y 1 g 2)) 1 h 4 (Y 1 h 4 + Y 1 g 4) = A3 at h3
  have r3 : ∀ a j, j ≠ 0 → j ≠ 1 → j ≠ 2 → j ≠ 4 → A3 1 a j = Y 1 a j := fun a j q0 q1 q2 q4 => by rw [← hA3, g_up_ne (fun p => q4 p.2.2), g_up_ne (fun p => q2 p.2.2), r1 a j q0 q1]
  have z3 : A3 0 = Y 0 := by rw [← hA3, g_up_r (by omega), g_up_r (by omega), z1]
  have hh3 : h < g_n (A3 0 0 0) := by rw [z3]; exact hh
  have hg3 : g < g_n (A3 0 0 0) := by rw [z3]; exact hgg
  rw [r3 h 5 (by omega) (by omega) (by omega) (by omega), r3 g 5 (by omega) (by omega) (by omega) (by omega)]
  obtain ⟨S4, e4, h5⟩ := cs_h5 h3 h4 (Y 1 h 5 + Y 1 g 5)
  rw [e4, x_let, c_h6 h5 hh3 h4, c_h6 h5 hg3 g4, show g_up A3 1 h 5 (Y 1 h 5 + Y 1 g 5) 1 h 6 = A3 1 h 6 from rfl, show g_up A3 1 h 5 (Y 1 h 5 + Y 1 g 5) 1 g 6 = A3 1 g 6 from rfl, r3 h 6 (by omega) (by omega) (by omega) (by omega), r3 g 6 (by omega) (by omega) (by omega) (by omega)]
  obtain ⟨S5, e5, h6⟩ := cs_h6 h5 h4 (Y 1 h 6 + Y 1 g 6)
  rw [e5, x_let, c_h3 h6 hh3 h4, c_h3 h6 hg3 g4, show g_up (g_up A3 1 h 5 (Y 1 h 5 + Y 1 g 5)) 1 h 6 (Y 1 h 6 + Y 1 g 6) 1 h 3 = A3 1 h 3 from rfl, show g_up (g_up A3 1 h 5 (Y 1 h 5 + Y 1 g 5)) 1 h 6 (Y 1 h 6 + Y 1 g 6) 1 g 3 = A3 1 g 3 from rfl, r3 h 3 (by omega) (by omega) (by omega) (by omega), r3 g 3 (by omega) (by omega) (by omega) (by omega)]
  have rest : ∀ (W : GA) (S6 : QS), g_C y W V X S6 → (∀ r i j, ¬ (r = 1 ∧ i = h) → W r i j = Y r i j) → (∀ j, W 1 h j = g_jn Y h g 1 h j) → ∃ S', (q_let (q_set S6 (4, y, g) 2 0) (fun S_7 => q_let (q_set S_7 (4, y, g) 3 0) (fun S_8 => q_let (q_set S_8 (4, y, g) 4 0) (fun S_9 => q_let (q_set S_9 (4, y, g) 5 (-1)) (fun S_10 => q_bd (q_let (q_set S_10 (4, y, g) 6 0) (fun S_1 => q_let (q_set S_1 (4, y, g) 7 0) (fun S_2 => q_let (q_set S_2 (4, y, g) 8 0) (fun S_3 => some ((), S_3))))) (fun r_11 S_12 => some ((), S_12))))))) = some ((), S') ∧ g_C y (g_jn Y h g) V X S' := by
    intro W S6 c6 o6 v6
    obtain ⟨Sa, ea, ca⟩ := cs_h0 c6 g4 0
    rw [ea, x_let]
    obtain ⟨Sb, eb, cb⟩ := cs_h1 ca g4 0
    rw [eb, x_let]
    obtain ⟨Sc, ec, cc⟩ := cs_h2 cb g4 0
    rw [ec, x_let]
    obtain ⟨Sd, ed, cd⟩ := cs_h3 cc g4 (-1)
    rw [ed, x_let]
    obtain ⟨Se, ee, ce⟩ := cs_h4 cd g4 0
    rw [ee, x_let]
    obtain ⟨Sf, ef, cf⟩ := cs_h5 ce g4 0
    rw [ef, x_let]
    obtain ⟨Sg, eg, cg⟩ := cs_h6 cf g4 0
    rw [eg, x_let, x_bd]
    refine ⟨Sg, rfl, ?_⟩
    have eqq : g_up (g_up (g_up (g_up (g_up (g_up (g_up W 1 g 0 0) 1 g 1 0) 1 g 2 0) 1 g 3 (-1)) 1 g 4 0) 1 g 5 0) 1 g 6 0 = g_jn Y h g := by
      funext r i j
      by_cases q1 : r = 1 ∧ i = g
      · obtain ⟨rfl, rfl⟩ := q1
        rw [g_jn_g hg]
        have : j = 0 ∨ j = 1 ∨ j = 2 ∨ j = 3 ∨ j = 4 ∨ j = 5 ∨ j = 6 ∨ 7 ≤ j := by omega
        rcases this with e | e | e | e | e | e | e | e
        · subst e; simp [g_up]
        · subst e; simp [g_up]
        · subst e; simp [g_up]
        · subst e; simp [g_up]
        · subst e; simp [g_up]
        · subst e; simp [g_up]
        · subst e; simp [g_up]
        · rw [g_up_ne (fun p => by omega), g_up_ne (fun p => by omega), g_up_ne (fun p => by omega), g_up_ne (fun p => by omega), g_up_ne (fun p => by omega), g_up_ne (fun p => by omega), g_up_ne (fun p => by omega), if_neg (by omega), if_neg (by omega), o6 1 i j (fun p => hg p.2)]
      · have k : ∀ (W' : GA) (w : Nat) (v : Int32), g_up W' 1 g w v r i j = W' r i j := fun W' w v => g_up_ne (fun p => q1 ⟨p.1, p.2.1⟩)
        rw [k, k, k, k, k, k, k]
        by_cases q2 : r = 1 ∧ i = h
        · obtain ⟨rfl, rfl⟩ := q2
          exact v6 j
        · rw [o6 r i j q2, g_jn_o q2 q1]
    rw [eqq] at cg
    exact cg
  have o6 : ∀ r i j, ¬ (r = 1 ∧ i = h) → g_up (g_up A3 1 h 5 (Y 1 h 5 + Y 1 g 5)) 1 h 6 (Y 1 h 6 + Y 1 g 6) r i j = Y r i j := by
    intro r i j q
    have k : ∀ (W' : GA) (w : Nat) (v : Int32), g_up W' 1 h w v r i j = W' r i j := fun W' w v => g_up_ne (fun p => q ⟨p.1, p.2.1⟩)
    rw [k, k, ← hA3, k, k, ← hA1, k, k]
  have v6 : ∀ j, j ≠ 3 → g_up (g_up A3 1 h 5 (Y 1 h 5 + Y 1 g 5)) 1 h 6 (Y 1 h 6 + Y 1 g 6) 1 h j = g_jn Y h g 1 h j := by
    intro j hj3
    rw [g_jn_h, if_neg hj3, ← hA3, ← hA1]
    have : j = 0 ∨ j = 1 ∨ j = 2 ∨ j = 4 ∨ j = 5 ∨ j = 6 ∨ 7 ≤ j := by omega
    rcases this with e | e | e | e | e | e | e
    · subst e; simp [g_up]
    · subst e; simp [g_up]
    · subst e; simp [g_up]
    · subst e; simp [g_up]
    · subst e; simp [g_up]
    · subst e; simp [g_up]
    · rw [g_up_ne (fun p => by omega), g_up_ne (fun p => by omega), g_up_ne (fun p => by omega), g_up_ne (fun p => by omega), g_up_ne (fun p => by omega), g_up_ne (fun p => by omega), if_neg (by omega)]
  by_cases es : Y 1 h 3 = -1
  · rw [if_neg (fun p => p es)]
    obtain ⟨S6, e7, h7⟩ := cs_h3 h6 h4 (Y 1 g 3)
    rw [e7, x_let]
    refine rest _ S6 h7 (fun r i j q => by rw [g_up_ne (fun p => q ⟨p.1, p.2.1⟩), o6 r i j q]) (fun j => ?_)
    by_cases e : j = 3
    · subst e
      rw [g_up_same, g_jn_h, if_pos rfl, if_pos es]
    · rw [g_up_ne (fun p => e p.2.2), v6 j e]
  · rw [if_pos es]
    refine rest _ S5 h6 o6 (fun j => ?_)
    by_cases e : j = 3
    · subst e
      rw [g_jn_h, if_pos rfl, if_neg es]
      show A3 1 h 3 = Y 1 h 3
      rw [r3 h 3 (by omega) (by omega) (by omega) (by omega)]
    · exact v6 j e
