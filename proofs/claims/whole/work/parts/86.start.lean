/-! ===== the start ===== -/
theorem i1_z {L : Nat} {xs : Nat → Int32} {a : VA} (h40 : a ≠ (40, 0, 0)) (h11 : a ≠ (11, 0, 0)) (h39 : a.1 ≠ 39) (h60 : a.1 ≠ 60) (j : Nat) : q_I1 L xs a j = 0 := by
  unfold q_I1 q_pl
  rw [if_neg h40, z_p1 h11, z_p1 h11, z_p1 h11, z_bn (fun e => h39 (by rw [e])), z_bn (fun e => h39 (by rw [e])), q_I0_z (fun e => h60 (by rw [e]))]
theorem i1_b0 {L : Nat} {xs : Nat → Int32} {a : VA} (h39 : a.1 ≠ 39) (h60 : a.1 ≠ 60) : q_bn (q_bn (q_I0 L xs) 0) 1 a = fun _ => 0 := by
  rw [z_bn (fun e => h39 (by rw [e])), z_bn (fun e => h39 (by rw [e])), q_I0_z (fun e => h60 (by rw [e]))]
theorem i1_40 {L : Nat} {xs : Nat → Int32} (j : Nat) : q_I1 L xs (40, 0, 0) j = if 16850 ≤ j ∧ j < 16874 then -1 else if 10 ≤ j ∧ j < 3850 then -1 else 0 := by
  unfold q_I1 q_pl
  rw [if_pos rfl, z_p1 (by decide), z_p1 (by decide), z_p1 (by decide), i1_b0 (by decide) (by decide)]
theorem i1_11 {L : Nat} {xs : Nat → Int32} (j : Nat) : q_I1 L xs (11, 0, 0) j = if j = 12 then -1 else if j = 10 then -1 else if j = 8 then -1 else 0 := by
  unfold q_I1 q_pl
  rw [if_neg (by decide)]
  unfold q_p1
  rw [if_pos rfl, if_pos rfl, if_pos rfl, i1_b0 (by decide) (by decide)]
  rfl
theorem i1_39 {L : Nat} {xs : Nat → Int32} {j : Nat} (h : j < 24) : q_I1 L xs (39, 0, 0) j = -1 := by
  unfold q_I1 q_pl
  rw [if_neg (by decide), z_p1 (by decide), z_p1 (by decide), z_p1 (by decide), z_bn (by decide)]
  unfold q_bn
  rw [if_pos rfl, if_pos ⟨Nat.zero_le _, h⟩]
theorem i1_60 {L : Nat} {xs : Nat → Int32} : q_I1 L xs (60, L, 0) = xs := by
  unfold q_I1 q_pl
  have n40 : ((60, L, 0) : VA) ≠ (40, 0, 0) := fun e => absurd (congrArg Prod.fst e) (show (60 : Nat) ≠ 40 by decide)
  have n11 : ((60, L, 0) : VA) ≠ (11, 0, 0) := fun e => absurd (congrArg Prod.fst e) (show (60 : Nat) ≠ 11 by decide)
  have n39 : ∀ y, ((60, L, 0) : VA) ≠ (39, y, 0) := fun y e => absurd (congrArg Prod.fst e) (show (60 : Nat) ≠ 39 by decide)
  rw [if_neg n40, z_p1 n11, z_p1 n11, z_p1 n11, z_bn (n39 1), z_bn (n39 0)]
  funext j
  exact if_pos rfl
/-- the first picture -/
def y0 : GA := fun r _ _ => if r = 2 ∨ r = 5 ∨ r = 14 then -1 else 0
theorem y0_T (L : Nat) (xs : Nat → Int32) : ∀ r i j, r ≠ 8 → g_vd r i j → q_I1 L xs (g_rf r i j).1 (g_rf r i j).2 = y0 r i j
  | 0, i, j, _, h => by
    obtain ⟨h1, h2⟩ := h
    show q_I1 L xs (40, 0, 0) i = 0
    rw [i1_40, if_neg (by omega), if_neg (by omega)]
  | 1, i, j, _, h => by
    obtain ⟨h1, h2⟩ := h
    show q_I1 L xs (40, 0, 0) (16880 + 11 * i + j) = 0
    rw [i1_40, if_neg (by omega), if_neg (by omega)]
  | 2, i, j, _, h => by
    obtain ⟨h1, h2⟩ := h
    show q_I1 L xs (40, 0, 0) (10 + (96 * i + j)) = -1
    rw [i1_40, if_neg (by omega), if_pos (by omega)]
  | 3, i, j, _, h => by
    obtain ⟨h1, h2⟩ := h
    show q_I1 L xs (40, 0, 0) (3850 + i) = 0
    rw [i1_40, if_neg (by omega), if_neg (by omega)]
  | 4, i, j, _, h => by
    obtain ⟨h1, h2⟩ := h
    show q_I1 L xs (40, 0, 0) (4050 + 64 * i + j) = 0
    rw [i1_40, if_neg (by omega), if_neg (by omega)]
  | 5, i, j, _, h => by
    obtain ⟨h1, h2⟩ := h
    show q_I1 L xs (40, 0, 0) (16850 + i) = -1
    rw [i1_40, if_pos (by omega)]
  | 6, i, j, _, h => by
    obtain ⟨h1, h2⟩ := h
    show q_I1 L xs (40, 0, 0) (17320 + 8 * i + j) = 0
    rw [i1_40, if_neg (by omega), if_neg (by omega)]
  | 7, i, j, _, h => by
    obtain ⟨h1, h2⟩ := h
    show q_I1 L xs (40, 0, 0) (18920 + 3 * i + j) = 0
    rw [i1_40, if_neg (by omega), if_neg (by omega)]
  | 8, i, j, h, _ => absurd rfl h
  | 9, i, j, _, h => i1_z (a := (42, 0, 0)) (by decide) (by decide) (by decide) (by decide) i
  | 10, i, j, _, h => by
    obtain ⟨h1, h2⟩ := h
    show q_I1 L xs (11, 0, 0) (if i = 0 then 5 else if i = 1 then 6 else if i = 2 then 3 else 2) = 0
    match i, h1 with
    | 0, _ => rw [i1_11]; rfl
    | 1, _ => rw [i1_11]; rfl
    | 2, _ => rw [i1_11]; rfl
    | 3, _ => rw [i1_11]; rfl
  | 11, i, j, _, h => i1_z (a := (43, 0, 0)) (by decide) (by decide) (by decide) (by decide) i
  | 12, i, j, _, h => i1_z (a := (44, 0, 0)) (by decide) (by decide) (by decide) (by decide) i
  | 13, i, j, _, h => i1_z (a := (45, 0, 0)) (by decide) (by decide) (by decide) (by decide) i
  | 14, i, j, _, h => by
    obtain ⟨h1, h2⟩ := h
    show q_I1 L xs (11, 0, 0) (if i = 0 then 8 else if i = 1 then 10 else 12) = -1
    match i, h1 with
    | 0, _ => rw [i1_11]; rfl
    | 1, _ => rw [i1_11]; rfl
    | 2, _ => rw [i1_11]; rfl
  | n + 15, i, j, _, h => h.elim
theorem y0_n (i : Nat) : g_n (y0 0 i 0) = 0 := rfl
theorem y0_C (L : Nat) (xs : Nat → Int32) : ∀ r i j, r ≤ 13 → g_vd r i j → g_lv y0 r i j → q_I1 L xs (g_cl 0 r i j).1 (g_cl 0 r i j).2 = y0 r i j
  | 0, i, j, _, h, _ => by
    show q_I1 L xs (if i = 8 then (((2, 0, 0) : VA), 3) else ((9, 0, 0), i + 5)).1 (if i = 8 then (((2, 0, 0) : VA), 3) else ((9, 0, 0), i + 5)).2 = 0
    by_cases e : i = 8
    · rw [if_pos e]
      exact i1_z (by decide) (by decide) (by decide) (by decide) _
    · rw [if_neg e]
      exact i1_z (a := (9, 0, 0)) (by decide) (by decide) (by decide) (by decide) _
  | 1, i, j, _, _, hl => absurd hl (Nat.not_lt_zero _)
  | 2, i, j, _, _, hl => absurd hl.1 (Nat.not_lt_zero _)
  | 3, i, j, _, _, hl => absurd hl (Nat.not_lt_zero _)
  | 4, i, j, _, _, hl => absurd hl.1 (Nat.not_lt_zero _)
  | 5, i, j, _, h, _ => i1_39 h.1
  | 6, i, j, _, _, hl => absurd hl (Nat.not_lt_zero _)
  | 7, i, j, _, _, hl => absurd hl (Nat.not_lt_zero _)
  | 8, i, j, _, _, hl => absurd hl (Nat.not_lt_zero _)
  | 9, i, j, _, _, _ => i1_z (a := (20, 0, 0)) (by decide) (by decide) (by decide) (by decide) i
  | 10, i, j, _, _, _ => i1_z (a := (10, 0, 0)) (by decide) (by decide) (by decide) (by decide) _
  | 11, i, j, _, _, _ => i1_z (a := (35, 1, 0)) (by decide) (by decide) (by decide) (by decide) i
  | 12, i, j, _, _, _ => i1_z (a := (35, 2, 0)) (by decide) (by decide) (by decide) (by decide) i
  | 13, i, j, _, _, _ => i1_z (a := (35, 0, 0)) (by decide) (by decide) (by decide) (by decide) i
  | n + 14, i, j, h, _, _ => by omega
theorem y0_W : g_W 0 y0 := by
  have n0 : ∀ h : Nat, ¬ h < g_n (y0 0 0 0) := fun h => Nat.not_lt_zero h
  have n1 : ∀ h : Nat, ¬ h < g_n (y0 0 1 0) := fun h => Nat.not_lt_zero h
  have n2 : ∀ h : Nat, ¬ h < g_n (y0 0 2 0) := fun h => Nat.not_lt_zero h
  have z : g_N 0 40 := ⟨by decide, by decide⟩
  have z2 : g_N 0 200 := ⟨by decide, by decide⟩
  refine ⟨by omega, ⟨z, z2, z2, z2⟩, fun h hh => absurd hh (n0 h), fun n hh => absurd hh (n1 n), fun _ _ _ _ => Or.inl rfl, fun _ _ => Or.inl rfl, ⟨fun _ _ _ _ _ _ _ _ _ q => absurd rfl q, fun _ _ _ _ _ q => absurd rfl q, fun _ _ _ _ _ _ _ => rfl⟩, fun n _ hh => absurd hh (n1 n), fun k hh => absurd hh (n2 k), fun h hh => absurd hh (n0 h), ⟨fun h _ hh => absurd hh (n0 h), fun s _ hh => absurd hh (n2 s), fun h _ hh => absurd hh (n0 h)⟩, fun k hh => absurd hh (n2 k), ?_⟩
  unfold g_wN
  rw [y0_n, y0_n, y0_n]
  exact ⟨by decide, by decide, by decide, by decide, by decide⟩
theorem g_cu_f : ∀ n, g_cu (fun _ => false) n = n
  | 0 => rfl
  | n + 1 => by
    show g_cu (fun _ => false) n + 1 = n + 1
    rw [g_cu_f n]
theorem y0_room (L : Nat) (xs : Nat → Int32) : g_room (q_S0 L xs) := by
  have h1 : g_uh (q_S0 L xs).2.2.1 = 80 := by
    show g_cu (fun _ => false) 40 + g_cu (fun _ => false) 40 = 80
    rw [g_cu_f]
  have h2 : g_uf (q_S0 L xs).2.2.1 = 400 := by
    show g_cu (fun _ => false) 200 + g_cu (fun _ => false) 200 = 400
    rw [g_cu_f]
  have h3 : g_ut (q_S0 L xs).2.2.1 = 400 := by
    show g_cu (fun _ => false) 200 + g_cu (fun _ => false) 200 = 400
    rw [g_cu_f]
  unfold g_room
  rw [h1, h2, h3]
  refine ⟨by show 52 + 2 * 80 + 2 * 400 + 400 ≤ 1412 + 16; omega, by show 83689 + 108 * 80 + 66 * 400 + 9 * 400 ≤ 122329 + 2 * 16; omega, by show 16 ≤ 16; omega, by show 16 ≤ 39800; omega, fun n hn => ?_⟩
  have hn' : 16 < n := hn
  show (n == 16) = false
  exact beq_false_of_ne (by omega)
theorem l_first (L : Nat) (xs : Nat → Int32) : lI 0 L xs (q_S0 L xs) := by
  have f0 : ¬ y0 10 3 0 = 1 := by
    show ¬ (0 : Int32) = 1
    decide
  refine ⟨⟨0, y0, y0, ⟨⟨rfl, rfl, by omega⟩, y0_C L xs, fun q => absurd q f0, ⟨fun h hh => absurd hh (Nat.not_lt_zero _), fun h hh => absurd hh (Nat.not_lt_zero _), fun h hh => absurd hh (Nat.not_lt_zero _)⟩, fun q => absurd q f0, fun k hk => Or.inl ⟨rfl, ?_⟩, fun _ _ => rfl, y0_room L xs⟩, ⟨y0_T L xs, fun q => absurd q f0, fun _ _ => rfl, rfl⟩, y0_W, fun q => absurd q f0, Or.inl rfl⟩, i1_60⟩
  exact i1_z (L := L) (xs := xs) (a := (7, g_rk k, 0)) (fun e => absurd (congrArg Prod.fst e) (show (7 : Nat) ≠ 40 by decide)) (fun e => absurd (congrArg Prod.fst e) (show (7 : Nat) ≠ 11 by decide)) (show (7 : Nat) ≠ 39 by decide) (show (7 : Nat) ≠ 60 by decide) 2
/-- the law answers 1 -/
theorem l_law2 (L : Nat) (xs : Nat → Int32) (hL : L ≤ 2048) : ∃ (n : Nat) (V' : VH), v_go n 0 (0, [(0, .inr (.inr (60, L, 0)))], [], q_C (q_I0 L xs) (q_R q_D0) [] 0 0) = some (some (.inl 1), V') ∧ V'.2.2.2.2.1 ≤ 600000 ∧ V'.2.2.2.2.2 ≤ 7302250 := by
  obtain ⟨S', h1, h2, h3⟩ := l_loop hL (L / 4) 0 q_N (q_S0 L xs) (l_first L xs) (by omega) (by unfold q_N; omega)
  obtain ⟨n, hn⟩ := law_of L xs (show b_0_18 q_N L 0 (q_S0 L xs) = some (1, S') from h1)
  exact ⟨n, q_V S', hn, h2, h3⟩
