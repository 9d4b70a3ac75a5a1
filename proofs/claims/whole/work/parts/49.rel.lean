/-! ===== one picture of the class's and of the reference's rows ===== -/
abbrev GA : Type := Nat → Nat → Nat → Int32
def g_n (x : Int32) : Nat := x.toNatClampNeg
def g_up (Y : GA) (r i j : Nat) (v : Int32) : GA := fun a b c => if a = r then (if c = j ∧ b = i then v else Y a b c) else Y a b c
/-- the indices that there are: 0 counts, 1 hives, 2 places, 3 lengths, 4 fields, 5 bench, 6 things, 7 ledger, 8 depths, 9 runs, 10 status moved next undo, 11 shares, 12 letters, 13 order, 14 how many of these -/
def g_vd (r i j : Nat) : Prop := match r with
  | 0 => i < 9 ∧ j = 0
  | 1 => i < 40 ∧ j < 11
  | 2 => i < 40 ∧ j < 96
  | 3 => i < 200 ∧ j = 0
  | 4 => i < 200 ∧ j < 64
  | 5 => i < 24 ∧ j = 0
  | 6 => i < 200 ∧ j < 8
  | 7 => i < 200 ∧ j < 3
  | 8 => i < 200 ∧ j = 0
  | 9 => i < 17 ∧ j = 0
  | 10 => i < 4 ∧ j = 0
  | 11 => i < 100 ∧ j = 0
  | 12 => i < 64 ∧ j = 0
  | 13 => i < 8 ∧ j = 0
  | 14 => i < 3 ∧ j = 0
  | _ => False
/-- the class's cell -/
def g_cl (y r i j : Nat) : VA × Nat := match r with
  | 0 => if i = 8 then ((2, y, 0), 3) else ((9, y, 0), i + 5)
  | 1 => ((4, y, i), if j = 10 then 1 else j + 2)
  | 2 => ((25, y, i), j)
  | 3 => ((3, y, i), 1)
  | 4 => ((24, y, i), j)
  | 5 => ((39, y, 0), i)
  | 6 => ((8, y, i), if j < 4 then j else j + 1)
  | 7 => ((21 + j, y, 0), i)
  | 8 => ((8, y, i), 4)
  | 9 => ((20, 0, 0), i)
  | 10 => ((10, 0, 0), if i = 3 then 2 else i + 3)
  | 11 => ((35, 1, 0), i)
  | 12 => ((35, 2, 0), i)
  | 13 => ((35, 0, 0), i)
  | _ => ((0, 0, 0), 0)
def g_uc (q : VA × Nat) : Nat × Nat × Nat := match q.1.1 with
  | 2 => (0, 8, 0)
  | 9 => (0, q.2 - 5, 0)
  | 4 => (1, q.1.2.2, if q.2 = 1 then 10 else q.2 - 2)
  | 25 => (2, q.1.2.2, q.2)
  | 3 => (3, q.1.2.2, 0)
  | 24 => (4, q.1.2.2, q.2)
  | 39 => (5, q.2, 0)
  | 8 => if q.2 = 4 then (8, q.1.2.2, 0) else (6, q.1.2.2, if q.2 < 4 then q.2 else q.2 - 1)
  | 21 => (7, q.2, 0)
  | 22 => (7, q.2, 1)
  | 23 => (7, q.2, 2)
  | 20 => (9, q.2, 0)
  | 10 => (10, if q.2 = 2 then 3 else q.2 - 3, 0)
  | 35 => (if q.1.2.1 = 1 then 11 else if q.1.2.1 = 2 then 12 else 13, q.2, 0)
  | _ => (99, 0, 0)
/-- the reference's cell -/
def g_rf (r i j : Nat) : VA × Nat := match r with
  | 0 => ((40, 0, 0), i)
  | 1 => ((40, 0, 0), 16880 + 11 * i + j)
  | 2 => ((40, 0, 0), 10 + (96 * i + j))
  | 3 => ((40, 0, 0), 3850 + i)
  | 4 => ((40, 0, 0), 4050 + 64 * i + j)
  | 5 => ((40, 0, 0), 16850 + i)
  | 6 => ((40, 0, 0), 17320 + 8 * i + j)
  | 7 => ((40, 0, 0), 18920 + 3 * i + j)
  | 9 => ((42, 0, 0), i)
  | 10 => ((11, 0, 0), if i = 0 then 5 else if i = 1 then 6 else if i = 2 then 3 else 2)
  | 11 => ((43, 0, 0), i)
  | 12 => ((44, 0, 0), i)
  | 13 => ((45, 0, 0), i)
  | 14 => ((11, 0, 0), if i = 0 then 8 else if i = 1 then 10 else 12)
  | _ => ((0, 0, 0), 0)
def g_u40 (k : Nat) : Nat × Nat × Nat := if k < 9 then (0, k, 0) else if k < 3850 then (2, (k - 10) / 96, (k - 10) % 96) else if k < 4050 then (3, k - 3850, 0) else if k < 16850 then (4, (k - 4050) / 64, (k - 4050) % 64) else if k < 16880 then (5, k - 16850, 0) else if k < 17320 then (1, (k - 16880) / 11, (k - 16880) % 11) else if k < 18920 then (6, (k - 17320) / 8, (k - 17320) % 8) else (7, (k - 18920) / 3, (k - 18920) % 3)
def g_u11 (k : Nat) : Nat × Nat × Nat := if k = 5 then (10, 0, 0) else if k = 6 then (10, 1, 0) else if k = 3 then (10, 2, 0) else if k = 2 then (10, 3, 0) else if k = 8 then (14, 0, 0) else if k = 10 then (14, 1, 0) else (14, 2, 0)
def g_ur (q : VA × Nat) : Nat × Nat × Nat := match q.1.1 with
  | 40 => g_u40 q.2
  | 42 => (9, q.2, 0)
  | 11 => g_u11 q.2
  | 43 => (11, q.2, 0)
  | 44 => (12, q.2, 0)
  | 45 => (13, q.2, 0)
  | _ => (99, 0, 0)
theorem g_uc_cl {y : Nat} : ∀ {r i j : Nat}, r ≤ 13 → g_vd r i j → g_uc (g_cl y r i j) = (r, i, j)
  | 0, i, j, _, h => by
    obtain ⟨h1, h2⟩ := h
    subst h2
    unfold g_cl
    by_cases e : i = 8
    · subst e; rfl
    · rw [if_neg e]
      show (0, i + 5 - 5, 0) = (0, i, 0)
      rw [Nat.add_sub_cancel]
  | 1, i, j, _, h => by
    obtain ⟨h1, h2⟩ := h
    show (1, i, if (if j = 10 then 1 else j + 2) = 1 then 10 else (if j = 10 then 1 else j + 2) - 2) = (1, i, j)
    by_cases e : j = 10
    · subst e; rfl
    · rw [if_neg e, if_neg (by omega), Nat.add_sub_cancel]
  | 2, i, j, _, h => rfl
  | 3, i, j, _, h => by
    obtain ⟨h1, h2⟩ := h
    subst h2; rfl
  | 4, i, j, _, h => rfl
  | 5, i, j, _, h => by
    obtain ⟨h1, h2⟩ := h
    subst h2; rfl
  | 6, i, j, _, h => by
    obtain ⟨h1, h2⟩ := h
    show (if (if j < 4 then j else j + 1) = 4 then ((8, i, 0) : Nat × Nat × Nat) else (6, i, if (if j < 4 then j else j + 1) < 4 then (if j < 4 then j else j + 1) else (if j < 4 then j else j + 1) - 1)) = (6, i, j)
    by_cases e : j < 4
    · rw [if_pos e, if_neg (by omega), if_pos e]
    · rw [if_neg e, if_neg (by omega), if_neg (by omega), Nat.add_sub_cancel]
  | 7, i, j, _, h => by
    obtain ⟨h1, h2⟩ := h
    match j, h2 with
    | 0, _ => rfl
    | 1, _ => rfl
    | 2, _ => rfl
  | 8, i, j, _, h => by
    obtain ⟨h1, h2⟩ := h
    subst h2; rfl
  | 9, i, j, _, h => by
    obtain ⟨h1, h2⟩ := h
    subst h2; rfl
  | 10, i, j, _, h => by
    obtain ⟨h1, h2⟩ := h
    subst h2
    match i, h1 with
    | 0, _ => rfl
    | 1, _ => rfl
    | 2, _ => rfl
    | 3, _ => rfl
  | 11, i, j, _, h => by
    obtain ⟨h1, h2⟩ := h
    subst h2; rfl
  | 12, i, j, _, h => by
    obtain ⟨h1, h2⟩ := h
    subst h2; rfl
  | 13, i, j, _, h => by
    obtain ⟨h1, h2⟩ := h
    subst h2; rfl
  | n + 14, i, j, h, _ => by omega
theorem g_ur_rf : ∀ {r i j : Nat}, r ≠ 8 → g_vd r i j → g_ur (g_rf r i j) = (r, i, j)
  | 0, i, j, _, h => by
    obtain ⟨h1, h2⟩ := h
    subst h2
    show g_u40 i = (0, i, 0)
    unfold g_u40
    rw [if_pos h1]
  | 1, i, j, _, h => by
    obtain ⟨h1, h2⟩ := h
    show g_u40 (16880 + 11 * i + j) = (1, i, j)
    unfold g_u40
    rw [if_neg (by omega), if_neg (by omega), if_neg (by omega), if_neg (by omega), if_neg (by omega), if_pos (by omega), show (16880 + 11 * i + j - 16880) / 11 = i from by omega, show (16880 + 11 * i + j - 16880) % 11 = j from by omega]
  | 2, i, j, _, h => by
    obtain ⟨h1, h2⟩ := h
    show g_u40 (10 + (96 * i + j)) = (2, i, j)
    unfold g_u40
    rw [if_neg (by omega), if_pos (by omega), show (10 + (96 * i + j) - 10) / 96 = i from by omega, show (10 + (96 * i + j) - 10) % 96 = j from by omega]
  | 3, i, j, _, h => by
    obtain ⟨h1, h2⟩ := h
    subst h2
    show g_u40 (3850 + i) = (3, i, 0)
    unfold g_u40
    rw [if_neg (by omega), if_neg (by omega), if_pos (by omega), show 3850 + i - 3850 = i from by omega]
  | 4, i, j, _, h => by
    obtain ⟨h1, h2⟩ := h
    show g_u40 (4050 + 64 * i + j) = (4, i, j)
    unfold g_u40
    rw [if_neg (by omega), if_neg (by omega), if_neg (by omega), if_pos (by omega), show (4050 + 64 * i + j - 4050) / 64 = i from by omega, show (4050 + 64 * i + j - 4050) % 64 = j from by omega]
  | 5, i, j, _, h => by
    obtain ⟨h1, h2⟩ := h
    subst h2
    show g_u40 (16850 + i) = (5, i, 0)
    unfold g_u40
    rw [if_neg (by omega), if_neg (by omega), if_neg (by omega), if_neg (by omega), if_pos (by omega), show 16850 + i - 16850 = i from by omega]
  | 6, i, j, _, h => by
    obtain ⟨h1, h2⟩ := h
    show g_u40 (17320 + 8 * i + j) = (6, i, j)
    unfold g_u40
    rw [if_neg (by omega), if_neg (by omega), if_neg (by omega), if_neg (by omega), if_neg (by omega), if_neg (by omega), if_pos (by omega), show (17320 + 8 * i + j - 17320) / 8 = i from by omega, show (17320 + 8 * i + j - 17320) % 8 = j from by omega]
  | 7, i, j, _, h => by
    obtain ⟨h1, h2⟩ := h
    show g_u40 (18920 + 3 * i + j) = (7, i, j)
    unfold g_u40
    rw [if_neg (by omega), if_neg (by omega), if_neg (by omega), if_neg (by omega), if_neg (by omega), if_neg (by omega), if_neg (by omega), show (18920 + 3 * i + j - 18920) / 3 = i from by omega, show (18920 + 3 * i + j - 18920) % 3 = j from by omega]
  | 8, i, j, h, _ => absurd rfl h
  | 9, i, j, _, h => by
    obtain ⟨h1, h2⟩ := h
    subst h2; rfl
  | 10, i, j, _, h => by
    obtain ⟨h1, h2⟩ := h
    subst h2
    match i, h1 with
    | 0, _ => rfl
    | 1, _ => rfl
    | 2, _ => rfl
    | 3, _ => rfl
  | 11, i, j, _, h => by
    obtain ⟨h1, h2⟩ := h
    subst h2; rfl
  | 12, i, j, _, h => by
    obtain ⟨h1, h2⟩ := h
    subst h2; rfl
  | 13, i, j, _, h => by
    obtain ⟨h1, h2⟩ := h
    subst h2; rfl
  | 14, i, j, _, h => by
    obtain ⟨h1, h2⟩ := h
    subst h2
    match i, h1 with
    | 0, _ => rfl
    | 1, _ => rfl
    | 2, _ => rfl
  | n + 15, i, j, _, h => h.elim
/-- the reference's rows -/
def g_isR (t : Nat) : Bool := t == 11 || Nat.ble 40 t
theorem g_cl_R {y : Nat} : ∀ {r i j : Nat}, r ≤ 13 → g_vd r i j → g_isR (g_cl y r i j).1.1 = false
  | 0, i, j, _, h => by
    have e : g_cl y 0 i j = if i = 8 then ((2, y, 0), 3) else ((9, y, 0), i + 5) := rfl
    rw [e]
    by_cases q : i = 8
    · rw [if_pos q]; rfl
    · rw [if_neg q]; rfl
  | 1, i, j, _, h => rfl
  | 2, i, j, _, h => rfl
  | 3, i, j, _, h => rfl
  | 4, i, j, _, h => rfl
  | 5, i, j, _, h => rfl
  | 6, i, j, _, h => rfl
  | 7, i, j, _, h => by
    obtain ⟨h1, h2⟩ := h
    match j, h2 with
    | 0, _ => rfl
    | 1, _ => rfl
    | 2, _ => rfl
  | 8, i, j, _, h => rfl
  | 9, i, j, _, h => rfl
  | 10, i, j, _, h => rfl
  | 11, i, j, _, h => rfl
  | 12, i, j, _, h => rfl
  | 13, i, j, _, h => rfl
  | n + 14, i, j, h, _ => by omega
theorem g_rf_R : ∀ {r i j : Nat}, r ≠ 8 → g_vd r i j → g_isR (g_rf r i j).1.1 = true ∧ (g_rf r i j).1.1 ≠ 60 ∧ (g_rf r i j).1 ≠ (41, 0, 0)
  | 0, i, j, _, h => ⟨rfl, by show (40 : Nat) ≠ 60; omega, by show ((40, 0, 0) : VA) ≠ (41, 0, 0); decide⟩
  | 1, i, j, _, h => ⟨rfl, by show (40 : Nat) ≠ 60; omega, by show ((40, 0, 0) : VA) ≠ (41, 0, 0); decide⟩
  | 2, i, j, _, h => ⟨rfl, by show (40 : Nat) ≠ 60; omega, by show ((40, 0, 0) : VA) ≠ (41, 0, 0); decide⟩
  | 3, i, j, _, h => ⟨rfl, by show (40 : Nat) ≠ 60; omega, by show ((40, 0, 0) : VA) ≠ (41, 0, 0); decide⟩
  | 4, i, j, _, h => ⟨rfl, by show (40 : Nat) ≠ 60; omega, by show ((40, 0, 0) : VA) ≠ (41, 0, 0); decide⟩
  | 5, i, j, _, h => ⟨rfl, by show (40 : Nat) ≠ 60; omega, by show ((40, 0, 0) : VA) ≠ (41, 0, 0); decide⟩
  | 6, i, j, _, h => ⟨rfl, by show (40 : Nat) ≠ 60; omega, by show ((40, 0, 0) : VA) ≠ (41, 0, 0); decide⟩
  | 7, i, j, _, h => ⟨rfl, by show (40 : Nat) ≠ 60; omega, by show ((40, 0, 0) : VA) ≠ (41, 0, 0); decide⟩
  | 8, i, j, h, _ => absurd rfl h
  | 9, i, j, _, h => ⟨rfl, by show (42 : Nat) ≠ 60; omega, by show ((42, 0, 0) : VA) ≠ (41, 0, 0); decide⟩
  | 10, i, j, _, h => ⟨rfl, by show (11 : Nat) ≠ 60; omega, by show ((11, 0, 0) : VA) ≠ (41, 0, 0); decide⟩
  | 11, i, j, _, h => ⟨rfl, by show (43 : Nat) ≠ 60; omega, by show ((43, 0, 0) : VA) ≠ (41, 0, 0); decide⟩
  | 12, i, j, _, h => ⟨rfl, by show (44 : Nat) ≠ 60; omega, by show ((44, 0, 0) : VA) ≠ (41, 0, 0); decide⟩
  | 13, i, j, _, h => ⟨rfl, by show (45 : Nat) ≠ 60; omega, by show ((45, 0, 0) : VA) ≠ (41, 0, 0); decide⟩
  | 14, i, j, _, h => ⟨rfl, by show (11 : Nat) ≠ 60; omega, by show ((11, 0, 0) : VA) ≠ (41, 0, 0); decide⟩
  | n + 15, i, j, _, h => h.elim
/-- a yard's cells: its number stands in the address -/
theorem g_cl_y {y : Nat} : ∀ {r i j : Nat}, r ≤ 8 → g_vd r i j → (g_cl y r i j).1.2.1 = y ∧ (g_cl y r i j).1.1 ≠ 20 ∧ (g_cl y r i j).1.1 ≠ 10 ∧ (g_cl y r i j).1.1 ≠ 35 ∧ (g_cl y r i j).1.1 ≠ 7
  | 0, i, j, _, h => by
    have e : g_cl y 0 i j = if i = 8 then ((2, y, 0), 3) else ((9, y, 0), i + 5) := rfl
    rw [e]
    by_cases q : i = 8
    · rw [if_pos q]
      refine ⟨rfl, ?_, ?_, ?_, ?_⟩ <;> (show (2 : Nat) ≠ _; decide)
    · rw [if_neg q]
      refine ⟨rfl, ?_, ?_, ?_, ?_⟩ <;> (show (9 : Nat) ≠ _; decide)
  | 1, i, j, _, h => by refine ⟨rfl, ?_, ?_, ?_, ?_⟩ <;> (show (4 : Nat) ≠ _; decide)
  | 2, i, j, _, h => by refine ⟨rfl, ?_, ?_, ?_, ?_⟩ <;> (show (25 : Nat) ≠ _; decide)
  | 3, i, j, _, h => by refine ⟨rfl, ?_, ?_, ?_, ?_⟩ <;> (show (3 : Nat) ≠ _; decide)
  | 4, i, j, _, h => by refine ⟨rfl, ?_, ?_, ?_, ?_⟩ <;> (show (24 : Nat) ≠ _; decide)
  | 5, i, j, _, h => by refine ⟨rfl, ?_, ?_, ?_, ?_⟩ <;> (show (39 : Nat) ≠ _; decide)
  | 6, i, j, _, h => by refine ⟨rfl, ?_, ?_, ?_, ?_⟩ <;> (show (8 : Nat) ≠ _; decide)
  | 7, i, j, _, h => by
    obtain ⟨h1, h2⟩ := h
    refine ⟨rfl, ?_, ?_, ?_, ?_⟩ <;> (show 21 + j ≠ _; omega)
  | 8, i, j, _, h => by refine ⟨rfl, ?_, ?_, ?_, ?_⟩ <;> (show (8 : Nat) ≠ _; decide)
  | n + 9, i, j, h, _ => by omega
theorem g_cl_o {y : Nat} : ∀ {r i j : Nat}, 9 ≤ r → r ≤ 13 → (g_cl y r i j).1.1 = 20 ∨ (g_cl y r i j).1.1 = 10 ∨ (g_cl y r i j).1.1 = 35
  | 9, _, _, _, _ => Or.inl rfl
  | 10, _, _, _, _ => Or.inr (Or.inl rfl)
  | 11, _, _, _, _ => Or.inr (Or.inr rfl)
  | 12, _, _, _, _ => Or.inr (Or.inr rfl)
  | 13, _, _, _, _ => Or.inr (Or.inr rfl)
  | n + 14, _, _, _, h => by omega
theorem g_cl_7 {y : Nat} {r i j : Nat} (hr : r ≤ 13) (h : g_vd r i j) : (g_cl y r i j).1.1 ≠ 7 := by
  by_cases h8 : r ≤ 8
  · exact (g_cl_y h8 h).2.2.2.2
  · have := g_cl_o (y := y) (i := i) (j := j) (show 9 ≤ r by omega) hr
    omega
/-- which of them are read -/
def g_lv (Y : GA) (r i j : Nat) : Prop := match r with
  | 1 => i < g_n (Y 0 0 0)
  | 2 => i < g_n (Y 0 0 0) ∧ j < 12 * g_n (Y 1 i 10)
  | 3 => i < g_n (Y 0 1 0)
  | 4 => i < g_n (Y 0 1 0) ∧ j < g_n (Y 3 i 0)
  | 6 => i < g_n (Y 0 2 0)
  | 7 => i < g_n (Y 0 8 0)
  | 8 => i < g_n (Y 0 2 0)
  | _ => True
/-- the parts that are made -/
def g_md (S : QS) (y : Nat) (Y : GA) : Prop := (∀ h, h < g_n (Y 0 0 0) → S.2.2.1.2.2.1 y h = true) ∧ (∀ n, n < g_n (Y 0 1 0) → S.2.2.1.2.2.2.1 y n = true) ∧ (∀ t, t < g_n (Y 0 2 0) → S.2.2.1.2.2.2.2.1 y t = true)
/-- a row's number of items -/
def g_rk (k : Nat) : Nat := if k = 0 then 1 else if k = 1 then 2 else 0
def g_cap (k : Nat) : Nat := if k = 0 then 100 else if k = 1 then 64 else 8
def g_rw (S : QS) (k : Nat) (m : Int32) : Prop := (m = -1 ∧ S.1 (7, g_rk k, 0) 2 = 0) ∨ ((m = nI (g_n m) ∧ g_n m ≤ g_cap k) ∧ S.1 (7, g_rk k, 0) 2 = 1 ∧ S.1 (7, g_rk k, 0) 1 = m)
/-- room -/
def g_cu (f : Nat → Bool) : Nat → Nat
  | 0 => 0
  | n + 1 => g_cu f n + (if f n then 0 else 1)
def g_uh (d : QD) : Nat := g_cu (d.2.2.1 0) 40 + g_cu (d.2.2.1 1) 40
def g_uf (d : QD) : Nat := g_cu (d.2.2.2.1 0) 200 + g_cu (d.2.2.2.1 1) 200
def g_ut (d : QD) : Nat := g_cu (d.2.2.2.2.1 0) 200 + g_cu (d.2.2.2.2.1 1) 200
def g_room (S : QS) : Prop := S.2.2.2.1 + 2 * g_uh S.2.2.1 + 2 * g_uf S.2.2.1 + g_ut S.2.2.1 ≤ 1412 + S.2.2.1.2.2.2.2.2.1 ∧ S.2.2.2.2 + 108 * g_uh S.2.2.1 + 66 * g_uf S.2.2.1 + 9 * g_ut S.2.2.1 ≤ 122329 + 2 * S.2.2.1.2.2.2.2.2.1 ∧ 16 ≤ S.2.2.1.2.2.2.2.2.1 ∧ S.2.2.1.2.2.2.2.2.1 ≤ 39800 ∧ ∀ n, S.2.2.1.2.2.2.2.2.1 < n → S.2.2.1.2.2.2.2.2.2 n = false
/-- the class's state is the picture Y, and V of the yard before; X: the reference's rows in it -/
def g_C (y : Nat) (Y V : GA) (X S : QS) : Prop := (S.2.2.1.1 = y ∧ S.2.2.1.2.1 = 1 - y ∧ y < 2) ∧ (∀ r i j, r ≤ 13 → g_vd r i j → g_lv Y r i j → S.1 (g_cl y r i j).1 (g_cl y r i j).2 = Y r i j) ∧ (Y 10 3 0 = 1 → ∀ r i j, r ≤ 8 → g_vd r i j → g_lv V r i j → S.1 (g_cl (1 - y) r i j).1 (g_cl (1 - y) r i j).2 = V r i j) ∧ g_md S y Y ∧ (Y 10 3 0 = 1 → g_md S (1 - y) V) ∧ (∀ k, k < 3 → g_rw S k (Y 14 k 0)) ∧ (∀ a : VA, g_isR a.1 = true → S.1 a = X.1 a) ∧ g_room S
/-- the reference's state is the picture Y, and V; Z: the class's rows in it -/
def g_T (Y V : GA) (Z T : QS) : Prop := (∀ r i j, r ≠ 8 → g_vd r i j → T.1 (g_rf r i j).1 (g_rf r i j).2 = Y r i j) ∧ (Y 10 3 0 = 1 → ∀ r i j, r ≤ 7 → g_vd r i j → T.1 (41, 0, 0) (g_rf r i j).2 = V r i j) ∧ (∀ a : VA, g_isR a.1 = false ∨ a.1 = 60 → T.1 a = Z.1 a) ∧ T.2.2 = Z.2.2
theorem g_set1 (S : QS) (a b : VA) (k j : Nat) (x : Int32) : (q_set S a k x).1 b j = if b = a ∧ j = k then x else S.1 b j := by
  show (if b = a then upd (S.1 a) k x else S.1 b) j = _
  by_cases h : b = a
  · subst h
    rw [if_pos rfl]
    unfold upd
    by_cases hk : j = k
    · rw [if_pos hk, if_pos ⟨rfl, hk⟩]
    · rw [if_neg hk, if_neg (fun q => hk q.2)]
  · rw [if_neg h, if_neg (fun q => h q.1)]
theorem g_set_a {S : QS} {a b : VA} {k : Nat} {x : Int32} (h : b ≠ a) : (q_set S a k x).1 b = S.1 b := if_neg h
theorem g_up_same (Y : GA) (r i j : Nat) (v : Int32) : g_up Y r i j v r i j = v := by
  unfold g_up
  rw [if_pos rfl, if_pos ⟨rfl, rfl⟩]
theorem g_up_ne {Y : GA} {r i j r' i' j' : Nat} {v : Int32} (h : ¬ (r' = r ∧ i' = i ∧ j' = j)) : g_up Y r i j v r' i' j' = Y r' i' j' := by
  unfold g_up
  by_cases e : r' = r
  · rw [if_pos e, if_neg (fun q => h ⟨e, q.2, q.1⟩)]
  · rw [if_neg e]
theorem g_up_r {Y : GA} {r i j r' : Nat} {v : Int32} (h : r' ≠ r) : g_up Y r i j v r' = Y r' := by
  funext b c
  exact g_up_ne (fun q => h q.1)
/-- a cell that gives no shape -/
def g_sf (r i j : Nat) : Prop := r ≠ 3 ∧ (r = 1 → j ≠ 10) ∧ (r = 0 → i ≠ 0 ∧ i ≠ 1 ∧ i ≠ 2 ∧ i ≠ 8)
theorem g_lv_up {Y : GA} {r i j : Nat} {v : Int32} (h : g_sf r i j) (a b c : Nat) : g_lv (g_up Y r i j v) a b c = g_lv Y a b c := by
  have e0 : ∀ k, k = 0 ∨ k = 1 ∨ k = 2 ∨ k = 8 → g_up Y r i j v 0 k 0 = Y 0 k 0 := fun k hk => g_up_ne (fun q => by have := h.2.2 q.1.symm; omega)
  have e1 : ∀ k, g_up Y r i j v 1 k 10 = Y 1 k 10 := fun k => g_up_ne (fun q => h.2.1 q.1.symm q.2.2.symm)
  have e3 : ∀ k, g_up Y r i j v 3 k 0 = Y 3 k 0 := fun k => g_up_ne (fun q => h.1 q.1.symm)
  unfold g_lv
  rw [e0 0 (by omega), e0 1 (by omega), e0 2 (by omega), e0 8 (by omega), e1, e3]
theorem g_rw_set {S : QS} {k : Nat} {m : Int32} {a : VA} {n : Nat} {x : Int32} (ha : a.1 ≠ 7) (h : g_rw S k m) : g_rw (q_set S a n x) k m := by
  unfold g_rw
  rw [g_set_a (fun e => ha (by rw [← e]))]
  exact h
/-- a cell is written: the general case -/
theorem g_C_gen {y : Nat} {Y V : GA} {X S : QS} {r i j : Nat} {v : Int32} (h : g_C y Y V X S) (hr : r ≤ 13) (hv : g_vd r i j) (hu : ¬ (r = 10 ∧ i = 3)) (hl : ∀ r' i' j', r' ≤ 13 → g_vd r' i' j' → ¬ (r' = r ∧ i' = i ∧ j' = j) → g_lv (g_up Y r i j v) r' i' j' → S.1 (g_cl y r' i' j').1 (g_cl y r' i' j').2 = Y r' i' j') (hm : g_md S y (g_up Y r i j v)) : g_C y (g_up Y r i j v) V X (q_set S (g_cl y r i j).1 (g_cl y r i j).2 v) := by
  obtain ⟨h1, h2, h3, h4, h5, h6, h7, h8⟩ := h
  have e10 : g_up Y r i j v 10 3 0 = Y 10 3 0 := g_up_ne (fun q => hu ⟨q.1.symm, q.2.1.symm⟩)
  have e14 : ∀ k, g_up Y r i j v 14 k 0 = Y 14 k 0 := fun k => g_up_ne (fun q => by omega)
  refine ⟨h1, ?_, ?_, hm, ?_, ?_, ?_, h8⟩
  · intro r' i' j' hr' hv' hl'
    rw [g_set1]
    by_cases e : r' = r ∧ i' = i ∧ j' = j
    · obtain ⟨rfl, rfl, rfl⟩ := e
      rw [if_pos ⟨rfl, rfl⟩, g_up_same]
    · rw [if_neg, g_up_ne e]
      · exact hl r' i' j' hr' hv' e hl'
      · intro q
        have e1 := g_uc_cl (y := y) hr' hv'
        have e2 := g_uc_cl (y := y) hr hv
        rw [show g_cl y r' i' j' = g_cl y r i j from Prod.ext q.1 q.2, e2] at e1
        injection e1 with a1 a2
        injection a2 with a2 a3
        exact e ⟨a1.symm, a2.symm, a3.symm⟩
  · rw [e10]
    intro hc r' i' j' hr' hv' hl'
    rw [g_set_a]
    · exact h3 hc r' i' j' hr' hv' hl'
    · intro q
      have a1 := g_cl_y (y := 1 - y) hr' hv'
      rw [q] at a1
      by_cases h8 : r ≤ 8
      · have a2 := g_cl_y (y := y) h8 hv
        omega
      · have a2 := g_cl_o (y := y) (i := i) (j := j) (show 9 ≤ r by omega) hr
        omega
  · rw [e10]
    exact h5
  · intro k hk
    rw [e14]
    exact g_rw_set (g_cl_7 hr hv) (h6 k hk)
  · intro a ha
    rw [g_set_a]
    · exact h7 a ha
    · intro q
      rw [q, g_cl_R hr hv] at ha
      cases ha
theorem g_C_set {y : Nat} {Y V : GA} {X S : QS} {r i j : Nat} (v : Int32) (h : g_C y Y V X S) (hr : r ≤ 13) (hv : g_vd r i j) (hu : ¬ (r = 10 ∧ i = 3)) (hs : g_sf r i j) : g_C y (g_up Y r i j v) V X (q_set S (g_cl y r i j).1 (g_cl y r i j).2 v) := by
  refine g_C_gen h hr hv hu (fun r' i' j' hr' hv' _ hl' => ?_) ?_
  · rw [g_lv_up hs] at hl'
    exact h.2.1 r' i' j' hr' hv' hl'
  · have h4 := h.2.2.2.1
    have e0 : ∀ k, k = 0 ∨ k = 1 ∨ k = 2 → g_up Y r i j v 0 k 0 = Y 0 k 0 := fun k hk => g_up_ne (fun q => by have := hs.2.2 q.1.symm; omega)
    unfold g_md at h4 ⊢
    rw [e0 0 (by omega), e0 1 (by omega), e0 2 (by omega)]
    exact h4
theorem g_T_set {Y V : GA} {Z T : QS} {r i j : Nat} (v : Int32) (h : g_T Y V Z T) (hr : r ≠ 8) (hv : g_vd r i j) (hu : ¬ (r = 10 ∧ i = 3)) : g_T (g_up Y r i j v) V Z (q_set T (g_rf r i j).1 (g_rf r i j).2 v) := by
  obtain ⟨h1, h2, h3, h4⟩ := h
  have e10 : g_up Y r i j v 10 3 0 = Y 10 3 0 := g_up_ne (fun q => hu ⟨q.1.symm, q.2.1.symm⟩)
  have hR := g_rf_R hr hv
  refine ⟨?_, ?_, ?_, h4⟩
  · intro r' i' j' hr' hv'
    rw [g_set1]
    by_cases e : r' = r ∧ i' = i ∧ j' = j
    · obtain ⟨rfl, rfl, rfl⟩ := e
      rw [if_pos ⟨rfl, rfl⟩, g_up_same]
    · rw [if_neg, g_up_ne e]
      · exact h1 r' i' j' hr' hv'
      · intro q
        have e1 := g_ur_rf hr' hv'
        have e2 := g_ur_rf hr hv
        rw [show g_rf r' i' j' = g_rf r i j from Prod.ext q.1 q.2, e2] at e1
        injection e1 with a1 a2
        injection a2 with a2 a3
        exact e ⟨a1.symm, a2.symm, a3.symm⟩
  · rw [e10]
    intro hc r' i' j' hr' hv'
    rw [g_set_a (fun q => hR.2.2 q.symm)]
    exact h2 hc r' i' j' hr' hv'
  · intro a ha
    rw [g_set_a]
    · exact h3 a ha
    · intro q
      subst q
      rcases ha with ha | ha
      · rw [hR.1] at ha
        cases ha
      · exact hR.2.1 ha
/-- scratch rows -/
theorem g_C_scr {y : Nat} {Y V : GA} {X S : QS} {a : VA} {f : Nat → Int32} (h : g_C y Y V X S) (ha : a.1 = 5 ∨ a.1 = 6 ∨ a.1 = 26 ∨ a.1 = 27 ∨ a.1 = 28 ∨ a.1 = 29 ∨ a.1 = 30 ∨ a.1 = 31 ∨ a.1 = 32 ∨ a.1 = 33 ∨ a.1 = 34) : g_C y Y V X (q_row S a f) := by
  obtain ⟨h1, h2, h3, h4, h5, h6, h7, h8⟩ := h
  have key : ∀ y r i j, r ≤ 13 → g_vd r i j → (g_cl y r i j).1 ≠ a := by
    intro y r i j hr hv q
    have e := g_uc_cl (y := y) hr hv
    have e2 : g_uc (g_cl y r i j) = (99, 0, 0) := by
      unfold g_uc
      rw [q]
      rcases ha with ha | ha | ha | ha | ha | ha | ha | ha | ha | ha | ha <;> (rw [ha]; rfl)
    rw [e2] at e
    injection e with a1 a2
    omega
  refine ⟨h1, ?_, ?_, h4, h5, ?_, ?_, h8⟩
  · intro r i j hr hv hl
    rw [w_row_ne (key y r i j hr hv)]
    exact h2 r i j hr hv hl
  · intro hc r i j hr hv hl
    rw [w_row_ne (key (1 - y) r i j (by omega) hv)]
    exact h3 hc r i j hr hv hl
  · intro k hk
    unfold g_rw
    rw [w_row_ne (fun q => by rw [← q] at ha; dsimp only at ha; omega)]
    exact h6 k hk
  · intro b hb
    rw [w_row_ne]
    · exact h7 b hb
    · intro q
      subst q
      rcases ha with ha | ha | ha | ha | ha | ha | ha | ha | ha | ha | ha <;> (rw [ha] at hb; cases hb)
theorem g_T_scr {Y V : GA} {Z T : QS} {a : VA} {f : Nat → Int32} (h : g_T Y V Z T) (ha : a.1 = 46 ∨ a.1 = 47 ∨ a.1 = 48 ∨ a.1 = 49 ∨ a.1 = 52) : g_T Y V Z (q_row T a f) := by
  obtain ⟨h1, h2, h3, h4⟩ := h
  refine ⟨?_, ?_, ?_, h4⟩
  · intro r i j hr hv
    rw [w_row_ne]
    · exact h1 r i j hr hv
    · intro q
      have e := g_ur_rf hr hv
      have e2 : g_ur (g_rf r i j) = (99, 0, 0) := by
        unfold g_ur
        rw [q]
        rcases ha with ha | ha | ha | ha | ha <;> (rw [ha]; rfl)
      rw [e2] at e
      injection e with a1 a2
      subst a1
      exact hv.elim
  · intro hc r i j hr hv
    rw [w_row_ne]
    · exact h2 hc r i j hr hv
    · intro q
      rw [← q] at ha
      dsimp only at ha
      omega
  · intro b hb
    rw [w_row_ne]
    · exact h3 b hb
    · intro q
      subst q
      rcases ha with ha | ha | ha | ha | ha <;> (rw [ha] at hb; rcases hb with hb | hb <;> cases hb)
/-- the depths are the class's alone -/
theorem g_T_dep {Y V : GA} {Z T : QS} {t : Nat} {v : Int32} (h : g_T Y V Z T) : g_T (g_up Y 8 t 0 v) V Z T := by
  refine ⟨?_, h.2.1, h.2.2⟩
  intro r i j hr hv
  rw [g_up_ne (fun q => hr q.1)]
  exact h.1 r i j hr hv
