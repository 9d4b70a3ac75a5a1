/-! ===== letters; inspect; export ===== -/
def g_okN (a : Nat) : Bool := Nat.ble a 100 || a == 200 || (Nat.ble 300 a && Nat.ble a 320) || (Nat.ble 400 a && Nat.ble a 423)
theorem g_ok_N {x : Int32} (h : g_ok x) : ∃ a, a < 424 ∧ g_okN a = true ∧ x = nI a := by
  have key : ∀ (lo hi : Nat), lo ≤ hi → hi < 424 → (∀ a, lo ≤ a → a ≤ hi → g_okN a = true) → nI lo ≤ x → x ≤ nI hi → ∃ a, a < 424 ∧ g_okN a = true ∧ x = nI a := by
    intro lo hi h1 h2 h3 h4 h5
    have h0 : ¬ x < 0 := by
      intro q
      rw [Int32.lt_iff_toInt_lt, show (0 : Int32).toInt = 0 from by decide] at q
      rw [Int32.le_iff_toInt_le, nI_toInt (by omega)] at h4
      omega
    obtain ⟨a, ha, e⟩ := nI_of h0
    subst e
    rw [nI_leI (by omega) ha] at h4
    rw [nI_leI ha (by omega)] at h5
    exact ⟨a, by omega, h3 a h4 h5, rfl⟩
  have tb : ∀ a, g_okN a = true ↔ (a ≤ 100 ∨ a = 200 ∨ (300 ≤ a ∧ a ≤ 320) ∨ (400 ≤ a ∧ a ≤ 423)) := by
    intro a
    unfold g_okN
    simp only [Bool.or_eq_true, Bool.and_eq_true, beq_iff_eq, Nat.ble_eq]
    omega
  rcases h with ⟨h1, h2⟩ | h | ⟨h1, h2⟩ | ⟨h1, h2⟩
  · exact key 0 100 (by omega) (by omega) (fun a _ q => (tb a).2 (by omega)) h1 h2
  · exact ⟨200, by omega, rfl, h⟩
  · exact key 300 320 (by omega) (by omega) (fun a _ q => (tb a).2 (by omega)) h1 h2
  · exact key 400 423 (by omega) (by omega) (fun a _ q => (tb a).2 (by omega)) h1 h2
def g_l56 (x1 xs0 : Int32) : Int32 := if 3 ≤ xs0 then (if 9 ≤ xs0 then (if x1 = 0 then 115 else 83) else (if x1 = 0 then 98 else 66)) else (if x1 = 0 then 101 else 69)
def g_l38 (x0 xs0 : Int32) : Int32 := if xs0 = 0 then g_l56 xs0 (x0 - 300) else g_l56 xs0 (x0 - 400)
def g_lt (x0 : Int32) : Int32 := if ¬ x0 = 0 then (if 100 < x0 then (if ¬ x0 = 200 then (if x0 < 400 then g_l38 x0 0 else g_l38 x0 1) else 112) else 104) else 46
theorem e_182a (x1 xs0 : Int32) (S : QS) : b_182_56 x1 xs0 S = some (g_l56 x1 xs0, S) := by
  unfold b_182_56 g_l56
  split
  · split
    · split <;> rfl
    · split <;> rfl
  · split <;> rfl
theorem e_182b (x0 xs0 : Int32) (S : QS) : b_182_38 x0 xs0 S = some (g_l38 x0 xs0, S) := by
  unfold b_182_38 g_l38
  rw [e_182a, e_182a]
  split <;> rfl
theorem e_182 (x0 : Int32) (S : QS) : f_182 x0 S = some (g_lt x0, S) := by
  unfold f_182 g_lt
  rw [e_182b, e_182b]
  split
  · split
    · split
      · split <;> rfl
      · rfl
    · rfl
  · rfl
def g_so (x0 : Int32) : Int32 := if 300 ≤ x0 then (if 3 ≤ x0 - x0 / 100 * 100 then (if 9 ≤ x0 - x0 / 100 * 100 then 9 else 8) else 7) else (if ¬ x0 = 0 then (if ¬ x0 = 200 then 6 else 11) else 10)
theorem e_273 (x0 : Int32) (S : QS) : f_273 x0 S = some (g_so x0, S) := by
  unfold f_273 g_so
  rw [w_let]
  split
  · split
    · split <;> rfl
    · rfl
  · split
    · split <;> rfl
    · rfl
def g_l9 (x0 : Int32) : Int32 := if ¬ g_so x0 = 10 then (if ¬ g_so x0 = 11 then (if ¬ g_so x0 = 6 then (if ¬ g_so x0 = 7 then (if ¬ g_so x0 = 8 then (if x0 < 400 then 115 else 115 - 32) else (if x0 < 400 then 98 else 98 - 32)) else (if x0 < 400 then 101 else 101 - 32)) else 104) else 112) else 46
theorem e_279a (x0 xs0 : Int32) (S : QS) : b_279_56 x0 xs0 S = some (if x0 < 400 then xs0 else xs0 - 32, S) := by
  unfold b_279_56
  split <;> rfl
theorem e_279 (x0 : Int32) (S : QS) : f_279 x0 S = some (g_l9 x0, S) := by
  unfold f_279 g_l9
  rw [e_273, w_bd, e_279a, e_279a, e_279a]
  split
  · split
    · split
      · split
        · split <;> rfl
        · rfl
      · rfl
    · rfl
  · rfl
def g_chk (a : Nat) : Bool := decide (g_lt (nI a) = g_l9 (nI a)) && decide (g_so (nI a) = 7 ↔ (g_lt (nI a) = 101 ∨ g_lt (nI a) = 69)) && decide (g_so (nI a) = 8 ↔ (g_lt (nI a) = 98 ∨ g_lt (nI a) = 66)) && decide (g_so (nI a) = 9 ↔ (g_lt (nI a) = 115 ∨ g_lt (nI a) = 83)) && decide (g_so (nI a) = 10 ↔ (g_lt (nI a) = 46 ∨ g_lt (nI a) = 46)) && decide (g_so (nI a) = 11 ↔ (g_lt (nI a) = 112 ∨ g_lt (nI a) = 112)) && decide ((if g_so (nI a) = 6 then nI a else 0) = g_hon (nI a)) && decide (g_so (nI a) ≠ 5)
theorem g_chk_all : (List.range 424).all (fun a => !g_okN a || g_chk a) = true := by decide +kernel
theorem g_lt_all (a : Nat) (h : a < 424) (h2 : g_okN a = true) : g_lt (nI a) = g_l9 (nI a) ∧ (g_so (nI a) = 7 ↔ (g_lt (nI a) = 101 ∨ g_lt (nI a) = 69)) ∧ (g_so (nI a) = 8 ↔ (g_lt (nI a) = 98 ∨ g_lt (nI a) = 66)) ∧ (g_so (nI a) = 9 ↔ (g_lt (nI a) = 115 ∨ g_lt (nI a) = 83)) ∧ (g_so (nI a) = 10 ↔ (g_lt (nI a) = 46 ∨ g_lt (nI a) = 46)) ∧ (g_so (nI a) = 11 ↔ (g_lt (nI a) = 112 ∨ g_lt (nI a) = 112)) ∧ (if g_so (nI a) = 6 then nI a else 0) = g_hon (nI a) ∧ g_so (nI a) ≠ 5 := by
  have q := List.all_eq_true.1 g_chk_all a (List.mem_range.2 h)
  rw [h2] at q
  have q2 : g_chk a = true := q
  unfold g_chk at q2
  simp only [Bool.and_eq_true, decide_eq_true_eq] at q2
  obtain ⟨⟨⟨⟨⟨⟨⟨a1, a2⟩, a3⟩, a4⟩, a5⟩, a6⟩, a7⟩, a8⟩ := q2
  exact ⟨a1, a2, a3, a4, a5, a6, a7, a8⟩
/-- letters that a number of inspect counts -/
def g_cnt (w l1 l2 : Int32) : Prop := w ≠ 6 ∧ ∀ x, g_ok x → (g_so x = w ↔ (g_lt x = l1 ∨ g_lt x = l2))
theorem l_40 {c y : Nat} {Y V : GA} {X Z S T : QS} (h : g_R c y Y V X Z S T) {n : Nat} (hn : n < g_n (Y 0 1 0)) (hn2 : n < 200) {w l1 l2 : Int32} (hw : g_cnt w l1 l2) (bk : Int32 → Int32 → Int32 → Int32 → QS → Option (Int32 × QS)) (x1 x4 : Int32) : ∀ (m i p q : Nat) (a0 a1 : Int32), i + m = g_n (Y 3 n 0) → m < p → m < q → ∃ r, b_40_5 p y n l1 l2 a1 (nI i) S = some (r, S) ∧ b_274_57 bk q x1 w (a0 + a1) x4 (nI n) (nI i) T = bk x1 w (a0 + r) (x4 + 1) T
  | m, i, 0, _, _, _, _, h1, _ => by omega
  | m, i, _, 0, _, _, _, _, h2 => by omega
  | m, i, p + 1, q + 1, a0, a1, hm, h1, h2 => by
    have hl := h.2.2.1.2.2.2.1 n hn
    have hl2 := hl.2
    rw [b_40_5, b_274_57, c_l h.1 hn hn2, t_195 h.2.1 hn2, w_bd, if_neg (nI_pos (by omega))]
    unfold b_274_119
    cases m with
    | zero =>
      rw [if_pos ((g_N_le hl (by omega) (by omega)).2 (by omega)), if_pos ((g_N_le hl (by omega) (by omega)).2 (by omega))]
      exact ⟨a1, rfl, rfl⟩
    | succ m =>
      have hnle : ¬ Y 3 n 0 ≤ nI i := fun e => by rw [g_N_le hl (by omega) (by omega)] at e; omega
      have hok := h.2.2.1.2.2.2.2.2.2.2.1 n i hn (by omega)
      rw [if_neg hnle, if_neg hnle, w_in (show i < 64 by omega) (by omega), nI_clamp (by omega), w_ck, w_let, c_f h.1 hn hn2 (by omega) (by omega), t_196 h.2.1 hn2 (by omega), w_bd, e_182, w_bd, e_273, w_bd]
      unfold b_40_38 b_40_41 b_274_111
      rw [nI_1]
      have hc := hw.2 _ hok
      by_cases e : g_so (Y 4 n i) = w
      · rw [if_pos e, if_pos hw.1, w_let, Int32.add_assoc]
        obtain ⟨r, f1, f2⟩ := l_40 h hn hn2 hw bk x1 x4 m (i + 1) p q a0 (a1 + 1) (by omega) (by omega) (by omega)
        rw [f2]
        refine ⟨r, ?_, rfl⟩
        rw [f1]
        rcases hc.1 e with e1 | e1
        · rw [if_pos e1]
        · by_cases e2 : g_lt (Y 4 n i) = l1
          · rw [if_pos e2]
          · rw [if_neg e2, if_neg (fun q => q e1)]
      · rw [if_neg e, w_let, Int32.add_zero]
        have e3 : ¬ (g_lt (Y 4 n i) = l1 ∨ g_lt (Y 4 n i) = l2) := fun q => e (hc.2 q)
        rw [if_neg (fun q => e3 (Or.inl q)), if_pos (fun q => e3 (Or.inr q))]
        exact l_40 h hn hn2 hw bk x1 x4 m (i + 1) p q a0 a1 (by omega) (by omega) (by omega)
theorem l_40h {c y : Nat} {Y V : GA} {X Z S T : QS} (h : g_R c y Y V X Z S T) {n : Nat} (hn : n < g_n (Y 0 1 0)) (hn2 : n < 200) (bk : Int32 → Int32 → Int32 → Int32 → QS → Option (Int32 × QS)) (x1 x4 : Int32) : ∀ (m i p q : Nat) (a0 a1 : Int32), i + m = g_n (Y 3 n 0) → m < p → m < q → ∃ r, b_32_4 p y n a1 (nI i) S = some (r, S) ∧ b_274_57 bk q x1 6 (a0 + a1) x4 (nI n) (nI i) T = bk x1 6 (a0 + r) (x4 + 1) T
  | m, i, 0, _, _, _, _, h1, _ => by omega
  | m, i, _, 0, _, _, _, _, h2 => by omega
  | m, i, p + 1, q + 1, a0, a1, hm, h1, h2 => by
    have hl := h.2.2.1.2.2.2.1 n hn
    have hl2 := hl.2
    rw [b_32_4, b_274_57, c_l h.1 hn hn2, t_195 h.2.1 hn2, w_bd, if_neg (nI_pos (by omega))]
    unfold b_274_119
    cases m with
    | zero =>
      rw [if_pos ((g_N_le hl (by omega) (by omega)).2 (by omega)), if_pos ((g_N_le hl (by omega) (by omega)).2 (by omega))]
      exact ⟨a1, rfl, rfl⟩
    | succ m =>
      have hnle : ¬ Y 3 n 0 ≤ nI i := fun e => by rw [g_N_le hl (by omega) (by omega)] at e; omega
      obtain ⟨v, hv, hv2, ev⟩ := g_ok_N (h.2.2.1.2.2.2.2.2.2.2.1 n i hn (by omega))
      have hal := (g_lt_all v hv hv2).2.2.2.2.2.2.1
      rw [← ev] at hal
      rw [if_neg hnle, if_neg hnle, w_in (show i < 64 by omega) (by omega), nI_clamp (by omega), w_ck, w_let, c_f h.1 hn hn2 (by omega) (by omega), t_196 h.2.1 hn2 (by omega), w_bd, e_180, w_bd, e_273, w_bd, w_let]
      unfold b_274_111
      rw [nI_1]
      obtain ⟨r, f1, f2⟩ := l_40h h hn hn2 bk x1 x4 m (i + 1) p q a0 (a1 + g_hon (Y 4 n i)) (by omega) (by omega) (by omega)
      refine ⟨r, f1, ?_⟩
      by_cases e : g_so (Y 4 n i) = 6
      · rw [if_pos e] at hal
        rw [if_pos e, if_neg (show ¬ ¬ (6 : Int32) = 6 from by decide), t_196 h.2.1 hn2 (by omega), w_bd, w_let, Int32.add_assoc, ← f2, ← hal]
      · rw [if_neg e] at hal
        rw [if_neg e, w_let, Int32.add_assoc, ← f2, ← hal]
theorem l_40n {c y : Nat} {Y V : GA} {X Z S T : QS} (h : g_R c y Y V X Z S T) {n : Nat} (hn : n < g_n (Y 0 1 0)) (hn2 : n < 200) (bk : Int32 → Int32 → Int32 → Int32 → QS → Option (Int32 × QS)) (x1 x4 a : Int32) : ∀ (m i q : Nat), i + m = g_n (Y 3 n 0) → m < q → b_274_57 bk q x1 5 a x4 (nI n) (nI i) T = bk x1 5 a (x4 + 1) T
  | m, i, 0, _, h1 => by omega
  | m, i, q + 1, hm, h2 => by
    have hl := h.2.2.1.2.2.2.1 n hn
    have hl2 := hl.2
    rw [b_274_57, t_195 h.2.1 hn2, w_bd, if_neg (nI_pos (by omega))]
    unfold b_274_119
    cases m with
    | zero => rw [if_pos ((g_N_le hl (by omega) (by omega)).2 (by omega))]
    | succ m =>
      have hnle : ¬ Y 3 n 0 ≤ nI i := fun e => by rw [g_N_le hl (by omega) (by omega)] at e; omega
      obtain ⟨v, hv, hv2, ev⟩ := g_ok_N (h.2.2.1.2.2.2.2.2.2.2.1 n i hn (by omega))
      have hal := (g_lt_all v hv hv2).2.2.2.2.2.2.2
      rw [← ev] at hal
      rw [if_neg hnle, t_196 h.2.1 hn2 (by omega), w_bd, e_273, w_bd, if_neg hal]
      unfold b_274_111
      rw [nI_1, w_let, Int32.add_zero]
      exact l_40n h hn hn2 bk x1 x4 a m (i + 1) q (by omega) (by omega)
theorem g_cnts : g_cnt 7 101 69 ∧ g_cnt 8 98 66 ∧ g_cnt 9 115 83 ∧ g_cnt 10 46 46 ∧ g_cnt 11 112 112 := by
  have key : ∀ x, g_ok x → ∃ a, a < 424 ∧ g_okN a = true ∧ x = nI a := fun x h => g_ok_N h
  refine ⟨⟨by decide, ?_⟩, ⟨by decide, ?_⟩, ⟨by decide, ?_⟩, ⟨by decide, ?_⟩, ⟨by decide, ?_⟩⟩
  · intro x hx
    obtain ⟨a, h1, h2, rfl⟩ := key x hx
    exact (g_lt_all a h1 h2).2.1
  · intro x hx
    obtain ⟨a, h1, h2, rfl⟩ := key x hx
    exact (g_lt_all a h1 h2).2.2.1
  · intro x hx
    obtain ⟨a, h1, h2, rfl⟩ := key x hx
    exact (g_lt_all a h1 h2).2.2.2.1
  · intro x hx
    obtain ⟨a, h1, h2, rfl⟩ := key x hx
    exact (g_lt_all a h1 h2).2.2.2.2.1
  · intro x hx
    obtain ⟨a, h1, h2, rfl⟩ := key x hx
    exact (g_lt_all a h1 h2).2.2.2.2.2.1
theorem e_39 {c y : Nat} {Y V : GA} {X Z S T : QS} (h : g_R c y Y V X Z S T) {n : Nat} (hn : n < g_n (Y 0 1 0)) (hn2 : n < 200) (bk : Int32 → Int32 → Int32 → Int32 → QS → Option (Int32 × QS)) (x1 x4 a : Int32) {w : Nat} (hw : 6 ≤ w) (hw2 : w ≤ 11) : ∃ r, f_39 y n (nI w) S = some (r, S) ∧ b_274_57 bk q_N x1 (nI w) (a + 0) x4 (nI n) 0 T = bk x1 (nI w) (a + r) (x4 + 1) T := by
  have hl2 := (h.2.2.1.2.2.2.1 n hn).2
  have L : ∀ l1 l2, g_cnt (nI w) l1 l2 → ∃ r, f_40 y n l1 l2 S = some (r, S) ∧ b_274_57 bk q_N x1 (nI w) (a + 0) x4 (nI n) 0 T = bk x1 (nI w) (a + r) (x4 + 1) T := fun l1 l2 hc => l_40 h hn hn2 hc bk x1 x4 (g_n (Y 3 n 0)) 0 q_N q_N a 0 (by omega) (by unfold q_N; omega) (by unfold q_N; omega)
  obtain ⟨g7, g8, g9, g10, g11⟩ := g_cnts
  unfold f_39
  simp only [w_eta]
  have hc : w = 6 ∨ w = 7 ∨ w = 8 ∨ w = 9 ∨ w = 10 ∨ w = 11 := by omega
  rcases hc with e | e | e | e | e | e <;> subst e
  · rw [if_pos (show nI 6 = 6 from rfl)]
    exact l_40h h hn hn2 bk x1 x4 (g_n (Y 3 n 0)) 0 q_N q_N a 0 (by omega) (by unfold q_N; omega) (by unfold q_N; omega)
  · rw [if_neg (show ¬ nI 7 = 6 from by decide), if_pos (show nI 7 = 7 from rfl)]
    exact L _ _ g7
  · rw [if_neg (show ¬ nI 8 = 6 from by decide), if_neg (show ¬ nI 8 = 7 from by decide), if_pos (show nI 8 = 8 from rfl)]
    exact L _ _ g8
  · rw [if_neg (show ¬ nI 9 = 6 from by decide), if_neg (show ¬ nI 9 = 7 from by decide), if_neg (show ¬ nI 9 = 8 from by decide), if_pos (show nI 9 = 9 from rfl)]
    exact L _ _ g9
  · rw [if_neg (show ¬ nI 10 = 6 from by decide), if_neg (show ¬ nI 10 = 7 from by decide), if_neg (show ¬ nI 10 = 8 from by decide), if_neg (show ¬ nI 10 = 9 from by decide), if_pos (show nI 10 = 10 from rfl)]
    exact L _ _ g10
  · rw [if_neg (show ¬ nI 11 = 6 from by decide), if_neg (show ¬ nI 11 = 7 from by decide), if_neg (show ¬ nI 11 = 8 from by decide), if_neg (show ¬ nI 11 = 9 from by decide), if_neg (show ¬ nI 11 = 10 from by decide)]
    exact L _ _ g11
theorem l_109 {c y : Nat} {Y V : GA} {X Z S T : QS} (h : g_R c y Y V X Z S T) {k : Nat} (hk : k < g_n (Y 0 0 0)) (h4 : k < 40) {w : Nat} (hw : 6 ≤ w) (hw2 : w ≤ 11) : ∀ (m i p q : Nat) (a : Int32), i + m = 12 * g_n (Y 1 k 10) → m < p → m < q → ∃ r, b_109_5 p y y k (nI w) a (nI i) S = some (r, S) ∧ b_274_8 q (nI k) (nI w) a (nI (96 * k + i)) T = some (r, T)
  | m, i, 0, _, _, _, h1, _ => by omega
  | m, i, _, 0, _, _, _, h2 => by omega
  | m, i, p + 1, q + 1, a, hm, h1, h2 => by
    have hb := (h.2.2.1.2.2.1 k hk).2
    rw [b_109_5, b_274_8, c_45 h.1 h.2.2.1 hk h4, w_bd, t_190_10 h.2.1 h4, w_bd, g_end h.2.2.1 hk]
    cases m with
    | zero =>
      rw [if_pos (nI_le (by omega) (by omega)), if_pos (nI_le (by omega) (by omega))]
      exact ⟨a, rfl, rfl⟩
    | succ m =>
      rw [if_neg (nI_ge (by omega) (by omega)), if_neg (nI_ge (by omega) (by omega)), w_in (show i < 96 by omega) (by omega), nI_clamp (by omega), w_ck, w_let, c_p h.1 hk h4 (by omega) (by omega), t_194 h.2.1 h4 (by omega), w_bd, if_pos (show ¬ nI w = 5 from by rw [show (5 : Int32) = nI 5 from rfl, nI_eq (by omega) (by omega)]; omega)]
      unfold b_109_43 b_274_51 b_274_52
      simp only [w_let, w_ck, nI_1]
      rcases h.2.2.1.2.2.2.2.1 k i h4 (by omega) with e | ⟨_, _, n, hn, e⟩
      · rw [e, if_pos rfl, show q_N = 19999 + 1 from rfl, b_274_57, if_pos (show (-1 : Int32) < 0 from by decide)]
        unfold b_274_119
        rw [nI_1, Int32.add_zero]
        exact l_109 h hk h4 hw hw2 m (i + 1) p q a (by omega) (by omega) (by omega)
      · have n1 := h.2.2.1.2.1.2.1.2
        obtain ⟨r, f1, f2⟩ := e_39 h (n := n) hn (by omega) (b_274_8 q) (nI k) (nI (96 * k + i)) a hw hw2
        rw [e, if_neg (g_nI_m1 (by omega)), c_92 h.1 hn (by omega), w_bd]
        dsimp only
        rw [f1, w_bd, f2, nI_1]
        exact l_109 h hk h4 hw hw2 m (i + 1) p q (a + r) (by omega) (by omega) (by omega)
theorem l_54 {c y : Nat} {Y V : GA} {X Z S T : QS} (h : g_R c y Y V X Z S T) {k : Nat} (hk : k < g_n (Y 0 0 0)) (h4 : k < 40) : ∀ (m i p q : Nat) (a : Int32), i + m = 12 * g_n (Y 1 k 10) → m < p → m < q → ∃ r, b_54_4 p y k a (nI i) S = some (r, S) ∧ b_274_8 q (nI k) 5 a (nI (96 * k + i)) T = some (r, T)
  | m, i, 0, _, _, _, h1, _ => by omega
  | m, i, _, 0, _, _, _, h2 => by omega
  | m, i, p + 1, q + 1, a, hm, h1, h2 => by
    have hb := (h.2.2.1.2.2.1 k hk).2
    rw [b_54_4, b_274_8, c_45 h.1 h.2.2.1 hk h4, w_bd, t_190_10 h.2.1 h4, w_bd, g_end h.2.2.1 hk]
    cases m with
    | zero =>
      rw [if_pos (nI_le (by omega) (by omega)), if_pos (nI_le (by omega) (by omega))]
      exact ⟨a, rfl, rfl⟩
    | succ m =>
      rw [if_neg (nI_ge (by omega) (by omega)), if_neg (nI_ge (by omega) (by omega)), w_in (show i < 96 by omega) (by omega), nI_clamp (by omega), w_ck, w_let, c_p h.1 hk h4 (by omega) (by omega), t_194 h.2.1 h4 (by omega), w_bd, if_neg (show ¬ ¬ (5 : Int32) = 5 from by decide)]
      unfold b_54_25 b_274_51 b_274_52
      rw [nI_1]
      rcases h.2.2.1.2.2.2.2.1 k i h4 (by omega) with e | ⟨_, _, n, hn, e⟩
      · rw [e, if_neg (show ¬ ¬ (-1 : Int32) = -1 from by decide), if_neg (show ¬ (0 : Int32) ≤ -1 from by decide), w_let, show q_N = 19999 + 1 from rfl, b_274_57, if_pos (show (-1 : Int32) < 0 from by decide)]
        unfold b_274_119
        rw [nI_1]
        exact l_54 h hk h4 m (i + 1) p q (a + 1) (by omega) (by omega) (by omega)
      · have n1 := h.2.2.1.2.1.2.1.2
        have hl2 := (h.2.2.1.2.2.2.1 n hn).2
        rw [e, if_pos (g_nI_m1 (by omega)), if_pos (nI_pos' (by omega)), w_let, Int32.add_zero, show b_274_57 (b_274_8 q) q_N (nI k) 5 a (nI (96 * k + i)) (nI n) 0 T = _ from l_40n h hn (by omega) (b_274_8 q) (nI k) (nI (96 * k + i)) a (g_n (Y 3 n 0)) 0 q_N (by omega) (by unfold q_N; omega), nI_1]
        exact l_54 h hk h4 m (i + 1) p q a (by omega) (by omega) (by omega)
theorem jj_133 {c y : Nat} {Y V : GA} {X Z S T : QS} (h : g_R c y Y V X Z S T) (x z : Int32) : g_Ok c X Z (f_133 x z S) (f_275 x z T) := by
  obtain ⟨hC, hT, hW, hV, hU⟩ := id h
  unfold f_133 f_275 f_189 b_133_26 b_133_69 b_275_23
  rw [c_172 hC, t_198 hT]
  simp only [w_bd, w_eta]
  rcases g_hw_cases hW x with q | ⟨q, k, a1, a2, rfl⟩
  · rw [if_neg (g_12a q), if_pos (g_12a q), if_neg (g_12b q)]
    exact g_refuse h _
  · rw [if_pos q, if_neg (show ¬ ¬ g_hw Y (nI k) = 0 from fun p => p q), q]
    by_cases h1 : z < 0
    · rw [if_pos h1, if_pos h1, w_bd, if_neg (show ¬ ¬ (0 : Int32) = 0 from by decide), if_neg (show ¬ (6 : Int32) ≤ 0 from by decide)]
      exact g_refuse h _
    · rw [if_neg h1, if_neg h1]
      by_cases h2 : z ≤ 11
      · rw [if_pos h2, if_neg ((g_nle _ _).1 h2), w_bd, if_pos (show ¬ (1 : Int32) = 0 from by decide), if_pos (show (0 : Int32) ≤ 0 from by decide), c_now hC, c_91 hC a1 a2, w_bd]
        dsimp only
        obtain ⟨w, hw, rfl⟩ := nI_of2 (x := z) (M := 11) (n := 11) (by decide) h1 h2
        have hb := (hW.2.2.1 k a1).2
        by_cases hw6 : 6 ≤ w
        · have hne : ∀ j, j < 6 → ¬ nI w = nI j := fun j hj => by rw [nI_eq (by omega) (by omega)]; omega
          obtain ⟨r, f1, f2⟩ := l_109 h a1 a2 hw6 hw (12 * g_n (Y 1 k 10)) 0 q_N q_N 0 (by omega) (by unfold q_N; omega) (by unfold q_N; omega)
          unfold f_274
          rw [if_pos (show 6 ≤ nI w from nI_le (a := 6) hw6 (by omega)), c_now hC, show f_109 y y k (nI w) S = _ from f1, w_bd, if_neg (show ¬ nI w = 0 from hne 0 (by omega)), if_neg (show ¬ nI w = 1 from hne 1 (by omega)), if_neg (show ¬ nI w = 2 from hne 2 (by omega)), if_neg (show ¬ nI w = 3 from hne 3 (by omega)), if_neg (show ¬ nI w = 4 from hne 4 (by omega)), w_let, (g_mul96 k).1, show b_274_8 q_N (nI k) (nI w) 0 (nI (96 * k)) T = _ from f2, w_bd]
          exact g_accept h _
        · rw [if_neg (show ¬ 6 ≤ nI w from nI_ge (b := 6) (by omega) (by omega))]
          unfold f_55
          have hc : w = 0 ∨ w = 1 ∨ w = 2 ∨ w = 3 ∨ w = 4 ∨ w = 5 := by omega
          rcases hc with e | e | e | e | e | e <;> subst e
          · rw [if_pos (show nI 0 = 0 from rfl), if_pos (show nI 0 = 0 from rfl), w_bd, c_h0 hC a1 a2, t_190_0 hT a2, w_bd]
            exact g_accept h _
          · rw [if_neg (show ¬ nI 1 = 0 from by decide), if_pos (show nI 1 = 1 from rfl), if_neg (show ¬ nI 1 = 0 from by decide), if_pos (show nI 1 = 1 from rfl), w_bd, c_h1 hC a1 a2, t_190_1 hT a2, w_bd]
            exact g_accept h _
          · rw [if_neg (show ¬ nI 2 = 0 from by decide), if_neg (show ¬ nI 2 = 1 from by decide), if_pos (show nI 2 = 2 from rfl), if_neg (show ¬ nI 2 = 0 from by decide), if_neg (show ¬ nI 2 = 1 from by decide), if_pos (show nI 2 = 2 from rfl), w_bd, c_h2 hC a1 a2, t_190_2 hT a2, w_bd]
            exact g_accept h _
          · rw [if_neg (show ¬ nI 3 = 0 from by decide), if_neg (show ¬ nI 3 = 1 from by decide), if_neg (show ¬ nI 3 = 2 from by decide), if_pos (show nI 3 = 3 from rfl), if_neg (show ¬ nI 3 = 0 from by decide), if_neg (show ¬ nI 3 = 1 from by decide), if_neg (show ¬ nI 3 = 2 from by decide), if_pos (show nI 3 = 3 from rfl), w_bd, c_h10 hC a1 a2, t_190_10 hT a2, w_bd]
            exact g_accept h _
          · rw [if_neg (show ¬ nI 4 = 0 from by decide), if_neg (show ¬ nI 4 = 1 from by decide), if_neg (show ¬ nI 4 = 2 from by decide), if_neg (show ¬ nI 4 = 3 from by decide), if_pos (show nI 4 = 4 from rfl), if_neg (show ¬ nI 4 = 0 from by decide), if_neg (show ¬ nI 4 = 1 from by decide), if_neg (show ¬ nI 4 = 2 from by decide), if_neg (show ¬ nI 4 = 3 from by decide), if_pos (show nI 4 = 4 from rfl), w_bd, c_h9 hC a1 a2, t_190_9 hT a2, w_bd]
            exact g_accept h _
          · obtain ⟨r, f1, f2⟩ := l_54 h a1 a2 (12 * g_n (Y 1 k 10)) 0 q_N q_N 0 (by omega) (by unfold q_N; omega) (by unfold q_N; omega)
            unfold f_274
            rw [if_neg (show ¬ nI 5 = 0 from by decide), if_neg (show ¬ nI 5 = 1 from by decide), if_neg (show ¬ nI 5 = 2 from by decide), if_neg (show ¬ nI 5 = 3 from by decide), if_neg (show ¬ nI 5 = 4 from by decide), if_neg (show ¬ nI 5 = 0 from by decide), if_neg (show ¬ nI 5 = 1 from by decide), if_neg (show ¬ nI 5 = 2 from by decide), if_neg (show ¬ nI 5 = 3 from by decide), if_neg (show ¬ nI 5 = 4 from by decide), show f_54 y k S = _ from f1, w_bd, w_bd, w_let, (g_mul96 k).1, show b_274_8 q_N (nI k) (nI 5) 0 (nI (96 * k)) T = _ from f2, w_bd]
            exact g_accept h _
      · rw [if_neg h2, if_pos (Decidable.not_not.1 (fun q => h2 ((g_nle _ _).2 q))), w_bd, if_neg (show ¬ ¬ (0 : Int32) = 0 from by decide), if_neg (show ¬ (6 : Int32) ≤ 0 from by decide)]
        exact g_refuse h _
