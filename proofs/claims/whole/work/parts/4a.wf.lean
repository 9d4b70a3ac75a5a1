/-! ===== what holds of every picture ===== -/
theorem g_up_comm {Y : GA} {r i j r' i' j' : Nat} {v w : Int32} (h : ¬ (r' = r ∧ i' = i ∧ j' = j)) : g_up (g_up Y r i j v) r' i' j' w = g_up (g_up Y r' i' j' w) r i j v := by
  funext a b c
  by_cases h1 : a = r ∧ b = i ∧ c = j
  · obtain ⟨rfl, rfl, rfl⟩ := h1
    rw [g_up_ne (fun q => h ⟨q.1.symm, q.2.1.symm, q.2.2.symm⟩), g_up_same, g_up_same]
  · by_cases h2 : a = r' ∧ b = i' ∧ c = j'
    · obtain ⟨rfl, rfl, rfl⟩ := h2
      rw [g_up_same, g_up_ne h1, g_up_same]
    · rw [g_up_ne h2, g_up_ne h1, g_up_ne h1, g_up_ne h2]
theorem g_up_up (Y : GA) (r i j : Nat) (v w : Int32) : g_up (g_up Y r i j v) r i j w = g_up Y r i j w := by
  funext a b c
  by_cases h1 : a = r ∧ b = i ∧ c = j
  · obtain ⟨rfl, rfl, rfl⟩ := h1
    rw [g_up_same, g_up_same]
  · rw [g_up_ne h1, g_up_ne h1, g_up_ne h1]
theorem g_up_id {Y : GA} {r i j : Nat} {v : Int32} (h : Y r i j = v) : g_up Y r i j v = Y := by
  funext a b c
  by_cases h1 : a = r ∧ b = i ∧ c = j
  · obtain ⟨rfl, rfl, rfl⟩ := h1
    rw [g_up_same, h]
  · rw [g_up_ne h1]
/-- a number up to m; an index or -1 -/
def g_N (x : Int32) (m : Nat) : Prop := x = nI (g_n x) ∧ g_n x ≤ m
def g_M (x : Int32) (m : Nat) : Prop := x = -1 ∨ ∃ n, n < m ∧ x = nI n
theorem g_n_nI {a : Nat} (h : a < 2 ^ 31) : g_n (nI a) = a := nI_clamp h
theorem g_N_nI {a m : Nat} (h : a ≤ m) (hm : m < 2 ^ 31) : g_N (nI a) m := by
  unfold g_N
  rw [g_n_nI (by omega)]
  exact ⟨rfl, h⟩
theorem g_N_of {x : Int32} {m : Nat} {M : Int32} (hM : M.toInt = m) (h0 : ¬ x < 0) (h : x ≤ M) (hm : m < 2 ^ 31) : g_N x m := by
  obtain ⟨j, hj, e⟩ := nI_of2 hM h0 h
  rw [e]
  exact g_N_nI hj hm
theorem g_N_mono {x : Int32} {m m' : Nat} (h : g_N x m) (hm : m ≤ m') : g_N x m' := ⟨h.1, Nat.le_trans h.2 hm⟩
theorem g_M_mono {x : Int32} {m m' : Nat} (h : g_M x m) (hm : m ≤ m') : g_M x m' := by
  rcases h with h | ⟨n, hn, e⟩
  · exact Or.inl h
  · exact Or.inr ⟨n, by omega, e⟩
theorem g_nI_m1 {n : Nat} (h : n < 2 ^ 31) : nI n ≠ -1 := by
  intro e
  have h1 := nI_toInt h
  rw [e] at h1
  have : (-1 : Int32).toInt = -1 := by decide
  omega
theorem g_M_lt {x : Int32} {m : Nat} (h : g_M x m) (hm : m < 2 ^ 31) : x < 0 ↔ x = -1 := by
  rcases h with h | ⟨n, hn, e⟩
  · rw [h]; decide
  · rw [e]
    constructor
    · intro q; exact absurd q (nI_pos (by omega))
    · intro q; exact absurd q (g_nI_m1 (by omega))
theorem g_M_of {x : Int32} {m : Nat} (h : g_M x m) (hx : x ≠ -1) : ∃ n, n < m ∧ x = nI n := by
  rcases h with h | h
  · exact absurd h hx
  · exact h
/-- a field's values -/
def g_ok (x : Int32) : Prop := (0 ≤ x ∧ x ≤ 100) ∨ x = 200 ∨ (300 ≤ x ∧ x ≤ 320) ∨ (400 ≤ x ∧ x ≤ 423)
/-- sums -/
def g_su (f : Nat → Int32) : Nat → Int
  | 0 => 0
  | n + 1 => g_su f n + (f n).toInt
def g_yo (f : Nat → Int32) : Nat → Int
  | 0 => 0
  | n + 1 => g_yo f n + (if 300 ≤ f n then 1 else 0)
def g_ph (l f : Nat → Nat → Int32) : Nat → Int
  | 0 => 0
  | n + 1 => g_ph l f n + g_yo (f n) (g_n (l n 0))
def g_w0 (c0 : Nat → Nat → Int32) : Prop := g_N (c0 0 0) 40 ∧ g_N (c0 1 0) 200 ∧ g_N (c0 2 0) 200 ∧ g_N (c0 8 0) 200
def g_wB (c0 v : Nat → Nat → Int32) : Prop := ∀ h, h < g_n (c0 0 0) → g_N (v h 10) 8
def g_wL (c0 l : Nat → Nat → Int32) : Prop := ∀ n, n < g_n (c0 1 0) → g_N (l n 0) 64
def g_wP (c0 v p : Nat → Nat → Int32) : Prop := ∀ h i, h < 40 → i < 96 → p h i = -1 ∨ (h < g_n (c0 0 0) ∧ i < 12 * g_n (v h 10) ∧ ∃ n, n < g_n (c0 1 0) ∧ p h i = nI n)
def g_wK (c0 b : Nat → Nat → Int32) : Prop := ∀ k, k < 24 → g_M (b k 0) (g_n (c0 1 0))
def g_wU (p b : Nat → Nat → Int32) : Prop := (∀ h i h' i', h < 40 → i < 96 → h' < 40 → i' < 96 → p h i = p h' i' → p h i ≠ -1 → h = h' ∧ i = i') ∧ (∀ k k', k < 24 → k' < 24 → b k 0 = b k' 0 → b k 0 ≠ -1 → k = k') ∧ (∀ h i k, h < 40 → i < 96 → k < 24 → p h i = b k 0 → p h i = -1)
def g_wF (c0 l f : Nat → Nat → Int32) : Prop := ∀ n i, n < g_n (c0 1 0) → i < g_n (l n 0) → g_ok (f n i)
/-- things: kind, days, mother, father, rate, load, inside -/
def g_wT (c : Nat) (c0 t : Nat → Nat → Int32) : Prop := ∀ k, k < g_n (c0 2 0) → g_N (t k 0) 5 ∧ g_N (t k 1) (60 * c) ∧ g_M (t k 2) (g_n (c0 2 0)) ∧ g_M (t k 3) (g_n (c0 2 0)) ∧ g_N (t k 4) 200 ∧ 0 ≤ t k 6 ∧ g_M (t k 7) (g_n (c0 2 0))
/-- hives: bees, slot, mites, washed, due, growth -/
def g_wS (c0 v : Nat → Nat → Int32) : Prop := ∀ h, h < g_n (c0 0 0) → 0 ≤ v h 0 ∧ g_M (v h 3) (g_n (c0 2 0)) ∧ 0 ≤ v h 5 ∧ 0 ≤ v h 6 ∧ g_N (v h 7) 30 ∧ g_N (v h 8) 1000 ∧ (v h 7 ≠ 0 → v h 8 ≠ 0) ∧ 0 ≤ v h 1 ∧ 0 ≤ v h 2
def g_wI (c0 v t : Nat → Nat → Int32) : Prop := (∀ h h', h < g_n (c0 0 0) → h' < g_n (c0 0 0) → v h 3 = v h' 3 → v h 3 ≠ -1 → h = h') ∧ (∀ s s', s < g_n (c0 2 0) → s' < g_n (c0 2 0) → t s 7 = t s' 7 → t s 7 ≠ -1 → s = s') ∧ (∀ h s, h < g_n (c0 0 0) → s < g_n (c0 2 0) → v h 3 = t s 7 → v h 3 = -1)
/-- lines: a parent's kind, and depths -/
def g_pd (d : Nat → Nat → Int32) (x : Int32) : Nat := if x = -1 then 0 else g_n (d (g_n x) 0) + 1
def g_wD (c0 t d : Nat → Nat → Int32) : Prop := ∀ k, k < g_n (c0 2 0) → g_N (d k 0) 15 ∧ g_n (d k 0) = Nat.max (g_pd d (t k 2)) (g_pd d (t k 3)) ∧ (t k 2 ≠ -1 → t (g_n (t k 2)) 0 ≤ 2) ∧ (t k 3 ≠ -1 → t (g_n (t k 3)) 0 = 3)
def g_wN (c : Nat) (c0 v l f t : Nat → Nat → Int32) : Prop := g_su (fun h => v h 0) (g_n (c0 0 0)) + g_su (fun k => t k 6) (g_n (c0 2 0)) + g_ph l f (g_n (c0 1 0)) ≤ 400000 * c ∧ g_su (fun h => v h 5) (g_n (c0 0 0)) ≤ 10000 * c ∧ g_su (fun h => v h 6) (g_n (c0 0 0)) ≤ 10000 * c ∧ g_su (fun h => v h 1) (g_n (c0 0 0)) + g_ph l f (g_n (c0 1 0)) ≤ 400000 * c ∧ g_su (fun h => v h 2) (g_n (c0 0 0)) ≤ 400000 * c
def g_V (c : Nat) (c0 v p l f b t d : Nat → Nat → Int32) : Prop := c ≤ 512 ∧ g_w0 c0 ∧ g_wB c0 v ∧ g_wL c0 l ∧ g_wP c0 v p ∧ g_wK c0 b ∧ g_wU p b ∧ g_wF c0 l f ∧ g_wT c c0 t ∧ g_wS c0 v ∧ g_wI c0 v t ∧ g_wD c0 t d ∧ g_wN c c0 v l f t
def g_W (c : Nat) (Y : GA) : Prop := g_V c (Y 0) (Y 1) (Y 2) (Y 3) (Y 4) (Y 5) (Y 6) (Y 8)
theorem g_W_mono {c c' : Nat} {Y : GA} (h : g_W c Y) (hc : c ≤ c') (h5 : c' ≤ 512) : g_W c' Y := by
  obtain ⟨a1, a2, a3, a4, a5, a6, a7, a8, a9, a10, a11, a12, a13⟩ := h
  refine ⟨h5, a2, a3, a4, a5, a6, a7, a8, ?_, a10, a11, a12, ?_⟩
  · intro k hk
    have q := a9 k hk
    exact ⟨q.1, g_N_mono q.2.1 (by omega), q.2.2⟩
  · unfold g_wN at a13 ⊢
    omega
/-- both sides -/
def g_R (c y : Nat) (Y V : GA) (X Z S T : QS) : Prop := g_C y Y V X S ∧ g_T Y V Z T ∧ g_W c Y ∧ (Y 10 3 0 = 1 → g_W c V) ∧ (Y 10 3 0 = 0 ∨ Y 10 3 0 = 1)
def g_Ok (c : Nat) (X Z : QS) (e e' : Option (Int32 × QS)) : Prop := ∃ r y Y V S T, e = some (r, S) ∧ e' = some (r, T) ∧ g_R c y Y V X Z S T
theorem g_R_mono {c c' y : Nat} {Y V : GA} {X Z S T : QS} (h : g_R c y Y V X Z S T) (hc : c ≤ c') (h5 : c' ≤ 512) : g_R c' y Y V X Z S T :=
  ⟨h.1, h.2.1, g_W_mono h.2.2.1 hc h5, fun q => g_W_mono (h.2.2.2.1 q) hc h5, h.2.2.2.2⟩
theorem g_W_o {c : Nat} {Y : GA} {r i j : Nat} {v : Int32} (h : g_W c Y) (hr : 9 ≤ r ∨ r = 7) : g_W c (g_up Y r i j v) := by
  unfold g_W
  rw [g_up_r (by omega), g_up_r (by omega), g_up_r (by omega), g_up_r (by omega), g_up_r (by omega), g_up_r (by omega), g_up_r (by omega), g_up_r (by omega)]
  exact h
theorem w_eta {α : Type} (e : Option (α × QS)) : q_bd e (fun r S => some (r, S)) = e := by
  unfold q_bd
  split <;> rfl
/-- the status is written -/
theorem g_R_st {c y : Nat} {Y V : GA} {X Z S T : QS} (h : g_R c y Y V X Z S T) (e : Int32) : g_R c y (g_up Y 10 0 0 e) V X Z (q_set S (10, 0, 0) 3 e) (q_set T (11, 0, 0) 5 e) := by
  obtain ⟨h1, h2, h3, h4, h5⟩ := h
  have e10 : g_up Y 10 0 0 e 10 3 0 = Y 10 3 0 := rfl
  refine ⟨?_, ?_, g_W_o h3 (by omega), ?_, ?_⟩
  · exact g_C_set (r := 10) (i := 0) (j := 0) e h1 (by omega) ⟨by omega, rfl⟩ (by omega) ⟨by omega, by omega, by omega⟩
  · exact g_T_set (r := 10) (i := 0) (j := 0) e h2 (by omega) ⟨by omega, rfl⟩ (by omega)
  · rw [e10]; exact h4
  · rw [e10]; exact h5
theorem g_refuse {c y : Nat} {Y V : GA} {X Z S T : QS} (h : g_R c y Y V X Z S T) (e : Int32) : g_Ok c X Z (f_170 e S) (f_186 e T) := ⟨-1, y, _, V, _, _, rfl, rfl, g_R_st h e⟩
theorem g_accept {c y : Nat} {Y V : GA} {X Z S T : QS} (h : g_R c y Y V X Z S T) (r : Int32) : g_Ok c X Z (f_169 r S) (f_187 r T) := ⟨r, y, _, V, _, _, rfl, rfl, g_R_st h 0⟩
/-- changes that the answer of a hive's, a thing's number needs -/
def g_hw (Y : GA) (x : Int32) : Int32 := if x < 0 then 2 else if 39 < x then 2 else if x < Y 0 0 0 then 0 else 1
def g_tw (Y : GA) (x : Int32) : Int32 := if x < 0 then 2 else if 199 < x then 2 else if x < Y 0 2 0 then 0 else 1
theorem g_lt39 (x : Int32) : x < 40 ↔ ¬ 39 < x := by
  rw [Int32.lt_iff_toInt_lt, Int32.lt_iff_toInt_lt, show (40 : Int32).toInt = 40 from by decide, show (39 : Int32).toInt = 39 from by decide]
  omega
theorem g_lt199 (x : Int32) : x < 200 ↔ ¬ 199 < x := by
  rw [Int32.lt_iff_toInt_lt, Int32.lt_iff_toInt_lt, show (200 : Int32).toInt = 200 from by decide, show (199 : Int32).toInt = 199 from by decide]
  omega
theorem g_nle (x y : Int32) : x ≤ y ↔ ¬ y < x := by
  rw [Int32.le_iff_toInt_le, Int32.lt_iff_toInt_lt]
  omega
theorem c_172 {y : Nat} {Y V : GA} {X S : QS} (h : g_C y Y V X S) (x : Int32) : f_172 x S = some (g_hw Y x, S) := by
  have e : S.1 (9, y, 0) 5 = Y 0 0 0 := h.2.1 0 0 0 (by omega) ⟨by omega, rfl⟩ trivial
  unfold f_172 g_hw
  rw [h.1.1, e]
  by_cases h1 : x < 0
  · rw [if_pos h1, if_pos h1]
  · rw [if_neg h1, if_neg h1]
    by_cases h2 : 39 < x
    · rw [if_neg (fun q => (g_lt39 x).1 q h2), if_pos h2]
    · rw [if_pos ((g_lt39 x).2 h2), if_neg h2]
      by_cases h3 : x < Y 0 0 0
      · rw [if_neg (fun q => (g_nle _ _).1 q h3), if_pos h3]
      · rw [if_pos ((g_nle _ _).2 h3), if_neg h3]
theorem c_174 {y : Nat} {Y V : GA} {X S : QS} (h : g_C y Y V X S) (x : Int32) : f_174 x S = some (g_tw Y x, S) := by
  have e : S.1 (9, y, 0) 7 = Y 0 2 0 := h.2.1 0 2 0 (by omega) ⟨by omega, rfl⟩ trivial
  unfold f_174 g_tw
  rw [h.1.1, e]
  by_cases h1 : x < 0
  · rw [if_pos h1, if_pos h1]
  · rw [if_neg h1, if_neg h1]
    by_cases h2 : 199 < x
    · rw [if_neg (fun q => (g_lt199 x).1 q h2), if_pos h2]
    · rw [if_pos ((g_lt199 x).2 h2), if_neg h2]
      by_cases h3 : x < Y 0 2 0
      · rw [if_neg (fun q => (g_nle _ _).1 q h3), if_pos h3]
      · rw [if_pos ((g_nle _ _).2 h3), if_neg h3]
theorem t_198 {Y V : GA} {Z T : QS} (h : g_T Y V Z T) (x : Int32) : f_198 x T = some (g_hw Y x, T) := by
  have e : T.1 (40, 0, 0) 0 = Y 0 0 0 := h.1 0 0 0 (by omega) ⟨by omega, rfl⟩
  rw [r_198]
  unfold a_hw g_hw
  rw [e]
theorem t_199 {Y V : GA} {Z T : QS} (h : g_T Y V Z T) (x : Int32) : f_199 x T = some (g_tw Y x, T) := by
  have e : T.1 (40, 0, 0) 2 = Y 0 2 0 := h.1 0 2 0 (by omega) ⟨by omega, rfl⟩
  rw [r_199]
  unfold a_tw g_tw
  rw [e]
theorem g_hw_cases {c : Nat} {Y : GA} (h : g_W c Y) (x : Int32) : (g_hw Y x = 2 ∨ g_hw Y x = 1) ∨ (g_hw Y x = 0 ∧ ∃ k, k < g_n (Y 0 0 0) ∧ k < 40 ∧ x = nI k) := by
  have h0 := h.2.1.1
  unfold g_hw
  by_cases h1 : x < 0
  · rw [if_pos h1]; exact Or.inl (Or.inl rfl)
  · rw [if_neg h1]
    by_cases h2 : 39 < x
    · rw [if_pos h2]; exact Or.inl (Or.inl rfl)
    · rw [if_neg h2]
      by_cases h3 : x < Y 0 0 0
      · rw [if_pos h3]
        refine Or.inr ⟨rfl, ?_⟩
        obtain ⟨k, hk, e⟩ := nI_of h1
        subst e
        have h4 := h0.1
        have h5 := h0.2
        rw [h4, nI_ltI hk (by omega)] at h3
        exact ⟨k, h3, by omega, rfl⟩
      · rw [if_neg h3]; exact Or.inl (Or.inr rfl)
theorem g_tw_cases {c : Nat} {Y : GA} (h : g_W c Y) (x : Int32) : (g_tw Y x = 2 ∨ g_tw Y x = 1) ∨ (g_tw Y x = 0 ∧ ∃ k, k < g_n (Y 0 2 0) ∧ k < 200 ∧ x = nI k) := by
  have h0 := h.2.1.2.2.1
  unfold g_tw
  by_cases h1 : x < 0
  · rw [if_pos h1]; exact Or.inl (Or.inl rfl)
  · rw [if_neg h1]
    by_cases h2 : 199 < x
    · rw [if_pos h2]; exact Or.inl (Or.inl rfl)
    · rw [if_neg h2]
      by_cases h3 : x < Y 0 2 0
      · rw [if_pos h3]
        refine Or.inr ⟨rfl, ?_⟩
        obtain ⟨k, hk, e⟩ := nI_of h1
        subst e
        have h4 := h0.1
        have h5 := h0.2
        rw [h4, nI_ltI hk (by omega)] at h3
        exact ⟨k, h3, by omega, rfl⟩
      · rw [if_neg h3]; exact Or.inl (Or.inr rfl)
