/-! ===== rows that are kept: export, share, copy; mites ===== -/
theorem x_ck {α : Type} (e : Option α) : q_ck true e = e := Eq.trans (w_ck e) (Eq.refl _)
theorem x_let {α β : Type} (x : α) (k : α → β) : q_let x k = k x := Eq.trans (w_let x k) (Eq.refl _)
theorem x_bd {α β γ : Type} (a : α) (b : β) (k : α → β → Option γ) : q_bd (some (a, b)) k = k a b := Eq.trans (w_bd a b k) (Eq.refl _)
def g_rm (k : Nat) : Nat := if k = 0 then 8 else if k = 1 then 10 else 12
theorem g_C_row {y : Nat} {Y V : GA} {X S : QS} (h : g_C y Y V X S) {k : Nat} (hk : k < 3) {m : Int32} (hm : g_N m (g_cap k)) : ∃ S', f_80 (g_rk k) m S = some ((), S') ∧ g_C y (g_up Y 14 k 0 m) V X S' := by
  unfold f_80
  obtain ⟨h1, h2, h3, h4, h5, h6, h7, h8⟩ := h
  have key : ∀ y r i j, r ≤ 13 → g_vd r i j → (g_cl y r i j).1 ≠ (7, g_rk k, 0) := fun y r i j hr hv q => g_cl_7 hr hv (by rw [q])
  refine ⟨_, rfl, h1, ?_, ?_, h4, h5, ?_, ?_, h8⟩
  · intro r i j hr hv hl
    rw [g_set_a (key y r i j hr hv), g_set_a (key y r i j hr hv), g_up_ne (fun q => by omega)]
    rw [g_lv_up ⟨by omega, by omega, by omega⟩] at hl
    exact h2 r i j hr hv hl
  · intro hc r i j hr hv hl
    rw [g_set_a (key _ r i j (by omega) hv), g_set_a (key _ r i j (by omega) hv)]
    exact h3 hc r i j hr hv hl
  · intro k' hk'
    by_cases e : k' = k
    · subst e
      rw [g_up_same]
      refine Or.inr ⟨hm, ?_, ?_⟩
      · rw [g_set1, if_pos ⟨rfl, rfl⟩]
      · rw [g_set1, if_neg (fun q => by omega), g_set1, if_pos ⟨rfl, rfl⟩]
    · have ne : ((7, g_rk k', 0) : VA) ≠ (7, g_rk k, 0) := by
        intro q
        injection q with q1 q2
        injection q2 with q2 q3
        unfold g_rk at q2
        have : k = 0 ∨ k = 1 ∨ k = 2 := by omega
        have : k' = 0 ∨ k' = 1 ∨ k' = 2 := by omega
        rcases ‹k = 0 ∨ k = 1 ∨ k = 2› with a | a | a <;> rcases ‹k' = 0 ∨ k' = 1 ∨ k' = 2› with b | b | b <;> subst a <;> subst b <;> first | (exact e rfl) | (exact absurd q2 (by decide))
      rw [g_up_ne (fun q => e q.2.1)]
      unfold g_rw
      rw [g_set_a ne, g_set_a ne]
      exact h6 k' hk'
  · intro a ha
    have : a ≠ (7, g_rk k, 0) := fun q => by rw [q] at ha; cases ha
    rw [g_set_a this, g_set_a this]
    exact h7 a ha
theorem g_T_row {Y V : GA} {Z T : QS} (h : g_T Y V Z T) {k : Nat} (hk : k < 3) (m : Int32) : g_T (g_up Y 14 k 0 m) V Z (q_set T (11, 0, 0) (g_rm k) m) := by
  have := g_T_set (r := 14) (i := k) (j := 0) m h (by omega) ⟨hk, rfl⟩ (by omega)
  exact this
/-- both, with the picture at hand -/
theorem g_R_o {c y : Nat} {Y V : GA} {X Z S T S' T' : QS} (h : g_R c y Y V X Z S T) {r i j : Nat} {v : Int32} (hr : 9 ≤ r) (hu : ¬ (r = 10 ∧ i = 3)) (h1 : g_C y (g_up Y r i j v) V X S') (h2 : g_T (g_up Y r i j v) V Z T') : g_R c y (g_up Y r i j v) V X Z S' T' := by
  have e10 : g_up Y r i j v 10 3 0 = Y 10 3 0 := g_up_ne (fun q => hu ⟨q.1.symm, q.2.1.symm⟩)
  refine ⟨h1, h2, g_W_o h.2.2.1 (Or.inl hr), ?_, ?_⟩
  · rw [e10]; exact h.2.2.2.1
  · rw [e10]; exact h.2.2.2.2
theorem l_162 {c y : Nat} {X Z : QS} {n : Nat} (hn2 : n < 200) : ∀ (m i p q : Nat) (Y V : GA) (S T : QS), g_R c y Y V X Z S T → n < g_n (Y 0 1 0) → Y 14 1 0 = Y 3 n 0 → i + m = g_n (Y 3 n 0) → m < p → m < q → g_Ok c X Z (b_162_39 p y n (nI i) S) (b_280_34 q (nI n) (nI i) T)
  | m, i, 0, _, _, _, _, _, _, _, _, _, h1, _ => by omega
  | m, i, _, 0, _, _, _, _, _, _, _, _, _, h2 => by omega
  | m, i, p + 1, q + 1, Y, V, S, T, h, hn, he, hm, h1, h2 => by
    have hl := h.2.2.1.2.2.2.1 n hn
    have hl2 := hl.2
    rw [b_162_39, b_280_34, c_l h.1 hn hn2, t_m1 h.2.1, he]
    simp only [w_eta]
    cases m with
    | zero =>
      rw [if_pos ((g_N_le hl (by omega) (by omega)).2 (by omega)), if_pos ((g_N_le hl (by omega) (by omega)).2 (by omega))]
      exact g_accept h _
    | succ m =>
      have hnle : ¬ Y 3 n 0 ≤ nI i := fun e => by rw [g_N_le hl (by omega) (by omega)] at e; omega
      obtain ⟨v, hv, hv2, ev⟩ := g_ok_N (h.2.2.1.2.2.2.2.2.2.2.1 n i hn (by omega))
      have hal := (g_lt_all v hv hv2).1
      rw [← ev] at hal
      rw [if_neg hnle, if_neg hnle, w_in (show i < 64 by omega) (by omega), nI_clamp (by omega), w_ck, w_let, c_f h.1 hn hn2 (by omega) (by omega), t_196 h.2.1 hn2 (by omega), w_bd, e_182, w_bd, e_279, w_bd, w_ck, w_ck, hal, nI_1]
      obtain ⟨S1, e1, g1⟩ := cs_q12 h.1 (show i < 64 by omega) (g_l9 (Y 4 n i))
      obtain ⟨T1, e2, g2⟩ := ts_q12 h.2.1 (show i < 64 by omega) (g_l9 (Y 4 n i))
      rw [e1, e2, w_let, w_let]
      exact l_162 hn2 m (i + 1) p q _ V S1 T1 (g_R_o h (by omega) (by omega) g1 g2) hn he (by exact (show i + 1 + m = g_n (Y 3 n 0) by omega)) (by omega) (by omega)
theorem jj_162 {c y : Nat} {Y V : GA} {X Z S T : QS} (h : g_R c y Y V X Z S T) (x : Int32) : g_Ok c X Z (f_162 x S) (f_280 x T) := by
  obtain ⟨hC, hT, hW, hV, hU⟩ := id h
  unfold f_162 f_280
  rw [c_176 hC hW, t_201 hT hW]
  simp only [x_bd, w_eta]
  rcases g_fw_cases hW x with q | ⟨q, k, i, n, a1, a2, a3, a4, a5, a6, a7, rfl⟩
  · rw [if_neg (g_12a q), if_neg (g_12b q)]
    exact g_refuse h _
  · rw [if_pos q, if_pos (g_12c q), c_now hC, c_100 hC a1 a2 a3 a4 a5 a6 a7, t_194 hT a2 a4, a7]
    simp only [x_bd]
    rw [t_195 hT a6, w_bd, c_l hC a5 a6]
    have hl := hW.2.2.2.1 n a5
    obtain ⟨S1, e1, g1⟩ := g_C_row hC (k := 1) (by omega) (m := Y 3 n 0) hl
    have g2 : g_T (g_up Y 14 1 0 (Y 3 n 0)) V Z (q_set T (11, 0, 0) 10 (Y 3 n 0)) := g_T_row hT (k := 1) (by omega) (Y 3 n 0)
    rw [show f_80 2 (Y 3 n 0) S = some ((), S1) from e1, w_bd, w_let]
    have hl2 := hl.2
    generalize q_set T (11, 0, 0) 10 (Y 3 n 0) = T1 at g2 ⊢
    have hR := g_R_o h (by omega) (by omega) g1 g2
    have e14 : g_up Y 14 1 0 (Y 3 n 0) 14 1 0 = g_up Y 14 1 0 (Y 3 n 0) 3 n 0 := g_up_same _ _ _ _ _
    have fin := l_162 a6 (g_n (Y 3 n 0)) 0 q_N q_N _ V S1 T1 hR a5 e14 (Nat.zero_add _) (by unfold q_N; omega) (by unfold q_N; omega)
    exact fin
/-- sums and their parts -/
theorem g_su_nn {f : Nat → Int32} : ∀ n, (∀ k, k < n → 0 ≤ f k) → 0 ≤ g_su f n
  | 0, _ => by unfold g_su; omega
  | n + 1, h => by
    unfold g_su
    have h1 := g_su_nn n (fun k hk => h k (by omega))
    have h2 := Int32.le_iff_toInt_le.1 (h n (by omega))
    rw [show (0 : Int32).toInt = 0 from by decide] at h2
    omega
theorem g_su_one {f : Nat → Int32} : ∀ n k, (∀ k, k < n → 0 ≤ f k) → k < n → (f k).toInt ≤ g_su f n
  | 0, k, _, h => by omega
  | n + 1, k, h, hk => by
    unfold g_su
    have h2 := Int32.le_iff_toInt_le.1 (h n (by omega))
    rw [show (0 : Int32).toInt = 0 from by decide] at h2
    by_cases e : k = n
    · subst e
      have := g_su_nn k (fun j hj => h j (by omega))
      omega
    · have := g_su_one n k (fun j hj => h j (by omega)) (by omega)
      omega
theorem g_yo_nn (f : Nat → Int32) : ∀ n, 0 ≤ g_yo f n
  | 0 => by unfold g_yo; omega
  | n + 1 => by
    unfold g_yo
    have := g_yo_nn f n
    split <;> omega
theorem g_ph_nn (l f : Nat → Nat → Int32) : ∀ n, 0 ≤ g_ph l f n
  | 0 => by unfold g_ph; omega
  | n + 1 => by
    unfold g_ph
    have := g_ph_nn l f n
    have := g_yo_nn (f n) (g_n (l n 0))
    omega
theorem g_N_int {x : Int32} {m : Nat} (h0 : 0 ≤ x) (h : x.toInt ≤ m) (hm : m < 2 ^ 31) : g_N x m := by
  have h2 := Int32.le_iff_toInt_le.1 h0
  rw [show (0 : Int32).toInt = 0 from by decide] at h2
  obtain ⟨j, hj, rfl⟩ := nI_of (x := x) (by rw [Int32.lt_iff_toInt_lt, show (0 : Int32).toInt = 0 from by decide]; omega)
  rw [nI_toInt hj] at h
  exact g_N_nI (by omega) hm
theorem g_bees {c : Nat} {Y : GA} (hW : g_W c Y) {k : Nat} (hk : k < g_n (Y 0 0 0)) : g_N (Y 1 k 0) (400000 * c) ∧ g_N (Y 1 k 5) (10000 * c) ∧ g_N (Y 1 k 6) (10000 * c) := by
  obtain ⟨w5, w0, wB, wL, wP, wK, wU, wF, wT, wS, wI, wD, wN⟩ := hW
  have t1 := g_su_one (f := fun h => Y 1 h 0) (g_n (Y 0 0 0)) k (fun j hj => (wS j hj).1) hk
  have t2 := g_su_nn (f := fun t => Y 6 t 6) (g_n (Y 0 2 0)) (fun j hj => (wT j hj).2.2.2.2.2.1)
  have t3 := g_ph_nn (Y 3) (Y 4) (g_n (Y 0 1 0))
  have t4 := g_su_one (f := fun h => Y 1 h 5) (g_n (Y 0 0 0)) k (fun j hj => (wS j hj).2.2.1) hk
  have t5 := g_su_one (f := fun h => Y 1 h 6) (g_n (Y 0 0 0)) k (fun j hj => (wS j hj).2.2.2.1) hk
  obtain ⟨n1, n2, n3, n4, n5⟩ := wN
  have s := wS k hk
  exact ⟨g_N_int s.1 (by omega) (by omega), g_N_int s.2.2.1 (by omega) (by omega), g_N_int s.2.2.2.1 (by omega) (by omega)⟩
theorem g_drh {c : Nat} {Y : GA} (hW : g_W c Y) {k : Nat} (hk : k < g_n (Y 0 0 0)) : g_N (Y 1 k 1) (400000 * c) ∧ g_N (Y 1 k 2) (400000 * c) := by
  obtain ⟨w5, w0, wB, wL, wP, wK, wU, wF, wT, wS, wI, wD, wN⟩ := hW
  have t1 := g_su_one (f := fun h => Y 1 h 1) (g_n (Y 0 0 0)) k (fun j hj => (wS j hj).2.2.2.2.2.2.2.1) hk
  have t2 := g_su_one (f := fun h => Y 1 h 2) (g_n (Y 0 0 0)) k (fun j hj => (wS j hj).2.2.2.2.2.2.2.2) hk
  have t3 := g_ph_nn (Y 3) (Y 4) (g_n (Y 0 1 0))
  obtain ⟨n1, n2, n3, n4, n5⟩ := wN
  have s := wS k hk
  exact ⟨g_N_int s.2.2.2.2.2.2.2.1 (by omega) (by omega), g_N_int s.2.2.2.2.2.2.2.2 (by omega) (by omega)⟩
/-- shares -/
def g_left (B n i : Nat) : Nat := (n - i) * (B / n) + (B % n - i)
theorem g_left_0 (B n : Nat) : g_left B n 0 = B := by
  unfold g_left
  rw [Nat.sub_zero, Nat.sub_zero]
  exact Nat.div_add_mod B n
theorem g_share {B n i : Nat} (hi : i < n) : (g_left B n i + (n - i) - 1) / (n - i) = (if i < B % n then B / n + 1 else B / n) ∧ g_left B n i - (if i < B % n then B / n + 1 else B / n) = g_left B n (i + 1) ∧ (if i < B % n then B / n + 1 else B / n) ≤ g_left B n i := by
  have hm : B % n < n := Nat.mod_lt _ (by omega)
  unfold g_left
  obtain ⟨q, hq⟩ : ∃ q, q = B / n := ⟨_, rfl⟩
  obtain ⟨e, he⟩ : ∃ e, e = B % n := ⟨_, rfl⟩
  obtain ⟨d, hd⟩ : ∃ d, n - i = d + 1 := ⟨n - i - 1, by omega⟩
  rw [← hq, ← he, hd, show n - (i + 1) = d by omega]
  have ex : (d + 1) * q = d * q + q := Nat.succ_mul d q
  by_cases h : i < e
  · rw [if_pos h]
    have e1 : (d + 1) * q + (e - i) + (d + 1) - 1 = (e - i - 1) + (d + 1) * (q + 1) := by
      rw [Nat.mul_succ]
      omega
    refine ⟨?_, ?_, ?_⟩
    · rw [e1, Nat.add_mul_div_left _ _ (by omega), Nat.div_eq_of_lt (by omega), Nat.zero_add]
    · rw [ex]; omega
    · rw [ex]; omega
  · rw [if_neg h]
    have e1 : (d + 1) * q + (e - i) + (d + 1) - 1 = d + (d + 1) * q := by omega
    refine ⟨?_, ?_, ?_⟩
    · rw [e1, Nat.add_mul_div_left _ _ (by omega), Nat.div_eq_of_lt (by omega), Nat.zero_add]
    · rw [ex]; omega
    · rw [ex]; omega
theorem g_left_le {B n i : Nat} (hi : i ≤ n) : g_left B n i ≤ B := by
  unfold g_left
  have h1 : (n - i) * (B / n) ≤ n * (B / n) := Nat.mul_le_mul_right _ (by omega)
  have h2 := Nat.div_add_mod B n
  omega
theorem l_153 {c y k n B : Nat} {X Z : QS} (hn : 0 < n) (hn2 : n ≤ 100) (hB : B < 2 ^ 30) (h4 : k < 40) : ∀ (m i p q : Nat) (Y V : GA) (S T : QS), g_C y (g_up Y 14 0 0 (nI n)) V X S → g_T Y V Z T → g_W c Y → (Y 10 3 0 = 1 → g_W c V) → (Y 10 3 0 = 0 ∨ Y 10 3 0 = 1) → Y 1 k 0 = nI B → i + m = n → m < p → m < q → g_Ok c X Z (b_153_73 p (nI n) (nI B) (nI i) S) (b_260_60 q (nI k) (nI n) (nI (g_left B n i)) (nI i) T)
  | m, i, 0, _, _, _, _, _, _, _, _, _, _, _, _, h1, _ => by omega
  | m, i, _, 0, _, _, _, _, _, _, _, _, _, _, _, _, h2 => by omega
  | m, i, p + 1, q + 1, Y, V, S, T, hC, hT, hW, hV, hU, hB2, hm, h1, h2 => by
    have hn0 : ¬ nI n = 0 := nI_ne0 hn (by omega)
    rw [b_153_73, b_260_60, decide_eq_true hn0]
    simp only [w_eta, x_ck]
    cases m with
    | zero =>
      rw [if_pos (nI_le (by omega) (by omega)), if_pos (nI_le (by omega) (by omega)), w_let]
      have g2 := g_T_row hT (k := 0) (by omega) (nI n)
      have hR : g_R c y (g_up Y 14 0 0 (nI n)) V X Z S (q_set T (11, 0, 0) 8 (nI n)) := ⟨hC, g2, g_W_o hW (by omega), hV, hU⟩
      rw [t_190_0 hR.2.1 h4, w_bd]
      show g_Ok c X Z (f_169 (nI B / nI n) S) (f_187 (Y 1 k 0 / nI n) _)
      rw [hB2]
      exact g_accept hR _
    | succ m =>
      have sh := g_share (B := B) (show i < n by omega)
      have hle := g_left_le (B := B) (show i ≤ n by omega)
      obtain ⟨v, hv⟩ : ∃ v, v = (if i < B % n then B / n + 1 else B / n) := ⟨_, rfl⟩
      rw [← hv] at sh
      have hmod : nI B - nI B / nI n * nI n = nI (B % n) := pk_rem (by omega) hn (by omega)
      have hmlt := Nat.mod_lt B hn
      rw [if_neg (nI_ge (by omega) (by omega)), if_neg (nI_ge (by omega) (by omega)), hmod, pk_div (by omega) hn (by omega), nI_1, w_let, pk_sub (show i ≤ n by omega), decide_eq_true (nI_ne0 (n := n - i) (by omega) (by omega)), w_in (show i < 100 by omega) (by omega), nI_clamp (show i < 2 ^ 31 by omega)]
      simp only [x_ck]
      have e1 : (nI (g_left B n i) + nI (n - i) - 1) / nI (n - i) = nI v := by
        rw [nI_add, show g_left B n i + (n - i) = (g_left B n i + (n - i) - 1) + 1 by omega, nI_pred, pk_div (by omega) (by omega) (by omega), sh.1]
      rw [e1]
      obtain ⟨T1, f2, g2⟩ := ts_q11 hT (show i < 100 by omega) (nI v)
      obtain ⟨S1, f1, g1⟩ := cs_q11 hC (show i < 100 by omega) (nI v)
      rw [f2]
      simp only [x_let]
      rw [t_q11 g2 (show i < 100 by omega), g_up_same, pk_sub sh.2.2, sh.2.1, nI_1]
      unfold b_153_110
      have hvi : v_in (nI i) (v_nth [8, 100, 64] 1) = true := w_in (show i < 100 by omega) (show (100 : Nat) < 2 ^ 31 by omega)
      rw [hvi, w_ck, w_ck, nI_clamp (show i < 2 ^ 31 by omega)]
      rw [g_up_comm (fun q => by omega)] at g1
      have hx : ∀ u w, (if nI (B % n) ≤ nI i then u else w) = if i < B % n then (w : Option (Int32 × QS)) else u := by
        intro u w
        by_cases e : i < B % n
        · rw [if_pos e, if_neg (nI_ge e (by omega))]
        · rw [if_neg e, if_pos (nI_le (by omega) (by omega))]
      rw [hx, nI_1]
      have fin := l_153 (c := c) (y := y) (k := k) hn hn2 hB h4 m (i + 1) p q _ V S1 T1 g1 g2 (g_W_o hW (by omega)) hV hU hB2 (by omega) (by omega) (by omega)
      by_cases e : i < B % n
      · rw [if_pos e] at hv
        rw [if_pos e, ← hv, f1, w_let]
        exact fin
      · rw [if_neg e] at hv
        rw [if_neg e, ← hv, f1, w_let]
        exact fin
theorem jj_153 {c y : Nat} {Y V : GA} {X Z S T : QS} (h : g_R c y Y V X Z S T) (x z : Int32) : g_Ok c X Z (f_153 x z S) (f_260 x z T) := by
  obtain ⟨hC, hT, hW, hV, hU⟩ := id h
  unfold f_153 f_260 b_260_38 b_260_39
  rw [c_172 hC, t_198 hT]
  simp only [x_bd, w_eta]
  rcases g_hw_cases hW x with q | ⟨q, k, a1, a2, rfl⟩
  · rw [if_neg (g_12a q), if_pos (g_12a q), if_neg (g_12b q)]
    exact g_refuse h _
  · rw [if_pos q, if_neg (show ¬ ¬ g_hw Y (nI k) = 0 from fun p => p q)]
    by_cases h1 : z ≤ 100
    · rw [if_pos h1, if_pos h1]
      by_cases h2 : 0 ≤ z
      · rw [if_pos h2, if_pos h2]
        by_cases h3 : z = 0
        · rw [if_neg (fun p => p h3), if_neg (fun p => p h3), if_neg (show ¬ (4 : Int32) ≤ 0 from by decide)]
          exact g_refuse h _
        · rw [if_pos h3, if_pos h3, if_pos (show (0 : Int32) ≤ 0 from by decide), c_now hC, c_91 hC a1 a2, t_190_0 hT a2, w_bd, w_bd]
          dsimp only
          rw [c_h0 hC a1 a2, w_let]
          obtain ⟨n, hn, rfl⟩ := nI_of2 (x := z) (M := 100) (n := 100) (by decide) ((g_nle 0 z).1 h2) h1
          have hb := (g_bees hW a1).1
          have hb1 := hb.1
          have hb2 := hb.2
          have hc5 := hW.1
          have hn0 : 0 < n := Nat.pos_of_ne_zero (fun e => h3 (by rw [e]; rfl))
          obtain ⟨S1, e1, g1⟩ := g_C_row hC (k := 0) (by omega) (m := nI n) (g_N_nI hn (by decide))
          rw [show f_80 1 (nI n) S = _ from e1, w_bd]
          generalize g_n (Y 1 k 0) = B at hb1 hb2
          have fin := l_153 (c := c) (y := y) (k := k) (n := n) (B := B) hn0 hn (by omega) a2 n 0 q_N q_N Y V S1 T g1 hT hW hV hU hb1 (by omega) (by unfold q_N; omega) (by unfold q_N; omega)
          rw [g_left_0] at fin
          rw [hb1]
          exact fin
      · rw [if_neg h2, if_neg h2, if_neg (show ¬ (5 : Int32) ≤ 0 from by decide)]
        exact g_refuse h _
    · rw [if_neg h1, if_neg h1, if_neg (show ¬ (6 : Int32) ≤ 0 from by decide)]
      exact g_refuse h _
