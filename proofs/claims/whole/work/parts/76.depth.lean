/-! ===== lines: how deep the reference reckons ===== -/
def dp_p (D : Nat → Nat) (x : Int32) : Nat := if x = -1 then 0 else D (g_n x) + 1
def dp_q (Y : GA) (D : Nat → Nat) (k : Nat) : Nat := max (dp_p D (Y 6 k 2)) (dp_p D (Y 6 k 3))
def dp_s (D : Nat → Nat) : Nat → Nat
  | 0 => 0
  | n + 1 => dp_s D n + D n
def dp_u (D : Nat → Nat) (k v : Nat) : Nat → Nat := fun j => if j = k then v else D j
def dp_r (n : Nat) (f : Nat → Int32) (D : Nat → Nat) (b : Nat) : Prop := ∀ j, j < n → f j = nI (D j) ∧ D j ≤ b
def dp_st (Y : GA) (n : Nat) (D D' : Nat → Nat) : Prop := (∀ E : Nat → Nat, (∀ j, j < n → dp_q Y E j ≤ E j) → (∀ j, j < n → D j ≤ E j) → ∀ j, j < n → D' j ≤ E j) ∧ dp_s D n ≤ dp_s D' n
def dp_P (Y : GA) (n : Nat) : Prop := ∀ k, k < n → g_M (Y 6 k 2) n ∧ g_M (Y 6 k 3) n
theorem dp_s_le {D : Nat → Nat} {b : Nat} : ∀ {n : Nat}, (∀ j, j < n → D j ≤ b) → dp_s D n ≤ b * n
  | 0, _ => Nat.le_refl _
  | n + 1, h => by
    have h1 := dp_s_le (n := n) (fun j hj => h j (by omega))
    have h2 := h n (by omega)
    show dp_s D n + D n ≤ b * (n + 1)
    rw [Nat.mul_succ]
    omega
theorem dp_s_u0 {D : Nat → Nat} {k v : Nat} : ∀ {n : Nat}, n ≤ k → dp_s (dp_u D k v) n = dp_s D n
  | 0, _ => rfl
  | n + 1, h => by
    show dp_s (dp_u D k v) n + dp_u D k v n = dp_s D n + D n
    rw [dp_s_u0 (by omega)]
    unfold dp_u
    rw [if_neg (by omega)]
theorem dp_s_u {D : Nat → Nat} {k v : Nat} : ∀ {n : Nat}, k < n → dp_s (dp_u D k v) n + D k = dp_s D n + v
  | 0, h => by omega
  | n + 1, h => by
    show dp_s (dp_u D k v) n + dp_u D k v n + D k = dp_s D n + D n + v
    by_cases e : k = n
    · subst e
      rw [dp_s_u0 (Nat.le_refl _)]
      unfold dp_u
      rw [if_pos rfl]
      omega
    · have := dp_s_u (D := D) (v := v) (n := n) (k := k) (by omega)
      have e2 : dp_u D k v n = D n := by unfold dp_u; rw [if_neg (by omega)]
      omega
theorem dp_p_mono {D E : Nat → Nat} {n : Nat} {x : Int32} (hn : n ≤ 200) (hx : g_M x n) (h : ∀ j, j < n → D j ≤ E j) : dp_p D x ≤ dp_p E x := by
  unfold dp_p
  rcases hx with rfl | ⟨j, hj, rfl⟩
  · exact Nat.le_refl _
  · rw [if_neg (g_nI_m1 (by omega)), if_neg (g_nI_m1 (by omega)), g_n_nI (by omega)]
    have := h j hj
    omega
theorem dp_q_mono {Y : GA} {D E : Nat → Nat} {n k : Nat} (hn : n ≤ 200) (hP : dp_P Y n) (hk : k < n) (h : ∀ j, j < n → D j ≤ E j) : dp_q Y D k ≤ dp_q Y E k := by
  have h1 := dp_p_mono hn (hP k hk).1 h
  have h2 := dp_p_mono hn (hP k hk).2 h
  unfold dp_q
  omega
theorem dp_r_u {n : Nat} {f : Nat → Int32} {D : Nat → Nat} {b k v : Nat} (h : dp_r n f D b) (hv : v ≤ b) : dp_r n (upd f k (nI v)) (dp_u D k v) b := by
  intro j hj
  unfold dp_u
  by_cases e : j = k
  · subst e
    rw [if_pos rfl, pk_us]
    exact ⟨rfl, hv⟩
  · rw [if_neg e, pk_un e]
    exact h j hj
theorem dp_st_u {Y : GA} {n k : Nat} {D : Nat → Nat} (hn : n ≤ 200) (hP : dp_P Y n) (hk : k < n) (h : D k < dp_q Y D k) : dp_st Y n D (dp_u D k (dp_q Y D k)) := by
  refine ⟨fun E hE hD j hj => ?_, ?_⟩
  · unfold dp_u
    by_cases e : j = k
    · subst e
      rw [if_pos rfl]
      exact Nat.le_trans (dp_q_mono hn hP hk hD) (hE j hj)
    · rw [if_neg e]
      exact hD j hj
  · have := dp_s_u (D := D) (v := dp_q Y D k) hk
    omega
theorem dp_st_r (Y : GA) (n : Nat) (D : Nat → Nat) : dp_st Y n D D := ⟨fun _ _ h => h, Nat.le_refl _⟩
theorem dp_st_t {Y : GA} {n : Nat} {D D' D'' : Nat → Nat} (h1 : dp_st Y n D D') (h2 : dp_st Y n D' D'') : dp_st Y n D D'' := ⟨fun E a b => h2.1 E a (h1.1 E a b), Nat.le_trans h1.2 h2.2⟩
theorem dp_set (T : QS) (a : VA) (f : Nat → Int32) (k : Nat) (v : Int32) : q_set (q_row T a f) a k v = q_row T a (upd f k v) := by
  rw [w_set, w_row_same, w_row_row]
theorem dp_113 {n k w : Nat} {f : Nat → Int32} {D : Nat → Nat} {T : QS} (hn : n ≤ 200) (hk : k < n) (hD : dp_r n f D 16) (hw : w ≤ 17) (bk : Int32 → Int32 → Int32 → QS → Option ((Unit) × QS)) (bj : Int32 → Int32 → Int32 → Int32 → QS → Option ((Unit) × QS)) (ch : Int32) :
    b_237_113 bk bj 16 (nI n) ch (nI k) (nI w) (q_row T (46, 0, 0) f) = if D k < w ∧ w ≤ 16 then bj 16 (nI n) 1 (nI (k + 1)) (q_row T (46, 0, 0) (upd f k (nI w))) else bj 16 (nI n) ch (nI (k + 1)) (q_row T (46, 0, 0) f) := by
  obtain ⟨e1, e2⟩ := hD k hk
  unfold b_237_113 b_237_147
  rw [w_in (by omega) (by omega), nI_clamp (by omega)]
  simp only [x_ck, x_let]
  rw [w_row_same, e1, dp_set, nI_1]
  by_cases h1 : D k < w
  · rw [if_neg (nI_ge h1 (by omega))]
    by_cases h2 : w ≤ 16
    · rw [if_pos (show nI w ≤ 16 from (show nI w ≤ nI 16 from nI_le h2 (by omega))), if_pos ⟨h1, h2⟩]
    · rw [if_neg (show ¬ nI w ≤ 16 from (show ¬ nI w ≤ nI 16 from nI_ge (by omega) (by omega))), if_neg (fun q => h2 q.2)]
  · rw [if_pos (nI_le (by omega) (by omega)), if_neg (fun q => h1 q.1)]
theorem dp_80 {n k v : Nat} {f : Nat → Int32} {D : Nat → Nat} {T : QS} {x : Int32} (hn : n ≤ 200) (hk : k < n) (hD : dp_r n f D 16) (hv : v ≤ 17) (hx : g_M x n) (bk : Int32 → Int32 → Int32 → QS → Option ((Unit) × QS)) (bj : Int32 → Int32 → Int32 → Int32 → QS → Option ((Unit) × QS)) (ch : Int32) :
    b_237_80 bk bj 16 (nI n) ch (nI k) x (nI v) (q_row T (46, 0, 0) f) = if D k < max v (dp_p D x) ∧ max v (dp_p D x) ≤ 16 then bj 16 (nI n) 1 (nI (k + 1)) (q_row T (46, 0, 0) (upd f k (nI (max v (dp_p D x))))) else bj 16 (nI n) ch (nI (k + 1)) (q_row T (46, 0, 0) f) := by
  unfold b_237_80 b_237_111
  rcases hx with rfl | ⟨j, hj, rfl⟩
  · rw [if_pos (by decide), dp_113 hn hk hD hv]
    have e : dp_p D (-1) = 0 := if_pos rfl
    rw [e, Nat.max_eq_left (Nat.zero_le _)]
  · obtain ⟨e1, e2⟩ := hD j hj
    have e : dp_p D (nI j) = D j + 1 := by
      unfold dp_p
      rw [if_neg (g_nI_m1 (by omega)), g_n_nI (by omega)]
    rw [if_neg (nI_pos (by omega)), w_in (by omega) (by omega), nI_clamp (by omega)]
    simp only [x_ck, x_let]
    rw [w_row_same, e1, e]
    by_cases h1 : D j < v
    · rw [if_pos (nI_lt h1 (by omega)), dp_113 hn hk hD hv, Nat.max_eq_left (by omega)]
    · rw [if_neg (nI_nlt (by omega) (by omega)), nI_1, dp_113 hn hk hD (by omega), Nat.max_eq_right (by omega)]
theorem dp_38 {Y V : GA} {Z T : QS} {n k : Nat} {f : Nat → Int32} {D : Nat → Nat} (hn : n ≤ 200) (hP : dp_P Y n) (hk : k < n) (hT : g_T Y V Z T) (hD : dp_r n f D 16) (bk : Int32 → Int32 → Int32 → QS → Option ((Unit) × QS)) (p : Nat) (ch : Int32) :
    b_237_38 bk (p + 1) 16 (nI n) ch (nI k) (q_row T (46, 0, 0) f) = if D k < dp_q Y D k ∧ dp_q Y D k ≤ 16 then b_237_38 bk p 16 (nI n) 1 (nI (k + 1)) (q_row T (46, 0, 0) (upd f k (nI (dp_q Y D k)))) else b_237_38 bk p 16 (nI n) ch (nI (k + 1)) (q_row T (46, 0, 0) f) := by
  have hT' : g_T Y V Z (q_row T (46, 0, 0) f) := g_T_scr hT (by omega)
  rw [b_237_38, if_neg (nI_ge hk (by omega)), t_192_2 hT' (by omega), x_bd, t_192_3 hT' (by omega), x_bd]
  have hm := (hP k hk).1
  unfold dp_q
  rcases hm with e0 | ⟨j, hj, e0⟩
  · have e : dp_p D (-1) = 0 := if_pos rfl
    rw [e0, if_pos (by decide), e]
    exact dp_80 (v := 0) hn hk hD (by omega) (hP k hk).2 bk _ ch
  · obtain ⟨e1, e2⟩ := hD j hj
    have e : dp_p D (nI j) = D j + 1 := by
      unfold dp_p
      rw [if_neg (g_nI_m1 (by omega)), g_n_nI (by omega)]
    rw [e0, if_neg (nI_pos (by omega)), w_in (by omega) (by omega), nI_clamp (by omega)]
    simp only [x_ck, x_let]
    rw [w_row_same, e1, e, nI_1]
    exact dp_80 hn hk hD (by omega) (hP k hk).2 bk _ ch
theorem dp_pass {Y V : GA} {Z T : QS} {n : Nat} (hn : n ≤ 200) (hP : dp_P Y n) (hT : g_T Y V Z T) (bk : Int32 → Int32 → Int32 → QS → Option ((Unit) × QS)) : ∀ (m k p : Nat) (ch : Int32) (D : Nat → Nat) (f : Nat → Int32), dp_r n f D 16 → k + m = n → m < p →
    ∃ ch' D' f', b_237_38 bk p 16 (nI n) ch (nI k) (q_row T (46, 0, 0) f) = bk 16 (nI n) ch' (q_row T (46, 0, 0) f') ∧ dp_r n f' D' 16 ∧ dp_st Y n D D' ∧ ((ch' = ch ∧ D' = D ∧ ∀ j, k ≤ j → j < n → ¬ (D j < dp_q Y D j ∧ dp_q Y D j ≤ 16)) ∨ (ch' = 1 ∧ dp_s D n < dp_s D' n))
  | m, k, 0, _, _, _, _, _, h => by omega
  | 0, k, p + 1, ch, D, f, hD, hm, h => by
    refine ⟨ch, D, f, ?_, hD, dp_st_r Y n D, Or.inl ⟨rfl, rfl, fun j a b => by omega⟩⟩
    rw [b_237_38, if_pos (nI_le (by omega) (by omega))]
  | m + 1, k, p + 1, ch, D, f, hD, hm, h => by
    rw [dp_38 hn hP (by omega) hT hD]
    by_cases hq : D k < dp_q Y D k ∧ dp_q Y D k ≤ 16
    · rw [if_pos hq]
      obtain ⟨ch', D', f', a1, a2, a3, a4⟩ := dp_pass hn hP hT bk m (k + 1) p 1 (dp_u D k (dp_q Y D k)) _ (dp_r_u hD hq.2) (by omega) (by omega)
      have hs := dp_s_u (D := D) (v := dp_q Y D k) (show k < n by omega)
      refine ⟨ch', D', f', a1, a2, dp_st_t (dp_st_u hn hP (by omega) hq.1) a3, Or.inr ?_⟩
      have h2 := a3.2
      rcases a4 with ⟨b1, b2, b3⟩ | ⟨b1, b2⟩
      · exact ⟨b1, by omega⟩
      · exact ⟨b1, by omega⟩
    · rw [if_neg hq]
      obtain ⟨ch', D', f', a1, a2, a3, a4⟩ := dp_pass hn hP hT bk m (k + 1) p ch D f hD (by omega) (by omega)
      refine ⟨ch', D', f', a1, a2, a3, ?_⟩
      rcases a4 with ⟨b1, b2, b3⟩ | b
      · refine Or.inl ⟨b1, b2, fun j c1 c2 => ?_⟩
        by_cases e : j = k
        · rw [e]; exact hq
        · exact b3 j (by omega) c2
      · exact Or.inr b
theorem dp_rounds {Y V : GA} {Z T : QS} {n : Nat} (hn : n ≤ 200) (hP : dp_P Y n) (hT : g_T Y V Z T) : ∀ (m p : Nat) (D : Nat → Nat) (f : Nat → Int32), dp_r n f D 16 → 16 * n ≤ dp_s D n + m → m + 1 < p →
    ∃ D' f', b_237_29 p 16 (nI n) 1 (q_row T (46, 0, 0) f) = some ((), q_row T (46, 0, 0) f') ∧ dp_r n f' D' 16 ∧ dp_st Y n D D' ∧ ∀ j, j < n → ¬ (D' j < dp_q Y D' j ∧ dp_q Y D' j ≤ 16)
  | m, 0, _, _, _, _, h => by omega
  | m, p + 1, D, f, hD, hm, h => by
    rw [b_237_29, if_neg (by decide)]
    obtain ⟨ch', D', f', a1, a2, a3, a4⟩ := dp_pass hn hP hT (b_237_29 p) n 0 q_N 0 D f hD (by omega) (by unfold q_N; omega)
    rw [show b_237_38 (b_237_29 p) q_N 16 (nI n) 0 0 (q_row T (46, 0, 0) f) = _ from a1]
    rcases a4 with ⟨b1, b2, b3⟩ | ⟨b1, b2⟩
    · cases p with
      | zero => omega
      | succ p =>
        rw [b1, b_237_29, if_pos rfl]
        subst b2
        exact ⟨D', f', rfl, a2, a3, fun j hj => b3 j (Nat.zero_le _) hj⟩
    · have hb := dp_s_le (fun j hj => (a2 j hj).2)
      cases m with
      | zero => omega
      | succ m =>
        obtain ⟨E, g, c1, c2, c3, c4⟩ := dp_rounds hn hP hT m p D' f' a2 (by omega) (by omega)
        rw [b1]
        exact ⟨E, g, c1, c2, dp_st_t a3 c3, c4⟩
theorem dp_zero {T : QS} {n : Nat} (hn : n ≤ 200) : ∀ (m k p : Nat) (f : Nat → Int32), (∀ j, j < k → f j = 0) → k + m = n → m < p → ∃ f', b_237_9 p 16 (nI n) (nI k) (q_row T (46, 0, 0) f) = b_237_29 q_N 16 (nI n) 1 (q_row T (46, 0, 0) f') ∧ ∀ j, j < n → f' j = 0
  | m, k, 0, _, _, _, h => by omega
  | 0, k, p + 1, f, hf, hm, h => by
    refine ⟨f, ?_, fun j hj => hf j (by omega)⟩
    rw [b_237_9, if_pos (nI_le (by omega) (by omega))]
  | m + 1, k, p + 1, f, hf, hm, h => by
    rw [b_237_9, if_neg (nI_ge (by omega) (by omega)), w_in (by omega) (by omega), nI_clamp (by omega), x_ck, x_let, dp_set, nI_1]
    refine dp_zero hn m (k + 1) p _ (fun j hj => ?_) (by omega) (by omega)
    by_cases e : j = k
    · subst e; rw [pk_us]
    · rw [pk_un e]; exact hf j (by omega)
/-- the reference's depths: as small as can be, and still -/
theorem dp_237 {Y V : GA} {Z T : QS} {n : Nat} (hn : n ≤ 200) (h2 : Y 0 2 0 = nI n) (hP : dp_P Y n) (hT : g_T Y V Z T) :
    ∃ D f, f_237 16 T = some ((), q_row T (46, 0, 0) f) ∧ dp_r n f D 16 ∧ (∀ E : Nat → Nat, (∀ j, j < n → dp_q Y E j ≤ E j) → ∀ j, j < n → D j ≤ E j) ∧ ∀ j, j < n → ¬ (D j < dp_q Y D j ∧ dp_q Y D j ≤ 16) := by
  unfold f_237
  rw [w_i2, w_c2, t_n2 hT, h2, x_ck, x_let]
  obtain ⟨f0, a1, a2⟩ := dp_zero (T := T) hn n 0 q_N (T.1 (46, 0, 0)) (fun j hj => by omega) (by omega) (by unfold q_N; omega)
  rw [w_row_id] at a1
  rw [show b_237_9 q_N 16 (nI n) 0 T = _ from a1]
  obtain ⟨D, f, b1, b2, b3, b4⟩ := dp_rounds hn hP hT (16 * n) q_N (fun _ => 0) f0 (fun j hj => ⟨a2 j hj, Nat.zero_le _⟩) (by omega) (by unfold q_N; omega)
  exact ⟨D, f, b1, b2, fun E hE j hj => b3.1 E hE (fun j _ => Nat.zero_le _) j hj, b4⟩
/-- depths that satisfy the equation are the ones -/
theorem dp_eq {Y : GA} {D E : Nat → Nat} {n : Nat} (hn : n ≤ 200) (hP : dp_P Y n) (hE : ∀ j, j < n → E j = dp_q Y E j) (hD : ∀ j, j < n → dp_q Y D j ≤ D j) : ∀ (m j : Nat), j < n → E j ≤ m → E j ≤ D j
  | 0, j, hj, h => by omega
  | m + 1, j, hj, h => by
    have h1 := hE j hj
    have h2 := hD j hj
    have key : ∀ x, g_M x n → dp_p E x ≤ E j → dp_p E x ≤ dp_p D x := by
      intro x hx hle
      unfold dp_p at hle ⊢
      rcases hx with rfl | ⟨i, hi, rfl⟩
      · exact Nat.le_refl _
      · rw [if_neg (g_nI_m1 (by omega)), g_n_nI (by omega)] at hle
        rw [if_neg (g_nI_m1 (by omega)), if_neg (g_nI_m1 (by omega)), g_n_nI (by omega)]
        have := dp_eq hn hP hE hD m i hi (by omega)
        omega
    have k1 := key _ (hP j hj).1 (by rw [h1]; unfold dp_q; omega)
    have k2 := key _ (hP j hj).2 (by rw [h1]; unfold dp_q; omega)
    unfold dp_q at h1 h2
    omega
theorem dp_P_W {c : Nat} {Y : GA} (hW : g_W c Y) : dp_P Y (g_n (Y 0 2 0)) := fun k hk => by
  have q := hW.2.2.2.2.2.2.2.2.1 k hk
  exact ⟨q.2.2.1, q.2.2.2.1⟩
theorem dp_E_W {c : Nat} {Y : GA} (hW : g_W c Y) {k : Nat} (hk : k < g_n (Y 0 2 0)) : g_n (Y 8 k 0) = dp_q Y (fun j => g_n (Y 8 j 0)) k ∧ g_n (Y 8 k 0) ≤ 15 ∧ Y 8 k 0 = nI (g_n (Y 8 k 0)) := by
  have q := hW.2.2.2.2.2.2.2.2.2.2.2.1 k hk
  exact ⟨q.2.1, q.1.2, q.1.1⟩
/-- in a sound picture the reference reckons the class's depths -/
theorem dp_ask {c : Nat} {Y V : GA} {Z T : QS} (hW : g_W c Y) (hT : g_T Y V Z T) : ∃ f, f_237 16 T = some ((), q_row T (46, 0, 0) f) ∧ ∀ k, k < g_n (Y 0 2 0) → f k = Y 8 k 0 := by
  have n2 := hW.2.1.2.2.1
  have hP := dp_P_W hW
  obtain ⟨D, f, a1, a2, a3, a4⟩ := dp_237 n2.2 n2.1 hP hT
  have hle := a3 (fun j => g_n (Y 8 j 0)) (fun j hj => Nat.le_of_eq (dp_E_W hW hj).1.symm)
  have hge : ∀ j, j < g_n (Y 0 2 0) → dp_q Y D j ≤ D j := fun j hj => by
    have h1 := dp_q_mono n2.2 hP hj hle
    have h2 := dp_E_W hW hj
    have h3 := a4 j hj
    have h4 := h2.1
    have h5 := h2.2.1
    omega
  refine ⟨f, a1, fun k hk => ?_⟩
  have h1 := dp_eq (E := fun j => g_n (Y 8 j 0)) n2.2 hP (fun j hj => (dp_E_W hW hj).1) hge _ k hk (Nat.le_refl _)
  have h2 := hle k hk
  rw [(a2 k hk).1, (dp_E_W hW hk).2.2]
  have : D k = g_n (Y 8 k 0) := by
    have h1' : g_n (Y 8 k 0) ≤ D k := h1
    have h2' : D k ≤ g_n (Y 8 k 0) := h2
    omega
  rw [this]
