/-! ===== lines: how deep things come to lie ===== -/
theorem dw_1p (a : Nat) : (1 : Int32) + nI a = nI (a + 1) := by
  rw [show (1 : Int32) = nI 1 from rfl, nI_add, Nat.add_comm]
theorem dw_62 {S : QS} {n b : Nat} {f : Nat → Int32} {A : Nat → Nat} {x1 x2 : Int32} (hn : n ≤ 200) (hb : b ≤ 1000) (hA : dp_r n f A b) (h1 : g_M x1 n) (h2 : g_M x2 n) : f_62 x1 x2 (q_row S (27, 0, 0) f) = some (nI (max (dp_p A x1) (dp_p A x2)), q_row S (27, 0, 0) f) := by
  unfold f_62 b_62_15 b_62_33
  simp only [x_let]
  have e0 : dp_p A (-1) = 0 := if_pos rfl
  have e1 : ∀ j, j < n → dp_p A (nI j) = A j + 1 := fun j hj => by
    unfold dp_p
    rw [if_neg (g_nI_m1 (by omega)), g_n_nI (by omega)]
  rcases h1 with rfl | ⟨i, hi, rfl⟩
  · rw [if_neg (show ¬ ¬ (-1 : Int32) = -1 from by decide), e0]
    rcases h2 with rfl | ⟨j, hj, rfl⟩
    · rw [if_neg (show ¬ ¬ (-1 : Int32) = -1 from by decide), e0]
      rfl
    · obtain ⟨a1, a2⟩ := hA j hj
      rw [if_pos (g_nI_m1 (by omega)), w_in (by omega) (by omega), nI_clamp (by omega), x_ck, w_row_same, a1, e1 j hj, if_pos (show (-1 : Int32) < nI (A j) from by
        rw [Int32.lt_iff_toInt_lt, nI_toInt (by omega), show (-1 : Int32).toInt = -1 from by decide]
        omega), dw_1p, Nat.max_eq_right (Nat.zero_le _)]
  · obtain ⟨c1, c2⟩ := hA i hi
    rw [if_pos (g_nI_m1 (by omega)), w_in (by omega) (by omega), nI_clamp (by omega), x_ck, w_row_same, c1, e1 i hi]
    rcases h2 with rfl | ⟨j, hj, rfl⟩
    · rw [if_neg (show ¬ ¬ (-1 : Int32) = -1 from by decide), e0, if_neg (show ¬ nI (A i) < (-1 : Int32) from by
        rw [Int32.lt_iff_toInt_lt, nI_toInt (by omega), show (-1 : Int32).toInt = -1 from by decide]
        omega), dw_1p, Nat.max_eq_left (Nat.zero_le _)]
    · obtain ⟨a1, a2⟩ := hA j hj
      rw [if_pos (g_nI_m1 (by omega)), w_in (by omega) (by omega), nI_clamp (by omega), x_ck, a1, e1 j hj]
      by_cases hlt : A i < A j
      · rw [if_pos (nI_lt hlt (by omega)), dw_1p, Nat.max_eq_right (by omega)]
      · rw [if_neg (nI_nlt (by omega) (by omega)), dw_1p, Nat.max_eq_left (by omega)]
theorem dw_p {A B : Nat → Nat} {n : Nat} {x : Int32} (hn : n ≤ 200) (hx : g_M x n) (h : ∀ p, p < n → x = nI p → A p = B p) : dp_p A x = dp_p B x := by
  unfold dp_p
  rcases hx with rfl | ⟨j, hj, rfl⟩
  · rfl
  · rw [if_neg (g_nI_m1 (by omega)), if_neg (g_nI_m1 (by omega)), g_n_nI (by omega), h j hj rfl]
theorem dw_q {Y : GA} {A B : Nat → Nat} {n k : Nat} (hn : n ≤ 200) (hP : dp_P Y n) (hk : k < n) (h : ∀ p, p < n → pa Y k p → A p = B p) : dp_q Y A k = dp_q Y B k := by
  unfold dp_q
  rw [dw_p hn (hP k hk).1 (fun p hp e => h p hp (Or.inl e)), dw_p hn (hP k hk).2 (fun p hp e => h p hp (Or.inr e))]
/-- what stands while the class goes through the levels -/
def dw_d (Y : GA) (fm : Nat → Int32) (t L k x : Nat) : Prop := x = t ∨ fm x = 0 ∨ g_n (Y 8 x 0) < L ∨ (g_n (Y 8 x 0) = L ∧ x < k)
def dw_I (Y Y' : GA) (fm : Nat → Int32) (n t L k : Nat) (A : Nat → Nat) (dd : Nat) : Prop := (∀ x, x < n → dw_d Y fm t L k x → A x = dp_q Y' A x) ∧ (∀ x, x < n → A x ≤ 16 + g_n (Y 8 x 0)) ∧ (∀ x, x < n → 15 < A x → A x ≤ dd) ∧ (∃ x, x < n ∧ dw_d Y fm t L k x ∧ A x = dd)
/-- the new parents -/
def dw_N (Y Y' : GA) (fm : Nat → Int32) (n t : Nat) : Prop := (∀ x, x < n → x ≠ t → Y' 6 x 2 = Y 6 x 2 ∧ Y' 6 x 3 = Y 6 x 3) ∧ dp_P Y' n ∧ (∀ p, p < n → pa Y' t p → fm p = 0) ∧ fm t ≠ 0 ∧ mk_dn Y n (fun x => fm x ≠ 0)
theorem dw_pa {Y Y' : GA} {fm : Nat → Int32} {n t x p : Nat} (h : dw_N Y Y' fm n t) (hx : x < n) (ht : x ≠ t) : pa Y' x p ↔ pa Y x p := by
  unfold pa
  rw [(h.1 x hx ht).1, (h.1 x hx ht).2]
theorem dw_qe {Y Y' : GA} {fm : Nat → Int32} {n t x : Nat} {A : Nat → Nat} (h : dw_N Y Y' fm n t) (hx : x < n) (ht : x ≠ t) : dp_q Y' A x = dp_q Y A x := by
  unfold dp_q
  rw [(h.1 x hx ht).1, (h.1 x hx ht).2]
theorem dw_up {c : Nat} {Y Y' : GA} {fm : Nat → Int32} {n t L k dd : Nat} {A : Nat → Nat} (hW : g_W c Y) (hn : n = g_n (Y 0 2 0)) (hN : dw_N Y Y' fm n t) (hI : dw_I Y Y' fm n t L k A dd) (hk : k < n) (h1 : k ≠ t) (h2 : fm k ≠ 0) (h3 : g_n (Y 8 k 0) = L) : dw_I Y Y' fm n t L (k + 1) (dp_u A k (dp_q Y A k)) (max dd (dp_q Y A k)) := by
  have n22 := hW.2.1.2.2.1.2
  have hP := dp_P_W hW
  rw [← hn] at hP n22
  obtain ⟨i1, i2, i3, x0, j1, j2, j3⟩ := hI
  have low : ∀ x p, x < n → p < n → pa Y x p → g_n (Y 8 p 0) + 1 ≤ g_n (Y 8 x 0) := fun x p hx hp h => pa_lt hW (by omega) (by omega) h
  have ne : ∀ x, x ≠ k → dp_u A k (dp_q Y A k) x = A x := fun x hx => if_neg hx
  have sm : dp_u A k (dp_q Y A k) k = dp_q Y A k := if_pos rfl
  have hv : dp_q Y A k ≤ 16 + g_n (Y 8 k 0) := by
    have key : ∀ x, g_M x n → (∀ p, x = nI p → pa Y k p) → dp_p A x ≤ 16 + g_n (Y 8 k 0) := by
      intro x hx hp
      unfold dp_p
      rcases hx with rfl | ⟨j, hj, rfl⟩
      · rw [if_pos rfl]; omega
      · rw [if_neg (g_nI_m1 (by omega)), g_n_nI (by omega)]
        have a := low k j hk hj (hp j rfl)
        have b := i2 j hj
        omega
    have k1 := key _ (hP k hk).1 (fun p e => Or.inl e)
    have k2 := key _ (hP k hk).2 (fun p e => Or.inr e)
    unfold dp_q
    omega
  refine ⟨?_, ?_, ?_, ?_⟩
  · intro x hx hd
    by_cases e : x = k
    · subst e
      rw [sm, dw_qe hN hx h1]
      refine dw_q n22 hP hx (fun p hp hpa => ?_)
      have := low x p hx hp hpa
      exact (ne p (fun e => by rw [e] at this; omega)).symm
    · have hd' : dw_d Y fm t L k x := by
        rcases hd with a | a | a | ⟨a, b⟩
        · exact Or.inl a
        · exact Or.inr (Or.inl a)
        · exact Or.inr (Or.inr (Or.inl a))
        · exact Or.inr (Or.inr (Or.inr ⟨a, by omega⟩))
      rw [ne x e, i1 x hx hd']
      refine dw_q n22 hN.2.1 hx (fun p hp hpa => ?_)
      refine (ne p (fun e' => ?_)).symm
      subst e'
      by_cases ext : x = t
      · rw [ext] at hpa
        exact h2 (hN.2.2.1 p hp hpa)
      · have hpa' := (dw_pa hN hx ext).1 hpa
        have l := low x p hx hp hpa'
        rcases hd' with a | a | a | ⟨a, b⟩
        · exact ext a
        · exact hN.2.2.2.2 x p hx hp hpa' h2 a
        · omega
        · omega
  · intro x hx
    by_cases e : x = k
    · subst e; rw [sm]; exact hv
    · rw [ne x e]; exact i2 x hx
  · intro x hx h
    by_cases e : x = k
    · subst e; rw [sm]; omega
    · rw [ne x e] at h ⊢
      have := i3 x hx h
      omega
  · by_cases hm : dd ≤ dp_q Y A k
    · exact ⟨k, hk, Or.inr (Or.inr (Or.inr ⟨h3, by omega⟩)), by rw [sm]; omega⟩
    · have e : x0 ≠ k := by
        intro e
        subst e
        rcases j2 with a | a | a | ⟨a, b⟩
        · exact h1 a
        · exact h2 a
        · omega
        · omega
      refine ⟨x0, j1, ?_, by rw [ne x0 e]; omega⟩
      rcases j2 with a | a | a | ⟨a, b⟩
      · exact Or.inl a
      · exact Or.inr (Or.inl a)
      · exact Or.inr (Or.inr (Or.inl a))
      · exact Or.inr (Or.inr (Or.inr ⟨a, by omega⟩))
theorem dw_id {Y Y' : GA} {fm : Nat → Int32} {n t L k k' L' dd : Nat} {A : Nat → Nat} (hI : dw_I Y Y' fm n t L k A dd) (h : ∀ x, x < n → (dw_d Y fm t L' k' x ↔ dw_d Y fm t L k x)) : dw_I Y Y' fm n t L' k' A dd := by
  obtain ⟨i1, i2, i3, x0, j1, j2, j3⟩ := hI
  exact ⟨fun x hx hd => i1 x hx ((h x hx).1 hd), i2, i3, x0, j1, (h x0 j1).2 j2, j3⟩
theorem dw_pass {c y : Nat} {Y Y' V : GA} {X S : QS} {fm : Nat → Int32} {n t L : Nat} (hW : g_W c Y) (hn : n = g_n (Y 0 2 0)) (ht : t < n) (hL : L ≤ 15) (hN : dw_N Y Y' fm n t) (hC : g_C y Y V X S) (hM : S.1 (26, 0, 0) = fm) (bk : Nat → Int32 → Int32 → Int32 → QS → Option ((Int32) × QS)) : ∀ (m k p : Nat) (f : Nat → Int32) (A : Nat → Nat) (dd : Nat), dw_I Y Y' fm n t L k A dd → dp_r n f A 31 → k + m = n → m < p →
    ∃ f' A' dd', b_61_68 bk p y (nI t) (nI dd) (nI L) (nI k) (q_row S (27, 0, 0) f) = bk y (nI t) (nI dd') (nI (L + 1)) (q_row S (27, 0, 0) f') ∧ dw_I Y Y' fm n t (L + 1) 0 A' dd' ∧ dp_r n f' A' 31
  | m, k, 0, _, _, _, _, _, _, h => by omega
  | 0, k, p + 1, f, A, dd, hI, hA, hm, h => by
    have n2 := hW.2.1.2.2.1
    have n22 := n2.2
    have hC' : g_C y Y V X (q_row S (27, 0, 0) f) := g_C_scr hC (by omega)
    rw [b_61_68, c_n2 hC', n2.1, if_pos (nI_le (by omega) (by omega)), nI_1]
    refine ⟨f, A, dd, rfl, dw_id hI (fun x hx => ?_), hA⟩
    unfold dw_d
    constructor
    · rintro (a | a | a | ⟨a, b⟩)
      · exact Or.inl a
      · exact Or.inr (Or.inl a)
      · by_cases e : g_n (Y 8 x 0) = L
        · exact Or.inr (Or.inr (Or.inr ⟨e, by omega⟩))
        · exact Or.inr (Or.inr (Or.inl (by omega)))
      · omega
    · rintro (a | a | a | ⟨a, b⟩)
      · exact Or.inl a
      · exact Or.inr (Or.inl a)
      · exact Or.inr (Or.inr (Or.inl (by omega)))
      · exact Or.inr (Or.inr (Or.inl (by omega)))
  | m + 1, k, p + 1, f, A, dd, hI, hA, hm, h => by
    have n2 := hW.2.1.2.2.1
    have n22 := n2.2
    have hP := dp_P_W hW
    rw [← hn] at hP
    have hk : k < n := by omega
    have hC' : g_C y Y V X (q_row S (27, 0, 0) f) := g_C_scr hC (by omega)
    have eM : (q_row S (27, 0, 0) f).1 (26, 0, 0) = fm := (w_row_ne (by decide)).trans hM
    obtain ⟨d1, d2, d3⟩ := dp_E_W hW (k := k) (by omega)
    rw [b_61_68, c_n2 hC', n2.1, if_neg (nI_ge (by omega) (by omega)), c_93 hC' (by omega) (by omega), x_bd]
    unfold b_61_146
    dsimp only
    rw [w_in (by omega) (by omega), nI_clamp (by omega), eM, c_d hC' (by omega) (by omega), c_t2 hC' (by omega) (by omega), c_t3 hC' (by omega) (by omega), nI_1]
    simp only [x_ck, x_let]
    have stay : ¬ (k ≠ t ∧ fm k ≠ 0 ∧ g_n (Y 8 k 0) = L) → ∃ f' A' dd', b_61_68 bk p y (nI t) (nI dd) (nI L) (nI (k + 1)) (q_row S (27, 0, 0) f) = bk y (nI t) (nI dd') (nI (L + 1)) (q_row S (27, 0, 0) f') ∧ dw_I Y Y' fm n t (L + 1) 0 A' dd' ∧ dp_r n f' A' 31 := by
      intro hno
      refine dw_pass hW hn ht hL hN hC hM bk m (k + 1) p f A dd (dw_id hI (fun x hx => ?_)) hA (by omega) (by omega)
      unfold dw_d
      constructor
      · rintro (a | a | a | ⟨a, b⟩)
        · exact Or.inl a
        · exact Or.inr (Or.inl a)
        · exact Or.inr (Or.inr (Or.inl a))
        · by_cases e : x = k
          · subst e
            by_cases e1 : x = t
            · exact Or.inl e1
            · by_cases e2 : fm x = 0
              · exact Or.inr (Or.inl e2)
              · exact absurd ⟨e1, e2, a⟩ hno
          · exact Or.inr (Or.inr (Or.inr ⟨a, by omega⟩))
      · rintro (a | a | a | ⟨a, b⟩)
        · exact Or.inl a
        · exact Or.inr (Or.inl a)
        · exact Or.inr (Or.inr (Or.inl a))
        · exact Or.inr (Or.inr (Or.inr ⟨a, by omega⟩))
    by_cases h1 : k = t
    · rw [if_pos (by rw [h1])]
      exact stay (fun q => q.1 h1)
    · rw [if_neg (fun q => h1 ((nI_eq (by omega) (by omega)).1 q))]
      by_cases h2 : fm k = 0
      · rw [if_pos h2]
        exact stay (fun q => q.2.1 h2)
      · rw [if_neg h2]
        by_cases h3 : g_n (Y 8 k 0) = L
        · rw [if_neg (show ¬ ¬ Y 8 k 0 = nI L from fun q => q (by rw [d3, h3])), dw_62 (b := 31) (by omega) (by omega) hA (hP k hk).1 (hP k hk).2, x_bd, dp_set, w_row_same, pk_us]
          have hI' := dw_up hW hn hN hI hk h1 h2 h3
          have hv : dp_q Y A k ≤ 31 := by
            have := hI'.2.1 k hk
            rw [show dp_u A k (dp_q Y A k) k = dp_q Y A k from if_pos rfl] at this
            omega
          have hdd : dd ≤ 31 := by
            obtain ⟨x0, j1, _, j3⟩ := hI.2.2.2
            have := (hA x0 j1).2
            omega
          have emax : (if nI dd < nI (dp_q Y A k) then nI (dp_q Y A k) else nI dd) = nI (max dd (dp_q Y A k)) := by
            by_cases hlt : dd < dp_q Y A k
            · rw [if_pos (nI_lt hlt (by omega)), Nat.max_eq_right (by omega)]
            · rw [if_neg (nI_nlt (by omega) (by omega)), Nat.max_eq_left (by omega)]
          have emax' : (if nI dd < nI (max (dp_p A (Y 6 k 2)) (dp_p A (Y 6 k 3))) then nI (max (dp_p A (Y 6 k 2)) (dp_p A (Y 6 k 3))) else nI dd) = nI (max dd (dp_q Y A k)) := emax
          rw [emax']
          exact dw_pass hW hn ht hL hN hC hM bk m (k + 1) p _ _ _ hI' (dp_r_u hA hv) (by omega) (by omega)
        · rw [if_pos (show ¬ Y 8 k 0 = nI L from fun q => h3 (by rw [q, g_n_nI (by omega)]))]
          exact stay (fun q => h3 q.2.2)
theorem dw_levels {c y : Nat} {Y Y' V : GA} {X S : QS} {fm : Nat → Int32} {n t : Nat} (hW : g_W c Y) (hn : n = g_n (Y 0 2 0)) (ht : t < n) (hN : dw_N Y Y' fm n t) (hC : g_C y Y V X S) (hM : S.1 (26, 0, 0) = fm) : ∀ (m L p : Nat) (f : Nat → Int32) (A : Nat → Nat) (dd : Nat), dw_I Y Y' fm n t L 0 A dd → dp_r n f A 31 → L + m = 16 → m < p →
    ∃ f' A' dd', b_61_58 p y (nI t) (nI dd) (nI L) (q_row S (27, 0, 0) f) = some (nI dd', q_row S (27, 0, 0) f') ∧ dw_I Y Y' fm n t 16 0 A' dd' ∧ dp_r n f' A' 31
  | m, L, 0, _, _, _, _, _, _, h => by omega
  | 0, L, p + 1, f, A, dd, hI, hA, hm, h => by
    rw [b_61_58, if_pos (show (15 : Int32) < nI L from nI_lt (a := 15) (by omega) (by omega))]
    have : L = 16 := by omega
    subst this
    exact ⟨f, A, dd, rfl, hI, hA⟩
  | m + 1, L, p + 1, f, A, dd, hI, hA, hm, h => by
    have n22 := hW.2.1.2.2.1.2
    rw [b_61_58, if_neg (show ¬ (15 : Int32) < nI L from nI_nlt (a := 15) (by omega) (by omega))]
    obtain ⟨f1, A1, d1, a1, a2, a3⟩ := dw_pass hW hn ht (show L ≤ 15 by omega) hN hC hM (b_61_58 p) n 0 q_N f A dd hI hA (by omega) (by unfold q_N; omega)
    rw [show b_61_68 (b_61_58 p) q_N y (nI t) (nI dd) (nI L) 0 (q_row S (27, 0, 0) f) = _ from a1]
    exact dw_levels hW hn ht hN hC hM m (L + 1) p f1 A1 d1 a2 a3 (by omega) (by omega)
theorem dw_copy {y : Nat} {Y V : GA} {X S : QS} {n : Nat} {K : QS → Option (Int32 × QS)} {t x3 x4 : Int32} (hn : n = g_n (Y 0 2 0)) (e2 : Y 0 2 0 = nI n) (hn2 : n ≤ 200) (hK : ∀ S, K S = q_bd (f_62 x3 x4 S) (fun r_1 S_2 => q_ck (v_in t 200) (q_let (q_set S_2 (27, 0, 0) t.toNatClampNeg r_1) (fun S_3 => q_ck (v_in t 200) (q_let (S_3.1 (27, 0, 0) t.toNatClampNeg) (fun y_4 => b_61_58 q_N y t y_4 1 S_3)))))) (hC : g_C y Y V X S) : ∀ (m k p : Nat) (f : Nat → Int32), (∀ j, j < k → f j = Y 8 j 0) → k + m = n → m < p → ∃ f', b_61_3 p y t x3 x4 (nI k) (q_row S (27, 0, 0) f) = K (q_row S (27, 0, 0) f') ∧ ∀ j, j < n → f' j = Y 8 j 0
  | m, k, 0, _, _, _, h => by omega
  | 0, k, p + 1, f, hf, hm, h => by
    have hC' : g_C y Y V X (q_row S (27, 0, 0) f) := g_C_scr hC (by omega)
    rw [b_61_3, c_n2 hC', e2, if_pos (nI_le (by omega) (by omega))]
    exact ⟨f, (hK _).symm, fun j hj => hf j (by omega)⟩
  | m + 1, k, p + 1, f, hf, hm, h => by
    have hC' : g_C y Y V X (q_row S (27, 0, 0) f) := g_C_scr hC (by omega)
    rw [b_61_3, c_n2 hC', e2, if_neg (nI_ge (by omega) (by omega)), c_93 hC' (by omega) (by omega), x_bd]
    dsimp only
    rw [w_in (by omega) (by omega), nI_clamp (by omega), c_d hC' (by omega) (by omega), x_ck, x_let, dp_set, nI_1]
    refine dw_copy hn e2 hn2 hK hC m (k + 1) p _ (fun j hj => ?_) (by omega) (by omega)
    by_cases e : j = k
    · subst e; rw [pk_us]
    · rw [pk_un e]; exact hf j (by omega)
/-- the class reckons the depths with new parents -/
theorem dw_61 {c y : Nat} {Y Y' V : GA} {X S : QS} {fm : Nat → Int32} {t : Nat} {x3 x4 : Int32} (hW : g_W c Y) (ht : t < g_n (Y 0 2 0)) (hN : dw_N Y Y' fm (g_n (Y 0 2 0)) t) (e3 : Y' 6 t 2 = x3) (e4 : Y' 6 t 3 = x4) (hC : g_C y Y V X S) (hM : S.1 (26, 0, 0) = fm) :
    ∃ f A dd, f_61 y (nI t) x3 x4 S = some (nI dd, q_row S (27, 0, 0) f) ∧ dp_r (g_n (Y 0 2 0)) f A 31 ∧ dd ≤ 31 ∧ (∀ x, x < g_n (Y 0 2 0) → A x = dp_q Y' A x) ∧ (15 < dd ↔ ∃ x, x < g_n (Y 0 2 0) ∧ 15 < A x) := by
  have n2 := hW.2.1.2.2.1
  have n22 := n2.2
  have hP := dp_P_W hW
  unfold f_61
  obtain ⟨f0, a1, a2⟩ := dw_copy (y := y) (X := X) (t := nI t) (x3 := x3) (x4 := x4) rfl n2.1 n22 (K := fun S => q_bd (f_62 x3 x4 S) (fun r_1 S_2 => q_ck (v_in (nI t) 200) (q_let (q_set S_2 (27, 0, 0) (nI t).toNatClampNeg r_1) (fun S_3 => q_ck (v_in (nI t) 200) (q_let (S_3.1 (27, 0, 0) (nI t).toNatClampNeg) (fun y_4 => b_61_58 q_N y (nI t) y_4 1 S_3)))))) (fun _ => rfl) hC (g_n (Y 0 2 0)) 0 q_N (S.1 (27, 0, 0)) (fun j hj => by omega) (by omega) (by unfold q_N; omega)
  rw [w_row_id] at a1
  rw [show b_61_3 q_N y (nI t) x3 x4 0 S = _ from a1]
  have hE : dp_r (g_n (Y 0 2 0)) f0 (fun j => g_n (Y 8 j 0)) 31 := fun j hj => by
    have := dp_E_W hW hj
    exact ⟨by rw [a2 j hj]; exact this.2.2, by show g_n (Y 8 j 0) ≤ 31; have := this.2.1; omega⟩
  have hP' := hN.2.1 t ht
  rw [e3, e4] at hP'
  rw [dw_62 (b := 31) n22 (by omega) hE hP'.1 hP'.2, x_bd, w_in (by omega) (by omega), nI_clamp (by omega), x_ck, x_let, x_ck, x_let, dp_set, w_row_same, pk_us]
  have eq0 : max (dp_p (fun j => g_n (Y 8 j 0)) x3) (dp_p (fun j => g_n (Y 8 j 0)) x4) = dp_q Y' (fun j => g_n (Y 8 j 0)) t := by
    unfold dp_q
    rw [e3, e4]
  rw [eq0]
  have hv : dp_q Y' (fun j => g_n (Y 8 j 0)) t ≤ 16 := by
    have key : ∀ x, g_M x (g_n (Y 0 2 0)) → dp_p (fun j => g_n (Y 8 j 0)) x ≤ 16 := by
      intro x hx
      unfold dp_p
      rcases hx with rfl | ⟨j, hj, rfl⟩
      · rw [if_pos rfl]; omega
      · rw [if_neg (g_nI_m1 (by omega)), g_n_nI (by omega)]
        have := (dp_E_W hW hj).2.1
        show g_n (Y 8 j 0) + 1 ≤ 16
        omega
    have k1 := key _ (hN.2.1 t ht).1
    have k2 := key _ (hN.2.1 t ht).2
    unfold dp_q
    omega
  generalize hvv : dp_q Y' (fun j => g_n (Y 8 j 0)) t = v at hv ⊢
  have ne : ∀ x, x ≠ t → dp_u (fun j => g_n (Y 8 j 0)) t v x = g_n (Y 8 x 0) := fun x hx => if_neg hx
  have sm : dp_u (fun j => g_n (Y 8 j 0)) t v t = v := if_pos rfl
  have hI : dw_I Y Y' fm (g_n (Y 0 2 0)) t 1 0 (dp_u (fun j => g_n (Y 8 j 0)) t v) v := by
    refine ⟨?_, ?_, ?_, t, ht, Or.inl rfl, sm⟩
    · intro x hx hd
      by_cases e : x = t
      · subst e
        rw [sm]
        refine hvv.symm.trans ?_
        refine dw_q n22 hN.2.1 hx (fun p hp hpa => ?_)
        refine (ne p (fun e => ?_)).symm
        subst e
        exact hN.2.2.2.1 (hN.2.2.1 p hp hpa)
      · rw [ne x e, dw_qe hN hx e, (dp_E_W hW hx).1]
        refine dw_q n22 hP hx (fun p hp hpa => ?_)
        refine (ne p (fun e' => ?_)).symm
        subst e'
        have l := pa_lt hW hx hp hpa
        rcases hd with a | a | a | ⟨a, b⟩
        · exact e a
        · exact hN.2.2.2.2 x p hx hp hpa hN.2.2.2.1 a
        · omega
        · omega
    · intro x hx
      by_cases e : x = t
      · subst e; rw [sm]; omega
      · rw [ne x e]; omega
    · intro x hx h
      by_cases e : x = t
      · subst e; rw [sm]; exact Nat.le_refl _
      · rw [ne x e] at h
        have := (dp_E_W hW hx).2.1
        omega
  obtain ⟨f, A, dd, b1, b2, b3⟩ := dw_levels hW rfl ht hN hC hM 15 1 q_N _ _ v hI (dp_r_u hE (by omega)) (by omega) (by unfold q_N; omega)
  refine ⟨f, A, dd, b1, b3, ?_, ?_, ?_, ?_⟩
  · obtain ⟨x0, j1, _, j3⟩ := b2.2.2.2
    have := (b3 x0 j1).2
    omega
  · intro x hx
    refine b2.1 x hx (Or.inr (Or.inr (Or.inl ?_)))
    have := (dp_E_W hW hx).2.1
    omega
  · intro h
    obtain ⟨x0, j1, _, j3⟩ := b2.2.2.2
    exact ⟨x0, j1, by omega⟩
  · rintro ⟨x, hx, h⟩
    have := b2.2.2.1 x hx h
    omega
