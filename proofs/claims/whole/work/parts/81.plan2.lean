/-! ===== the plan: the class ===== -/
def cp (n : Nat) (H D O : Nat → Nat) (S : QS) : Prop := S.1 (6, 0, 0) 5 = nI n ∧ ∀ i, i < n → S.1 (31, 0, 0) i = nI (H i) ∧ S.1 (32, 0, 0) i = nI (D i) ∧ S.1 (33, 0, 0) i = nI (min (O i) 100000) ∧ D i ≤ 30
theorem cp_10 {S : QS} {n s i : Nat} {H D O F : Nat → Nat} (hn : n < 9) (hp : cp n H D O S) (hs : s < 2 ^ n) (hi : i < n) (hf : S.1 (34, 0, 0) (st s i) = nI (F (st s i))) : ∀ (d j p : Nat), j + d = n → d < p → b_78_10 p (nI s) (nI i) (nI (D i + sp D s j)) (nI j) S = some (nI (pw n D O F s i), S)
  | d, j, 0, _, h => by omega
  | 0, j, p + 1, hd, h => by
    have h3 := pb_2n n hn
    have hlt := pb_lt n hn s hs i hi
    obtain ⟨p1, p2, p3, p4⟩ := hp.2 i hi
    have h1 := sp_le (s := s) (fun k hk => (hp.2 k hk).2.2.2) n (Nat.le_refl _)
    have : j = n := by omega
    subst this
    rw [b_78_10, hp.1, if_pos (nI_le (by omega) (by omega)), w_in (show i < 8 by omega) (by omega), nI_clamp (show i < 2 ^ 31 by omega), x_ck, x_let, p3, pb_or s (by omega) i (by omega), w_in (show st s i < 256 by omega) (by omega), nI_clamp (show st s i < 2 ^ 31 by omega)]
    have e : (if (0 : Int32) < nI (D i + sp D s j) - nI (min (O i) 100000) then nI (D i + sp D s j) - nI (min (O i) 100000) else 0) = nI (sp D s j + D i - O i) := by
      by_cases q : min (O i) 100000 < D i + sp D s j
      · rw [pk_sub (by omega), if_pos (show (0 : Int32) < _ from nI_lt (a := 0) (by omega) (by omega))]
        congr 1
        omega
      · rw [show sp D s j + D i - O i = 0 by omega]
        by_cases q2 : min (O i) 100000 = D i + sp D s j
        · rw [q2, pk_sub (Nat.le_refl _), Nat.sub_self, if_neg (by decide)]
          rfl
        · have := pk_sneg (a := D i + sp D s j) (b := min (O i) 100000) (by omega) (by omega)
          rw [if_neg (fun q3 => by
            rw [Int32.lt_iff_toInt_lt] at this q3
            omega)]
          rfl
    rw [e, x_let, x_ck, x_let, hf, nI_add]
    rfl
  | d + 1, j, p + 1, hd, h => by
    have h3 := pb_2n n hn
    obtain ⟨p1, p2, p3, p4⟩ := hp.2 j (by omega)
    rw [b_78_10, hp.1, if_neg (nI_ge (by omega) (by omega))]
    unfold b_78_38
    rw [nI_1]
    have hb := pb_and s (by omega) j (by omega)
    cases e : bt s j with
    | false =>
      rw [if_pos (hb.2 e)]
      have e2 : sp D s (j + 1) = sp D s j := by
        show sp D s j + (if bt s j = true then D j else 0) = sp D s j
        rw [e, if_neg (by decide)]
        rfl
      rw [← e2]
      exact cp_10 hn hp hs hi hf d (j + 1) p (by omega) (by omega)
    | true =>
      rw [if_neg (fun q => by rw [hb.1 q] at e; cases e), w_in (show j < 8 by omega) (by omega), nI_clamp (show j < 2 ^ 31 by omega), x_ck, x_let, p2, nI_add, x_let]
      have e2 : D i + sp D s (j + 1) = D i + sp D s j + D j := by
        show D i + (sp D s j + (if bt s j = true then D j else 0)) = _
        rw [e, if_pos rfl, Nat.add_assoc]
      rw [← e2]
      exact cp_10 hn hp hs hi hf d (j + 1) p (by omega) (by omega)
theorem cp_78 {S : QS} {n s i : Nat} {H D O F : Nat → Nat} (hn : n < 9) (hp : cp n H D O S) (hs : s < 2 ^ n) (hi : i < n) (hf : S.1 (34, 0, 0) (st s i) = nI (F (st s i))) : f_78 (nI s) (nI i) S = some (nI (pw n D O F s i), S) := by
  unfold f_78
  rw [w_in (show i < 8 by omega) (by omega), nI_clamp (show i < 2 ^ 31 by omega), x_ck, x_let, (hp.2 i hi).2.1]
  exact cp_10 (F := F) hn hp hs hi hf n 0 q_N (by omega) (by unfold q_N; omega)
/-- the best next one -/
def bn (n : Nat) (D O F : Nat → Nat) (s j : Nat) (x : Int32) : Prop := (x = -1 ∧ ∀ k, k < j → bt s k = true) ∨ ∃ k0, k0 < j ∧ x = nI k0 ∧ bt s k0 = false ∧ (∀ k, k < j → bt s k = false → pw n D O F s k0 ≤ pw n D O F s k) ∧ ∀ k, k < k0 → bt s k = false → pw n D O F s k0 < pw n D O F s k
theorem cp_4 {S : QS} {n s : Nat} {H D O F : Nat → Nat} (hn : n < 9) (hp : cp n H D O S) (hs : s < 2 ^ n) (hf : ∀ z, s < z → z < 2 ^ n → S.1 (34, 0, 0) z = nI (F z)) (hb : ∀ k, k < n → bt s k = false → pw n D O F s k < 200000) : ∀ (d j p : Nat) (x : Int32), bn n D O F s j x → j + d = n → d < p → ∃ x', b_77_4 p (nI s) x (nI j) S = some (x', S) ∧ bn n D O F s n x'
  | d, j, 0, _, _, _, h => by omega
  | 0, j, p + 1, x, hx, hd, h => by
    have : j = n := by omega
    subst this
    rw [b_77_4, hp.1, if_pos (nI_le (by omega) (by omega))]
    exact ⟨x, rfl, hx⟩
  | d + 1, j, p + 1, x, hx, hd, h => by
    have h3 := pb_2n n hn
    have hj : j < n := by omega
    have ha := pb_and s (by omega) j (by omega)
    rw [b_77_4, hp.1, if_neg (nI_ge (by omega) (by omega))]
    unfold b_77_40 b_77_42
    rw [nI_1]
    cases e : bt s j with
    | true =>
      rw [if_pos (fun q => by rw [ha.1 q] at e; cases e)]
      refine cp_4 hn hp hs hf hb d (j + 1) p x ?_ (by omega) (by omega)
      rcases hx with ⟨a1, a2⟩ | ⟨k0, a1, a2, a3, a4, a5⟩
      · refine Or.inl ⟨a1, fun k hk => ?_⟩
        by_cases e' : k = j
        · rw [e']; exact e
        · exact a2 k (by omega)
      · refine Or.inr ⟨k0, by omega, a2, a3, fun k hk hkb => ?_, a5⟩
        by_cases e' : k = j
        · rw [e', e] at hkb
          cases hkb
        · exact a4 k (by omega) hkb
    | false =>
      rw [if_neg (show ¬ ¬ (nI s &&& ((1 : Int32) <<< (nI j &&& 31))) = 0 from fun q => q (ha.2 e))]
      have hg := pb_gt s (by omega) j (by omega) e
      have hl := pb_lt n hn s hs j hj
      rcases hx with ⟨a1, a2⟩ | ⟨k0, a1, a2, a3, a4, a5⟩
      · rw [a1, if_pos rfl]
        refine cp_4 hn hp hs hf hb d (j + 1) p (nI j) (Or.inr ⟨j, by omega, rfl, e, fun k hk hkb => ?_, fun k hk hkb => ?_⟩) (by omega) (by omega)
        · by_cases e' : k = j
          · rw [e']; exact Nat.le_refl _
          · rw [a2 k (by omega)] at hkb
            cases hkb
        · rw [a2 k hk] at hkb
          cases hkb
      · have hg0 := pb_gt s (by omega) k0 (by omega) a3
        have hl0 := pb_lt n hn s hs k0 (by omega)
        have b1 := hb j hj e
        have b2 := hb k0 (by omega) a3
        rw [a2, if_neg (g_nI_m1 (by omega)), cp_78 (F := F) hn hp hs hj (hf _ hg hl), x_bd, cp_78 (F := F) hn hp hs (by omega) (hf _ hg0 hl0), x_bd]
        by_cases e' : pw n D O F s k0 ≤ pw n D O F s j
        · rw [if_pos (nI_le e' (by omega))]
          refine cp_4 hn hp hs hf hb d (j + 1) p (nI k0) (Or.inr ⟨k0, by omega, rfl, a3, fun k hk hkb => ?_, a5⟩) (by omega) (by omega)
          by_cases e2 : k = j
          · rw [e2]; exact e'
          · exact a4 k (by omega) hkb
        · rw [if_neg (nI_ge (by omega) (by omega))]
          refine cp_4 hn hp hs hf hb d (j + 1) p (nI j) (Or.inr ⟨j, by omega, rfl, e, fun k hk hkb => ?_, fun k hk hkb => ?_⟩) (by omega) (by omega)
          · by_cases e2 : k = j
            · rw [e2]; exact Nat.le_refl _
            · have := a4 k (by omega) hkb
              omega
          · have := a4 k hk hkb
            omega
/-- the next one of a set that isn't full: the first that attains the fewest -/
def nx (n : Nat) (D O F : Nat → Nat) (s i : Nat) : Prop := i < n ∧ bt s i = false ∧ F s = pw n D O F s i ∧ ∀ k, k < i → bt s k = false → F s ≠ pw n D O F s k
theorem cp_77 {S : QS} {n s : Nat} {H D O F : Nat → Nat} (hn : n < 9) (hp : cp n H D O S) (hs : s < 2 ^ n) (ha : s ≠ 2 ^ n - 1) (hF : pF n D O F 0) (hf : ∀ z, s < z → z < 2 ^ n → S.1 (34, 0, 0) z = nI (F z)) : ∃ i, f_77 (nI s) S = some (nI i, S) ∧ nx n D O F s i := by
  have h3 := pb_2n n hn
  have hb : ∀ k, k < n → bt s k = false → pw n D O F s k < 200000 := fun k hk hkb => by
    have := pw_le (O := O) hn (fun k hk => (hp.2 k hk).2.2.2) hs hk hkb (hF (st s k) (Nat.zero_le _) (pb_lt n hn s hs k hk)).1
    omega
  unfold f_77
  obtain ⟨x, a1, a2⟩ := cp_4 hn hp hs hf hb n 0 q_N (-1) (Or.inl ⟨rfl, fun k hk => by omega⟩) (by omega) (by unfold q_N; omega)
  rw [show b_77_4 q_N (nI s) (-1) 0 S = _ from a1]
  obtain ⟨f1, f2, f3, f4⟩ := hF s (Nat.zero_le _) hs
  rcases a2 with ⟨_, b⟩ | ⟨k0, b1, rfl, b3, b4, b5⟩
  · exact absurd (pb_all n hn s hs b) ha
  · obtain ⟨i, i1, i2, i3⟩ := f3 ha
    have e1 := b4 i i1 i2
    have e2 := f4 k0 b1 b3
    refine ⟨k0, rfl, b1, b3, by omega, fun k hk hkb => ?_⟩
    have := b5 k hk hkb
    omega
/-- the class's table of days -/
theorem cp_31 {y : Nat} {Y V : GA} {X S : QS} {n : Nat} {H D O F : Nat → Nat} (hn : n < 9) (hC : g_C y Y V X S) (hp : cp n H D O S) (hF : pF n D O F 0) : ∀ (k p : Nat) (f : Nat → Int32), k ≤ 2 ^ n - 1 → (∀ z, k ≤ z → z < 2 ^ n → f z = nI (F z)) → k < p →
    ∃ f', b_74_31 p (nI k + (-1)) (q_row S (34, 0, 0) f) = q_bd (f_80 0 (nI n) (q_row S (34, 0, 0) f')) (fun r_6 S_7 => b_74_78 q_N 0 0 S_7) ∧ ∀ z, z < 2 ^ n → f' z = nI (F z)
  | _, 0, _, _, _, h => by omega
  | 0, p + 1, f, hk, hf, h => by
    rw [b_74_31, if_pos (by decide), w_row_ne (by decide), hp.1]
    exact ⟨f, rfl, fun z hz => hf z (Nat.zero_le _) hz⟩
  | k + 1, p + 1, f, hk, hf, h => by
    have h3 := pb_2n n hn
    have hp' : cp n H D O (q_row S (34, 0, 0) f) := by
      unfold cp
      rw [w_row_ne (show ((6, 0, 0) : VA) ≠ (34, 0, 0) by decide), w_row_ne (show ((31, 0, 0) : VA) ≠ (34, 0, 0) by decide), w_row_ne (show ((32, 0, 0) : VA) ≠ (34, 0, 0) by decide), w_row_ne (show ((33, 0, 0) : VA) ≠ (34, 0, 0) by decide)]
      exact hp
    have hf' : ∀ z, k < z → z < 2 ^ n → (q_row S (34, 0, 0) f).1 (34, 0, 0) z = nI (F z) := fun z h1 h2 => by
      rw [w_row_same]
      exact hf z (by omega) h2
    obtain ⟨i, a1, a2, a3, a4, a5⟩ := cp_77 (s := k) hn hp' (by omega) (by omega) hF hf'
    have hg := pb_gt k (by omega) i (by omega) a3
    have hl := pb_lt n hn k (by omega) i a2
    rw [b_74_31, pk_m1, if_neg (nI_pos (by omega)), a1, x_bd, cp_78 (F := F) hn hp' (by omega) a2 (hf' _ hg hl), x_bd, w_in (show k < 256 by omega) (by omega), nI_clamp (show k < 2 ^ 31 by omega), x_ck, x_let, dp_set, ← a4]
    refine cp_31 hn hC hp hF k p _ (by omega) (fun z h1 h2 => ?_) (by omega)
    by_cases e : z = k
    · rw [e, pk_us]
    · rw [pk_un e]
      exact hf z (by omega) h2
/-- the reference finds the next one -/
theorem pr_193 {Y V : GA} {Z T : QS} {n s i0 k : Nat} {H D O F : Nat → Nat} (hn : n < 9) (hT : g_T Y V Z T) (hp : pr Y n H D O T) (hs : s < 2 ^ n) (hk : k < 8) (hsp : T.1 (52, 0, 0) s = nI (sp D s n)) (hF : pF n D O F 0) (hle : ∀ z, z < 2 ^ n → T.2.1 (51, 0, 0) z = lN (F z)) (hx : nx n D O F s i0) (bk : Int32 → Int32 → Int32 → QS → Option ((Int32) × QS)) : ∀ (d i p : Nat), i + d = i0 → d < p → b_271_193 bk p (nI n) (nI s) (nI k) (nI i) T = bk (nI n) (nI (st s i0)) (nI (k + 1)) (q_set T (45, 0, 0) k (nI (H i0)))
  | d, i, 0, _, h => by omega
  | d, i, p + 1, hd, h => by
    have h3 := pb_2n n hn
    obtain ⟨x1, x2, x3, x4⟩ := id hx
    have hi : i < n := by omega
    have hlt := pb_lt n hn s hs i hi
    have hD : ∀ k, k < n → D k ≤ 30 := fun k hk => (hp k hk).2.2.2.1
    have hFs := pF_b hn hF (Nat.zero_le _) hs
    rw [b_271_193, pb_shr s (by omega) i (by omega)]
    unfold b_271_236
    rw [nI_1]
    cases hb : bt s i with
    | true =>
      rw [if_pos (show nI true.toNat = 1 from rfl)]
      cases d with
      | zero =>
        have : i = i0 := by omega
        rw [this, x2] at hb
        cases hb
      | succ d => exact pr_193 hn hT hp hs hk hsp hF hle hx bk d (i + 1) p (by omega) (by omega)
    | false =>
      have hw : pw n D O F s i < 200000 := by
        have := pw_le (O := O) hn hD hs hi hb (hF (st s i) (Nat.zero_le _) hlt).1
        omega
      rw [if_neg (show ¬ nI false.toNat = 1 by decide), pr_269 hn hT hp hs hi hsp, x_bd, pb_or s (by omega) i (by omega), w_in (show st s i < 256 by omega) (by omega), nI_clamp (show st s i < 2 ^ 31 by omega), x_ck, x_let, hle _ hlt, w_in (show s < 256 by omega) (by omega), nI_clamp (show s < 2 ^ 31 by omega), x_ck, x_let, hle _ hs, lN_add, show sp D s n + D i - O i + F (st s i) = pw n D O F s i from rfl]
      cases d with
      | zero =>
        have ei : i = i0 := by omega
        subst ei
        rw [if_pos ((lg_cmp_eq _ _).2 (by rw [x3])), w_in (show i < 40 by omega) (by omega), nI_clamp (show i < 2 ^ 31 by omega), x_ck, x_let, (hp i hi).2.1, w_in (show k < 8 by omega) (by omega), nI_clamp (show k < 2 ^ 31 by omega), x_ck, x_let, x_let, nI_1]
      | succ d =>
        rw [if_neg (fun q => by
          have q' := (pk_lEQ (by omega) (by omega)).1 ((lg_cmp_eq _ _).1 q)
          exact x4 i (by omega) hb q'.symm)]
        exact pr_193 hn hT hp hs hk hsp hF hle hx bk d (i + 1) p (by omega) (by omega)
/-- both write the order -/
theorem pl_ord {c y n : Nat} {X Z : QS} {H D O F : Nat → Nat} (hn : n < 9) (hF : pF n D O F 0) : ∀ (d k s p q : Nat) (Y V : GA) (S T : QS), g_C y (g_up Y 14 2 0 (nI n)) V X S → g_T Y V Z T → g_W c Y → (Y 10 3 0 = 1 → g_W c V) → (Y 10 3 0 = 0 ∨ Y 10 3 0 = 1) → cp n H D O S → (∀ z, z < 2 ^ n → S.1 (34, 0, 0) z = nI (F z)) → pr Y n H D O T → (∀ s, s < 2 ^ n → T.1 (52, 0, 0) s = nI (sp D s n)) → (∀ z, z < 2 ^ n → T.2.1 (51, 0, 0) z = lN (F z)) → pc s = k → s < 2 ^ n → k + d = n → d < p → d < q → g_Ok c X Z (q_bd (b_74_78 p (nI s) (nI k) S) f_169) (b_271_184 q (nI n) (nI s) (nI k) T)
  | d, k, s, 0, _, _, _, _, _, _, _, _, _, _, _, _, _, _, _, _, _, _, h, _ => by omega
  | d, k, s, _, 0, _, _, _, _, _, _, _, _, _, _, _, _, _, _, _, _, _, _, h => by omega
  | 0, k, s, p + 1, q + 1, Y, V, S, T, hC, hT, hW, hV, hU, hcp, hf, hpr, hsp, hle, hpc, hs, hd, h1, h2 => by
    have h3 := pb_2n n hn
    have hkn : k = n := by omega
    rw [b_74_78, b_271_184, hcp.1, if_pos (nI_le (by omega) (by omega)), if_pos (nI_le (by omega) (by omega)), show v_in 0 256 = true by decide, w_c0]
    simp only [x_ck, x_let, x_bd, w_eta]
    have g2 : g_T (g_up Y 14 2 0 (nI n)) V Z (q_set T (11, 0, 0) 12 (nI n)) := g_T_row hT (k := 2) (by omega) (nI n)
    have hR : g_R c y (g_up Y 14 2 0 (nI n)) V X Z S (q_set T (11, 0, 0) 12 (nI n)) := ⟨hC, g2, g_W_o hW (by omega), hV, hU⟩
    have e2 : (q_set T (11, 0, 0) 12 (nI n)).2.1 (51, 0, 0) 0 = lN (F 0) := hle 0 (by omega)
    rw [hf 0 (by omega), e2, lN_i]
    exact g_accept hR _
  | d + 1, k, s, p + 1, q + 1, Y, V, S, T, hC, hT, hW, hV, hU, hcp, hf, hpr, hsp, hle, hpc, hs, hd, h1, h2 => by
    have h3 := pb_2n n hn
    have ha : s ≠ 2 ^ n - 1 := fun e => by
      rw [e, pb_pa n hn] at hpc
      omega
    obtain ⟨i, a1, a2⟩ := cp_77 hn hcp hs ha hF (fun z h1 h2 => hf z h2)
    have hlt := pb_lt n hn s hs i a2.1
    have hpc2 := pb_pc s (by omega) i (by have := a2.1; omega) a2.2.1
    have a21 := a2.1
    have r := pr_193 (k := k) hn hT hpr hs (by omega) (hsp s hs) hF hle a2 (b_271_184 q) i 0 q_N (by omega) (by unfold q_N; omega)
    obtain ⟨S1, f1, g1⟩ := cs_q13 hC (show k < 8 by omega) (nI (H i))
    obtain ⟨T1, f2, g2⟩ := ts_q13 hT (show k < 8 by omega) (nI (H i))
    rw [f2] at r
    rw [b_74_78, b_271_184, hcp.1, if_neg (nI_ge (by omega) (by omega)), if_neg (nI_ge (by omega) (by omega)), a1, x_bd, w_in (show i < 8 by omega) (by omega), nI_clamp (show i < 2 ^ 31 by omega), x_ck, x_let, (hcp.2 i a21).1, w_in (show k < 8 by omega) (by omega), nI_clamp (show k < 2 ^ 31 by omega), x_ck, f1, x_let, pb_or s (by omega) i (by omega), x_let, nI_1, show b_271_193 (b_271_184 q) q_N (nI n) (nI s) (nI k) 0 T = _ from r]
    rw [g_up_comm (fun q => by omega)] at g1
    have r31 : ∀ a : VA, a ≠ (35, 0, 0) → S1.1 a = S.1 a := fun a ha => by
      rw [← f1, g_set_a ha]
    have t31 : ∀ a : VA, a ≠ (45, 0, 0) → T1.1 a = T.1 a := fun a ha => by
      rw [← f2, g_set_a ha]
    have tL : T1.2.1 = T.2.1 := by rw [← f2]; rfl
    refine pl_ord (H := H) hn hF d (k + 1) (st s i) p q (g_up Y 13 k 0 (nI (H i))) V S1 T1 g1 g2 (g_W_o hW (by omega)) hV hU ?_ ?_ ?_ ?_ ?_ (by omega) hlt (by omega) (by omega) (by omega)
    · unfold cp
      rw [r31 _ (by decide), r31 _ (by decide), r31 _ (by decide), r31 _ (by decide)]
      exact hcp
    · rw [r31 _ (by decide)]
      exact hf
    · intro j hj
      rw [t31 _ (by decide), tL]
      exact hpr j hj
    · rw [t31 _ (by decide)]
      exact hsp
    · rw [tL]
      exact hle
