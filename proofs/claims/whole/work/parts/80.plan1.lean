/-! ===== the plan: sets as numbers ===== -/
def bt (s i : Nat) : Bool := s / 2 ^ i % 2 == 1
def st (s i : Nat) : Nat := s ||| 2 ^ i
def pc (s : Nat) : Nat := (bt s 0).toNat + (bt s 1).toNat + (bt s 2).toNat + (bt s 3).toNat + (bt s 4).toNat + (bt s 5).toNat + (bt s 6).toNat + (bt s 7).toNat
theorem pb_or : ∀ s, s < 256 → ∀ i, i < 8 → nI s ||| ((1 : Int32) <<< (nI i &&& 31)) = nI (st s i) := by decide +kernel
theorem pb_and : ∀ s, s < 256 → ∀ i, i < 8 → ((nI s &&& ((1 : Int32) <<< (nI i &&& 31))) = 0 ↔ bt s i = false) := by decide +kernel
theorem pb_shr : ∀ s, s < 256 → ∀ i, i < 8 → ((nI s >>> (nI i &&& 31)) &&& 1) = nI (bt s i).toNat := by decide +kernel
theorem pb_shl : ∀ n, n < 9 → (1 : Int32) <<< (nI n &&& 31) = nI (2 ^ n) := by decide +kernel
theorem pb_lt : ∀ n, n < 9 → ∀ s, s < 2 ^ n → ∀ i, i < n → st s i < 2 ^ n := by decide +kernel
theorem pb_gt : ∀ s, s < 256 → ∀ i, i < 8 → bt s i = false → s < st s i := by decide +kernel
theorem pb_all : ∀ n, n < 9 → ∀ s, s < 2 ^ n → (∀ i, i < n → bt s i = true) → s = 2 ^ n - 1 := by decide +kernel
theorem pb_one : ∀ n, n < 9 → ∀ i, i < n → bt (2 ^ n - 1) i = true := by decide +kernel
theorem pb_pc : ∀ s, s < 256 → ∀ i, i < 8 → bt s i = false → pc (st s i) = pc s + 1 := by decide +kernel
theorem pb_pa : ∀ n, n < 9 → pc (2 ^ n - 1) = n := by decide +kernel
theorem pb_2n : ∀ n, n < 9 → 1 ≤ 2 ^ n ∧ 2 ^ n ≤ 256 := by decide +kernel
/-- days of a set -/
def sp (D : Nat → Nat) (s : Nat) : Nat → Nat
  | 0 => 0
  | i + 1 => sp D s i + (if bt s i = true then D i else 0)
theorem sp_le {D : Nat → Nat} {s n : Nat} (h : ∀ k, k < n → D k ≤ 30) : ∀ i, i ≤ n → sp D s i ≤ 30 * i
  | 0, _ => Nat.le_refl _
  | i + 1, hi => by
    have h1 := sp_le (s := s) h i (by omega)
    have h2 := h i (by omega)
    show sp D s i + (if bt s i = true then D i else 0) ≤ 30 * (i + 1)
    split <;> omega
/-- days with a next one -/
def pw (n : Nat) (D O F : Nat → Nat) (s i : Nat) : Nat := (sp D s n + D i - O i) + F (st s i)
def pF (n : Nat) (D O F : Nat → Nat) (lo : Nat) : Prop := ∀ s, lo ≤ s → s < 2 ^ n → F s ≤ 300 * (2 ^ n - 1 - s) ∧ (s = 2 ^ n - 1 → F s = 0) ∧ (s ≠ 2 ^ n - 1 → ∃ i, i < n ∧ bt s i = false ∧ F s = pw n D O F s i) ∧ (∀ i, i < n → bt s i = false → F s ≤ pw n D O F s i)
theorem pw_u {n : Nat} {D O F : Nat → Nat} {s i k v : Nat} (hs : s < 256) (hi : i < 8) (hb : bt s i = false) (hk : k ≤ s) : pw n D O (dp_u F k v) s i = pw n D O F s i := by
  have := pb_gt s hs i hi hb
  unfold pw dp_u
  rw [if_neg (by omega)]
theorem pw_le {n : Nat} {D O F : Nat → Nat} {s i : Nat} (hn : n < 9) (hD : ∀ k, k < n → D k ≤ 30) (hs : s < 2 ^ n) (hi : i < n) (hb : bt s i = false) (hF : F (st s i) ≤ 300 * (2 ^ n - 1 - st s i)) : pw n D O F s i ≤ 300 * (2 ^ n - 1 - s) := by
  have h1 := sp_le (s := s) hD n (Nat.le_refl _)
  have h2 := hD i hi
  have h3 := pb_2n n hn
  have h4 := pb_gt s (by omega) i (by omega) hb
  have h5 := pb_lt n hn s hs i hi
  unfold pw
  omega
theorem pF_u {n : Nat} {D O F : Nat → Nat} {k v : Nat} (hn : n < 9) (hD : ∀ k, k < n → D k ≤ 30) (h : pF n D O F (k + 1)) (hk : k < 2 ^ n) (h1 : k = 2 ^ n - 1 → v = 0) (h2 : k ≠ 2 ^ n - 1 → ∃ i, i < n ∧ bt k i = false ∧ v = pw n D O F k i) (h3 : ∀ i, i < n → bt k i = false → v ≤ pw n D O F k i) : pF n D O (dp_u F k v) k := by
  have q := pb_2n n hn
  intro s hs1 hs2
  by_cases e : s = k
  · subst e
    have es : dp_u F s v s = v := by unfold dp_u; rw [if_pos rfl]
    rw [es]
    refine ⟨?_, h1, ?_, ?_⟩
    · by_cases e : s = 2 ^ n - 1
      · rw [h1 e]; omega
      · obtain ⟨i, i1, i2, i3⟩ := h2 e
        rw [i3]
        have a := pb_gt s (by omega) i (by omega) i2
        have b := pb_lt n hn s hs2 i i1
        exact pw_le hn hD hs2 i1 i2 (h _ (by omega) b).1
    · intro e
      obtain ⟨i, i1, i2, i3⟩ := h2 e
      exact ⟨i, i1, i2, by rw [pw_u (by omega) (by omega) i2 (Nat.le_refl _)]; exact i3⟩
    · intro i i1 i2
      rw [pw_u (by omega) (by omega) i2 (Nat.le_refl _)]
      exact h3 i i1 i2
  · have es : dp_u F k v s = F s := by unfold dp_u; rw [if_neg e]
    obtain ⟨a1, a2, a3, a4⟩ := h s (by omega) hs2
    rw [es]
    refine ⟨a1, a2, ?_, ?_⟩
    · intro e'
      obtain ⟨i, i1, i2, i3⟩ := a3 e'
      exact ⟨i, i1, i2, by rw [pw_u (by omega) (by omega) i2 (by omega)]; exact i3⟩
    · intro i i1 i2
      rw [pw_u (by omega) (by omega) i2 (by omega)]
      exact a4 i i1 i2
theorem pF_b {n : Nat} {D O F : Nat → Nat} {lo s : Nat} (hn : n < 9) (h : pF n D O F lo) (h1 : lo ≤ s) (h2 : s < 2 ^ n) : F s < 100000 := by
  have q := pb_2n n hn
  have := (h s h1 h2).1
  omega
/-! ===== rows of longs ===== -/
def q_rowL (S : QS) (a : VA) (f : Nat → Int64) : QS := (S.1, fun b => if b = a then f else S.2.1 b, S.2.2)
theorem l_same (S : QS) (a : VA) (f : Nat → Int64) : (q_rowL S a f).2.1 a = f := if_pos rfl
theorem l_ne {S : QS} {a b : VA} {f : Nat → Int64} (h : b ≠ a) : (q_rowL S a f).2.1 b = S.2.1 b := if_neg h
theorem l_set (S : QS) (a : VA) (f : Nat → Int64) (k : Nat) (v : Int64) : q_setL (q_rowL S a f) a k v = q_rowL S a (vp_updL f k v) := by
  refine Prod.ext rfl (Prod.ext ?_ rfl)
  funext b
  show (if b = a then vp_updL (if a = a then f else S.2.1 a) k v else if b = a then f else S.2.1 b) = if b = a then vp_updL f k v else S.2.1 b
  rw [if_pos rfl]
  split <;> rfl
theorem l_id (S : QS) (a : VA) : q_rowL S a (S.2.1 a) = S := by
  refine Prod.ext rfl (Prod.ext ?_ rfl)
  funext b
  show (if b = a then S.2.1 a else S.2.1 b) = S.2.1 b
  split
  · rename_i h
    rw [h]
  · rfl
theorem l_T {Y V : GA} {Z T : QS} {a : VA} {f : Nat → Int64} (h : g_T Y V Z T) : g_T Y V Z (q_rowL T a f) := h
theorem l_neg {a b : Nat} (ha : a < 2 ^ 62) (hb : b < 2 ^ 62) (h : a < b) : lN a - lN b < 0 := by
  rw [Int64.lt_iff_toInt_lt, Int64.toInt_sub, pk_lT (by omega), pk_lT (by omega), show (0 : Int64).toInt = 0 from by decide, Int.bmod_eq_of_le (by omega) (by omega)]
  omega
/-! ===== the plan: the reference ===== -/
def pr (Y : GA) (n : Nat) (H D O : Nat → Nat) (T : QS) : Prop := ∀ i, i < n → H i < 40 ∧ T.1 (49, 0, 0) i = nI (H i) ∧ Y 1 (H i) 7 = nI (D i) ∧ D i ≤ 30 ∧ T.2.1 (50, 0, 0) i = lN (O i) ∧ O i < 2 ^ 62
theorem pr_269 {Y V : GA} {Z T : QS} {n s i : Nat} {H D O : Nat → Nat} (hn : n < 9) (hT : g_T Y V Z T) (hp : pr Y n H D O T) (hs : s < 2 ^ n) (hi : i < n) (hsp : T.1 (52, 0, 0) s = nI (sp D s n)) : f_269 (nI s) (nI i) T = some (lN (sp D s n + D i - O i), T) := by
  have h3 := pb_2n n hn
  obtain ⟨p1, p2, p3, p4, p5, p6⟩ := hp i hi
  have h1 := sp_le (s := s) (fun k hk => (hp k hk).2.2.2.1) n (Nat.le_refl _)
  unfold f_269
  rw [w_in (show s < 256 by omega) (by omega), nI_clamp (show s < 2 ^ 31 by omega), x_ck, x_let, w_in (show i < 40 by omega) (by omega), nI_clamp (show i < 2 ^ 31 by omega), x_ck, x_let, p2, t_190_7 hT p1, x_bd, hsp, p3, nI_add, nI_l (by omega), x_let, w_in (show i < 8 by omega) (by omega), x_ck, x_let, p5]
  by_cases e : sp D s n + D i ≤ O i
  · rw [if_pos ((lg_cmp_le _ _).2 ((pk_lLE (by omega) (by omega)).2 e)), show sp D s n + D i - O i = 0 by omega]
    rfl
  · rw [if_neg (fun q => e ((pk_lLE (by omega) (by omega)).1 ((lg_cmp_le _ _).1 q))), x_ck, x_let, lN_sub (by omega)]
theorem pr_23 {Y V : GA} {Z T : QS} {n s : Nat} {H D O : Nat → Nat} (hn : n < 9) (hT : g_T Y V Z T) (hp : pr Y n H D O T) (hs : s < 2 ^ n) (bk : Int32 → Int32 → Int32 → QS → Option ((Unit) × QS)) (x2 : Int32) : ∀ (d i p : Nat) (g : Nat → Int32), g s = nI (sp D s i) → i + d = n → d < p → ∃ g', b_270_23 bk p (nI n) x2 (nI s) (nI i) (q_row T (52, 0, 0) g) = bk (nI n) x2 (nI (s + 1)) (q_row T (52, 0, 0) g') ∧ g' s = nI (sp D s n) ∧ ∀ z, z ≠ s → g' z = g z
  | d, i, 0, _, _, _, h => by omega
  | 0, i, p + 1, g, hg, hd, h => by
    have : i = n := by omega
    subst this
    rw [b_270_23, if_pos (nI_le (by omega) (by omega)), nI_1]
    exact ⟨g, rfl, hg, fun _ _ => rfl⟩
  | d + 1, i, p + 1, g, hg, hd, h => by
    have h3 := pb_2n n hn
    obtain ⟨p1, p2, p3, p4, p5, p6⟩ := hp i (by omega)
    have hT' : g_T Y V Z (q_row T (52, 0, 0) g) := g_T_scr hT (by omega)
    have ev : nI (sp D s i) + nI (bt s i).toNat * nI (D i) = nI (sp D s (i + 1)) := by
      rw [pk_mul, nI_add]
      show _ = nI (sp D s i + (if bt s i = true then D i else 0))
      cases bt s i with
      | true =>
        rw [if_pos rfl]
        show nI (sp D s i + 1 * D i) = _
        rw [Nat.one_mul]
      | false =>
        rw [if_neg (by decide)]
        show nI (sp D s i + 0 * D i) = _
        rw [Nat.zero_mul]
    rw [b_270_23, if_neg (nI_ge (by omega) (by omega)), w_in (show s < 256 by omega) (by omega), nI_clamp (show s < 2 ^ 31 by omega), x_ck, x_let, w_row_same, hg, w_in (show i < 40 by omega) (by omega), nI_clamp (show i < 2 ^ 31 by omega), x_ck, x_let, w_row_ne (show ((49, 0, 0) : VA) ≠ (52, 0, 0) by decide), p2, t_190_7 hT' p1, x_bd, x_ck, x_let, p3, pb_shr s (by omega) i (by omega), ev, dp_set, nI_1]
    obtain ⟨g', a1, a2, a3⟩ := pr_23 hn hT hp hs bk x2 d (i + 1) p (upd g s (nI (sp D s (i + 1)))) pk_us (by omega) (by omega)
    exact ⟨g', a1, a2, fun z hz => by rw [a3 z hz, pk_un hz]⟩
theorem pr_8 {Y V : GA} {Z T : QS} {n : Nat} {H D O : Nat → Nat} (hn : n < 9) (hT : g_T Y V Z T) (hp : pr Y n H D O T) : ∀ (d s p : Nat) (g : Nat → Int32), (∀ z, z < s → g z = nI (sp D z n)) → s + d = 2 ^ n → d < p → ∃ g', b_270_8 p (nI n) (nI (2 ^ n - 1)) (nI s) (q_row T (52, 0, 0) g) = b_270_72 q_N (nI n) (nI (2 ^ n - 1)) (nI (2 ^ n - 1)) (q_row T (52, 0, 0) g') ∧ ∀ z, z < 2 ^ n → g' z = nI (sp D z n)
  | d, s, 0, _, _, _, h => by omega
  | 0, s, p + 1, g, hg, hd, h => by
    have h3 := pb_2n n hn
    rw [b_270_8, if_pos (nI_lt (by omega) (by omega))]
    exact ⟨g, rfl, fun z hz => hg z (by omega)⟩
  | d + 1, s, p + 1, g, hg, hd, h => by
    have h3 := pb_2n n hn
    rw [b_270_8, if_neg (nI_nlt (by omega) (by omega)), w_in (show s < 256 by omega) (by omega), nI_clamp (show s < 2 ^ 31 by omega), x_ck, x_let, dp_set]
    obtain ⟨g', a1, a2, a3⟩ := pr_23 (s := s) hn hT hp (by omega) (b_270_8 p) (nI (2 ^ n - 1)) n 0 q_N (upd g s 0) pk_us (by omega) (by unfold q_N; omega)
    rw [show b_270_23 (b_270_8 p) q_N (nI n) (nI (2 ^ n - 1)) (nI s) 0 (q_row T (52, 0, 0) (upd g s 0)) = _ from a1]
    refine pr_8 hn hT hp d (s + 1) p g' (fun z hz => ?_) (by omega) (by omega)
    by_cases e : z = s
    · rw [e]; exact a2
    · rw [a3 z e, pk_un e]
      exact hg z (by omega)
theorem l_upd_s {f : Nat → Int64} {k : Nat} {x : Int64} : vp_updL f k x k = x := if_pos rfl
/-- the least of a set -/
theorem pr_97 {Y V : GA} {Z T : QS} {n s : Nat} {H D O F : Nat → Nat} {L0 : Int64} (hn : n < 9) (hT : g_T Y V Z T) (hp : pr Y n H D O T) (hs : s < 2 ^ n) (hsp : T.1 (52, 0, 0) s = nI (sp D s n)) (hF : pF n D O F (s + 1)) (hL : L0 = -1 ∨ s = 2 ^ n - 1) (bk : Int32 → Int32 → Int32 → QS → Option ((Unit) × QS)) (x2 : Int32) : ∀ (d i p : Nat) (le : Nat → Int64), (∀ z, s < z → z < 2 ^ n → le z = lN (F z)) → ((le s = L0 ∧ ∀ k, k < i → bt s k = true) ∨ ∃ k0, k0 < i ∧ bt s k0 = false ∧ le s = lN (pw n D O F s k0) ∧ ∀ k, k < i → bt s k = false → pw n D O F s k0 ≤ pw n D O F s k) → i + d = n → d < p →
    ∃ le', b_270_97 bk p (nI n) x2 (nI s) (nI i) (q_rowL T (51, 0, 0) le) = bk (nI n) x2 (nI s + (-1)) (q_rowL T (51, 0, 0) le') ∧ (∀ z, s < z → z < 2 ^ n → le' z = lN (F z)) ∧ ((le' s = L0 ∧ ∀ k, k < n → bt s k = true) ∨ ∃ k0, k0 < n ∧ bt s k0 = false ∧ le' s = lN (pw n D O F s k0) ∧ ∀ k, k < n → bt s k = false → pw n D O F s k0 ≤ pw n D O F s k)
  | d, i, 0, _, _, _, _, h => by omega
  | 0, i, p + 1, le, hle, hI, hd, h => by
    have : i = n := by omega
    subst this
    rw [b_270_97, if_pos (nI_le (by omega) (by omega))]
    exact ⟨le, rfl, hle, hI⟩
  | d + 1, i, p + 1, le, hle, hI, hd, h => by
    have h3 := pb_2n n hn
    have hi : i < n := by omega
    rw [b_270_97, if_neg (nI_ge (by omega) (by omega)), pb_shr s (by omega) i (by omega)]
    unfold b_270_177
    rw [nI_1]
    cases hb : bt s i with
    | true =>
      rw [if_neg (show ¬ ¬ nI true.toNat = 1 from fun q => q rfl)]
      refine pr_97 hn hT hp hs hsp hF hL bk x2 d (i + 1) p le hle ?_ (by omega) (by omega)
      rcases hI with ⟨a1, a2⟩ | ⟨k0, a1, a2, a3, a4⟩
      · refine Or.inl ⟨a1, fun k hk => ?_⟩
        by_cases e : k = i
        · rw [e]; exact hb
        · exact a2 k (by omega)
      · refine Or.inr ⟨k0, by omega, a2, a3, fun k hk hkb => ?_⟩
        by_cases e : k = i
        · rw [e, hb] at hkb
          cases hkb
        · exact a4 k (by omega) hkb
    | false =>
      have hgt := pb_gt s (by omega) i (by omega) hb
      have hlt := pb_lt n hn s hs i hi
      have hFb := pF_b hn hF (show s + 1 ≤ st s i by omega) hlt
      have hD : ∀ k, k < n → D k ≤ 30 := fun k hk => (hp k hk).2.2.2.1
      have hpwb : ∀ k, k < n → bt s k = false → pw n D O F s k < 200000 := fun k hk hkb => by
        have := pw_le (O := O) hn hD hs hk hkb (hF (st s k) (pb_gt s (by omega) k (by omega) hkb) (pb_lt n hn s hs k hk)).1
        omega
      have hw := hpwb i hi hb
      have hT' : g_T Y V Z (q_rowL T (51, 0, 0) le) := l_T hT
      have hp' : pr Y n H D O (q_rowL T (51, 0, 0) le) := fun k hk => by
        rw [l_ne (show ((50, 0, 0) : VA) ≠ (51, 0, 0) by decide)]
        exact hp k hk
      rw [if_pos (show ¬ nI false.toNat = 1 by decide), pr_269 hn hT' hp' hs hi hsp, x_bd, pb_or s (by omega) i (by omega), w_in (show st s i < 256 by omega) (by omega), nI_clamp (show st s i < 2 ^ 31 by omega), x_ck, x_let, l_same, hle _ hgt hlt, lN_add, x_let, w_in (show s < 256 by omega) (by omega), nI_clamp (show s < 2 ^ 31 by omega)]
      simp only [x_ck, x_let]
      rw [show sp D s n + D i - O i + F (st s i) = pw n D O F s i from rfl]
      unfold b_270_165 b_270_176 b_270_177
      rw [w_in (show s < 256 by omega) (by omega), nI_clamp (show s < 2 ^ 31 by omega)]
      simp only [x_ck, x_let]
      rw [l_set, l_set, nI_1]
      have keep : ∀ v z, s < z → z < 2 ^ n → vp_updL le s v z = lN (F z) := fun v z h1 h2 => by
        rw [pk_uLn (by omega)]
        exact hle z h1 h2
      have new : ((∀ k, k < i → bt s k = true) ∨ ∃ k0, k0 < i ∧ bt s k0 = false ∧ pw n D O F s i < pw n D O F s k0 ∧ ∀ k, k < i → bt s k = false → pw n D O F s k0 ≤ pw n D O F s k) → ∃ le', b_270_97 bk p (nI n) x2 (nI s) (nI (i + 1)) (q_rowL T (51, 0, 0) (vp_updL le s (lN (pw n D O F s i)))) = bk (nI n) x2 (nI s + (-1)) (q_rowL T (51, 0, 0) le') ∧ (∀ z, s < z → z < 2 ^ n → le' z = lN (F z)) ∧ ((le' s = L0 ∧ ∀ k, k < n → bt s k = true) ∨ ∃ k0, k0 < n ∧ bt s k0 = false ∧ le' s = lN (pw n D O F s k0) ∧ ∀ k, k < n → bt s k = false → pw n D O F s k0 ≤ pw n D O F s k) := by
        intro hq
        refine pr_97 hn hT hp hs hsp hF hL bk x2 d (i + 1) p _ (keep _) (Or.inr ⟨i, by omega, hb, pk_uLs, fun k hk hkb => ?_⟩) (by omega) (by omega)
        by_cases e : k = i
        · rw [e]; exact Nat.le_refl _
        · rcases hq with hq | ⟨k0, q1, q2, q3, q4⟩
          · rw [hq k (by omega)] at hkb
            cases hkb
          · have := q4 k (by omega) hkb
            omega
      rcases hI with ⟨a1, a2⟩ | ⟨k0, a1, a2, a3, a4⟩
      · have hL1 : L0 = -1 := by
          rcases hL with hL | hL
          · exact hL
          · rw [hL, pb_one n hn i hi] at hb
            cases hb
        rw [a1, hL1, if_pos (by decide)]
        rw [hL1] at new
        exact new (Or.inl a2)
      · have hw0 := hpwb k0 (by omega) a2
        rw [a3, if_neg (fun q => by
          have q' := (lg_cmp_lt _ _).1 q
          rw [show (0 : Int64) = lN 0 from rfl, pk_lLT (by omega) (by omega)] at q'
          omega)]
        by_cases e : pw n D O F s k0 ≤ pw n D O F s i
        · rw [if_pos ((lg_cmp_ge _ _).2 ((pk_lLE (by omega) (by omega)).2 e))]
          refine pr_97 hn hT hp hs hsp hF hL bk x2 d (i + 1) p _ (keep _) (Or.inr ⟨k0, by omega, a2, pk_uLs, fun k hk hkb => ?_⟩) (by omega) (by omega)
          by_cases e' : k = i
          · rw [e']; exact e
          · exact a4 k (by omega) hkb
        · rw [if_neg (fun q => e ((pk_lLE (by omega) (by omega)).1 ((lg_cmp_ge _ _).1 q)))]
          exact new (Or.inr ⟨k0, a1, a2, by omega, a4⟩)
theorem pr_72 {Y V : GA} {Z T : QS} {n : Nat} {H D O : Nat → Nat} (hn : n < 9) (hT : g_T Y V Z T) (hp : pr Y n H D O T) (hsp : ∀ s, s < 2 ^ n → T.1 (52, 0, 0) s = nI (sp D s n)) : ∀ (k p : Nat) (le : Nat → Int64) (F : Nat → Nat), k ≤ 2 ^ n → pF n D O F k → (∀ z, k ≤ z → z < 2 ^ n → le z = lN (F z)) → k < p →
    ∃ le' F', b_270_72 p (nI n) (nI (2 ^ n - 1)) (nI k + (-1)) (q_rowL T (51, 0, 0) le) = some ((), q_rowL T (51, 0, 0) le') ∧ pF n D O F' 0 ∧ ∀ z, z < 2 ^ n → le' z = lN (F' z)
  | _, 0, _, _, _, _, _, h => by omega
  | 0, p + 1, le, F, hk, hF, hle, h => by
    rw [b_270_72, if_pos (by decide)]
    exact ⟨le, F, rfl, hF, fun z hz => hle z (Nat.zero_le _) hz⟩
  | k + 1, p + 1, le, F, hk, hF, hle, h => by
    have h3 := pb_2n n hn
    have hD : ∀ k, k < n → D k ≤ 30 := fun k hk => (hp k hk).2.2.2.1
    rw [b_270_72, pk_m1, if_neg (nI_pos (by omega))]
    unfold b_270_93
    rw [w_in (show k < 256 by omega) (by omega), nI_clamp (show k < 2 ^ 31 by omega)]
    simp only [x_ck, x_let]
    rw [l_set, l_set]
    have go : ∀ L0 : Int64, (L0 = -1 ∨ k = 2 ^ n - 1) → (k = 2 ^ n - 1 → L0 = 0) → ∃ le' F', b_270_97 (b_270_72 p) q_N (nI n) (nI (2 ^ n - 1)) (nI k) 0 (q_rowL T (51, 0, 0) (vp_updL le k L0)) = some ((), q_rowL T (51, 0, 0) le') ∧ pF n D O F' 0 ∧ ∀ z, z < 2 ^ n → le' z = lN (F' z) := by
      intro L0 hL hL0
      obtain ⟨le1, a1, a2, a3⟩ := pr_97 (s := k) (F := F) (L0 := L0) hn hT hp (by omega) (hsp k (by omega)) hF hL (b_270_72 p) (nI (2 ^ n - 1)) n 0 q_N (vp_updL le k L0) (fun z h1 h2 => by rw [pk_uLn (by omega)]; exact hle z (by omega) h2) (Or.inl ⟨pk_uLs, fun k hk => by omega⟩) (by omega) (by unfold q_N; omega)
      rw [show b_270_97 (b_270_72 p) q_N (nI n) (nI (2 ^ n - 1)) (nI k) 0 (q_rowL T (51, 0, 0) (vp_updL le k L0)) = _ from a1]
      have fin : ∀ v, le1 k = lN v → (k = 2 ^ n - 1 → v = 0) → (k ≠ 2 ^ n - 1 → ∃ i, i < n ∧ bt k i = false ∧ v = pw n D O F k i) → (∀ i, i < n → bt k i = false → v ≤ pw n D O F k i) → ∃ le' F', b_270_72 p (nI n) (nI (2 ^ n - 1)) (nI k + (-1)) (q_rowL T (51, 0, 0) le1) = some ((), q_rowL T (51, 0, 0) le') ∧ pF n D O F' 0 ∧ ∀ z, z < 2 ^ n → le' z = lN (F' z) := by
        intro v hv v1 v2 v3
        refine pr_72 hn hT hp hsp k p le1 (dp_u F k v) (by omega) (pF_u hn hD hF (by omega) v1 v2 v3) (fun z h1 h2 => ?_) (by omega)
        unfold dp_u
        by_cases e : z = k
        · rw [if_pos e, e]; exact hv
        · rw [if_neg e]
          exact a2 z (by omega) h2
      rcases a3 with ⟨b1, b2⟩ | ⟨k0, b1, b2, b3, b4⟩
      · have ek := pb_all n hn k (by omega) b2
        rw [hL0 ek] at b1
        exact fin 0 b1 (fun _ => rfl) (fun q => absurd ek q) (fun i i1 i2 => Nat.zero_le _)
      · refine fin _ b3 (fun ek => ?_) (fun _ => ⟨k0, b1, b2, rfl⟩) b4
        rw [ek, pb_one n hn k0 b1] at b2
        cases b2
    by_cases e : k = 2 ^ n - 1
    · rw [if_neg (show ¬ ¬ nI k = nI (2 ^ n - 1) from fun q => q (by rw [e]))]
      exact go 0 (Or.inr e) (fun _ => rfl)
    · rw [if_pos (fun q => e ((nI_eq (by omega) (by omega)).1 q))]
      exact go (-1) (Or.inl rfl) (fun q => absurd q e)
/-- the reference's table of days -/
theorem pr_270 {Y V : GA} {Z T : QS} {n : Nat} {H D O : Nat → Nat} (hn : n < 9) (hT : g_T Y V Z T) (hp : pr Y n H D O T) : ∃ T' F, f_270 (nI n) T = some ((), T') ∧ g_T Y V Z T' ∧ pr Y n H D O T' ∧ (∀ s, s < 2 ^ n → T'.1 (52, 0, 0) s = nI (sp D s n)) ∧ pF n D O F 0 ∧ (∀ z, z < 2 ^ n → T'.2.1 (51, 0, 0) z = lN (F z)) := by
  have h3 := pb_2n n hn
  unfold f_270
  rw [pb_shl n hn, show (1 : Int32) = nI 1 from rfl, pk_sub h3.1, x_let]
  obtain ⟨g, a1, a2⟩ := pr_8 hn hT hp (2 ^ n) 0 q_N (T.1 (52, 0, 0)) (fun z hz => by omega) (by omega) (by unfold q_N; omega)
  rw [w_row_id] at a1
  rw [show b_270_8 q_N (nI n) (nI (2 ^ n - 1)) 0 T = _ from a1]
  have hT1 : g_T Y V Z (q_row T (52, 0, 0) g) := g_T_scr hT (by omega)
  have hp1 : pr Y n H D O (q_row T (52, 0, 0) g) := fun i hi => by
    rw [w_row_ne (show ((49, 0, 0) : VA) ≠ (52, 0, 0) by decide)]
    exact hp i hi
  have s1 : ∀ s, s < 2 ^ n → (q_row T (52, 0, 0) g).1 (52, 0, 0) s = nI (sp D s n) := fun s hs => by
    rw [w_row_same]
    exact a2 s hs
  generalize q_row T (52, 0, 0) g = T1 at hT1 hp1 s1
  obtain ⟨le, F, b1, b2, b3⟩ := pr_72 hn hT1 hp1 s1 (2 ^ n) q_N (T1.2.1 (51, 0, 0)) (fun _ => 0) (Nat.le_refl _) (fun s h1 h2 => by omega) (fun z h1 h2 => by omega) (by unfold q_N; omega)
  have e1 : nI (2 ^ n) + (-1) = nI (2 ^ n - 1) := by
    obtain ⟨k, hk⟩ : ∃ k, 2 ^ n = k + 1 := ⟨2 ^ n - 1, by omega⟩
    rw [hk, pk_m1, Nat.add_sub_cancel]
  rw [l_id, e1] at b1
  refine ⟨_, F, b1, l_T hT1, fun i hi => ?_, s1, b2, fun z hz => ?_⟩
  · rw [l_ne (show ((50, 0, 0) : VA) ≠ (51, 0, 0) by decide)]
    exact hp1 i hi
  · rw [l_same]
    exact b3 z hz
