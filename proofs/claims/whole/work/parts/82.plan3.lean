/-! ===== the plan: which hives ===== -/
def tc (v : Nat → Nat → Int32) : Nat → Nat
  | 0 => 0
  | h + 1 => tc v h + (if v h 7 = 0 then 0 else 1)
theorem tc_0 {v : Nat → Nat → Int32} {h : Nat} (e : v h 7 = 0) : tc v (h + 1) = tc v h := by
  show tc v h + (if v h 7 = 0 then 0 else 1) = tc v h
  rw [if_pos e]
  rfl
theorem tc_1 {v : Nat → Nat → Int32} {h : Nat} (e : ¬ v h 7 = 0) : tc v (h + 1) = tc v h + 1 := by
  show tc v h + (if v h 7 = 0 then 0 else 1) = tc v h + 1
  rw [if_neg e]
theorem tc_le {v : Nat → Nat → Int32} : ∀ h, tc v h ≤ h
  | 0 => Nat.le_refl _
  | h + 1 => by
    have := tc_le (v := v) h
    by_cases e : v h 7 = 0
    · rw [tc_0 e]; omega
    · rw [tc_1 e]; omega
theorem tc_mono {v : Nat → Nat → Int32} {a : Nat} : ∀ {b : Nat}, a ≤ b → tc v a ≤ tc v b
  | 0, h => by
    have : a = 0 := by omega
    rw [this]; exact Nat.le_refl _
  | b + 1, h => by
    by_cases e : a = b + 1
    · rw [e]; exact Nat.le_refl _
    · have := tc_mono (v := v) (a := a) (b := b) (by omega)
      by_cases e : v b 7 = 0
      · rw [tc_0 e]; omega
      · rw [tc_1 e]; omega
theorem tc_sur {v : Nat → Nat → Int32} : ∀ (h k : Nat), k < tc v h → ∃ g, g < h ∧ ¬ v g 7 = 0 ∧ tc v g = k
  | 0, k, hk => by
    have : tc v 0 = 0 := rfl
    omega
  | h + 1, k, hk => by
    by_cases e : v h 7 = 0
    · rw [tc_0 e] at hk
      obtain ⟨g, g1, g2⟩ := tc_sur h k hk
      exact ⟨g, by omega, g2⟩
    · rw [tc_1 e] at hk
      by_cases e2 : k = tc v h
      · exact ⟨h, by omega, e, e2.symm⟩
      · obtain ⟨g, g1, g2⟩ := tc_sur (v := v) h k (by omega)
        exact ⟨g, by omega, g2⟩
theorem tc_lt {v : Nat → Nat → Int32} {g h : Nat} (hg : g < h) (e : ¬ v g 7 = 0) : tc v g < tc v h := by
  have h1 := tc_mono (v := v) (show g + 1 ≤ h by omega)
  rw [tc_1 e] at h1
  omega
/-- what hives have -/
theorem hv_7 {c : Nat} {Y : GA} (hW : g_W c Y) {h : Nat} (hh : h < g_n (Y 0 0 0)) : Y 1 h 7 = nI (g_n (Y 1 h 7)) ∧ g_n (Y 1 h 7) ≤ 30 := by
  have q := hW.2.2.2.2.2.2.2.2.2.1 h hh
  exact q.2.2.2.2.1
theorem hv_le {c : Nat} {Y : GA} (hW : g_W c Y) {h : Nat} (hh : h < g_n (Y 0 0 0)) : Y 1 h 7 ≤ 0 ↔ Y 1 h 7 = 0 := by
  have q := hv_7 hW hh
  have q2 := q.2
  rw [q.1, show (0 : Int32) = nI 0 from rfl, nI_leI (by omega) (by omega), nI_eq (by omega) (by omega)]
  omega
theorem hv_pos {x : Int32} (h : 0 ≤ x) : x = nI (g_n x) ∧ g_n x < 2 ^ 31 := by
  obtain ⟨j, hj, e⟩ := nI_of (x := x) (fun q => by
    rw [Int32.lt_iff_toInt_lt] at q
    rw [Int32.le_iff_toInt_le] at h
    omega)
  rw [e, g_n_nI hj]
  exact ⟨rfl, hj⟩
theorem pl_113 {c y : Nat} {Y V : GA} {X S : QS} (hW : g_W c Y) (hC : g_C y Y V X S) : ∀ (d h p : Nat), h + d = g_n (Y 0 0 0) → d < p → b_113_4 p y (nI (tc (Y 1) h)) (nI h) S = some (nI (tc (Y 1) (g_n (Y 0 0 0))), S)
  | d, h, 0, _, q => by omega
  | 0, h, p + 1, hd, q => by
    have n0 := hW.2.1.1
    have n02 := n0.2
    have e : h = g_n (Y 0 0 0) := by omega
    rw [b_113_4, c_n0 hC, if_pos (show Y 0 0 0 ≤ nI h by rw [n0.1]; exact nI_le (by omega) (by omega)), e]
  | d + 1, h, p + 1, hd, q => by
    have n0 := hW.2.1.1
    have n02 := n0.2
    rw [b_113_4, c_n0 hC, if_neg (show ¬ Y 0 0 0 ≤ nI h by rw [n0.1]; exact nI_ge (by omega) (by omega)), c_91 hC (by omega) (by omega), x_bd]
    dsimp only
    rw [c_h7 hC (by omega) (by omega)]
    unfold b_113_26
    rw [nI_1, nI_1]
    by_cases e : Y 1 h 7 = 0
    · rw [if_pos ((hv_le hW (by omega)).2 e), ← tc_0 e]
      exact pl_113 hW hC d (h + 1) p (by omega) (by omega)
    · rw [if_neg (fun z => e ((hv_le hW (by omega)).1 z)), ← tc_1 e]
      exact pl_113 hW hC d (h + 1) p (by omega) (by omega)
def wo (v : Nat → Nat → Int32) (h : Nat) : Prop := ∀ g, g < h → ¬ v g 7 = 0 → ¬ v g 6 = 0
def lk (v : Nat → Nat → Int32) (h : Nat) : Prop := ∃ g, g < h ∧ ¬ v g 7 = 0 ∧ v g 6 = 0
theorem pl_114 {c y : Nat} {Y V : GA} {X S : QS} (hW : g_W c Y) (hC : g_C y Y V X S) : ∀ (d h p : Nat), wo (Y 1) h → h + d = g_n (Y 0 0 0) → d < p → (b_114_2 p y (nI h) S = some (1, S) ∧ lk (Y 1) (g_n (Y 0 0 0))) ∨ (b_114_2 p y (nI h) S = some (0, S) ∧ wo (Y 1) (g_n (Y 0 0 0)))
  | d, h, 0, _, _, q => by omega
  | 0, h, p + 1, hw, hd, q => by
    have n0 := hW.2.1.1
    have n02 := n0.2
    have e : h = g_n (Y 0 0 0) := by omega
    rw [b_114_2, c_n0 hC, if_pos (show Y 0 0 0 ≤ nI h by rw [n0.1]; exact nI_le (by omega) (by omega)), ← e]
    exact Or.inr ⟨rfl, hw⟩
  | d + 1, h, p + 1, hw, hd, q => by
    have n0 := hW.2.1.1
    have n02 := n0.2
    rw [b_114_2, c_n0 hC, if_neg (show ¬ Y 0 0 0 ≤ nI h by rw [n0.1]; exact nI_ge (by omega) (by omega)), c_91 hC (by omega) (by omega), x_bd]
    dsimp only
    rw [c_h7 hC (by omega) (by omega), c_91 hC (by omega) (by omega), x_bd]
    dsimp only
    rw [c_h6 hC (by omega) (by omega)]
    unfold b_114_34
    rw [nI_1]
    by_cases e : Y 1 h 7 = 0
    · rw [if_pos ((hv_le hW (by omega)).2 e)]
      exact pl_114 hW hC d (h + 1) p (fun g hg e1 => by
        by_cases e2 : g = h
        · rw [e2] at e1; exact absurd e e1
        · exact hw g (by omega) e1) (by omega) (by omega)
    · rw [if_neg (fun z => e ((hv_le hW (by omega)).1 z))]
      by_cases e3 : Y 1 h 6 = 0
      · rw [if_neg (show ¬ ¬ Y 1 h 6 = 0 from fun z => z e3)]
        exact Or.inl ⟨rfl, h, by omega, e, e3⟩
      · rw [if_pos e3]
        exact pl_114 hW hC d (h + 1) p (fun g hg e1 => by
          by_cases e2 : g = h
          · rw [e2]; exact e3
          · exact hw g (by omega) e1) (by omega) (by omega)
/-- the reference gathers -/
def tl (v : Nat → Nat → Int32) (h : Nat) (f : Nat → Int32) : Prop := ∀ g, g < h → ¬ v g 7 = 0 → f (tc v g) = nI g
theorem tl_0 {v : Nat → Nat → Int32} {h : Nat} {f : Nat → Int32} (ht : tl v h f) (e : v h 7 = 0) : tl v (h + 1) f := fun g hg e1 => by
  by_cases e2 : g = h
  · rw [e2] at e1; exact absurd e e1
  · exact ht g (by omega) e1
theorem tl_1 {v : Nat → Nat → Int32} {h : Nat} {f : Nat → Int32} (ht : tl v h f) (e : ¬ v h 7 = 0) : tl v (h + 1) (upd f (tc v h) (nI h)) := fun g hg e1 => by
  by_cases e2 : g = h
  · rw [e2, pk_us]
  · have := tc_lt (v := v) (show g < h by omega) e1
    rw [pk_un (by omega)]
    exact ht g (by omega) e1
theorem pl_45 {c : Nat} {Y V : GA} {Z T : QS} (hW : g_W c Y) (hT : g_T Y V Z T) (x1 x2 : Int32) : ∀ (d h p : Nat) (f : Nat → Int32) (x4 : Int32), tl (Y 1) h f → ((x4 = 0 ∧ ¬ x2 = 0 ∧ wo (Y 1) h) ∨ (x4 = 1 ∧ (x2 = 0 ∨ lk (Y 1) h))) → h + d = g_n (Y 0 0 0) → d < p →
    ∃ f' x4', b_271_45 p x1 x2 (nI (tc (Y 1) h)) x4 (nI h) (q_row T (49, 0, 0) f) = b_271_45 1 x1 x2 (nI (tc (Y 1) (g_n (Y 0 0 0)))) x4' (nI (g_n (Y 0 0 0))) (q_row T (49, 0, 0) f') ∧ tl (Y 1) (g_n (Y 0 0 0)) f' ∧ ((x4' = 0 ∧ ¬ x2 = 0 ∧ wo (Y 1) (g_n (Y 0 0 0))) ∨ (x4' = 1 ∧ (x2 = 0 ∨ lk (Y 1) (g_n (Y 0 0 0)))))
  | d, h, 0, _, _, _, _, _, q => by omega
  | 0, h, p + 1, f, x4, hf, hx, hd, q => by
    have n0 := hW.2.1.1
    have n02 := n0.2
    have hT' : g_T Y V Z (q_row T (49, 0, 0) f) := g_T_scr hT (by omega)
    have e : h = g_n (Y 0 0 0) := by omega
    subst e
    refine ⟨f, x4, ?_, hf, hx⟩
    rw [b_271_45, b_271_45, w_i0, w_c0, t_n0 hT', x_ck, x_let, x_ck, x_let, if_pos (show Y 0 0 0 ≤ nI (g_n (Y 0 0 0)) by rw [← n0.1]; exact Int32.le_refl _), if_pos (show Y 0 0 0 ≤ nI (g_n (Y 0 0 0)) by rw [← n0.1]; exact Int32.le_refl _)]
  | d + 1, h, p + 1, f, x4, hf, hx, hd, q => by
    have n0 := hW.2.1.1
    have n02 := n0.2
    have hl := tc_le (v := Y 1) h
    have hT' : g_T Y V Z (q_row T (49, 0, 0) f) := g_T_scr hT (by omega)
    rw [b_271_45, w_i0, w_c0, t_n0 hT', x_ck, x_let, if_neg (show ¬ Y 0 0 0 ≤ nI h by rw [n0.1]; exact nI_ge (by omega) (by omega)), t_190_7 hT' (by omega), x_bd]
    unfold b_271_104 b_271_94 b_271_99 b_271_104
    by_cases e : Y 1 h 7 = 0
    · rw [if_neg (show ¬ ¬ Y 1 h 7 = 0 from fun z => z e), nI_1, ← tc_0 e]
      refine pl_45 hW hT x1 x2 d (h + 1) p f x4 (tl_0 hf e) ?_ (by omega) (by omega)
      rcases hx with ⟨a1, a2, a3⟩ | ⟨a1, a2⟩
      · exact Or.inl ⟨a1, a2, fun g hg e1 => by
          by_cases e2 : g = h
          · rw [e2] at e1; exact absurd e e1
          · exact a3 g (by omega) e1⟩
      · refine Or.inr ⟨a1, a2.imp id ?_⟩
        rintro ⟨g, g1, g2⟩
        exact ⟨g, by omega, g2⟩
    · have hT2 : g_T Y V Z (q_row T (49, 0, 0) (upd f (tc (Y 1) h) (nI h))) := g_T_scr hT (by omega)
      rw [if_pos e, w_in (show tc (Y 1) h < 40 by omega) (by omega), nI_clamp (show tc (Y 1) h < 2 ^ 31 by omega), x_ck, x_let, dp_set, t_190_6 hT2 (by omega), x_bd, nI_1, nI_1, ← tc_1 e]
      rcases hx with ⟨a1, a2, a3⟩ | ⟨a1, a2⟩
      · rw [a1, if_neg (by decide)]
        by_cases e6 : Y 1 h 6 = 0
        · rw [if_neg (show ¬ ¬ Y 1 h 6 = 0 from fun z => z e6)]
          exact pl_45 hW hT x1 x2 d (h + 1) p _ 1 (tl_1 hf e) (Or.inr ⟨rfl, Or.inr ⟨h, by omega, e, e6⟩⟩) (by omega) (by omega)
        · rw [if_pos e6]
          refine pl_45 hW hT x1 x2 d (h + 1) p _ 0 (tl_1 hf e) (Or.inl ⟨rfl, a2, fun g hg e1 => ?_⟩) (by omega) (by omega)
          by_cases e2 : g = h
          · rw [e2]; exact e6
          · exact a3 g (by omega) e1
      · rw [a1, if_pos (by decide)]
        refine pl_45 hW hT x1 x2 d (h + 1) p _ 1 (tl_1 hf e) (Or.inr ⟨rfl, a2.imp id ?_⟩) (by omega) (by omega)
        rintro ⟨g, g1, g2⟩
        exact ⟨g, by omega, g2⟩
/-- the day from which a hive is over -/
def ov (v : Nat → Nat → Int32) (a b g : Nat) : Nat := if a * g_n (v g 6) < g_n (v g 5) * b then 0 else (a * g_n (v g 6) - g_n (v g 5) * b) / (g_n (v g 8) * b) + 1
theorem ov_h {c : Nat} {Y : GA} (hW : g_W c Y) {g : Nat} (hg : g < g_n (Y 0 0 0)) (e7 : ¬ Y 1 g 7 = 0) : (Y 1 g 5 = nI (g_n (Y 1 g 5)) ∧ g_n (Y 1 g 5) < 2 ^ 31) ∧ (Y 1 g 6 = nI (g_n (Y 1 g 6)) ∧ g_n (Y 1 g 6) < 2 ^ 31) ∧ Y 1 g 8 = nI (g_n (Y 1 g 8)) ∧ 1 ≤ g_n (Y 1 g 8) ∧ g_n (Y 1 g 8) ≤ 1000 := by
  have q := hW.2.2.2.2.2.2.2.2.2.1 g hg
  have q8 := q.2.2.2.2.2.1
  refine ⟨hv_pos q.2.2.1, hv_pos q.2.2.2.1, q8.1, ?_, q8.2⟩
  have n8 := q.2.2.2.2.2.2.1 e7
  by_cases e : g_n (Y 1 g 8) = 0
  · exact absurd (by rw [q8.1, e]; rfl) n8
  · omega
theorem ov_lt {v : Nat → Nat → Int32} {a b g : Nat} (ha : a ≤ 10000) (h6 : g_n (v g 6) < 2 ^ 31) : ov v a b g < 2 ^ 62 := by
  have h1 : a * g_n (v g 6) ≤ 10000 * 2147483648 := Nat.mul_le_mul ha (by omega)
  unfold ov
  split
  · omega
  · have h2 := Nat.div_le_self (a * g_n (v g 6) - g_n (v g 5) * b) (g_n (v g 8) * b)
    omega
theorem ov_x {A M P : Nat} (hA : A < 2 ^ 60) (hM : M < 2 ^ 60) (h0 : 0 < P) (hP : P < 2 ^ 60) : (A < M → lN A - lN M < 0) ∧ (¬ A < M → ¬ lN A - lN M < 0 ∧ (lN A - lN M) / lN P + 1 = lN ((A - M) / P + 1)) := by
  refine ⟨fun h => l_neg (by omega) (by omega) h, fun h => ?_⟩
  rw [lN_sub (by omega), pk_lDiv (by omega) h0 (by omega), lN_1]
  refine ⟨fun q => ?_, rfl⟩
  rw [show (0 : Int64) = lN 0 from rfl, pk_lLT (by omega) (by omega)] at q
  omega
theorem ov_b {a b w m r : Nat} (ha : a ≤ 10000) (hb : b ≤ 10000) (hb1 : 1 ≤ b) (hw : w < 2 ^ 31) (hm : m < 2 ^ 31) (hr : r ≤ 1000) (hr1 : 1 ≤ r) : a * w < 2 ^ 60 ∧ m * b < 2 ^ 60 ∧ 0 < r * b ∧ r * b < 2 ^ 60 := by
  have h1 : a * w ≤ 10000 * 2147483648 := Nat.mul_le_mul ha (by omega)
  have h2 : m * b ≤ 2147483648 * 10000 := Nat.mul_le_mul (by omega) hb
  have h3 : r * b ≤ 1000 * 10000 := Nat.mul_le_mul hr hb
  have h4 : 1 * 1 ≤ r * b := Nat.mul_le_mul hr1 hb1
  omega
theorem pl_268 {c : Nat} {Y V : GA} {Z T : QS} {a b g : Nat} (hW : g_W c Y) (hT : g_T Y V Z T) (ha : a ≤ 10000) (hb : b ≤ 10000) (hb1 : 1 ≤ b) (hg : g < g_n (Y 0 0 0)) (e7 : ¬ Y 1 g 7 = 0) : f_268 (nI g) (nI a) (nI b) T = some (lN (ov (Y 1) a b g), T) := by
  have n02 := hW.2.1.1.2
  obtain ⟨⟨q5, r5⟩, ⟨q6, r6⟩, q8, r8, s8⟩ := ov_h hW hg e7
  obtain ⟨b1, b2, b3, b4⟩ := ov_b ha hb hb1 r6 r5 s8 r8
  obtain ⟨x1, x2⟩ := ov_x b1 b2 b3 b4
  unfold f_268
  rw [t_190_6 hT (by omega), x_bd, t_190_5 hT (by omega), x_bd, x_let, t_190_8 hT (by omega), x_bd, q5, q6, q8, nI_l (by omega), nI_l (by omega), nI_l (by omega), nI_l (by omega), nI_l (by omega), lN_mul, lN_mul, lN_mul, decide_eq_true (show ¬ lN (g_n (Y 1 g 8) * b) = 0 from fun z => by
    rw [show (0 : Int64) = lN 0 from rfl, pk_lEQ (by omega) (by omega)] at z
    omega), x_ck]
  unfold ov
  by_cases e : a * g_n (Y 1 g 6) < g_n (Y 1 g 5) * b
  · rw [if_pos e, if_neg (fun z => by
      have z1 := (lg_cmp_ge _ _).1 z
      have z2 := x1 e
      rw [Int64.le_iff_toInt_le] at z1
      rw [Int64.lt_iff_toInt_lt] at z2
      omega)]
    rfl
  · obtain ⟨y1, y2⟩ := x2 e
    rw [if_neg e, if_pos ((lg_cmp_ge _ _).2 (by
      rw [Int64.lt_iff_toInt_lt] at y1
      rw [Int64.le_iff_toInt_le]
      omega)), y2]
theorem pl_76 {c y : Nat} {Y V : GA} {X S : QS} {a b g : Nat} (hW : g_W c Y) (hC : g_C y Y V X S) (ha : a ≤ 10000) (hb : b ≤ 10000) (hb1 : 1 ≤ b) (hg : g < g_n (Y 0 0 0)) (e7 : ¬ Y 1 g 7 = 0) : f_76 y g (nI a) (nI b) S = some (nI (min (ov (Y 1) a b g) 100000), S) := by
  have n02 := hW.2.1.1.2
  obtain ⟨⟨q5, r5⟩, ⟨q6, r6⟩, q8, r8, s8⟩ := ov_h hW hg e7
  obtain ⟨b1, b2, b3, b4⟩ := ov_b ha hb hb1 r6 r5 s8 r8
  obtain ⟨x1, x2⟩ := ov_x b1 b2 b3 b4
  have hne : ¬ lN (g_n (Y 1 g 8) * b) = 0 := fun z => by
    rw [show (0 : Int64) = lN 0 from rfl, pk_lEQ (by omega) (by omega)] at z
    omega
  have hov := ov_lt (v := Y 1) (a := a) (b := b) (g := g) ha r6
  unfold f_76
  rw [c_h6 hC hg (by omega), c_h5 hC hg (by omega), c_h8 hC hg (by omega), q5, q6, q8, nI_l (by omega), nI_l (by omega), nI_l (by omega), nI_l (by omega), nI_l (by omega), lN_mul, lN_mul, lN_mul, x_let, x_let, decide_eq_true hne, x_ck]
  unfold ov at hov ⊢
  by_cases e : a * g_n (Y 1 g 6) < g_n (Y 1 g 5) * b
  · rw [if_pos e, if_pos ((lg_cmp_lt _ _).2 (x1 e))]
    rfl
  · rw [if_neg e] at hov
    obtain ⟨y1, y2⟩ := x2 e
    rw [if_neg e, if_neg (fun z => y1 ((lg_cmp_lt _ _).1 z)), if_pos (fun z => hne ((lg_cmp_eq _ _).1 z)), y2]
    by_cases e2 : 100000 < (a * g_n (Y 1 g 6) - g_n (Y 1 g 5) * b) / (g_n (Y 1 g 8) * b) + 1
    · rw [if_pos (show (100000 : Int64) < _ from (show lN 100000 < _ from (pk_lLT (by omega) (by omega)).2 e2)), x_let, Nat.min_eq_right (by omega)]
      rfl
    · rw [if_neg (show ¬ (100000 : Int64) < _ from (show ¬ lN 100000 < _ from fun z => e2 ((pk_lLT (by omega) (by omega)).1 z))), x_let, Nat.min_eq_left (by omega), lN_i]
