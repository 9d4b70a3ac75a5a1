/-! ===== kin: the class sorts ===== -/
def kp (n m : Nat) (P : Nat → Prop) (o : Nat → Nat) : Prop := (∀ i, i < m → o i < n ∧ P (o i)) ∧ (∀ i j, i < m → j < m → o i = o j → i = j) ∧ (∀ t, t < n → P t → ∃ i, i < m ∧ o i = t)
def ksr (Y : GA) (i : Nat) (o : Nat → Nat) : Prop := ∀ a b, a < b → b < i → kn_lt Y (o a) (o b)
def ksg (i j x : Nat) : Nat := if x < j then x else if x = j then i else if x ≤ i then x - 1 else x
theorem ksg_a {i j x : Nat} (h : x < j) : ksg i j x = x := if_pos h
theorem ksg_b {i j : Nat} : ksg i j j = i := by
  unfold ksg
  rw [if_neg (by omega), if_pos rfl]
theorem ksg_c {i j x : Nat} (h : j < x) (h' : x ≤ i) : ksg i j x = x - 1 := by
  unfold ksg
  rw [if_neg (by omega), if_neg (by omega), if_pos h']
theorem ksg_d {i j x : Nat} (h : j ≤ i) (h' : i < x) : ksg i j x = x := by
  unfold ksg
  rw [if_neg (by omega), if_neg (by omega), if_neg (by omega)]
theorem ksg_k {i j : Nat} (h : j ≤ i) (x : Nat) : (x < j ∧ ksg i j x = x) ∨ (x = j ∧ ksg i j x = i) ∨ (j < x ∧ x ≤ i ∧ ksg i j x = x - 1) ∨ (i < x ∧ ksg i j x = x) := by
  by_cases h1 : x < j
  · exact Or.inl ⟨h1, ksg_a h1⟩
  · by_cases h2 : x = j
    · subst h2; exact Or.inr (Or.inl ⟨rfl, ksg_b⟩)
    · by_cases h3 : x ≤ i
      · exact Or.inr (Or.inr (Or.inl ⟨by omega, h3, ksg_c (by omega) h3⟩))
      · exact Or.inr (Or.inr (Or.inr ⟨by omega, ksg_d h (by omega)⟩))
theorem kp_sg {n m i j : Nat} {P : Nat → Prop} {o : Nat → Nat} (h : kp n m P o) (hj : j ≤ i) (hi : i < m) : kp n m P (fun x => o (ksg i j x)) := by
  obtain ⟨h1, h2, h3⟩ := h
  refine ⟨?_, ?_, ?_⟩
  · intro x hx
    have := ksg_k hj x
    exact h1 (ksg i j x) (by omega)
  · intro x z hx hz e
    have k1 := ksg_k hj x
    have k2 := ksg_k hj z
    have e' := h2 (ksg i j x) (ksg i j z) (by omega) (by omega) e
    omega
  · intro t ht hp
    obtain ⟨z, z1, z2⟩ := h3 t ht hp
    by_cases c1 : z < j
    · exact ⟨z, z1, by show o (ksg i j z) = t; rw [ksg_a c1]; exact z2⟩
    · by_cases c2 : z = i
      · exact ⟨j, by omega, by show o (ksg i j j) = t; rw [ksg_b, ← c2]; exact z2⟩
      · by_cases c3 : z < i
        · exact ⟨z + 1, by omega, by show o (ksg i j (z + 1)) = t; rw [ksg_c (by omega) (by omega), Nat.add_sub_cancel]; exact z2⟩
        · exact ⟨z, z1, by show o (ksg i j z) = t; rw [ksg_d hj (by omega)]; exact z2⟩
theorem ksr_sg {Y : GA} {i j : Nat} {o : Nat → Nat} (h : ksr Y i o) (hj : j ≤ i) (hl : ∀ x, x < j → kn_lt Y (o x) (o i)) (hh : ∀ x, j ≤ x → x < i → kn_lt Y (o i) (o x)) : ksr Y (i + 1) (fun x => o (ksg i j x)) := by
  intro a b hab hb
  show kn_lt Y (o (ksg i j a)) (o (ksg i j b))
  rcases ksg_k hj a with ⟨a1, a2⟩ | ⟨a1, a2⟩ | ⟨a1, a3, a2⟩ | ⟨a1, a2⟩ <;> rcases ksg_k hj b with ⟨b1, b2⟩ | ⟨b1, b2⟩ | ⟨b1, b3, b2⟩ | ⟨b1, b2⟩ <;> rw [a2, b2]
  · exact h a b (by omega) (by omega)
  · exact hl a a1
  · exact h a (b - 1) (by omega) (by omega)
  · omega
  · omega
  · omega
  · exact hh (b - 1) (by omega) (by omega)
  · omega
  · omega
  · omega
  · exact h (a - 1) (b - 1) (by omega) (by omega)
  · omega
  · omega
  · omega
  · omega
  · omega
theorem kn_tr {Y : GA} {a b c : Nat} (h : kn_lt Y a b) (h' : kn_lt Y b c) : kn_lt Y a c := by
  unfold kn_lt at h h' ⊢
  omega
theorem kn_to {Y : GA} {a b : Nat} (h : a ≠ b) (h' : ¬ kn_lt Y a b) : kn_lt Y b a := by
  unfold kn_lt at h' ⊢
  omega
theorem ks_68 {c y : Nat} {Y V : GA} {X S : QS} {a b : Nat} (hW : g_W c Y) (hC : g_C y Y V X S) (ha : a < g_n (Y 0 2 0)) (hb : b < g_n (Y 0 2 0)) : (kn_lt Y b a ∧ f_68 y (nI a) (nI b) S = some (1, S)) ∨ (¬ kn_lt Y b a ∧ f_68 y (nI a) (nI b) S = some (0, S)) := by
  have n22 := hW.2.1.2.2.1.2
  obtain ⟨ea1, ea2, ea3⟩ := dp_E_W hW ha
  obtain ⟨eb1, eb2, eb3⟩ := dp_E_W hW hb
  unfold f_68 b_68_39
  rw [c_93 hC ha (by omega), x_bd]
  dsimp only
  rw [c_d hC ha (by omega), x_let, c_93 hC hb (by omega), x_bd]
  dsimp only
  rw [c_d hC hb (by omega), x_let, ea3, eb3]
  by_cases h1 : g_n (Y 8 b 0) < g_n (Y 8 a 0)
  · rw [if_pos (nI_lt h1 (by omega))]
    exact Or.inl ⟨Or.inl h1, rfl⟩
  · rw [if_neg (nI_nlt (by omega) (by omega))]
    by_cases h2 : g_n (Y 8 a 0) = g_n (Y 8 b 0)
    · rw [if_neg (fun q => q (by rw [h2]))]
      by_cases h3 : a ≤ b
      · rw [if_pos (nI_le h3 (by omega))]
        refine Or.inr ⟨?_, rfl⟩
        unfold kn_lt
        omega
      · rw [if_neg (nI_ge (by omega) (by omega))]
        refine Or.inl ⟨?_, rfl⟩
        unfold kn_lt
        omega
    · rw [if_pos (fun q => h2 ((nI_eq (by omega) (by omega)).1 q))]
      refine Or.inr ⟨?_, rfl⟩
      unfold kn_lt
      omega
/-- one more thing is put where it belongs -/
theorem ks_20 {c y : Nat} {Y V : GA} {X S : QS} {n m i : Nat} {o : Nat → Nat} {P : Nat → Prop} (hW : g_W c Y) (hn : n = g_n (Y 0 2 0)) (hC : g_C y Y V X S) (ho : kp n m P o) (hm : m ≤ 200) (hi : i < m) (hs : ksr Y i o) (bk : Nat → Int32 → QS → Option ((Unit) × QS)) : ∀ (j p : Nat) (f : Nat → Int32), j ≤ i → (∀ x, x < j → f x = nI (o x)) → (∀ x, j < x → x ≤ i → f x = nI (o (x - 1))) → (∀ x, i < x → x < m → f x = nI (o x)) → (∀ x, j ≤ x → x < i → kn_lt Y (o i) (o x)) → j < p →
    ∃ f' j', b_67_20 bk p y (nI i) (nI (o i)) (nI j) (q_row S (28, 0, 0) f) = bk y (nI (i + 1)) (q_row S (28, 0, 0) f') ∧ j' ≤ i ∧ (∀ x, x < m → f' x = nI (o (ksg i j' x))) ∧ (∀ x, x < j' → kn_lt Y (o x) (o i)) ∧ (∀ x, j' ≤ x → x < i → kn_lt Y (o i) (o x))
  | j, 0, _, _, _, _, _, _, h => by omega
  | j, p + 1, f, hj, f1, f2, f3, hh, h => by
    have n22 := hW.2.1.2.2.1.2
    have fin : (∀ x, x < j → kn_lt Y (o x) (o i)) → ∃ f' j', b_67_65 bk y (nI i) (nI (o i)) (nI j) (q_row S (28, 0, 0) f) = bk y (nI (i + 1)) (q_row S (28, 0, 0) f') ∧ j' ≤ i ∧ (∀ x, x < m → f' x = nI (o (ksg i j' x))) ∧ (∀ x, x < j' → kn_lt Y (o x) (o i)) ∧ (∀ x, j' ≤ x → x < i → kn_lt Y (o i) (o x)) := by
      intro hl
      unfold b_67_65
      rw [w_in (by omega) (by omega), nI_clamp (by omega), x_ck, x_let, dp_set, nI_1]
      refine ⟨_, j, rfl, hj, ?_, hl, hh⟩
      intro x hx
      rcases ksg_k hj x with ⟨a1, a2⟩ | ⟨a1, a2⟩ | ⟨a1, a3, a2⟩ | ⟨a1, a2⟩ <;> rw [a2]
      · rw [pk_un (by omega)]; exact f1 x a1
      · rw [a1, pk_us]
      · rw [pk_un (by omega)]; exact f2 x a1 a3
      · rw [pk_un (by omega)]; exact f3 x a1 hx
    rw [b_67_20]
    cases j with
    | zero =>
      rw [if_pos (show nI 0 ≤ 0 by decide)]
      exact fin (fun x hx => by omega)
    | succ j =>
      have hC' : g_C y Y V X (q_row S (28, 0, 0) f) := g_C_scr hC (by omega)
      have oi := (ho.1 i hi).1
      have oj := (ho.1 j (by omega)).1
      rw [if_neg (nI_nle (by omega) (by omega)), nI_pred, w_in (by omega) (by omega), nI_clamp (by omega), x_ck, x_let, w_row_same, f1 j (by omega)]
      rcases ks_68 (a := o j) (b := o i) hW hC' (by omega) (by omega) with ⟨q1, q2⟩ | ⟨q1, q2⟩
      · rw [q2, x_bd, if_neg (by decide), x_ck, x_let, w_row_same, f1 j (by omega), w_in (by omega) (by omega), nI_clamp (by omega), x_ck, x_let, dp_set, pk_m1]
        refine ks_20 hW hn hC ho hm hi hs bk j p _ (by omega) ?_ ?_ ?_ ?_ (by omega)
        · intro x hx
          rw [pk_un (by omega)]
          exact f1 x (by omega)
        · intro x h1 h2
          by_cases e : x = j + 1
          · rw [e, pk_us, Nat.add_sub_cancel]
          · rw [pk_un e]
            exact f2 x (by omega) h2
        · intro x h1 h2
          rw [pk_un (by omega)]
          exact f3 x h1 h2
        · intro x h1 h2
          by_cases e : x = j
          · rw [e]; exact q1
          · exact hh x (by omega) h2
      · rw [q2, x_bd, if_pos rfl]
        have hlt : kn_lt Y (o j) (o i) := kn_to (fun e => by
          have := ho.2.1 i j hi (by omega) e
          omega) q1
        refine fin (fun x hx => ?_)
        by_cases e : x = j
        · rw [e]; exact hlt
        · exact kn_tr (hs x j (by omega) (by omega)) hlt
theorem ks_2 {c y : Nat} {Y V : GA} {X S : QS} {n m : Nat} {P : Nat → Prop} (hW : g_W c Y) (hn : n = g_n (Y 0 2 0)) (hC : g_C y Y V X S) (hm : m ≤ 200) (h5 : S.1 (5, 0, 0) 4 = nI m) : ∀ (d k p : Nat) (f : Nat → Int32) (o : Nat → Nat), kp n m P o → ksr Y k o → (∀ x, x < m → f x = nI (o x)) → k + d = m → d < p →
    ∃ f' o', b_67_2 p y (nI k) (q_row S (28, 0, 0) f) = b_67_81 q_N 0 (q_row S (28, 0, 0) f') ∧ kp n m P o' ∧ ksr Y m o' ∧ (∀ x, x < m → f' x = nI (o' x))
  | d, k, 0, _, _, _, _, _, _, h => by omega
  | 0, k, p + 1, f, o, ho, hs, hf, hd, h => by
    rw [b_67_2, w_row_ne (by decide), h5, if_pos (nI_le (by omega) (by omega))]
    have : k = m := by omega
    subst this
    exact ⟨f, o, rfl, ho, hs, hf⟩
  | d + 1, k, p + 1, f, o, ho, hs, hf, hd, h => by
    rw [b_67_2, w_row_ne (by decide), h5, if_neg (nI_ge (by omega) (by omega)), w_in (by omega) (by omega), nI_clamp (by omega), x_ck, x_let, w_row_same, hf k (by omega)]
    obtain ⟨f', j, a1, a2, a3, a4, a5⟩ := ks_20 hW hn hC ho hm (show k < m by omega) hs (b_67_2 p) k q_N f (Nat.le_refl _) (fun x hx => hf x (by omega)) (fun x h1 h2 => by omega) (fun x h1 h2 => hf x h2) (fun x h1 h2 => by omega) (by unfold q_N; omega)
    rw [a1]
    exact ks_2 hW hn hC hm h5 d (k + 1) p f' (fun x => o (ksg k j x)) (kp_sg ho a2 (by omega)) (ksr_sg hs a2 a4 a5) a3 (by omega) (by omega)
theorem ks_81 {S : QS} {n m : Nat} {o : Nat → Nat} {P : Nat → Prop} (hn : n ≤ 200) (hm : m ≤ 200) (ho : kp n m P o) (h5 : S.1 (5, 0, 0) 4 = nI m) (h28 : ∀ x, x < m → S.1 (28, 0, 0) x = nI (o x)) : ∀ (d k p : Nat) (r : Nat → Int32), (∀ x, x < k → r (o x) = nI x) → k + d = m → d < p →
    ∃ r', b_67_81 p (nI k) (q_row S (29, 0, 0) r) = some ((), q_row S (29, 0, 0) r') ∧ (∀ x, x < m → r' (o x) = nI x)
  | d, k, 0, _, _, _, h => by omega
  | 0, k, p + 1, r, hr, hd, h => by
    rw [b_67_81, w_row_ne (by decide), h5, if_pos (nI_le (by omega) (by omega))]
    exact ⟨r, rfl, fun x hx => hr x (by omega)⟩
  | d + 1, k, p + 1, r, hr, hd, h => by
    have ok := (ho.1 k (by omega)).1
    rw [b_67_81, w_row_ne (by decide), h5, if_neg (nI_ge (by omega) (by omega)), w_in (by omega) (by omega), nI_clamp (by omega), x_ck, x_let, w_row_ne (by decide), h28 k (by omega), w_in (by omega) (by omega), nI_clamp (by omega), x_ck, x_let, dp_set, nI_1]
    refine ks_81 hn hm ho h5 h28 d (k + 1) p _ (fun x hx => ?_) (by omega) (by omega)
    by_cases e : x = k
    · rw [e, pk_us]
    · rw [pk_un (fun q => e (ho.2.1 x k (by omega) (by omega) q))]
      exact hr x (by omega)
/-- sorted, with ranks -/
theorem ks_67 {c y : Nat} {Y V : GA} {X S : QS} {m : Nat} (hW : g_W c Y) (hC : g_C y Y V X S) (hg : kg (g_n (Y 0 2 0)) m S) (h1 : 1 ≤ m) : ∃ S' o, f_67 y S = some ((), S') ∧ g_C y Y V X S' ∧ S'.1 (5, 0, 0) 4 = nI m ∧ kp (g_n (Y 0 2 0)) m (fun t => S.1 (26, 0, 0) t = 1) o ∧ ksr Y m o ∧ (∀ x, x < m → S'.1 (28, 0, 0) x = nI (o x)) ∧ (∀ x, x < m → S'.1 (29, 0, 0) (o x) = nI x) := by
  have n22 := hW.2.1.2.2.1.2
  have hle := kg_le hg
  obtain ⟨h5, g2, g3, g4, g5, g6⟩ := hg
  have e28 : ∀ x, x < m → S.1 (28, 0, 0) x = nI (g_n (S.1 (28, 0, 0) x)) := fun x hx => by
    obtain ⟨t, t1, t2, t3⟩ := g4 x hx
    rw [t2, g_n_nI (by omega)]
  have ho : kp (g_n (Y 0 2 0)) m (fun t => S.1 (26, 0, 0) t = 1) (fun x => g_n (S.1 (28, 0, 0) x)) := by
    refine ⟨?_, ?_, ?_⟩
    · intro i hi
      obtain ⟨t, t1, t2, t3⟩ := g4 i hi
      show g_n (S.1 (28, 0, 0) i) < _ ∧ S.1 (26, 0, 0) (g_n (S.1 (28, 0, 0) i)) = 1
      rw [t2, g_n_nI (by omega)]
      exact ⟨t1, t3⟩
    · intro i j hi hj e
      refine g5 i j hi hj ?_
      rw [e28 i hi, e28 j hj]
      exact congrArg nI e
    · intro t ht hp
      obtain ⟨i, i1, i2⟩ := g6 t ht hp
      refine ⟨i, i1, ?_⟩
      show g_n (S.1 (28, 0, 0) i) = t
      rw [i2, g_n_nI (by omega)]
  unfold f_67
  obtain ⟨f, o, a1, a2, a3, a4⟩ := ks_2 (S := S) hW rfl hC (show m ≤ 200 by omega) h5 (m - 1) 1 q_N (S.1 (28, 0, 0)) _ ho (fun a b h1 h2 => by omega) e28 (by omega) (by unfold q_N; omega)
  rw [w_row_id] at a1
  rw [show b_67_2 q_N y 1 S = _ from a1]
  have hC' : g_C y Y V X (q_row S (28, 0, 0) f) := g_C_scr hC (by omega)
  have k5 : (q_row S (28, 0, 0) f).1 (5, 0, 0) 4 = nI m := by rw [w_row_ne (by decide)]; exact h5
  have k28 : ∀ x, x < m → (q_row S (28, 0, 0) f).1 (28, 0, 0) x = nI (o x) := fun x hx => by rw [w_row_same]; exact a4 x hx
  generalize q_row S (28, 0, 0) f = S1 at hC' k5 k28
  obtain ⟨r, b1, b2⟩ := ks_81 (S := S1) n22 (show m ≤ 200 by omega) a2 k5 k28 m 0 q_N (S1.1 (29, 0, 0)) (fun x hx => by omega) (by omega) (by unfold q_N; omega)
  rw [w_row_id] at b1
  refine ⟨_, o, b1, g_C_scr hC' (by omega), ?_, a2, a3, ?_, ?_⟩
  · rw [w_row_ne (by decide)]; exact k5
  · intro x hx
    rw [w_row_ne (by decide)]
    exact k28 x hx
  · intro x hx
    rw [w_row_same]
    exact b2 x hx
