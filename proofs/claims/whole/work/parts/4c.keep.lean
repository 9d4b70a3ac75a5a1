/-! ===== one step back: the class's yard before becomes the yard now ===== -/
def g_D (S S' : QS) : Prop := S'.2.2.1.1 = S.2.2.1.1 ∧ S'.2.2.1.2.1 = S.2.2.1.2.1 ∧ (∀ a b, S.2.2.1.2.2.1 a b = true → S'.2.2.1.2.2.1 a b = true) ∧ (∀ a b, S.2.2.1.2.2.2.1 a b = true → S'.2.2.1.2.2.2.1 a b = true) ∧ (∀ a b, S.2.2.1.2.2.2.2.1 a b = true → S'.2.2.1.2.2.2.2.1 a b = true) ∧ (g_room S → g_room S')
theorem g_D_refl (S : QS) : g_D S S := ⟨rfl, rfl, fun _ _ h => h, fun _ _ h => h, fun _ _ h => h, fun h => h⟩
theorem g_D_eq {S S' : QS} (e : S'.2 = S.2) : g_D S S' := by
  refine ⟨by rw [e], by rw [e], by rw [e]; exact fun _ _ h => h, by rw [e]; exact fun _ _ h => h, by rw [e]; exact fun _ _ h => h, ?_⟩
  unfold g_room
  rw [e]
  exact fun h => h
theorem g_D_trans {S S' S'' : QS} (h : g_D S S') (g : g_D S' S'') : g_D S S'' := ⟨g.1.trans h.1, g.2.1.trans h.2.1, fun a b q => g.2.2.1 a b (h.2.2.1 a b q), fun a b q => g.2.2.2.1 a b (h.2.2.2.1 a b q), fun a b q => g.2.2.2.2.1 a b (h.2.2.2.2.1 a b q), fun q => g.2.2.2.2.2 (h.2.2.2.2.2 q)⟩
theorem g_cu_eq {f g : Nat → Bool} : ∀ n, (∀ j, j < n → g j = f j) → g_cu f n = g_cu g n
  | 0, _ => rfl
  | n + 1, h => by
    unfold g_cu
    rw [g_cu_eq n (fun j hj => h j (by omega)), h n (by omega)]
theorem g_cu_new {f g : Nat → Bool} {k : Nat} (hf : f k = false) (hg : g k = true) (ho : ∀ j, j ≠ k → g j = f j) : ∀ n, k < n → g_cu f n = g_cu g n + 1
  | 0, h => by omega
  | n + 1, h => by
    unfold g_cu
    by_cases e : k = n
    · subst e
      rw [g_cu_eq k (fun j hj => ho j (by omega)), hf, hg]
      rfl
    · rw [g_cu_new hf hg ho n (by omega), ho n (fun q => e q.symm)]
      omega
theorem g_cu_two {F G : Nat → Nat → Bool} {y k N : Nat} (hy : y < 2) (hk : k < N) (hf : F y k = false) (hG : G = fun a b => if a = y ∧ b = k then true else F a b) : g_cu (F 0) N + g_cu (F 1) N = g_cu (G 0) N + g_cu (G 1) N + 1 := by
  have e : ∀ a b, G a b = if a = y ∧ b = k then true else F a b := fun a b => by rw [hG]
  have h0 : y = 0 ∨ y = 1 := by omega
  rcases h0 with h0 | h0
  · subst h0
    rw [g_cu_new (g := G 0) hf (by rw [e, if_pos ⟨rfl, rfl⟩]) (fun j hj => by rw [e, if_neg (fun q => hj q.2)]) N hk, g_cu_eq (f := F 1) (g := G 1) N (fun j _ => by rw [e, if_neg (fun q => by omega)])]
    omega
  · subst h0
    rw [g_cu_new (g := G 1) hf (by rw [e, if_pos ⟨rfl, rfl⟩]) (fun j hj => by rw [e, if_neg (fun q => hj q.2)]) N hk, g_cu_eq (f := F 0) (g := G 0) N (fun j _ => by rw [e, if_neg (fun q => by omega)])]
    omega
theorem g_fl {b : Bool} (h : ¬ b = true) : b = false := by
  cases b
  · rfl
  · exact absurd rfl h
theorem n_91 {y k : Nat} (hy : y < 2) (hk : k < 40) (S : QS) : ∃ S', f_91 y (nI k) S = some ((y, k), S') ∧ (∀ a, a ≠ (4, y, k) → a ≠ (25, y, k) → S'.1 a = S.1 a) ∧ g_D S S' ∧ S'.2.2.1.2.2.1 y k = true := by
  unfold f_91
  rw [w_in hk (by omega), nI_clamp (by omega), w_ck]
  by_cases h : S.2.2.1.2.2.1 y k = true
  · rw [if_pos h]
    exact ⟨S, rfl, fun _ _ _ => rfl, g_D_refl S, h⟩
  · rw [if_neg h]
    refine ⟨_, rfl, ?_, ⟨rfl, rfl, ?_, fun _ _ q => q, fun _ _ q => q, ?_⟩, ?_⟩
    · intro a h1 h2
      show (q_row _ (4, y, k) _).1 a = _
      rw [w_row_ne h1]
      show (if a = (25, y, k) then _ else if a = (4, y, k) then _ else S.1 a) = S.1 a
      rw [if_neg h2, if_neg h1]
    · intro a b q
      show (if a = y ∧ b = k then true else S.2.2.1.2.2.1 a b) = true
      rw [q]
      split <;> rfl
    · intro r
      obtain ⟨r1, r2, r3, r4, r5⟩ := r
      have e : g_uh S.2.2.1 = g_uh (q_newH S y k).2.2.1 + 1 := g_cu_two hy hk (g_fl h) rfl
      refine ⟨?_, ?_, r3, r4, r5⟩
      · show S.2.2.2.1 + 1 + 1 + 2 * g_uh (q_newH S y k).2.2.1 + 2 * g_uf S.2.2.1 + g_ut S.2.2.1 ≤ 1412 + S.2.2.1.2.2.2.2.2.1
        omega
      · show S.2.2.2.2 + 12 + 96 + 108 * g_uh (q_newH S y k).2.2.1 + 66 * g_uf S.2.2.1 + 9 * g_ut S.2.2.1 ≤ 122329 + 2 * S.2.2.1.2.2.2.2.2.1
        omega
    · show (if y = y ∧ k = k then true else S.2.2.1.2.2.1 y k) = true
      rw [if_pos ⟨rfl, rfl⟩]
theorem n_92 {y k : Nat} (hy : y < 2) (hk : k < 200) (S : QS) : ∃ S', f_92 y (nI k) S = some ((y, k), S') ∧ (∀ a, a ≠ (3, y, k) → a ≠ (24, y, k) → S'.1 a = S.1 a) ∧ g_D S S' ∧ S'.2.2.1.2.2.2.1 y k = true := by
  unfold f_92
  rw [w_in hk (by omega), nI_clamp (by omega), w_ck]
  by_cases h : S.2.2.1.2.2.2.1 y k = true
  · rw [if_pos h]
    exact ⟨S, rfl, fun _ _ _ => rfl, g_D_refl S, h⟩
  · rw [if_neg h]
    refine ⟨_, rfl, ?_, ⟨rfl, rfl, fun _ _ q => q, ?_, fun _ _ q => q, ?_⟩, ?_⟩
    · intro a h1 h2
      show (if a = (24, y, k) then _ else if a = (3, y, k) then _ else S.1 a) = S.1 a
      rw [if_neg h2, if_neg h1]
    · intro a b q
      show (if a = y ∧ b = k then true else S.2.2.1.2.2.2.1 a b) = true
      rw [q]
      split <;> rfl
    · intro r
      obtain ⟨r1, r2, r3, r4, r5⟩ := r
      have e : g_uf S.2.2.1 = g_uf (q_newF S y k).2.2.1 + 1 := g_cu_two hy hk (g_fl h) rfl
      refine ⟨?_, ?_, r3, r4, r5⟩
      · show S.2.2.2.1 + 1 + 1 + 2 * g_uh S.2.2.1 + 2 * g_uf (q_newF S y k).2.2.1 + g_ut S.2.2.1 ≤ 1412 + S.2.2.1.2.2.2.2.2.1
        omega
      · show S.2.2.2.2 + 2 + 64 + 108 * g_uh S.2.2.1 + 66 * g_uf (q_newF S y k).2.2.1 + 9 * g_ut S.2.2.1 ≤ 122329 + 2 * S.2.2.1.2.2.2.2.2.1
        omega
    · show (if y = y ∧ k = k then true else S.2.2.1.2.2.2.1 y k) = true
      rw [if_pos ⟨rfl, rfl⟩]
theorem n_93 {y k : Nat} (hy : y < 2) (hk : k < 200) (S : QS) : ∃ S', f_93 y (nI k) S = some ((y, k), S') ∧ (∀ a, a ≠ (8, y, k) → S'.1 a = S.1 a) ∧ g_D S S' ∧ S'.2.2.1.2.2.2.2.1 y k = true := by
  unfold f_93
  rw [w_in hk (by omega), nI_clamp (by omega), w_ck]
  by_cases h : S.2.2.1.2.2.2.2.1 y k = true
  · rw [if_pos h]
    exact ⟨S, rfl, fun _ _ => rfl, g_D_refl S, h⟩
  · rw [if_neg h]
    refine ⟨_, rfl, ?_, ⟨rfl, rfl, fun _ _ q => q, fun _ _ q => q, ?_, ?_⟩, ?_⟩
    · intro a h1
      show (q_row _ (8, y, k) _).1 a = _
      rw [w_row_ne h1]
      show (if a = (8, y, k) then _ else S.1 a) = S.1 a
      rw [if_neg h1]
    · intro a b q
      show (if a = y ∧ b = k then true else S.2.2.1.2.2.2.2.1 a b) = true
      rw [q]
      split <;> rfl
    · intro r
      obtain ⟨r1, r2, r3, r4, r5⟩ := r
      have e : g_ut S.2.2.1 = g_ut (q_newT S y k).2.2.1 + 1 := g_cu_two hy hk (g_fl h) rfl
      refine ⟨?_, ?_, r3, r4, r5⟩
      · show S.2.2.2.1 + 1 + 2 * g_uh S.2.2.1 + 2 * g_uf S.2.2.1 + g_ut (q_newT S y k).2.2.1 ≤ 1412 + S.2.2.1.2.2.2.2.2.1
        omega
      · show S.2.2.2.2 + 9 + 108 * g_uh S.2.2.1 + 66 * g_uf S.2.2.1 + 9 * g_ut (q_newT S y k).2.2.1 ≤ 122329 + 2 * S.2.2.1.2.2.2.2.2.1
        omega
    · show (if y = y ∧ k = k then true else S.2.2.1.2.2.2.2.1 y k) = true
      rw [if_pos ⟨rfl, rfl⟩]
/-- slot by slot -/
def g_cp (S0 : QS) (a b : VA) (lo n : Nat) (S : QS) : Prop := (∀ c, c ≠ a → S.1 c = S0.1 c) ∧ (∀ s, lo ≤ s → s < n → S.1 a s = S0.1 b s) ∧ S.2 = S0.2
theorem g_cp0 (S : QS) (a b : VA) (lo : Nat) : g_cp S a b lo lo S := ⟨fun _ _ => rfl, fun s h1 h2 => by omega, rfl⟩
theorem g_cp1 {S0 S : QS} {a b : VA} {lo n : Nat} (hab : b ≠ a) (h : g_cp S0 a b lo n S) : ∃ S1, q_set S a n (S.1 b n) = S1 ∧ g_cp S0 a b lo (n + 1) S1 := by
  refine ⟨_, rfl, ?_, ?_, h.2.2⟩
  · intro c hc
    rw [g_set_a hc]
    exact h.1 c hc
  · intro s h1 h2
    rw [g_set1]
    by_cases e : s = n
    · subst e
      rw [if_pos ⟨rfl, rfl⟩, h.1 b hab]
    · rw [if_neg (fun q => e q.2)]
      exact h.2.1 s h1 (by omega)
theorem n_44 {y z k : Nat} (hyz : y ≠ z) (S : QS) : ∃ S', f_44 z k y k S = some ((), S') ∧ (∀ a, a ≠ (4, z, k) → a ≠ (25, z, k) → S'.1 a = S.1 a) ∧ (∀ s, 1 ≤ s → s < 12 → S'.1 (4, z, k) s = S.1 (4, y, k) s) ∧ (∀ i, i < 96 → S'.1 (25, z, k) i = S.1 (25, y, k) i) ∧ S'.2 = S.2 := by
  unfold f_44
  rw [show (decide (¬ (0 : Int32) < 0) && decide (¬ (0 : Int32) < 0) && decide (¬ (96 : Int32) < 0) && decide ((0 : Int32).toNatClampNeg + (96 : Int32).toNatClampNeg ≤ 96) && decide ((0 : Int32).toNatClampNeg + (96 : Int32).toNatClampNeg ≤ 96)) = true from by decide, w_ck, show (0 : Int32).toNatClampNeg = 0 from rfl, show (96 : Int32).toNatClampNeg = 96 from rfl]
  obtain ⟨S1, e1, h1⟩ : ∃ S1, q_row S (25, z, k) (va_cpy (S.1 (25, y, k)) (S.1 (25, z, k)) 0 0 96) = S1 ∧ (∀ a, a ≠ (25, z, k) → S1.1 a = S.1 a) ∧ (∀ i, i < 96 → S1.1 (25, z, k) i = S.1 (25, y, k) i) ∧ S1.2 = S.2 := by
    refine ⟨_, rfl, fun a ha => w_row_ne ha, ?_, rfl⟩
    intro i hi
    rw [w_row_same]
    unfold va_cpy
    rw [if_pos ⟨by omega, by omega⟩, Nat.zero_add, Nat.sub_zero]
  have hab : ((4, y, k) : VA) ≠ (4, z, k) := fun q => hyz (by injection q with q1 q2; injection q2)
  rw [e1, w_let]
  have p0 := g_cp0 S1 (4, z, k) (4, y, k) 1
  obtain ⟨S2, e2, p2⟩ := g_cp1 hab p0
  rw [e2, w_let]
  obtain ⟨S3, e3, p3⟩ := g_cp1 hab p2
  rw [e3, w_let]
  obtain ⟨S4, e4, p4⟩ := g_cp1 hab p3
  rw [e4, w_let]
  obtain ⟨S5, e5, p5⟩ := g_cp1 hab p4
  rw [e5, w_let]
  obtain ⟨S6, e6, p6⟩ := g_cp1 hab p5
  rw [e6, w_let]
  obtain ⟨S7, e7, p7⟩ := g_cp1 hab p6
  rw [e7, w_let]
  obtain ⟨S8, e8, p8⟩ := g_cp1 hab p7
  rw [e8, w_let]
  obtain ⟨S9, e9, p9⟩ := g_cp1 hab p8
  rw [e9, w_let]
  obtain ⟨Sa, ea, pa⟩ := g_cp1 hab p9
  rw [ea, w_let]
  obtain ⟨Sb, eb, pb⟩ := g_cp1 hab pa
  rw [eb, w_let]
  obtain ⟨Sc, ec, pc⟩ := g_cp1 hab pb
  rw [ec, w_let]
  refine ⟨Sc, rfl, ?_, ?_, ?_, ?_⟩
  · intro a h4 h25
    rw [pc.1 a h4, h1.1 a h25]
  · intro s hs1 hs2
    rw [pc.2.1 s hs1 (by omega), h1.1 _ (fun q => by injection q with q1 q2; omega)]
  · intro i hi
    rw [pc.1 _ (fun q => by injection q with q1 q2; omega)]
    exact h1.2.1 i hi
  · rw [pc.2.2, h1.2.2]
theorem n_84 {y z k : Nat} (hyz : y ≠ z) (S : QS) : ∃ S', f_84 z k y k S = some ((), S') ∧ (∀ a, a ≠ (8, z, k) → S'.1 a = S.1 a) ∧ (∀ s, s < 9 → S'.1 (8, z, k) s = S.1 (8, y, k) s) ∧ S'.2 = S.2 := by
  unfold f_84
  have hab : ((8, y, k) : VA) ≠ (8, z, k) := fun q => hyz (by injection q with q1 q2; injection q2)
  have p0 := g_cp0 S (8, z, k) (8, y, k) 0
  obtain ⟨S1, e1, p1⟩ := g_cp1 hab p0
  rw [e1, w_let]
  obtain ⟨S2, e2, p2⟩ := g_cp1 hab p1
  rw [e2, w_let]
  obtain ⟨S3, e3, p3⟩ := g_cp1 hab p2
  rw [e3, w_let]
  obtain ⟨S4, e4, p4⟩ := g_cp1 hab p3
  rw [e4, w_let]
  obtain ⟨S5, e5, p5⟩ := g_cp1 hab p4
  rw [e5, w_let]
  obtain ⟨S6, e6, p6⟩ := g_cp1 hab p5
  rw [e6, w_let]
  obtain ⟨S7, e7, p7⟩ := g_cp1 hab p6
  rw [e7, w_let]
  obtain ⟨S8, e8, p8⟩ := g_cp1 hab p7
  rw [e8, w_let]
  obtain ⟨S9, e9, p9⟩ := g_cp1 hab p8
  rw [e9, w_let]
  exact ⟨S9, rfl, p9.1, fun s hs => p9.2.1 s (by omega) hs, p9.2.2⟩
theorem n_cpk {x : Int32} {m N : Nat} (hx : x = nI m) (hm : m ≤ N) (hN : N < 2 ^ 31) : (decide (¬ (0 : Int32) < 0) && decide (¬ (0 : Int32) < 0) && decide (¬ x < 0) && decide ((0 : Int32).toNatClampNeg + x.toNatClampNeg ≤ N) && decide ((0 : Int32).toNatClampNeg + x.toNatClampNeg ≤ N)) = true := by
  subst hx
  rw [nI_clamp (by omega), show (0 : Int32).toNatClampNeg = 0 from rfl, decide_eq_true (nI_pos (by omega)), decide_eq_true (show 0 + m ≤ N by omega)]
  decide
theorem n_cpr (S : QS) (a b : VA) (m : Nat) : ∃ S1, q_row S a (va_cpy (S.1 b) (S.1 a) 0 0 m) = S1 ∧ (∀ c, c ≠ a → S1.1 c = S.1 c) ∧ (∀ i, i < m → S1.1 a i = S.1 b i) ∧ S1.2 = S.2 := by
  refine ⟨_, rfl, fun c hc => w_row_ne hc, ?_, rfl⟩
  intro i hi
  rw [w_row_same]
  unfold va_cpy
  rw [if_pos ⟨by omega, by omega⟩, Nat.zero_add, Nat.sub_zero]
theorem n_cps (S : QS) (a b : VA) (k : Nat) : ∃ S1, q_set S a k (S.1 b k) = S1 ∧ (∀ c, c ≠ a → S1.1 c = S.1 c) ∧ S1.1 a k = S.1 b k ∧ (∀ j, j ≠ k → S1.1 a j = S.1 a j) ∧ S1.2 = S.2 := by
  refine ⟨_, rfl, fun c hc => g_set_a hc, ?_, ?_, rfl⟩
  · rw [g_set1, if_pos ⟨rfl, rfl⟩]
  · intro j hj
    rw [g_set1, if_neg (fun q => hj q.2)]
theorem n_30 {y z k m : Nat} (hyz : y ≠ z) (hm : m ≤ 64) (S : QS) (hS : S.1 (3, y, k) 1 = nI m) : ∃ S', f_30 z k y k S = some ((), S') ∧ (∀ a, a ≠ (3, z, k) → a ≠ (24, z, k) → S'.1 a = S.1 a) ∧ S'.1 (3, z, k) 1 = nI m ∧ (∀ i, i < m → S'.1 (24, z, k) i = S.1 (24, y, k) i) ∧ S'.2 = S.2 := by
  unfold f_30
  obtain ⟨S1, e1, a1, a2, a3, a4⟩ := n_cps S (3, z, k) (3, y, k) 1
  rw [e1, w_let]
  have e : S1.1 (3, z, k) 1 = nI m := by rw [a2, hS]
  rw [n_cpk e hm (by omega), w_ck, show (0 : Int32).toNatClampNeg = 0 from rfl, e, nI_clamp (by omega)]
  obtain ⟨S2, e2, b1, b2, b3⟩ := n_cpr S1 (24, z, k) (24, y, k) m
  rw [e2, w_let]
  refine ⟨S2, rfl, ?_, ?_, ?_, ?_⟩
  · intro a h1 h2
    rw [b1 a h2, a1 a h1]
  · rw [b1 _ (fun q => by injection q with q1 q2; omega), e]
  · intro i hi
    rw [b2 i hi, a1 _ (fun q => by injection q with q1 q2; omega)]
  · rw [b3, a4]
theorem n_27 {y z m : Nat} (hyz : y ≠ z) (hm : m ≤ 200) (S : QS) (hS : S.1 (2, y, 0) 3 = nI m) : ∃ S', f_27 z y S = some ((), S') ∧ (∀ a : VA, ¬ (a.2.1 = z ∧ (a.1 = 2 ∨ a.1 = 21 ∨ a.1 = 22 ∨ a.1 = 23)) → S'.1 a = S.1 a) ∧ S'.1 (2, z, 0) 3 = nI m ∧ (∀ t i, t < 3 → i < m → S'.1 (21 + t, z, 0) i = S.1 (21 + t, y, 0) i) ∧ S'.2 = S.2 := by
  unfold f_27
  obtain ⟨S1, e1, a1, a2, a3, a4⟩ := n_cps S (2, z, 0) (2, y, 0) 3
  rw [e1, w_let]
  have e : S1.1 (2, z, 0) 3 = nI m := by rw [a2, hS]
  rw [n_cpk e hm (by omega), w_ck, show (0 : Int32).toNatClampNeg = 0 from rfl, e, nI_clamp (by omega)]
  obtain ⟨S2, e2, b1, b2, b3⟩ := n_cpr S1 (21, z, 0) (21, y, 0) m
  rw [e2, w_let]
  have f : S2.1 (2, z, 0) 3 = nI m := by rw [b1 _ (fun q => by injection q with q1 q2; omega), e]
  have f0 := n_cpk f hm (by omega)
  rw [show (0 : Int32).toNatClampNeg = 0 from rfl] at f0
  rw [f0, w_ck, f, nI_clamp (by omega)]
  obtain ⟨S3, e3, c1, c2, c3⟩ := n_cpr S2 (22, z, 0) (22, y, 0) m
  rw [e3, w_let]
  have g : S3.1 (2, z, 0) 3 = nI m := by rw [c1 _ (fun q => by injection q with q1 q2; omega), f]
  have g0 := n_cpk g hm (by omega)
  rw [show (0 : Int32).toNatClampNeg = 0 from rfl] at g0
  rw [g0, w_ck, g, nI_clamp (by omega)]
  obtain ⟨S4, e4, d1, d2, d3⟩ := n_cpr S3 (23, z, 0) (23, y, 0) m
  rw [e4, w_let]
  refine ⟨S4, rfl, ?_, ?_, ?_, ?_⟩
  · intro a h
    have k1 : a ≠ (23, z, 0) := fun q => h (by subst q; exact ⟨rfl, Or.inr (Or.inr (Or.inr rfl))⟩)
    have k2 : a ≠ (22, z, 0) := fun q => h (by subst q; exact ⟨rfl, Or.inr (Or.inr (Or.inl rfl))⟩)
    have k3 : a ≠ (21, z, 0) := fun q => h (by subst q; exact ⟨rfl, Or.inr (Or.inl rfl)⟩)
    have k4 : a ≠ (2, z, 0) := fun q => h (by subst q; exact ⟨rfl, Or.inl rfl⟩)
    rw [d1 a k1, c1 a k2, b1 a k3, a1 a k4]
  · rw [d1 _ (fun q => by injection q with q1 q2; omega), g]
  · intro t i ht hi
    match t, ht with
    | 0, _ =>
      show S4.1 (21, z, 0) i = S.1 (21, y, 0) i
      rw [d1 _ (fun q => by injection q with q1 q2; omega), c1 _ (fun q => by injection q with q1 q2; omega), b2 i hi, a1 _ (fun q => by injection q with q1 q2; omega)]
    | 1, _ =>
      show S4.1 (22, z, 0) i = S.1 (22, y, 0) i
      rw [d1 _ (fun q => by injection q with q1 q2; omega), c2 i hi, b1 _ (fun q => by injection q with q1 q2; omega), a1 _ (fun q => by injection q with q1 q2; omega)]
    | 2, _ =>
      show S4.1 (23, z, 0) i = S.1 (23, y, 0) i
      rw [d2 i hi, c1 _ (fun q => by injection q with q1 q2; omega), b1 _ (fun q => by injection q with q1 q2; omega), a1 _ (fun q => by injection q with q1 q2; omega)]
  · rw [d3, c3, b3, a4]
