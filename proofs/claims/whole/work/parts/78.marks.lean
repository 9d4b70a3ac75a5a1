/-! ===== lines: marks ===== -/
def pa (Y : GA) (k p : Nat) : Prop := Y 6 k 2 = nI p ∨ Y 6 k 3 = nI p
def ml (Y : GA) (n : Nat) (f : Nat → Int32) (k : Nat) : Prop := ∃ p, p < n ∧ pa Y k p ∧ f p ≠ 0
/-- sets closed downwards, upwards -/
def mk_dn (Y : GA) (n : Nat) (Q : Nat → Prop) : Prop := ∀ x p, x < n → p < n → pa Y x p → Q p → Q x
def mk_up (Y : GA) (n : Nat) (Q : Nat → Prop) : Prop := ∀ x p, x < n → p < n → pa Y x p → Q x → Q p
theorem pa_lt {c : Nat} {Y : GA} (hW : g_W c Y) {k p : Nat} (hk : k < g_n (Y 0 2 0)) (hp : p < g_n (Y 0 2 0)) (h : pa Y k p) : g_n (Y 8 p 0) + 1 ≤ g_n (Y 8 k 0) := by
  have n2 := hW.2.1.2.2.1.2
  have e := (dp_E_W hW hk).1
  unfold dp_q at e
  have key : ∀ x, x = nI p → dp_p (fun j => g_n (Y 8 j 0)) x = g_n (Y 8 p 0) + 1 := by
    intro x hx
    subst hx
    unfold dp_p
    rw [if_neg (g_nI_m1 (by omega)), g_n_nI (by omega)]
  rcases h with h | h
  · rw [key _ h] at e
    omega
  · have := key _ h
    rw [this] at e
    omega
/-- is it marked? -/
theorem mk_58p {S : QS} {f : Nat → Int32} {p : Nat} (hp : p < 200) (h : f p ≠ 0) : f_58 (nI p) (q_row S (26, 0, 0) f) = some (1, q_row S (26, 0, 0) f) := by
  unfold f_58
  rw [if_neg (g_nI_m1 (by omega)), w_in hp (by omega), nI_clamp (by omega), x_ck, x_let, w_row_same, if_neg h]
theorem mk_58n {S : QS} {f : Nat → Int32} {x : Int32} {n : Nat} (hn : n ≤ 200) (hx : g_M x n) (h : ∀ p, p < n → x = nI p → f p = 0) : f_58 x (q_row S (26, 0, 0) f) = some (0, q_row S (26, 0, 0) f) := by
  unfold f_58
  rcases hx with rfl | ⟨p, hp, rfl⟩
  · rw [if_pos rfl]
  · rw [if_neg (g_nI_m1 (by omega)), w_in (by omega) (by omega), nI_clamp (by omega), x_ck, x_let, w_row_same, if_pos (h p hp rfl)]
theorem mk_58 {S : QS} {f : Nat → Int32} {x : Int32} {n : Nat} (hn : n ≤ 200) (hx : g_M x n) : (f_58 x (q_row S (26, 0, 0) f) = some (1, q_row S (26, 0, 0) f) ∧ ∃ p, p < n ∧ x = nI p ∧ f p ≠ 0) ∨ (f_58 x (q_row S (26, 0, 0) f) = some (0, q_row S (26, 0, 0) f) ∧ ∀ p, p < n → x = nI p → f p = 0) := by
  by_cases h : ∃ p, p < n ∧ x = nI p ∧ f p ≠ 0
  · obtain ⟨p, h1, h2, h3⟩ := h
    subst h2
    exact Or.inl ⟨mk_58p (by omega) h3, p, h1, rfl, h3⟩
  · have h' : ∀ p, p < n → x = nI p → f p = 0 := fun p h1 h2 => Decidable.byContradiction (fun h3 => h ⟨p, h1, h2, h3⟩)
    exact Or.inr ⟨mk_58n hn hx h', h'⟩
theorem mk_60s {y : Nat} {Y V : GA} {X S : QS} {n k : Nat} {f : Nat → Int32} (hn : n ≤ 200) (en : g_n (Y 0 2 0) = n) (e2 : Y 0 2 0 = nI n) (hP : dp_P Y n) (hk : k < n) (hC : g_C y Y V X S) (bk : Nat → Int32 → Int32 → QS → Option ((Unit) × QS)) (p : Nat) (ch x4 : Int32) :
    (f k = 0 ∧ ml Y n f k ∧ b_60_32 bk (p + 1) y ch x4 (nI k) (q_row S (26, 0, 0) f) = b_60_32 bk p y 1 x4 (nI (k + 1)) (q_row S (26, 0, 0) (upd f k 1))) ∨ ((f k ≠ 0 ∨ ¬ ml Y n f k) ∧ b_60_32 bk (p + 1) y ch x4 (nI k) (q_row S (26, 0, 0) f) = b_60_32 bk p y ch x4 (nI (k + 1)) (q_row S (26, 0, 0) f)) := by
  have hC' : g_C y Y V X (q_row S (26, 0, 0) f) := g_C_scr hC (by omega)
  rw [b_60_32, c_n2 hC', e2, if_neg (nI_ge hk (by omega)), c_93 hC' (by omega) (by omega), x_bd]
  dsimp only
  rw [w_in (by omega) (by omega), nI_clamp (by omega), x_ck, x_let, w_row_same, c_t2 hC' (by omega) (by omega)]
  unfold b_60_83 b_60_93
  rw [w_in (by omega) (by omega), nI_clamp (by omega), show (true && v_bool 1) = true from by decide]
  simp only [x_ck, x_let]
  rw [nI_1]
  by_cases h0 : f k = 0
  · rw [if_neg (fun q => q h0)]
    rcases mk_58 (S := S) (f := f) hn (hP k hk).1 with ⟨a, q, q1, q2, q3⟩ | ⟨a, q⟩
    · rw [a, x_bd, if_pos (by decide), dp_set]
      exact Or.inl ⟨h0, ⟨q, q1, Or.inl q2, q3⟩, rfl⟩
    · rw [a, x_bd, if_neg (by decide), c_t3 hC' (by omega) (by omega)]
      rcases mk_58 (S := S) (f := f) hn (hP k hk).2 with ⟨a', q', q1, q2, q3⟩ | ⟨a', q'⟩
      · rw [a', x_bd, if_neg (by decide), dp_set]
        exact Or.inl ⟨h0, ⟨q', q1, Or.inr q2, q3⟩, rfl⟩
      · rw [a', x_bd, if_pos rfl]
        refine Or.inr ⟨Or.inr ?_, rfl⟩
        rintro ⟨z, z1, z2 | z2, z3⟩
        · exact z3 (q z z1 z2)
        · exact z3 (q' z z1 z2)
  · rw [if_pos h0]
    exact Or.inr ⟨Or.inl h0, rfl⟩
/-- one round of the class's marks -/
def mk_I (Y : GA) (n r : Nat) (g : Nat → Int32) (ch : Int32) (k : Nat) (f : Nat → Int32) : Prop :=
  (∀ x, x < n → g_n (Y 8 x 0) ≤ r → (f x ≠ 0 ↔ g x ≠ 0)) ∧ (∀ x, x < k → g_n (Y 8 x 0) ≤ r + 1 → ml Y n g x → f x ≠ 0) ∧ (∀ x, x < n → g x ≠ 0 → f x ≠ 0) ∧ (∀ Q, mk_dn Y n Q → (∀ x, x < n → g x ≠ 0 → Q x) → ∀ x, x < n → f x ≠ 0 → Q x) ∧ ((ch = 0 ∧ f = g ∧ ∀ x, x < k → ml Y n g x → g x ≠ 0) ∨ ch = 1)
def mk_cl (Y : GA) (n r : Nat) (f : Nat → Int32) : Prop := ∀ x, x < n → g_n (Y 8 x 0) ≤ r → ml Y n f x → f x ≠ 0
theorem mk_pass {c y : Nat} {Y V : GA} {X S : QS} {n r : Nat} {g : Nat → Int32} (hW : g_W c Y) (hn : n = g_n (Y 0 2 0)) (hcl : mk_cl Y n r g) (hC : g_C y Y V X S) (bk : Nat → Int32 → Int32 → QS → Option ((Unit) × QS)) (x4 : Int32) : ∀ (m k p : Nat) (ch : Int32) (f : Nat → Int32), mk_I Y n r g ch k f → k + m = n → m < p → ∃ ch' f', b_60_32 bk p y ch x4 (nI k) (q_row S (26, 0, 0) f) = bk y ch' (x4 + 1) (q_row S (26, 0, 0) f') ∧ mk_I Y n r g ch' n f'
  | m, k, 0, _, _, _, _, h => by omega
  | 0, k, p + 1, ch, f, hI, hm, h => by
    have n2 := hW.2.1.2.2.1
    have n22 := n2.2
    have hC' : g_C y Y V X (q_row S (26, 0, 0) f) := g_C_scr hC (by omega)
    rw [b_60_32, c_n2 hC', n2.1, if_pos (nI_le (by omega) (by omega))]
    have : k = n := by omega
    subst this
    exact ⟨ch, f, rfl, hI⟩
  | m + 1, k, p + 1, ch, f, hI, hm, h => by
    have n2 := hW.2.1.2.2.1
    have n22 := n2.2
    have hP := dp_P_W hW
    rw [← hn] at hP
    obtain ⟨i1, i2, i3, i4, i5⟩ := id hI
    have low : ∀ q, q < n → pa Y k q → g_n (Y 8 q 0) + 1 ≤ g_n (Y 8 k 0) := fun q hq hp => pa_lt hW (by omega) (by omega) hp
    rcases mk_60s (f := f) (n := n) (by omega) hn.symm (by rw [hn]; exact n2.1) hP (show k < n by omega) hC bk p ch x4 with ⟨a1, ⟨q, q1, q2, q3⟩, a3⟩ | ⟨a1, a3⟩
    · rw [a3]
      refine mk_pass hW hn hcl hC bk x4 m (k + 1) p 1 (upd f k 1) ⟨?_, ?_, ?_, ?_, Or.inr rfl⟩ (by omega) (by omega)
      · intro x hx hr
        by_cases e : x = k
        · subst e
          have hq := low q q1 q2
          have gq := (i1 q q1 (by omega)).1 q3
          have gx := hcl x hx hr ⟨q, q1, q2, gq⟩
          exact absurd a1 ((i1 x hx hr).2 gx)
        · rw [pk_un e]
          exact i1 x hx hr
      · intro x hx hr hm
        by_cases e : x = k
        · subst e
          rw [pk_us]
          decide
        · rw [pk_un e]
          exact i2 x (by omega) hr hm
      · intro x hx hg
        by_cases e : x = k
        · subst e
          rw [pk_us]
          decide
        · rw [pk_un e]
          exact i3 x hx hg
      · intro Q hQ hg x hx hf
        by_cases e : x = k
        · subst e
          exact hQ x q hx q1 q2 (i4 Q hQ hg q q1 q3)
        · rw [pk_un e] at hf
          exact i4 Q hQ hg x hx hf
    · rw [a3]
      refine mk_pass hW hn hcl hC bk x4 m (k + 1) p ch f ⟨i1, ?_, i3, i4, ?_⟩ (by omega) (by omega)
      · intro x hx hr hml
        by_cases e : x = k
        · subst e
          rcases a1 with a1 | a1
          · exact a1
          · obtain ⟨q, q1, q2, q3⟩ := hml
            exact absurd ⟨q, q1, q2, i3 q q1 q3⟩ a1
        · exact i2 x (by omega) hr hml
      · rcases i5 with ⟨b1, b2, b3⟩ | b
        · subst b2
          refine Or.inl ⟨b1, rfl, fun x hx hml => ?_⟩
          by_cases e : x = k
          · subst e
            rcases a1 with a1 | a1
            · exact a1
            · exact absurd hml a1
          · exact b3 x (by omega) hml
        · exact Or.inr b
/-- all rounds -/
theorem mk_rounds {c y : Nat} {Y V : GA} {X S : QS} {n : Nat} (hW : g_W c Y) (hn : n = g_n (Y 0 2 0)) (hC : g_C y Y V X S) : ∀ (m r p : Nat) (g : Nat → Int32), mk_cl Y n r g → r + m = 16 → m < p → ∃ f, b_60_16 p y 1 (nI r) (q_row S (26, 0, 0) g) = some ((), q_row S (26, 0, 0) f) ∧ (∀ x, x < n → ml Y n f x → f x ≠ 0) ∧ (∀ x, x < n → g x ≠ 0 → f x ≠ 0) ∧ (∀ Q, mk_dn Y n Q → (∀ x, x < n → g x ≠ 0 → Q x) → ∀ x, x < n → f x ≠ 0 → Q x)
  | m, r, 0, _, _, _, h => by omega
  | 0, r, p + 1, g, hcl, hm, h => by
    rw [b_60_16, if_pos (show (15 : Int32) < nI r from nI_lt (a := 15) (by omega) (by omega))]
    refine ⟨g, rfl, fun x hx hl => hcl x hx ?_ hl, fun _ _ q => q, fun _ _ q => q⟩
    have := (dp_E_W hW (k := x) (by omega)).2.1
    omega
  | m + 1, r, p + 1, g, hcl, hm, h => by
    have n2 := hW.2.1.2.2.1
    have n22 := n2.2
    rw [b_60_16, if_neg (show ¬ (15 : Int32) < nI r from nI_nlt (b := r) (a := 15) (by omega) (by omega)), if_neg (by decide)]
    obtain ⟨ch, f, a1, i1, i2, i3, i4, i5⟩ := mk_pass (g := g) (r := r) hW hn hcl hC (b_60_16 p) (nI r) n 0 q_N 0 g ⟨fun _ _ _ => Iff.rfl, fun x hx => by omega, fun _ _ q => q, fun _ _ q => q, Or.inl ⟨rfl, rfl, fun x hx => by omega⟩⟩ (by omega) (by unfold q_N; omega)
    rw [show b_60_32 (b_60_16 p) q_N y 0 (nI r) 0 (q_row S (26, 0, 0) g) = _ from a1, nI_1]
    rcases i5 with ⟨b1, b2, b3⟩ | b
    · subst b2
      subst b1
      cases p with
      | zero => omega
      | succ p =>
        rw [b_60_16, if_pos rfl]
        by_cases e : (15 : Int32) < nI (r + 1)
        · rw [if_pos e]
          exact ⟨f, rfl, b3, i3, i4⟩
        · rw [if_neg e]
          exact ⟨f, rfl, b3, i3, i4⟩
    · subst b
      obtain ⟨h', c1, c2, c3, c4⟩ := mk_rounds hW hn hC m (r + 1) p f (by
        intro x hx hr hl
        refine i2 x hx hr ?_
        obtain ⟨q, q1, q2, q3⟩ := hl
        have := pa_lt hW (k := x) (p := q) (by omega) (by omega) q2
        exact ⟨q, q1, q2, (i1 q q1 (by omega)).1 q3⟩) (by omega) (by omega)
      exact ⟨h', c1, c2, fun x hx q => c3 x hx (i3 x hx q), fun Q hQ hg => c4 Q hQ (i4 Q hQ hg)⟩
theorem mk_59 {S : QS} : ∀ (m k p : Nat) (f : Nat → Int32), (∀ j, j < k → f j = 0) → k + m = 200 → m < p → ∃ f', b_59_2 p (nI k) (q_row S (26, 0, 0) f) = some ((), q_row S (26, 0, 0) f') ∧ ∀ j, j < 200 → f' j = 0
  | m, k, 0, _, _, _, h => by omega
  | 0, k, p + 1, f, hf, hm, h => by
    refine ⟨f, ?_, fun j hj => hf j (by omega)⟩
    rw [b_59_2, if_pos (show (200 : Int32) ≤ nI k from nI_le (a := 200) (by omega) (by omega))]
  | m + 1, k, p + 1, f, hf, hm, h => by
    rw [b_59_2, if_neg (show ¬ (200 : Int32) ≤ nI k from nI_ge (b := 200) (by omega) (by omega)), w_in (by omega) (by omega), nI_clamp (by omega), show (true && v_bool 0) = true from by decide, x_ck, x_let, dp_set, nI_1]
    refine mk_59 m (k + 1) p _ (fun j hj => ?_) (by omega) (by omega)
    by_cases e : j = k
    · subst e; rw [pk_us]
    · rw [pk_un e]; exact hf j (by omega)
/-- the class marks a thing and all below it -/
theorem mk_60 {c y : Nat} {Y V : GA} {X S : QS} {t : Nat} (hW : g_W c Y) (hC : g_C y Y V X S) (ht : t < g_n (Y 0 2 0)) : ∃ f, f_60 y (nI t) S = some ((), q_row S (26, 0, 0) f) ∧ mk_dn Y (g_n (Y 0 2 0)) (fun x => f x ≠ 0) ∧ f t ≠ 0 ∧ (∀ Q, mk_dn Y (g_n (Y 0 2 0)) Q → Q t → ∀ x, x < g_n (Y 0 2 0) → f x ≠ 0 → Q x) := by
  have n2 := hW.2.1.2.2.1
  have n22 := n2.2
  unfold f_60 f_59
  obtain ⟨f0, a1, a2⟩ := mk_59 (S := S) 200 0 q_N (S.1 (26, 0, 0)) (fun j hj => by omega) (by omega) (by unfold q_N; omega)
  rw [w_row_id] at a1
  rw [show b_59_2 q_N 0 S = _ from a1, x_bd, w_in (show t < 200 by omega) (by omega), nI_clamp (by omega), show (true && v_bool 1) = true from by decide, x_ck, x_let, dp_set]
  obtain ⟨f, b1, b2, b3, b4⟩ := mk_rounds (X := X) (n := g_n (Y 0 2 0)) hW rfl hC 16 0 q_N (upd f0 t 1) (by
    intro x hx hr hl
    obtain ⟨q, q1, q2, q3⟩ := hl
    have := pa_lt hW hx q1 q2
    omega) (by omega) (by unfold q_N; omega)
  refine ⟨f, b1, ?_, b3 t ht (by rw [pk_us]; decide), ?_⟩
  · intro x p hx hp hpa hf
    exact b2 x hx ⟨p, hp, hpa, hf⟩
  · intro Q hQ hq x hx hf
    refine b4 Q hQ ?_ x hx hf
    intro z hz hzz
    by_cases e : z = t
    · rw [e]; exact hq
    · rw [pk_un e] at hzz
      exact absurd (a2 z (by omega)) hzz
