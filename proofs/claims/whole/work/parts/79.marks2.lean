/-! ===== lines: the reference's marks ===== -/
def mr_I (Y : GA) (n : Nat) (g : Nat → Int32) (ch : Int32) (f : Nat → Int32) : Prop := (∀ x, x < n → f x = 0 ∨ f x = 1) ∧ (∀ x, x < n → g x = 1 → f x = 1) ∧ (∀ Q, mk_up Y n Q → (∀ x, x < n → g x = 1 → Q x) → ∀ x, x < n → f x = 1 → Q x) ∧ ((ch = 0 ∧ f = g) ∨ (ch = 1 ∧ dp_s (fun x => g_n (g x)) n < dp_s (fun x => g_n (f x)) n))
theorem mr_set {Y : GA} {n q x : Nat} {g f : Nat → Int32} {ch : Int32} (h : mr_I Y n g ch f) (hx : x < n) (hq : q < n) (hp : pa Y x q) (h1 : f x = 1) (h0 : f q ≠ 1) : mr_I Y n g 1 (upd f q 1) := by
  obtain ⟨i1, i2, i3, i4⟩ := h
  refine ⟨?_, ?_, ?_, Or.inr ⟨rfl, ?_⟩⟩
  · intro z hz
    by_cases e : z = q
    · subst e; exact Or.inr pk_us
    · rw [pk_un e]; exact i1 z hz
  · intro z hz hg
    by_cases e : z = q
    · subst e; exact pk_us
    · rw [pk_un e]; exact i2 z hz hg
  · intro Q hQ hg z hz hf
    by_cases e : z = q
    · subst e; exact hQ x z hx hz hp (i3 Q hQ hg x hx h1)
    · rw [pk_un e] at hf; exact i3 Q hQ hg z hz hf
  · have e : (fun z => g_n (upd f q 1 z)) = dp_u (fun z => g_n (f z)) q 1 := by
      funext z
      unfold dp_u
      by_cases e : z = q
      · subst e; rw [pk_us, if_pos rfl]; rfl
      · rw [pk_un e, if_neg e]
    have hs := dp_s_u (D := fun z => g_n (f z)) (v := 1) hq
    have z0 : g_n (f q) = 0 := by
      rcases i1 q hq with a | a
      · rw [a]; rfl
      · exact absurd a h0
    rw [z0] at hs
    rw [e]
    rcases i4 with ⟨_, a⟩ | ⟨_, a⟩
    · rw [a] at hs
      rw [a]
      omega
    · omega
theorem mr_1 {Y V : GA} {Z T : QS} {n k w : Nat} {g f : Nat → Int32} {ch : Int32} (hn : n ≤ 200) (hT : g_T Y V Z T) (hk : k < n) (hw : w = 2 ∨ w = 3) (hx : g_M (Y 6 k w) n) (hI : mr_I Y n g ch f) (h1 : f k = 1) (bk : Int32 → QS → Option ((Unit) × QS)) (bj : Int32 → Int32 → QS → Option ((Unit) × QS)) (p : Nat) :
    ∃ ch' f', b_238_47 bk bj (p + 1) ch (nI k) (nI w) (q_row T (48, 0, 0) f) = b_238_47 bk bj p ch' (nI k) (nI (w + 1)) (q_row T (48, 0, 0) f') ∧ mr_I Y n g ch' f' ∧ f' k = 1 ∧ (ch' = 0 → ch = 0 ∧ f' = f ∧ ∀ q, q < n → Y 6 k w = nI q → f q = 1) := by
  have hT' : g_T Y V Z (q_row T (48, 0, 0) f) := g_T_scr hT (by omega)
  have e : f_192 (nI k) (nI w) (q_row T (48, 0, 0) f) = some (Y 6 k w, q_row T (48, 0, 0) f) := by
    rcases hw with rfl | rfl
    · exact t_192_2 hT' (by omega)
    · exact t_192_3 hT' (by omega)
  have hp : ∀ q, Y 6 k w = nI q → pa Y k q := by
    rcases hw with rfl | rfl
    · exact fun q h => Or.inl h
    · exact fun q h => Or.inr h
  rw [b_238_47, if_neg (show ¬ (3 : Int32) < nI w from nI_nlt (a := 3) (by omega) (by omega)), e, x_bd]
  unfold b_238_91
  rw [nI_1]
  rcases hx with e0 | ⟨q, hq, e0⟩
  · rw [e0, if_pos (by decide)]
    exact ⟨ch, f, rfl, hI, h1, fun h => ⟨h, rfl, fun q hq h' => absurd h'.symm (g_nI_m1 (by omega))⟩⟩
  · rw [e0, if_neg (nI_pos (by omega)), w_in (by omega) (by omega), nI_clamp (by omega)]
    simp only [x_ck, x_let]
    rw [w_row_same, dp_set]
    by_cases h0 : f q = 1
    · rw [if_neg (fun z => z h0)]
      refine ⟨ch, f, rfl, hI, h1, fun h => ⟨h, rfl, fun q' hq' h' => ?_⟩⟩
      rw [nI_eq (by omega) (by omega)] at h'
      rw [← h']
      exact h0
    · rw [if_pos h0]
      refine ⟨1, _, rfl, mr_set hI hk hq (hp q e0) h1 h0, ?_, fun h => absurd h (by decide)⟩
      by_cases e : k = q
      · rw [e]; exact pk_us
      · rw [pk_un e]; exact h1
theorem mr_2 {Y V : GA} {Z T : QS} {n k : Nat} {g f : Nat → Int32} {ch : Int32} (hn : n ≤ 200) (hP : dp_P Y n) (hT : g_T Y V Z T) (hk : k < n) (hI : mr_I Y n g ch f) (h1 : f k = 1) (bk : Int32 → QS → Option ((Unit) × QS)) (bj : Int32 → Int32 → QS → Option ((Unit) × QS)) (p : Nat) :
    ∃ ch' f', b_238_47 bk bj (p + 1 + 1 + 1) ch (nI k) 2 (q_row T (48, 0, 0) f) = bj ch' (nI (k + 1)) (q_row T (48, 0, 0) f') ∧ mr_I Y n g ch' f' ∧ (ch' = 0 → ch = 0 ∧ f' = f ∧ ∀ q, q < n → pa Y k q → f q = 1) := by
  obtain ⟨c1, f1, a1, a2, a3, a4⟩ := mr_1 (w := 2) hn hT hk (Or.inl rfl) (hP k hk).1 hI h1 bk bj (p + 1 + 1)
  obtain ⟨c2, f2, b1, b2, b3, b4⟩ := mr_1 (w := 3) hn hT hk (Or.inr rfl) (hP k hk).2 a2 a3 bk bj (p + 1)
  refine ⟨c2, f2, ?_, b2, fun h => ?_⟩
  · rw [show b_238_47 bk bj (p + 1 + 1 + 1) ch (nI k) 2 (q_row T (48, 0, 0) f) = _ from a1]
    rw [show b_238_47 bk bj (p + 1 + 1) c1 (nI k) (nI (2 + 1)) (q_row T (48, 0, 0) f1) = _ from b1]
    rw [b_238_47, if_pos (show (3 : Int32) < nI (3 + 1) from by decide)]
    unfold b_238_97
    rw [nI_1]
  · obtain ⟨d1, d2, d3⟩ := b4 h
    obtain ⟨e1, e2, e3⟩ := a4 d1
    refine ⟨e1, d2.trans e2, fun q hq hp => ?_⟩
    rcases hp with hp | hp
    · exact e3 q hq hp
    · rw [← e2]; exact d3 q hq hp
theorem mr_pass {Y V : GA} {Z T : QS} {n : Nat} {g : Nat → Int32} (hn : n ≤ 200) (h2 : Y 0 2 0 = nI n) (hP : dp_P Y n) (hT : g_T Y V Z T) (bk : Int32 → QS → Option ((Unit) × QS)) : ∀ (m k p : Nat) (ch : Int32) (f : Nat → Int32), mr_I Y n g ch f → (ch = 0 → ∀ x, x < k → f x = 1 → ∀ q, q < n → pa Y x q → f q = 1) → k + m = n → m < p →
    ∃ ch' f', b_238_22 bk p ch (nI k) (q_row T (48, 0, 0) f) = bk ch' (q_row T (48, 0, 0) f') ∧ mr_I Y n g ch' f' ∧ (ch' = 0 → ∀ x, x < n → f' x = 1 → ∀ q, q < n → pa Y x q → f' q = 1)
  | m, k, 0, _, _, _, _, _, h => by omega
  | 0, k, p + 1, ch, f, hI, hc, hm, h => by
    have hT' : g_T Y V Z (q_row T (48, 0, 0) f) := g_T_scr hT (by omega)
    rw [b_238_22, w_i2, w_c2, t_n2 hT', h2, x_ck, x_let, if_pos (nI_le (by omega) (by omega))]
    exact ⟨ch, f, rfl, hI, fun h x hx => hc h x (by omega)⟩
  | m + 1, k, p + 1, ch, f, hI, hc, hm, h => by
    have hT' : g_T Y V Z (q_row T (48, 0, 0) f) := g_T_scr hT (by omega)
    rw [b_238_22, w_i2, w_c2, t_n2 hT', h2, x_ck, x_let, if_neg (nI_ge (by omega) (by omega)), w_in (by omega) (by omega), nI_clamp (by omega), x_ck, x_let, w_row_same]
    by_cases h0 : f k = 0
    · rw [if_neg (fun z => z h0)]
      unfold b_238_97
      rw [nI_1]
      refine mr_pass hn h2 hP hT bk m (k + 1) p ch f hI (fun h x hx h1 => ?_) (by omega) (by omega)
      by_cases e : x = k
      · subst e
        rw [h0] at h1
        exact absurd h1 (by decide)
      · exact hc h x (by omega) h1
    · have h1 : f k = 1 := by
        rcases hI.1 k (by omega) with a | a
        · exact absurd a h0
        · exact a
      rw [if_pos h0]
      obtain ⟨c1, f1, a1, a2, a3⟩ := mr_2 hn hP hT (show k < n by omega) hI h1 bk (b_238_22 bk p) 19997
      rw [show b_238_47 bk (b_238_22 bk p) q_N ch (nI k) 2 (q_row T (48, 0, 0) f) = _ from a1]
      refine mr_pass hn h2 hP hT bk m (k + 1) p c1 f1 a2 (fun h x hx hx1 q hq hpa => ?_) (by omega) (by omega)
      obtain ⟨b1, b2, b3⟩ := a3 h
      subst b2
      by_cases e : x = k
      · subst e
        exact b3 q hq hpa
      · exact hc b1 x (by omega) hx1 q hq hpa
theorem mr_rounds {Y V : GA} {Z T : QS} {n : Nat} (hn : n ≤ 200) (h2 : Y 0 2 0 = nI n) (hP : dp_P Y n) (hT : g_T Y V Z T) : ∀ (m p : Nat) (g : Nat → Int32), (∀ x, x < n → g x = 0 ∨ g x = 1) → n ≤ dp_s (fun x => g_n (g x)) n + m → m + 1 < p →
    ∃ f, b_238_14 p 1 (q_row T (48, 0, 0) g) = some ((), q_row T (48, 0, 0) f) ∧ (∀ x, x < n → f x = 0 ∨ f x = 1) ∧ (∀ x, x < n → g x = 1 → f x = 1) ∧ (∀ Q, mk_up Y n Q → (∀ x, x < n → g x = 1 → Q x) → ∀ x, x < n → f x = 1 → Q x) ∧ mk_up Y n (fun x => f x = 1)
  | m, 0, _, _, _, h => by omega
  | m, p + 1, g, hg, hm, h => by
    rw [b_238_14, if_neg (by decide)]
    obtain ⟨c1, f1, a1, ⟨i1, i2, i3, i4⟩, a3⟩ := mr_pass (g := g) hn h2 hP hT (b_238_14 p) n 0 q_N 0 g ⟨hg, fun _ _ q => q, fun _ _ q => q, Or.inl ⟨rfl, rfl⟩⟩ (fun _ x hx => by omega) (by omega) (by unfold q_N; omega)
    rw [show b_238_22 (b_238_14 p) q_N 0 0 (q_row T (48, 0, 0) g) = _ from a1]
    rcases i4 with ⟨b1, b2⟩ | ⟨b1, b2⟩
    · subst b2
      cases p with
      | zero => omega
      | succ p =>
        rw [b1, b_238_14, if_pos rfl]
        exact ⟨f1, rfl, i1, i2, i3, fun x q hx hq hp h => a3 b1 x hx h q hq hp⟩
    · have hb : dp_s (fun x => g_n (f1 x)) n ≤ 1 * n := dp_s_le (fun j hj => by
        show g_n (f1 j) ≤ 1
        rcases i1 j hj with a | a
        · rw [a]; exact Nat.zero_le _
        · rw [a]; exact Nat.le_refl _)
      cases m with
      | zero => omega
      | succ m =>
        obtain ⟨f, d1, d2, d3, d4, d5⟩ := mr_rounds hn h2 hP hT m p f1 i1 (by omega) (by omega)
        rw [b1]
        exact ⟨f, d1, d2, fun x hx q => d3 x hx (i2 x hx q), fun Q hQ hq => d4 Q hQ (i3 Q hQ hq), d5⟩
/-- the reference marks a thing and all above it -/
theorem mr_238 {Y V : GA} {Z T : QS} {n : Nat} {g : Nat → Int32} {x : Int32} (hn : n ≤ 200) (h2 : Y 0 2 0 = nI n) (hP : dp_P Y n) (hT : g_T Y V Z T) (hg : ∀ x, x < n → g x = 0 ∨ g x = 1) (hu : mk_up Y n (fun x => g x = 1)) (hx : g_M x n) :
    ∃ f, f_238 x (q_row T (48, 0, 0) g) = some ((), q_row T (48, 0, 0) f) ∧ (∀ x, x < n → f x = 0 ∨ f x = 1) ∧ (∀ x, x < n → g x = 1 → f x = 1) ∧ (∀ q, q < n → x = nI q → f q = 1) ∧ (∀ Q, mk_up Y n Q → (∀ x, x < n → g x = 1 → Q x) → (∀ q, q < n → x = nI q → Q q) → ∀ x, x < n → f x = 1 → Q x) ∧ mk_up Y n (fun x => f x = 1) := by
  unfold f_238
  rcases hx with rfl | ⟨q, hq, rfl⟩
  · rw [if_neg (by decide)]
    exact ⟨g, rfl, hg, fun _ _ h => h, fun q hq h => absurd h.symm (g_nI_m1 (by omega)), fun _ _ h _ => h, hu⟩
  · rw [if_pos (nI_pos' (by omega)), w_in (by omega) (by omega), nI_clamp (by omega), x_ck, x_let, dp_set]
    obtain ⟨f, a1, a2, a3, a4, a5⟩ := mr_rounds hn h2 hP hT n q_N (upd g q 1) (fun z hz => by
      by_cases e : z = q
      · subst e; exact Or.inr pk_us
      · rw [pk_un e]; exact hg z hz) (by omega) (by unfold q_N; omega)
    refine ⟨f, a1, a2, fun z hz h => a3 z hz ?_, fun q' hq' h => ?_, fun Q hQ h1 h2 z hz hf => a4 Q hQ (fun w hw h => ?_) z hz hf, a5⟩
    · by_cases e : z = q
      · subst e; exact pk_us
      · rw [pk_un e]; exact h
    · rw [nI_eq (by omega) (by omega)] at h
      subst h
      exact a3 q hq pk_us
    · by_cases e : w = q
      · subst e; exact h2 w hq rfl
      · rw [pk_un e] at h; exact h1 w hw h
