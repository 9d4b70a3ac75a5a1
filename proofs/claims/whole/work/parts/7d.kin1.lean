/-! ===== kin: the reference ===== -/
def kn_lt (Y : GA) (a b : Nat) : Prop := g_n (Y 8 a 0) < g_n (Y 8 b 0) ∨ (g_n (Y 8 a 0) = g_n (Y 8 b 0) ∧ a < b)
def kn_0 (K : Nat → Nat → Nat) (x : Int32) (b : Nat) : Nat := if x = -1 then 0 else K (g_n x) b
def kn_v (Y : GA) (K : Nat → Nat → Nat) (a b : Nat) : Nat := (kn_0 K (Y 6 a 2) b + kn_0 K (Y 6 a 3) b) / 2
def kn_T (Y : GA) (n : Nat) (P : Nat → Prop) (K : Nat → Nat → Nat) : Prop := (∀ a, a < n → P a → K a a = 1073741824) ∧ (∀ a b, a < n → b < n → P a → P b → K a b = K b a) ∧ (∀ a b, a < n → b < n → P a → P b → a ≠ b → K a b < 1073741824) ∧ (∀ a b, a < n → b < n → P a → P b → kn_lt Y b a → K a b = kn_v Y K a b)
def kn_f (n : Nat) (P : Nat → Prop) (f : Nat → Int32) (K : Nat → Nat → Nat) : Prop := ∀ a b, a < n → b < n → P a → P b → f (200 * a + b) = nI (K a b)
def kn_s (T : QS) (f g : Nat → Int32) : QS := q_row (q_row T (47, 0, 0) f) (48, 0, 0) g
theorem kn_48 (T : QS) (f g : Nat → Int32) : (kn_s T f g).1 (48, 0, 0) = g := w_row_same _ _ _
theorem kn_47 (T : QS) (f g : Nat → Int32) : (kn_s T f g).1 (47, 0, 0) = f := (w_row_ne (by decide)).trans (w_row_same _ _ _)
theorem kn_46 (T : QS) (f g : Nat → Int32) : (kn_s T f g).1 (46, 0, 0) = T.1 (46, 0, 0) := (w_row_ne (by decide)).trans (w_row_ne (by decide))
theorem kn_u48 (T : QS) (f g : Nat → Int32) (k : Nat) (v : Int32) : q_set (kn_s T f g) (48, 0, 0) k v = kn_s T f (upd g k v) := dp_set _ _ _ _ _
theorem kn_u47 (T : QS) (f g : Nat → Int32) (k : Nat) (v : Int32) : q_set (kn_s T f g) (47, 0, 0) k v = kn_s T (upd f k v) g := by
  rw [w_set, kn_47]
  unfold kn_s
  rw [w_row_comm (by decide), w_row_row]
theorem kn_gT {Y V : GA} {Z T : QS} (h : g_T Y V Z T) (f g : Nat → Int32) : g_T Y V Z (kn_s T f g) := g_T_scr (g_T_scr h (by omega)) (by omega)
theorem kn_ix (a b : Nat) : (200 : Int32) * nI a + nI b = nI (200 * a + b) := by
  rw [show (200 : Int32) = nI 200 from rfl, pk_mul, nI_add]
theorem kn_241 {T : QS} {f g : Nat → Int32} {K : Nat → Nat → Nat} {n b : Nat} {x : Int32} (hn : n ≤ 200) (hx : g_M x n) (hb : b < n) (hf : ∀ p, p < n → x = nI p → f (200 * p + b) = nI (K p b)) : f_241 x (nI b) (kn_s T f g) = some (nI (kn_0 K x b), kn_s T f g) := by
  unfold f_241 b_241_8 kn_0
  rcases hx with rfl | ⟨p, hp, rfl⟩
  · rw [if_pos (by decide), if_pos rfl]
    rfl
  · rw [if_neg (nI_pos (by omega)), if_pos (nI_pos' (by omega)), kn_ix, w_in (by omega) (by omega), nI_clamp (by omega), x_ck, x_let, kn_47, hf p hp rfl, if_neg (g_nI_m1 (by omega)), g_n_nI (by omega)]
theorem kn_pl {c : Nat} {Y : GA} (hW : g_W c Y) {k p : Nat} (hk : k < g_n (Y 0 2 0)) (hp : p < g_n (Y 0 2 0)) (h : pa Y k p) : kn_lt Y p k := Or.inl (by have := pa_lt hW hk hp h; omega)
theorem kn_ir (Y : GA) (a : Nat) : ¬ kn_lt Y a a := fun h => by
  rcases h with h | h <;> omega
/-- a mother and a father are two -/
theorem kn_mf {c : Nat} {Y : GA} (hW : g_W c Y) {a b : Nat} (ha : a < g_n (Y 0 2 0)) (hb : b < g_n (Y 0 2 0)) (h2 : Y 6 a 2 = nI b) : Y 6 a 3 ≠ nI b := by
  intro h3
  have n22 := hW.2.1.2.2.1.2
  have q := hW.2.2.2.2.2.2.2.2.2.2.2.1 a ha
  have q2 := q.2.2.1 (by rw [h2]; exact g_nI_m1 (by omega))
  have q3 := q.2.2.2 (by rw [h3]; exact g_nI_m1 (by omega))
  rw [h2, g_n_nI (by omega)] at q2
  rw [h3, g_n_nI (by omega)] at q3
  rw [q3] at q2
  exact absurd q2 (by decide)
theorem kn_sum {c : Nat} {Y : GA} (hW : g_W c Y) {P : Nat → Prop} {K : Nat → Nat → Nat} {a b : Nat} (ha : a < g_n (Y 0 2 0)) (hb : b < g_n (Y 0 2 0)) (hPb : P b) (hpa : ∀ p, p < g_n (Y 0 2 0) → pa Y a p → P p) (hK : kn_T Y (g_n (Y 0 2 0)) P K) : kn_0 K (Y 6 a 2) b + kn_0 K (Y 6 a 3) b < 2147483648 := by
  have n22 := hW.2.1.2.2.1.2
  have hP := dp_P_W hW
  have key : ∀ x, g_M x (g_n (Y 0 2 0)) → (∀ p, x = nI p → pa Y a p) → kn_0 K x b ≤ 1073741824 ∧ (x ≠ nI b → kn_0 K x b < 1073741824) := by
    intro x hx hp
    unfold kn_0
    rcases hx with rfl | ⟨p, hp', rfl⟩
    · rw [if_pos rfl]
      exact ⟨by omega, fun _ => by omega⟩
    · rw [if_neg (g_nI_m1 (by omega)), g_n_nI (by omega)]
      have hPp := hpa p hp' (hp p rfl)
      by_cases e : p = b
      · subst e
        rw [hK.1 p hp' hPp]
        exact ⟨by omega, fun q => absurd rfl q⟩
      · have := hK.2.2.1 p b hp' hb hPp hPb e
        exact ⟨by omega, fun _ => this⟩
  obtain ⟨k1, k2⟩ := key _ (hP a ha).1 (fun p e => Or.inl e)
  obtain ⟨l1, l2⟩ := key _ (hP a ha).2 (fun p e => Or.inr e)
  by_cases e : Y 6 a 2 = nI b
  · have := l2 (kn_mf hW ha hb e)
    omega
  · have := k2 e
    omega
theorem kn_93 {c : Nat} {Y V : GA} {Z T : QS} {n a : Nat} {f g : Nat → Int32} {K : Nat → Nat → Nat} (hW : g_W c Y) (hn : n = g_n (Y 0 2 0)) (hT : g_T Y V Z T) (ha : a < n) (ga : g a = 0) (hg : ∀ x, x < n → g x = 0 ∨ g x = 1) (hpa : ∀ p, p < n → pa Y a p → g p = 1) (hK : kn_T Y n (fun x => g x = 1) K) (hf : kn_f n (fun x => g x = 1) f K) (bk : Int32 → Int32 → QS → Option ((Unit) × QS)) (x2 : Int32) : ∀ (m k p : Nat) (f' : Nat → Int32), (∀ x z, x < 200 → z < 200 → x ≠ a → z ≠ a → f' (200 * x + z) = f (200 * x + z)) → (∀ b, b < k → g b = 1 → f' (200 * a + b) = nI (kn_v Y K a b) ∧ f' (200 * b + a) = nI (kn_v Y K a b)) → k + m = n → m < p →
    ∃ f'', b_242_93 bk p (nI n) x2 (nI a) (nI k) (kn_s T f' g) = bk (nI n) (x2 + 1) (kn_s T (upd f'' (200 * a + a) 1073741824) (upd g a 1)) ∧ (∀ x z, x < 200 → z < 200 → x ≠ a → z ≠ a → f'' (200 * x + z) = f (200 * x + z)) ∧ (∀ b, b < n → g b = 1 → f'' (200 * a + b) = nI (kn_v Y K a b) ∧ f'' (200 * b + a) = nI (kn_v Y K a b))
  | m, k, 0, _, _, _, _, h => by omega
  | 0, k, p + 1, f', h1, h2, hm, h => by
    have n22 := hW.2.1.2.2.1.2
    rw [← hn] at n22
    rw [b_242_93, if_pos (nI_le (by omega) (by omega)), kn_ix, w_in (by omega) (by omega), nI_clamp (by omega), x_ck, x_let, kn_u47, w_in (by omega) (by omega), nI_clamp (by omega), x_ck, x_let, kn_u48]
    exact ⟨f', rfl, h1, fun b hb => h2 b (by omega)⟩
  | m + 1, k, p + 1, f', h1, h2, hm, h => by
    have n22 := hW.2.1.2.2.1.2
    rw [← hn] at n22
    have hk : k < n := by omega
    have hP := dp_P_W hW
    rw [← hn] at hP
    rw [b_242_93, if_neg (nI_ge (by omega) (by omega)), w_in (by omega) (by omega), nI_clamp (by omega), x_ck, x_let, kn_48]
    unfold b_242_171
    rw [nI_1]
    by_cases g0 : g k = 0
    · rw [if_neg (fun z => z g0)]
      refine kn_93 hW hn hT ha ga hg hpa hK hf bk x2 m (k + 1) p f' h1 (fun b hb hb1 => ?_) (by omega) (by omega)
      by_cases e : b = k
      · subst e
        rw [g0] at hb1
        exact absurd hb1 (by decide)
      · exact h2 b (by omega) hb1
    · have gk : g k = 1 := by
        rcases hg k hk with z | z
        · exact absurd z g0
        · exact z
      have ka : k ≠ a := fun e => by rw [e] at g0; exact g0 ga
      have rd : ∀ x, g_M x n → (∀ p, x = nI p → pa Y a p) → f_241 x (nI k) (kn_s T f' g) = some (nI (kn_0 K x k), kn_s T f' g) := by
        intro x hx hp
        refine kn_241 (by omega) hx hk (fun q hq e => ?_)
        have gq := hpa q hq (hp q e)
        have qa : q ≠ a := fun e' => by rw [e'] at gq; rw [ga] at gq; exact absurd gq (by decide)
        rw [h1 q k (by omega) (by omega) qa ka]
        exact hf q k hq hk gq gk
      have sm := kn_sum (P := fun x => g x = 1) (K := K) hW (a := a) (b := k) (by omega) (by omega) gk (by rw [← hn]; exact hpa) (by rw [← hn]; exact hK)
      rw [if_pos g0, t_192_2 (kn_gT hT _ _) (by omega), x_bd, rd _ (hP a ha).1 (fun p e => Or.inl e), x_bd, t_192_3 (kn_gT hT _ _) (by omega), x_bd, rd _ (hP a ha).2 (fun p e => Or.inr e), x_bd, x_let, nI_add, show (2 : Int32) = nI 2 from rfl, pk_div (by omega) (by omega) (by omega), kn_ix, kn_ix, w_in (by omega) (by omega), nI_clamp (by omega), x_ck, x_let, kn_u47, w_in (by omega) (by omega), nI_clamp (by omega), x_ck, x_let, kn_u47]
      refine kn_93 hW hn hT ha ga hg hpa hK hf bk x2 m (k + 1) p _ (fun x z hx hz xa za => ?_) (fun b hb hb1 => ?_) (by omega) (by omega)
      · rw [pk_un (by omega), pk_un (by omega)]
        exact h1 x z hx hz xa za
      · by_cases e : b = k
        · subst e
          refine ⟨?_, ?_⟩
          · rw [pk_un (by omega), pk_us]
            rfl
          · rw [pk_us]
            rfl
        · have ba : b ≠ a := fun e' => by rw [e'] at hb1; rw [ga] at hb1; exact absurd hb1 (by decide)
          rw [pk_un (by omega), pk_un (by omega), pk_un (by omega), pk_un (by omega)]
          exact h2 b (by omega) hb1
/-- the next thing: the first of the least depth -/
theorem kn_45 {c : Nat} {Y V : GA} {Z T : QS} {n : Nat} {f g : Nat → Int32} (hW : g_W c Y) (hn : n = g_n (Y 0 2 0)) (hT : g_T Y V Z T) (hd : ∀ k, k < n → T.1 (46, 0, 0) k = Y 8 k 0) (bk : Int32 → Int32 → QS → Option ((Unit) × QS)) (x2 : Int32) : ∀ (m k p : Nat) (x3 : Int32), ((x3 = -1 ∧ ∀ x, x < k → g x ≠ 0) ∨ ∃ a, a < k ∧ x3 = nI a ∧ g a = 0 ∧ ∀ x, x < k → g x = 0 → x = a ∨ kn_lt Y a x) → k + m = n → m < p →
    ∃ x3', b_242_45 bk p (nI n) x2 x3 (nI k) (kn_s T f g) = b_242_93 bk q_N (nI n) x2 x3' 0 (kn_s T f g) ∧ ((x3' = -1 ∧ ∀ x, x < n → g x ≠ 0) ∨ ∃ a, a < n ∧ x3' = nI a ∧ g a = 0 ∧ ∀ x, x < n → g x = 0 → x = a ∨ kn_lt Y a x)
  | m, k, 0, _, _, _, h => by omega
  | 0, k, p + 1, x3, hx, hm, h => by
    have n22 := hW.2.1.2.2.1.2
    rw [← hn] at n22
    have : k = n := by omega
    subst this
    rw [b_242_45, if_pos (nI_le (by omega) (by omega))]
    exact ⟨x3, rfl, hx⟩
  | m + 1, k, p + 1, x3, hx, hm, h => by
    have n22 := hW.2.1.2.2.1.2
    rw [← hn] at n22
    have hk : k < n := by omega
    rw [b_242_45, if_neg (nI_ge (by omega) (by omega)), w_in (by omega) (by omega), nI_clamp (by omega), x_ck, x_let, kn_48]
    unfold b_242_81 b_242_84
    rw [nI_1]
    by_cases g0 : g k = 0
    · rw [if_neg (fun z => z g0)]
      obtain ⟨ek1, ek2, ek3⟩ := dp_E_W hW (k := k) (by omega)
      rcases hx with ⟨e, hx⟩ | ⟨a, ha, e, ga, hx⟩
      · rw [e, if_pos (by decide)]
        refine kn_45 hW hn hT hd bk x2 m (k + 1) p (nI k) (Or.inr ⟨k, by omega, rfl, g0, fun x hx' gx => ?_⟩) (by omega) (by omega)
        by_cases ex : x = k
        · exact Or.inl ex
        · exact absurd gx (hx x (by omega))
      · obtain ⟨ea1, ea2, ea3⟩ := dp_E_W hW (k := a) (by omega)
        rw [e, if_neg (nI_pos (by omega)), w_in (by omega) (by omega), nI_clamp (by omega)]
        simp only [x_ck, x_let]
        rw [kn_46, hd k hk, hd a (by omega), ek3, ea3]
        by_cases hlt : g_n (Y 8 a 0) ≤ g_n (Y 8 k 0)
        · rw [if_pos (nI_le hlt (by omega))]
          refine kn_45 hW hn hT hd bk x2 m (k + 1) p (nI a) (Or.inr ⟨a, by omega, rfl, ga, fun x hx' gx => ?_⟩) (by omega) (by omega)
          by_cases ex : x = k
          · rw [ex]
            unfold kn_lt
            right
            omega
          · exact hx x (by omega) gx
        · rw [if_neg (nI_ge (by omega) (by omega))]
          refine kn_45 hW hn hT hd bk x2 m (k + 1) p (nI k) (Or.inr ⟨k, by omega, rfl, g0, fun x hx' gx => ?_⟩) (by omega) (by omega)
          by_cases ex : x = k
          · exact Or.inl ex
          · right
            have q := hx x (by omega) gx
            unfold kn_lt at q ⊢
            rcases q with q | q
            · subst q; omega
            · omega
    · rw [if_pos g0]
      refine kn_45 hW hn hT hd bk x2 m (k + 1) p x3 ?_ (by omega) (by omega)
      rcases hx with ⟨e, hx⟩ | ⟨a, ha, e, ga, hx⟩
      · refine Or.inl ⟨e, fun x hx' => ?_⟩
        by_cases ex : x = k
        · rw [ex]; exact g0
        · exact hx x (by omega)
      · refine Or.inr ⟨a, by omega, e, ga, fun x hx' gx => ?_⟩
        by_cases ex : x = k
        · rw [ex] at gx; exact absurd gx g0
        · exact hx x (by omega) gx
/-- one more thing in the table -/
def kn_u (Y : GA) (K : Nat → Nat → Nat) (a : Nat) : Nat → Nat → Nat := fun x z => if x = a then (if z = a then 1073741824 else kn_v Y K a z) else if z = a then kn_v Y K a x else K x z
theorem kn_u_ne {Y : GA} {K : Nat → Nat → Nat} {a x z : Nat} (hx : x ≠ a) (hz : z ≠ a) : kn_u Y K a x z = K x z := by
  unfold kn_u
  rw [if_neg hx, if_neg hz]
theorem kn_u_1 {Y : GA} {K : Nat → Nat → Nat} {a z : Nat} (hz : z ≠ a) : kn_u Y K a a z = kn_v Y K a z := by
  unfold kn_u
  rw [if_pos rfl, if_neg hz]
theorem kn_u_2 {Y : GA} {K : Nat → Nat → Nat} {a x : Nat} (hx : x ≠ a) : kn_u Y K a x a = kn_v Y K a x := by
  unfold kn_u
  rw [if_neg hx, if_pos rfl]
theorem kn_u_3 {Y : GA} {K : Nat → Nat → Nat} {a : Nat} : kn_u Y K a a a = 1073741824 := by
  unfold kn_u
  rw [if_pos rfl, if_pos rfl]
theorem kn_0c {K K' : Nat → Nat → Nat} {n b : Nat} {x : Int32} (hn : n ≤ 200) (hx : g_M x n) (h : ∀ p, p < n → x = nI p → K' p b = K p b) : kn_0 K' x b = kn_0 K x b := by
  unfold kn_0
  rcases hx with rfl | ⟨p, hp, rfl⟩
  · rfl
  · rw [if_neg (g_nI_m1 (by omega)), if_neg (g_nI_m1 (by omega)), g_n_nI (by omega), h p hp rfl]
theorem kn_vc {Y : GA} {K K' : Nat → Nat → Nat} {n a b : Nat} (hn : n ≤ 200) (hP : dp_P Y n) (ha : a < n) (h : ∀ p, p < n → pa Y a p → K' p b = K p b) : kn_v Y K' a b = kn_v Y K a b := by
  unfold kn_v
  rw [kn_0c hn (hP a ha).1 (fun p hp e => h p hp (Or.inl e)), kn_0c hn (hP a ha).2 (fun p hp e => h p hp (Or.inr e))]
theorem kn_uT {c : Nat} {Y : GA} {n a : Nat} {P : Nat → Prop} {K : Nat → Nat → Nat} (hW : g_W c Y) (hn : n = g_n (Y 0 2 0)) (ha : a < n) (hPa : ¬ P a) (hdn : ∀ x z, x < n → z < n → P x → kn_lt Y z x → P z) (hlow : ∀ z, z < n → kn_lt Y z a → P z) (hK : kn_T Y n P K) : kn_T Y n (fun x => x = a ∨ P x) (kn_u Y K a) := by
  have n22 := hW.2.1.2.2.1.2
  rw [← hn] at n22
  have hP := dp_P_W hW
  rw [← hn] at hP
  have pl : ∀ x p, x < n → p < n → pa Y x p → kn_lt Y p x := fun x p hx hp h => kn_pl hW (by omega) (by omega) h
  have sm : ∀ z, z < n → P z → kn_v Y K a z < 1073741824 := fun z hz hPz => by
    have := kn_sum (P := P) (K := K) hW (a := a) (b := z) (by omega) (by omega) hPz (by rw [← hn]; exact fun p hp h => hlow p hp (pl a p ha hp h)) (by rw [← hn]; exact hK)
    unfold kn_v
    omega
  refine ⟨?_, ?_, ?_, ?_⟩
  · intro x hx hp
    by_cases e : x = a
    · subst e; exact kn_u_3
    · rw [kn_u_ne e e]
      exact hK.1 x hx (hp.resolve_left e)
  · intro x z hx hz hpx hpz
    by_cases e : x = a
    · subst e
      by_cases e' : z = x
      · subst e'; rfl
      · rw [kn_u_1 e', kn_u_2 e']
    · by_cases e' : z = a
      · subst e'
        rw [kn_u_1 e, kn_u_2 e]
      · rw [kn_u_ne e e', kn_u_ne e' e]
        exact hK.2.1 x z hx hz (hpx.resolve_left e) (hpz.resolve_left e')
  · intro x z hx hz hpx hpz hne
    by_cases e : x = a
    · subst e
      rw [kn_u_1 (Ne.symm hne)]
      exact sm z hz (hpz.resolve_left (Ne.symm hne))
    · by_cases e' : z = a
      · subst e'
        rw [kn_u_2 e]
        exact sm x hx (hpx.resolve_left e)
      · rw [kn_u_ne e e']
        exact hK.2.2.1 x z hx hz (hpx.resolve_left e) (hpz.resolve_left e') hne
  · intro x z hx hz hpx hpz hlt
    by_cases e : x = a
    · subst e
      have hne : z ≠ x := fun e' => by rw [e'] at hlt; exact kn_ir Y x hlt
      rw [kn_u_1 hne]
      refine (kn_vc n22 hP hx (fun p hp hpa => ?_)).symm
      have hpx : p ≠ x := fun e' => by
        have := pl x p hx hp hpa
        rw [e'] at this
        exact kn_ir Y x this
      exact kn_u_ne hpx hne
    · have hPx := hpx.resolve_left e
      by_cases e' : z = a
      · subst e'
        exact absurd (hdn x z hx hz hPx hlt) hPa
      · rw [kn_u_ne e e', hK.2.2.2 x z hx hz hPx (hpz.resolve_left e') hlt]
        refine (kn_vc n22 hP hx (fun p hp hpa => ?_)).symm
        have hpa' : p ≠ a := fun ep => by
          subst ep
          exact hPa (hdn x p hx hp hPx (pl x p hx hp hpa))
        exact kn_u_ne hpa' e'
theorem kn_all {D : Nat → Nat} {n x : Nat} (hD : ∀ j, j < n → D j ≤ 1) (h : dp_s D n = n) (hx : x < n) : D x = 1 := by
  have h1 := hD x hx
  by_cases e : D x = 1
  · exact e
  · have h2 := dp_s_u (D := D) (v := 1) hx
    have h3 : dp_s (dp_u D x 1) n ≤ 1 * n := dp_s_le (fun j hj => by
      unfold dp_u
      by_cases e : j = x
      · rw [if_pos e]; exact Nat.le_refl _
      · rw [if_neg e]; exact hD j hj)
    omega
theorem kn_lt1 {D : Nat → Nat} {n x : Nat} (hD : ∀ j, j < n → D j ≤ 1) (hx : x < n) (h0 : D x = 0) : dp_s D n < n := by
  have h2 := dp_s_u (D := D) (v := 1) hx
  have h3 : dp_s (dp_u D x 1) n ≤ 1 * n := dp_s_le (fun j hj => by
    unfold dp_u
    by_cases e : j = x
    · rw [if_pos e]; exact Nat.le_refl _
    · rw [if_neg e]; exact hD j hj)
  omega
theorem kn_ud (g : Nat → Int32) (a : Nat) : (fun z => g_n (upd g a 1 z)) = dp_u (fun z => g_n (g z)) a 1 := by
  funext z
  unfold dp_u
  by_cases e : z = a
  · subst e; rw [pk_us, if_pos rfl]; rfl
  · rw [pk_un e, if_neg e]
