/-! ===== places, frames, fields: why not ===== -/
theorem g_N_le {x : Int32} {m k : Nat} (h : g_N x m) (hm : m < 2 ^ 31) (hk : k < 2 ^ 31) : x ≤ nI k ↔ g_n x ≤ k := by
  obtain ⟨e, b⟩ := h
  generalize g_n x = a at e b ⊢
  subst e
  exact nI_leI (by omega) hk
theorem g_N_ge {x : Int32} {m k : Nat} (h : g_N x m) (hm : m < 2 ^ 31) (hk : k < 2 ^ 31) : nI k ≤ x ↔ k ≤ g_n x := by
  obtain ⟨e, b⟩ := h
  generalize g_n x = a at e b ⊢
  subst e
  exact nI_leI hk (by omega)
theorem g_N_lt {x : Int32} {m k : Nat} (h : g_N x m) (hm : m < 2 ^ 31) (hk : k < 2 ^ 31) : x < nI k ↔ g_n x < k := by
  obtain ⟨e, b⟩ := h
  generalize g_n x = a at e b ⊢
  subst e
  exact nI_ltI (by omega) hk
theorem g_N_gt {x : Int32} {m k : Nat} (h : g_N x m) (hm : m < 2 ^ 31) (hk : k < 2 ^ 31) : nI k < x ↔ k < g_n x := by
  obtain ⟨e, b⟩ := h
  generalize g_n x = a at e b ⊢
  subst e
  exact nI_ltI hk (by omega)
theorem g_N_eq {x : Int32} {m k : Nat} (h : g_N x m) (hm : m < 2 ^ 31) (hk : k < 2 ^ 31) : x = nI k ↔ g_n x = k := by
  obtain ⟨e, b⟩ := h
  generalize g_n x = a at e b ⊢
  subst e
  exact nI_eq (by omega) hk
theorem g_N_12 {x : Int32} (h : g_N x 8) : x * 12 = nI (12 * g_n x) ∧ 12 * x = nI (12 * g_n x) := by
  obtain ⟨e, b⟩ := h
  generalize g_n x = a at e b ⊢
  subst e
  rw [show (12 : Int32) = nI 12 from rfl, pk_mul, pk_mul, Nat.mul_comm a 12]
  exact ⟨rfl, rfl⟩
theorem g_rem96 {p : Nat} (hp : p < 2 ^ 31) : nI p - nI p / 96 * 96 = nI (p % 96) := pk_rem (d := 96) hp (by omega) (by omega)
theorem g_div96 {p : Nat} (hp : p < 2 ^ 31) : nI p / 96 = nI (p / 96) := pk_div (d := 96) hp (by omega) (by omega)
def g_pw (Y : GA) (x : Int32) : Int32 := if x < 0 then 2 else if 3839 < x then 2 else if g_n x / 96 < g_n (Y 0 0 0) ∧ g_n x % 96 < 12 * g_n (Y 1 (g_n x / 96) 10) then 0 else 1
theorem g_pl3840 {x : Int32} (h0 : ¬ x < 0) (h : ¬ 3839 < x) : ∃ p, p < 3840 ∧ x = nI p := by
  obtain ⟨p, hp, e⟩ := nI_of2 (x := x) (M := 3839) (n := 3839) (by decide) h0 ((g_nle _ _).2 h)
  exact ⟨p, by omega, e⟩
theorem g_lt3840 (x : Int32) : x < 3840 ↔ ¬ 3839 < x := by
  rw [Int32.lt_iff_toInt_lt, Int32.lt_iff_toInt_lt, show (3840 : Int32).toInt = 3840 from by decide, show (3839 : Int32).toInt = 3839 from by decide]
  omega
theorem c_175 {c y : Nat} {Y V : GA} {X S : QS} (hC : g_C y Y V X S) (hW : g_W c Y) (x : Int32) : f_175 x S = some (g_pw Y x, S) := by
  obtain ⟨w5, w0, wB, w⟩ := hW
  unfold f_175 g_pw
  by_cases h1 : x < 0
  · rw [if_pos h1, if_pos h1]
  · rw [if_neg h1, if_neg h1]
    by_cases h2 : 3839 < x
    · rw [if_neg (fun q => (g_lt3840 x).1 q h2), if_pos h2]
    · rw [if_pos ((g_lt3840 x).2 h2), if_neg h2]
      obtain ⟨p, hp, e⟩ := g_pl3840 h1 h2
      subst e
      rw [g_n_nI (by omega), hC.1.1]
      unfold f_97
      rw [g_rem96 (p := p) (by omega), g_div96 (p := p) (by omega), w_let, c_n0 hC]
      by_cases h3 : p / 96 < g_n (Y 0 0 0)
      · rw [if_neg (fun q => by rw [g_N_le w0.1 (by omega) (by omega)] at q; omega), c_91 hC h3 (by omega), w_bd]
        unfold f_45
        have hb := wB (p / 96) h3
        have hb2 := hb.2
        dsimp only
        rw [w_bd, c_h10 hC h3 (by omega), (g_N_12 hb).1]
        by_cases h4 : p % 96 < 12 * g_n (Y 1 (p / 96) 10)
        · rw [if_neg (fun q => by rw [nI_leI (by omega) (by omega)] at q; omega), w_bd, if_neg (by decide), if_pos ⟨h3, h4⟩]
        · rw [if_pos (by rw [nI_leI (by omega) (by omega)]; omega), w_bd, if_pos rfl, if_neg (fun q => h4 q.2)]
      · rw [if_pos (by rw [g_N_le w0.1 (by omega) (by omega)]; omega), w_bd, if_pos rfl, if_neg (fun q => h3 q.1)]
theorem t_200 {c : Nat} {Y V : GA} {Z T : QS} (hT : g_T Y V Z T) (hW : g_W c Y) (x : Int32) : f_200 x T = some (g_pw Y x, T) := by
  obtain ⟨w5, w0, wB, w⟩ := hW
  unfold f_200 f_189 g_pw
  by_cases h1 : x < 0
  · rw [if_pos h1, if_pos h1, w_bd, if_neg (by decide)]
  · rw [if_neg h1, if_neg h1]
    by_cases h2 : 3839 < x
    · rw [if_pos h2, if_pos h2, w_bd, if_neg (by decide)]
    · rw [if_neg h2, if_neg h2, w_bd, if_pos (by decide)]
      obtain ⟨p, hp, e⟩ := g_pl3840 h1 h2
      subst e
      rw [g_n_nI (by omega), g_rem96 (p := p) (by omega), g_div96 (p := p) (by omega), w_let, w_i0, w_ck, w_let, w_c0, t_n0 hT]
      unfold b_200_45
      by_cases h3 : p / 96 < g_n (Y 0 0 0)
      · have hb := wB (p / 96) h3
        have hb2 := hb.2
        rw [if_neg (fun q => by rw [g_N_le w0.1 (by omega) (by omega)] at q; omega), t_190_10 hT (by omega), w_bd, show (12 : Int32) = nI 12 from rfl, pk_div (by omega) (by omega) (by omega)]
        by_cases h4 : p % 96 < 12 * g_n (Y 1 (p / 96) 10)
        · rw [if_pos (by rw [g_N_gt hb (by omega) (by omega)]; omega), if_pos ⟨h3, h4⟩]
        · rw [if_neg (fun q => by rw [g_N_gt hb (by omega) (by omega)] at q; omega), if_neg (fun q => h4 q.2)]
      · rw [if_pos (by rw [g_N_le w0.1 (by omega) (by omega)]; omega), if_neg (fun q => h3 q.1)]
theorem g_pw_cases {c : Nat} {Y : GA} (h : g_W c Y) (x : Int32) : (g_pw Y x = 2 ∨ g_pw Y x = 1) ∨ (g_pw Y x = 0 ∧ ∃ k i, k < g_n (Y 0 0 0) ∧ k < 40 ∧ i < 12 * g_n (Y 1 k 10) ∧ i < 96 ∧ x = nI (96 * k + i)) := by
  unfold g_pw
  by_cases h1 : x < 0
  · rw [if_pos h1]; exact Or.inl (Or.inl rfl)
  · rw [if_neg h1]
    by_cases h2 : 3839 < x
    · rw [if_pos h2]; exact Or.inl (Or.inl rfl)
    · rw [if_neg h2]
      obtain ⟨p, hp, e⟩ := g_pl3840 h1 h2
      subst e
      rw [g_n_nI (by omega)]
      by_cases h3 : p / 96 < g_n (Y 0 0 0) ∧ p % 96 < 12 * g_n (Y 1 (p / 96) 10)
      · rw [if_pos h3]
        exact Or.inr ⟨rfl, p / 96, p % 96, h3.1, by omega, h3.2, by omega, by rw [show 96 * (p / 96) + p % 96 = p from by omega]⟩
      · rw [if_neg h3]; exact Or.inl (Or.inr rfl)
theorem g_d96 {k i : Nat} (hi : i < 96) : (96 * k + i) / 96 = k ∧ (96 * k + i) % 96 = i := by omega
theorem c_98 {y : Nat} {Y V : GA} {X S : QS} (hC : g_C y Y V X S) {k i : Nat} (hk : k < g_n (Y 0 0 0)) (h4 : k < 40) (hi : i < 12 * g_n (Y 1 k 10)) (hi9 : i < 96) : f_98 y (nI (96 * k + i)) S = some (Y 2 k i, S) := by
  unfold f_98
  rw [g_rem96 (p := 96 * k + i) (by omega), g_div96 (p := 96 * k + i) (by omega), (g_d96 hi9).1, (g_d96 hi9).2, c_91 hC hk h4, w_bd, w_in hi9 (by omega), w_ck, w_let, nI_clamp (by omega)]
  dsimp only
  rw [c_p hC hk h4 hi hi9]
theorem c_99 {y : Nat} {Y V : GA} {X S : QS} (hC : g_C y Y V X S) {k i : Nat} (hk : k < g_n (Y 0 0 0)) (h4 : k < 40) (hi9 : i < 96) (v : Int32) : ∃ S1, f_99 y (nI (96 * k + i)) v S = some ((), S1) ∧ g_C y (g_up Y 2 k i v) V X S1 := by
  unfold f_99
  rw [g_rem96 (p := 96 * k + i) (by omega), g_div96 (p := 96 * k + i) (by omega), (g_d96 hi9).1, (g_d96 hi9).2, c_91 hC hk h4, w_bd, w_in hi9 (by omega), w_ck, nI_clamp (by omega)]
  obtain ⟨S1, e1, h1⟩ := cs_p hC h4 hi9 v
  dsimp only
  rw [e1]
  exact ⟨S1, rfl, h1⟩
theorem c_100 {y : Nat} {Y V : GA} {X S : QS} (hC : g_C y Y V X S) {k i n : Nat} (hk : k < g_n (Y 0 0 0)) (h4 : k < 40) (hi : i < 12 * g_n (Y 1 k 10)) (hi9 : i < 96) (hn : n < g_n (Y 0 1 0)) (hn2 : n < 200) (e : Y 2 k i = nI n) : f_100 y (nI (96 * k + i)) S = some ((y, n), S) := by
  unfold f_100
  rw [c_98 hC hk h4 hi hi9, w_bd, e, c_92 hC hn hn2, w_bd]
def g_fw (Y : GA) (x : Int32) : Int32 := if g_pw Y x = 0 then (if Y 2 (g_n x / 96) (g_n x % 96) = -1 then 1 else 0) else g_pw Y x
theorem g_fw_cases {c : Nat} {Y : GA} (h : g_W c Y) (x : Int32) : (g_fw Y x = 2 ∨ g_fw Y x = 1) ∨ (g_fw Y x = 0 ∧ ∃ k i n, k < g_n (Y 0 0 0) ∧ k < 40 ∧ i < 12 * g_n (Y 1 k 10) ∧ i < 96 ∧ n < g_n (Y 0 1 0) ∧ n < 200 ∧ Y 2 k i = nI n ∧ x = nI (96 * k + i)) := by
  unfold g_fw
  rcases g_pw_cases h x with q | ⟨q, k, i, a1, a2, a3, a4, rfl⟩
  · rw [if_neg (by rcases q with q | q <;> (rw [q]; decide))]
    exact Or.inl q
  · rw [if_pos q, g_n_nI (by omega), (g_d96 a4).1, (g_d96 a4).2]
    by_cases e : Y 2 k i = -1
    · rw [if_pos e]; exact Or.inl (Or.inr rfl)
    · rw [if_neg e]
      rcases h.2.2.2.2.1 k i a2 a4 with p | ⟨_, _, n, hn, p⟩
      · exact absurd p e
      · exact Or.inr ⟨rfl, k, i, n, a1, a2, a3, a4, hn, by have := h.2.1.2.1.2; omega, p, rfl⟩
theorem c_176 {c y : Nat} {Y V : GA} {X S : QS} (hC : g_C y Y V X S) (hW : g_W c Y) (x : Int32) : f_176 x S = some (g_fw Y x, S) := by
  unfold f_176 g_fw
  rw [c_175 hC hW, w_bd]
  rcases g_pw_cases hW x with q | ⟨q, k, i, a1, a2, a3, a4, rfl⟩
  · rw [if_neg (by rcases q with q | q <;> (rw [q]; decide)), if_neg (by rcases q with q | q <;> (rw [q]; decide))]
  · rw [if_pos q, if_pos q, hC.1.1, c_98 hC a1 a2 a3 a4, w_bd, g_n_nI (by omega), (g_d96 a4).1, (g_d96 a4).2]
    by_cases e : Y 2 k i = -1
    · rw [if_neg (fun p => p e), if_pos e]
    · rw [if_pos e, if_neg e]
theorem t_201 {c : Nat} {Y V : GA} {Z T : QS} (hT : g_T Y V Z T) (hW : g_W c Y) (x : Int32) : f_201 x T = some (g_fw Y x, T) := by
  unfold f_201 g_fw
  rw [t_200 hT hW, w_bd]
  rcases g_pw_cases hW x with q | ⟨q, k, i, a1, a2, a3, a4, rfl⟩
  · rw [if_neg (by rcases q with q | q <;> (rw [q]; decide)), if_neg (by rcases q with q | q <;> (rw [q]; decide))]
  · rw [if_pos (by rw [q]; decide), if_pos q, t_194 hT a2 a4, w_bd, g_n_nI (by omega), (g_d96 a4).1, (g_d96 a4).2]
    rcases hW.2.2.2.2.1 k i a2 a4 with p | ⟨_, _, n, hn, p⟩
    · rw [p]; rfl
    · have hn2 : n < 200 := by have := hW.2.1.2.1.2; omega
      rw [p, if_pos (nI_pos' (by omega)), if_neg (g_nI_m1 (by omega))]
def g_dw (Y : GA) (x z : Int32) : Int32 := if g_fw Y x = 0 then (if z < 0 then 2 else if z < Y 3 (g_n (Y 2 (g_n x / 96) (g_n x % 96))) 0 then 0 else 2) else g_fw Y x
theorem g_dw_cases {c : Nat} {Y : GA} (h : g_W c Y) (x z : Int32) : (g_dw Y x z = 2 ∨ g_dw Y x z = 1) ∨ (g_dw Y x z = 0 ∧ ∃ k i n f, k < g_n (Y 0 0 0) ∧ k < 40 ∧ i < 12 * g_n (Y 1 k 10) ∧ i < 96 ∧ n < g_n (Y 0 1 0) ∧ n < 200 ∧ Y 2 k i = nI n ∧ x = nI (96 * k + i) ∧ f < g_n (Y 3 n 0) ∧ f < 64 ∧ z = nI f) := by
  unfold g_dw
  rcases g_fw_cases h x with q | ⟨q, k, i, n, a1, a2, a3, a4, a5, a6, a7, rfl⟩
  · rw [if_neg (by rcases q with q | q <;> (rw [q]; decide))]
    exact Or.inl q
  · rw [if_pos q, g_n_nI (by omega), (g_d96 a4).1, (g_d96 a4).2, a7, g_n_nI (by omega)]
    by_cases e : z < 0
    · rw [if_pos e]; exact Or.inl (Or.inl rfl)
    · rw [if_neg e]
      by_cases e2 : z < Y 3 n 0
      · rw [if_pos e2]
        obtain ⟨f, hf, rfl⟩ := nI_of e
        have hl := h.2.2.2.1 n a5
        rw [hl.1, nI_ltI hf (by have := hl.2; omega)] at e2
        exact Or.inr ⟨rfl, k, i, n, f, a1, a2, a3, a4, a5, a6, a7, rfl, e2, by have := hl.2; omega, rfl⟩
      · rw [if_neg e2]; exact Or.inl (Or.inl rfl)
theorem c_177 {c y : Nat} {Y V : GA} {X S : QS} (hC : g_C y Y V X S) (hW : g_W c Y) (x z : Int32) : f_177 x z S = some (g_dw Y x z, S) := by
  unfold f_177 g_dw b_177_31
  rw [c_176 hC hW, w_bd]
  rcases g_fw_cases hW x with q | ⟨q, k, i, n, a1, a2, a3, a4, a5, a6, a7, rfl⟩
  · rw [if_neg (by rcases q with q | q <;> (rw [q]; decide)), if_neg (by rcases q with q | q <;> (rw [q]; decide))]
  · rw [if_pos q, if_pos q, g_n_nI (by omega), (g_d96 a4).1, (g_d96 a4).2, a7, g_n_nI (by omega)]
    by_cases e : z < 0
    · rw [if_pos e, if_pos e]
    · rw [if_neg e, if_neg e, hC.1.1, c_100 hC a1 a2 a3 a4 a5 a6 a7, w_bd]
      dsimp only
      rw [c_l hC a5 a6]
      split <;> rfl
theorem g_ltm1 (z w : Int32) (h : 0 ≤ w) : (w - 1 < z) ↔ ¬ z < w := by
  have h0 : (0 : Int) ≤ w.toInt := by
    have := Int32.le_iff_toInt_le.1 h
    rwa [show (0 : Int32).toInt = 0 from by decide] at this
  obtain ⟨n, hn, rfl⟩ := nI_of (x := w) (by rw [Int32.lt_iff_toInt_lt, show (0 : Int32).toInt = 0 from by decide]; omega)
  have e : (nI n - 1).toInt = (n : Int) - 1 := by
    cases n with
    | zero => decide
    | succ m => rw [nI_pred, nI_toInt (by omega)]; omega
  rw [Int32.lt_iff_toInt_lt, Int32.lt_iff_toInt_lt, e, nI_toInt hn]
  omega
theorem t_217 {c : Nat} {Y V : GA} {Z T : QS} (hT : g_T Y V Z T) (hW : g_W c Y) (x z : Int32) : f_217 x z T = some (g_dw Y x z, T) := by
  unfold f_217 g_dw
  rw [t_201 hT hW, w_bd]
  rcases g_fw_cases hW x with q | ⟨q, k, i, n, a1, a2, a3, a4, a5, a6, a7, rfl⟩
  · rw [if_neg (by rcases q with q | q <;> (rw [q]; decide)), if_neg (by rcases q with q | q <;> (rw [q]; decide))]
  · rw [if_pos (by rw [q]; decide), if_pos q, g_n_nI (by omega), (g_d96 a4).1, (g_d96 a4).2, t_194 hT a2 a4, w_bd, a7, t_195 hT a6, w_bd, g_n_nI (by omega)]
    unfold f_189
    have hl := hW.2.2.2.1 n a5
    have h0 : 0 ≤ Y 3 n 0 := by rw [hl.1]; exact nI_pos' (by have := hl.2; omega)
    by_cases e : z < 0
    · rw [if_pos e, if_pos e, w_bd, if_pos rfl]
    · rw [if_neg e, if_neg e]
      by_cases e2 : z < Y 3 n 0
      · rw [if_pos e2, if_neg (fun p => (g_ltm1 _ _ h0).1 p e2), w_bd, if_neg (by decide)]
      · rw [if_neg e2, if_pos ((g_ltm1 _ _ h0).2 e2), w_bd, if_pos rfl]
