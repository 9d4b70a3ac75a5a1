/-! ===== kin: the class's pairs ===== -/
def kt : Nat → Nat
  | 0 => 0
  | n + 1 => kt n + n
theorem kt_2 : ∀ n, (n + 1) * n = 2 * kt (n + 1)
  | 0 => rfl
  | n + 1 => by
    show (n + 2) * (n + 1) = 2 * (kt (n + 1) + (n + 1))
    rw [Nat.mul_add 2, ← kt_2 n, Nat.mul_comm (n + 1) n, ← Nat.add_mul, Nat.add_comm n 2]
theorem kt_mono : ∀ {b a : Nat}, a ≤ b → kt a ≤ kt b
  | 0, a, h => by
    have : a = 0 := by omega
    rw [this]
    exact Nat.le_refl _
  | b + 1, a, h => by
    by_cases e : a = b + 1
    · rw [e]; exact Nat.le_refl _
    · have := kt_mono (b := b) (a := a) (by omega)
      show kt a ≤ kt b + b
      omega
theorem kt_200 {a : Nat} (h : a ≤ 200) : kt a ≤ 19900 := by
  have := kt_mono h
  have e : kt 200 = 19900 := by decide +kernel
  omega
theorem kt_lt {i j m : Nat} (hj : j < i) (hi : i < m) : kt i + j < kt m := by
  have h1 : kt (i + 1) ≤ kt m := kt_mono (by omega)
  have h2 : kt (i + 1) = kt i + i := rfl
  omega
theorem kt_ne {i j a b : Nat} (hj : j < i) (hb : b < a) (h : ¬ (i = a ∧ j = b)) : kt a + b ≠ kt i + j := by
  intro e
  by_cases h1 : a < i
  · have := kt_lt hb h1
    omega
  · by_cases h2 : i < a
    · have := kt_lt hj h2
      omega
    · have : i = a := by omega
      subst this
      omega
theorem kt_ix {i : Nat} (h1 : 1 ≤ i) (h : i ≤ 200) : (nI i * (nI i - 1)) / 2 = nI (kt i) := by
  obtain ⟨k, rfl⟩ : ∃ k, i = k + 1 := ⟨i - 1, by omega⟩
  have hk := kt_200 h
  rw [nI_pred, pk_mul, kt_2, show (2 : Int32) = nI 2 from rfl, pk_div (by omega) (by omega) (by omega), Nat.mul_div_cancel_left _ (by omega)]
theorem kq_69 {y : Nat} {Y V : GA} {X S : QS} {m : Nat} (hC : g_C y Y V X S) (h5 : S.1 (5, 0, 0) 4 = nI m) (h1 : 1 ≤ m) (hm : m ≤ 200) : ∃ S', f_69 S = some ((), S') ∧ g_C y Y V X S' ∧ kt m ≤ S'.2.2.1.2.2.2.2.2.1 ∧ S'.2.2.1.2.2.2.2.2.1 ≤ 39800 ∧ (∀ a : VA, a.1 ≠ 30 → S'.1 a = S.1 a) := by
  obtain ⟨r1, r2, r3, r4, r5⟩ := hC.2.2.2.2.2.2.2
  have hk := kt_200 hm
  unfold f_69
  rw [h5, kt_ix h1 hm, x_let, show Int32.ofNat S.2.2.1.2.2.2.2.2.1 = nI S.2.2.1.2.2.2.2.2.1 from rfl]
  by_cases hle : kt m ≤ S.2.2.1.2.2.2.2.2.1
  · rw [if_pos (nI_le hle (by omega))]
    exact ⟨S, rfl, hC, hle, r4, fun _ _ => rfl⟩
  · rw [if_neg (nI_ge (by omega) (by omega)), show (2 : Int32) = nI 2 from rfl, pk_mul, nI_clamp (by omega), decide_eq_true (nI_pos (show kt m * 2 < 2 ^ 31 by omega)), decide_eq_true (show kt m * 2 ≤ 50000 by omega), r5 (kt m * 2) (by omega), show (true && true && !false) = true from rfl, x_ck]
    have hR : g_C y Y V X (q_row S (30, kt m * 2, 0) (fun _ => 0)) := g_C_scr hC (by omega)
    refine ⟨_, rfl, ⟨hR.1, hR.2.1, hR.2.2.1, hR.2.2.2.1, hR.2.2.2.2.1, hR.2.2.2.2.2.1, hR.2.2.2.2.2.2.1, ?_, ?_, ?_, ?_, ?_⟩, ?_, ?_, ?_⟩
    · show S.2.2.2.1 + 1 + 2 * g_uh S.2.2.1 + 2 * g_uf S.2.2.1 + g_ut S.2.2.1 ≤ 1412 + kt m * 2
      omega
    · show S.2.2.2.2 + kt m * 2 + 108 * g_uh S.2.2.1 + 66 * g_uf S.2.2.1 + 9 * g_ut S.2.2.1 ≤ 122329 + 2 * (kt m * 2)
      omega
    · show 16 ≤ kt m * 2
      omega
    · show kt m * 2 ≤ 39800
      omega
    · intro n hn
      have hn' : kt m * 2 < n := hn
      show (if n = kt m * 2 then true else S.2.2.1.2.2.2.2.2.2 n) = false
      rw [if_neg (by omega)]
      exact r5 n (by omega)
    · show kt m ≤ kt m * 2
      omega
    · show kt m * 2 ≤ 39800
      omega
    · intro a ha
      show (if a = (30, kt m * 2, 0) then fun _ => 0 else S.1 a) = S.1 a
      rw [if_neg (fun e => ha (by rw [e]))]
/-- what is known of pairs: all of less than i -/
def kq (K : Nat → Nat → Nat) (o : Nat → Nat) (i : Nat) (h : Nat → Int32) : Prop := ∀ a b, b < a → a < i → h (kt a + b) = nI (K (o a) (o b))
theorem kq_72 {S : QS} {L m i r j n : Nat} {h : Nat → Int32} {K : Nat → Nat → Nat} {o : Nat → Nat} {Y : GA} {P : Nat → Prop} (hL : S.2.2.1.2.2.2.2.2.1 = L) (hLm : kt m ≤ L) (hL4 : L ≤ 39800) (hm : m ≤ 200) (hK : kn_T Y n (fun _ => True) K) (ho : kp n m P o) (hi : i ≤ m) (hr : r < i) (hj : j < i) (hq : kq K o i h) : f_72 (nI r) (nI j) (q_row S (30, L, 0) h) = some (nI (K (o r) (o j)), q_row S (30, L, 0) h) := by
  unfold f_72 f_70
  have eL : (q_row S (30, L, 0) h).2.2.1.2.2.2.2.2.1 = L := hL
  rw [eL]
  have go : ∀ a b, b < a → a < i → q_bd (some ((nI a * (nI a - 1)) / 2 + nI b, q_row S (30, L, 0) h)) (fun r_3 S_4 => q_ck (v_in r_3 L) (q_let (S_4.1 (30, L, 0) r_3.toNatClampNeg) (fun y_5 => some (y_5, S_4)))) = some (nI (K (o a) (o b)), q_row S (30, L, 0) h) := by
    intro a b hb ha
    have q := kt_lt hb (show a < m by omega)
    rw [x_bd, kt_ix (by omega) (by omega), nI_add, w_in (by omega) (by omega), nI_clamp (by omega), x_ck, x_let, w_row_same, hq a b hb ha]
  by_cases e : r = j
  · subst e
    rw [if_neg (fun q => q rfl), hK.1 (o r) (ho.1 r (by omega)).1 trivial]
    rfl
  · rw [if_pos (fun q => e ((nI_eq (by omega) (by omega)).1 q))]
    by_cases hlt : r < j
    · rw [if_pos (nI_lt hlt (by omega)), if_neg (nI_nlt (by omega) (by omega)), x_let, x_let, go j r hlt hj, hK.2.1 (o j) (o r) (ho.1 j (by omega)).1 (ho.1 r (by omega)).1 trivial trivial]
    · rw [if_neg (nI_nlt (by omega) (by omega)), if_pos (nI_lt (show j < r by omega) (by omega)), x_let, x_let, go r j (by omega) hr]
theorem kq_71 {S : QS} {L m i j n : Nat} {h : Nat → Int32} {K : Nat → Nat → Nat} {o : Nat → Nat} {Y : GA} {P : Nat → Prop} {x : Int32} (hn : n ≤ 200) (hL : S.2.2.1.2.2.2.2.2.1 = L) (hLm : kt m ≤ L) (hL4 : L ≤ 39800) (hm : m ≤ 200) (hK : kn_T Y n (fun _ => True) K) (ho : kp n m P o) (hi : i ≤ m) (hj : j < i) (hq : kq K o i h) (hrk : ∀ x, x < m → S.1 (29, 0, 0) (o x) = nI x) (hx : x = -1 ∨ ∃ r, r < i ∧ x = nI (o r)) : f_71 x (nI j) (q_row S (30, L, 0) h) = some (nI (kn_0 K x (o j)), q_row S (30, L, 0) h) := by
  unfold f_71 kn_0
  rcases hx with rfl | ⟨r, hr, rfl⟩
  · rw [if_neg (by decide), if_pos rfl]
    rfl
  · have q := (ho.1 r (by omega)).1
    rw [if_pos (g_nI_m1 (by omega)), if_neg (g_nI_m1 (by omega)), w_in (by omega) (by omega), nI_clamp (by omega), x_ck, x_let, w_row_ne (fun e => absurd (congrArg Prod.fst e) (show (29 : Nat) ≠ 30 by decide)), hrk r (by omega), kq_72 hL hLm hL4 hm hK ho hi hr hj hq, x_bd, g_n_nI (by omega)]
theorem kn_le {Y : GA} {n : Nat} {K : Nat → Nat → Nat} (hK : kn_T Y n (fun _ => True) K) {x : Int32} {b : Nat} (hn : n ≤ 200) (hx : g_M x n) (hb : b < n) : kn_0 K x b ≤ 1073741824 := by
  unfold kn_0
  rcases hx with rfl | ⟨p, hp, rfl⟩
  · rw [if_pos rfl]; omega
  · rw [if_neg (g_nI_m1 (by omega)), g_n_nI (by omega)]
    by_cases e : p = b
    · subst e
      rw [hK.1 p hp trivial]
      exact Nat.le_refl _
    · have := hK.2.2.1 p b hp hb trivial trivial e
      omega
/-- a parent of a gathered thing stands before it -/
theorem kq_pa {c : Nat} {Y : GA} {n m i : Nat} {o : Nat → Nat} {P : Nat → Prop} {x : Int32} (hW : g_W c Y) (hn : n = g_n (Y 0 2 0)) (ho : kp n m P o) (hs : ksr Y m o) (hup : mk_up Y n P) (hi : i < m) (hx : g_M x n) (hp : ∀ p, x = nI p → pa Y (o i) p) : x = -1 ∨ ∃ r, r < i ∧ x = nI (o r) := by
  rcases hx with hx | ⟨p, hp', e⟩
  · exact Or.inl hx
  · right
    have oi := ho.1 i hi
    have q := hp p e
    obtain ⟨r, r1, r2⟩ := ho.2.2 p hp' (hup (o i) p oi.1 hp' q oi.2)
    have hlt : kn_lt Y p (o i) := kn_pl hW (by omega) (by omega) q
    refine ⟨r, ?_, by rw [r2]; exact e⟩
    rw [← r2] at hlt
    by_cases h1 : r < i
    · exact h1
    · by_cases h2 : r = i
      · subst h2
        exact absurd hlt (kn_ir Y (o r))
      · exact (kn_as hlt (hs i r (by omega) r1)).elim
theorem kq_44 {c y : Nat} {Y V : GA} {X S : QS} {L m i n : Nat} {K : Nat → Nat → Nat} {o : Nat → Nat} {P : Nat → Prop} (hW : g_W c Y) (hn : n = g_n (Y 0 2 0)) (hC : g_C y Y V X S) (hL : S.2.2.1.2.2.2.2.2.1 = L) (hLm : kt m ≤ L) (hL4 : L ≤ 39800) (hm : m ≤ 200) (hK : kn_T Y n (fun _ => True) K) (ho : kp n m P o) (hs : ksr Y m o) (hup : mk_up Y n P) (hi : i < m) (h1 : 1 ≤ i) (hrk : ∀ x, x < m → S.1 (29, 0, 0) (o x) = nI x) (bk : Nat → Int32 → Int32 → Int32 → QS → Option ((Int32) × QS)) (xa xb : Int32) : ∀ (d j p : Nat) (h : Nat → Int32), kq K o i h → (∀ b, b < j → h (kt i + b) = nI (K (o i) (o b))) → j + d = i → d < p →
    ∃ h', b_64_44 bk p y xa xb (nI i) y (o i) (nI j) (q_row S (30, L, 0) h) = bk y xa xb (nI (i + 1)) (q_row S (30, L, 0) h') ∧ kq K o (i + 1) h'
  | d, j, 0, _, _, _, _, h => by omega
  | 0, j, p + 1, h, hq, hb, hd, hf => by
    rw [b_64_44, if_pos (nI_le (by omega) (by omega)), nI_1]
    refine ⟨h, rfl, fun a b hba ha => ?_⟩
    by_cases e : a = i
    · rw [e] at hba ⊢; exact hb b (by omega)
    · exact hq a b hba (by omega)
  | d + 1, j, p + 1, h, hq, hb, hd, hf => by
    have n22 := hW.2.1.2.2.1.2
    rw [← hn] at n22
    have hP := dp_P_W hW
    rw [← hn] at hP
    have oi := (ho.1 i hi).1
    have oj := (ho.1 j (by omega)).1
    have hC' : g_C y Y V X (q_row S (30, L, 0) h) := g_C_scr hC (by omega)
    have kq1 := kt_lt (show j < i by omega) hi
    have p2 := kq_pa (x := Y 6 (o i) 2) hW hn ho hs hup hi (hP (o i) oi).1 (fun p e => Or.inl e)
    have p3 := kq_pa (x := Y 6 (o i) 3) hW hn ho hs hup hi (hP (o i) oi).2 (fun p e => Or.inr e)
    have l2 := kn_le hK n22 (hP (o i) oi).1 oj
    have l3 := kn_le hK n22 (hP (o i) oi).2 oj
    have eL : (q_row S (30, L, 0) h).2.2.1.2.2.2.2.2.1 = L := hL
    have hv : K (o i) (o j) = kn_v Y K (o i) (o j) := hK.2.2.2 (o i) (o j) oi oj trivial trivial (hs j i (by omega) hi)
    rw [b_64_44, if_neg (nI_ge (by omega) (by omega)), c_t2 hC' (by omega) (by omega), kq_71 n22 hL hLm hL4 hm hK ho (by omega) (by omega) hq hrk p2, x_bd, c_t3 hC' (by omega) (by omega), kq_71 n22 hL hLm hL4 hm hK ho (by omega) (by omega) hq hrk p3, x_bd, nI_l (by omega), nI_l (by omega), lN_add, x_let]
    unfold f_70
    rw [x_bd, eL, kt_ix h1 (by omega), nI_add, w_in (by omega) (by omega), nI_clamp (by omega), x_ck, x_let, dp_set, show (2 : Int64) = lN 2 from rfl, pk_lDiv (by omega) (by omega) (by omega), lN_i, nI_1]
    refine kq_44 hW hn hC hL hLm hL4 hm hK ho hs hup hi h1 hrk bk xa xb d (j + 1) p _ ?_ ?_ (by omega) (by omega)
    · intro a b hba ha
      rw [pk_un (kt_ne (by omega) hba (by omega))]
      exact hq a b hba ha
    · intro b hbj
      by_cases e : b = j
      · subst e
        rw [pk_us, hv]
        rfl
      · rw [pk_un (by omega)]
        exact hb b (by omega)
theorem kq_19 {c y : Nat} {Y V : GA} {X S : QS} {L m n a b : Nat} {K : Nat → Nat → Nat} {o : Nat → Nat} {P : Nat → Prop} (hW : g_W c Y) (hn : n = g_n (Y 0 2 0)) (hC : g_C y Y V X S) (hL : S.2.2.1.2.2.2.2.2.1 = L) (hLm : kt m ≤ L) (hL4 : L ≤ 39800) (hm : m ≤ 200) (hK : kn_T Y n (fun _ => True) K) (ho : kp n m P o) (hs : ksr Y m o) (hup : mk_up Y n P) (h5 : S.1 (5, 0, 0) 4 = nI m) (h28 : ∀ x, x < m → S.1 (28, 0, 0) x = nI (o x)) (hrk : ∀ x, x < m → S.1 (29, 0, 0) (o x) = nI x) (ha : a < n) (hb : b < n) (hPa : P a) (hPb : P b) : ∀ (d k p : Nat) (h : Nat → Int32), kq K o k h → 1 ≤ k → k + d = m → d < p →
    ∃ S', b_64_19 p y (nI a) (nI b) (nI k) (q_row S (30, L, 0) h) = some (nI (K a b), S') ∧ g_C y Y V X S'
  | d, k, 0, _, _, _, _, h => by omega
  | 0, k, p + 1, h, hq, h1, hd, hf => by
    have n22 := hW.2.1.2.2.1.2
    rw [← hn] at n22
    have ekm : k = m := by omega
    subst ekm
    obtain ⟨ra, ra1, ra2⟩ := ho.2.2 a ha hPa
    obtain ⟨rb, rb1, rb2⟩ := ho.2.2 b hb hPb
    have e29 : (q_row S (30, L, 0) h).1 (29, 0, 0) = S.1 (29, 0, 0) := w_row_ne (fun e => absurd (congrArg Prod.fst e) (show (29 : Nat) ≠ 30 by decide))
    have e5 : (q_row S (30, L, 0) h).1 (5, 0, 0) = S.1 (5, 0, 0) := w_row_ne (fun e => absurd (congrArg Prod.fst e) (show (5 : Nat) ≠ 30 by decide))
    have ga : S.1 (29, 0, 0) a = nI ra := by rw [← ra2]; exact hrk ra ra1
    have gb : S.1 (29, 0, 0) b = nI rb := by rw [← rb2]; exact hrk rb rb1
    rw [b_64_19, e5, h5, if_pos (nI_le (by omega) (by omega)), e29, w_in (show a < 200 by omega) (by omega), nI_clamp (show a < 2 ^ 31 by omega), x_ck, x_let, w_in (show b < 200 by omega) (by omega), nI_clamp (show b < 2 ^ 31 by omega), x_ck, x_let, ga, gb, kq_72 hL hLm hL4 hm hK ho (Nat.le_refl _) ra1 rb1 hq, x_bd, ra2, rb2]
    exact ⟨_, rfl, g_C_scr hC (by omega)⟩
  | d + 1, k, p + 1, h, hq, h1, hd, hf => by
    have n22 := hW.2.1.2.2.1.2
    rw [← hn] at n22
    have ok := (ho.1 k (by omega)).1
    have hC' : g_C y Y V X (q_row S (30, L, 0) h) := g_C_scr hC (by omega)
    have e28 : (q_row S (30, L, 0) h).1 (28, 0, 0) = S.1 (28, 0, 0) := w_row_ne (fun e => absurd (congrArg Prod.fst e) (show (28 : Nat) ≠ 30 by decide))
    have e5 : (q_row S (30, L, 0) h).1 (5, 0, 0) = S.1 (5, 0, 0) := w_row_ne (fun e => absurd (congrArg Prod.fst e) (show (5 : Nat) ≠ 30 by decide))
    rw [b_64_19, e5, h5, if_neg (nI_ge (by omega) (by omega)), w_in (show k < 200 by omega) (by omega), nI_clamp (show k < 2 ^ 31 by omega), x_ck, x_let, e28, h28 k (by omega), c_93 hC' (by omega) (by omega), x_bd]
    dsimp only
    obtain ⟨h', a1, a2⟩ := kq_44 hW hn hC hL hLm hL4 hm hK ho hs hup (show k < m by omega) h1 hrk (b_64_19 p) (nI a) (nI b) k 0 q_N h hq (fun b hb => by omega) (by omega) (by unfold q_N; omega)
    rw [show b_64_44 (b_64_19 p) q_N y (nI a) (nI b) (nI k) y (o k) 0 (q_row S (30, L, 0) h) = _ from a1]
    exact kq_19 hW hn hC hL hLm hL4 hm hK ho hs hup h5 h28 hrk ha hb hPa hPb d (k + 1) p h' a2 (by omega) (by omega) (by omega)
/-- the class's kin -/
theorem kq_64 {c y : Nat} {Y V : GA} {X S : QS} {a b : Nat} {K : Nat → Nat → Nat} (hW : g_W c Y) (hC : g_C y Y V X S) (ha : a < g_n (Y 0 2 0)) (hb : b < g_n (Y 0 2 0)) (hK : kn_T Y (g_n (Y 0 2 0)) (fun _ => True) K) : ∃ S', f_64 y (nI a) (nI b) S = some (nI (K a b), S') ∧ g_C y Y V X S' := by
  have n22 := hW.2.1.2.2.1.2
  obtain ⟨S1, m, a1, a2, a3, a4, a5, a6⟩ := kg_65 hW hC ha hb
  have hm := kg_le a3
  have h1 : 1 ≤ m := by
    obtain ⟨i, i1, _⟩ := a3.2.2.2.2.2 a ha a4
    omega
  obtain ⟨S2, o, b1, b2, b3, b4, b5, b6, b7⟩ := ks_67 hW a2 a3 h1
  obtain ⟨S3, c1, c2, c3, c4, c5⟩ := kq_69 b2 b3 h1 (by omega)
  unfold f_64
  rw [a1, x_bd, b1, x_bd, c1, x_bd]
  obtain ⟨S4, d1, d2⟩ := kq_19 (S := S3) hW rfl c2 rfl c3 c4 (show m ≤ 200 by omega) hK b4 b5 a6 (by rw [c5 _ (by decide)]; exact b3) (fun x hx => by rw [c5 _ (by decide)]; exact b6 x hx) (fun x hx => by rw [c5 _ (by decide)]; exact b7 x hx) ha hb a4 a5 (m - 1) 1 q_N (S3.1 (30, S3.2.2.1.2.2.2.2.2.1, 0)) (fun a b h1 h2 => by omega) (by omega) (by omega) (by unfold q_N; omega)
  rw [w_row_id] at d1
  exact ⟨S4, d1, d2⟩
theorem jj_145 {c y : Nat} {Y V : GA} {X Z S T : QS} (h : g_R c y Y V X Z S T) (x z : Int32) : g_Ok c X Z (f_145 x z S) (f_243 x z T) := by
  obtain ⟨hC, hT, hW, hV, hU⟩ := id h
  have n22 := hW.2.1.2.2.1.2
  unfold f_145 f_243 b_145_16 f_202
  simp only [w_eta]
  rw [c_174 hC, x_bd, t_199 hT, x_bd, t_199 hT, x_bd]
  rcases g_tw_cases hW x with q | ⟨q, a, a1, a2, rfl⟩
  · rw [if_pos (g_12a q), if_neg (g_12a q), if_neg (g_12b q), x_bd, if_neg (g_12b q)]
    exact g_refuse h _
  · rw [if_neg (show ¬ ¬ g_tw Y (nI a) = 0 from fun p => p q), c_174 hC, x_bd, if_pos (show g_tw Y (nI a) ≤ 0 by rw [q]; decide), x_bd]
    rcases g_tw_cases hW z with q' | ⟨q', b, b1, b2, rfl⟩
    · rw [if_neg (g_12a q'), if_neg (g_12b q')]
      exact g_refuse h _
    · obtain ⟨T', f, g, K, k1, k2, k3, k4⟩ := kn_242 hW hT
      obtain ⟨S', l1, l2⟩ := kq_64 hW hC a1 b1 k3
      have e := kn_241 (T := T') (f := f) (g := g) (K := K) (x := nI a) (b := b) n22 (Or.inr ⟨a, a1, rfl⟩) b1 (fun p hp ep => k4 p b hp b1 trivial trivial)
      have e0 : kn_0 K (nI a) b = K a b := by
        unfold kn_0
        rw [if_neg (g_nI_m1 (by omega)), g_n_nI (by omega)]
      rw [e0] at e
      rw [if_pos q', if_pos (show g_tw Y (nI b) ≤ 0 by rw [q']; decide), c_now hC, l1, x_bd, k1, x_bd, e, x_bd]
      exact g_accept (c := c) (y := y) (Y := Y) (V := V) ⟨l2, kn_gT k2 f g, hW, hV, hU⟩ _
