/-! ===== reading the functions: small rows ===== -/
theorem w_in {j n : Nat} (h : j < n) (hn : n < 2 ^ 31) : v_in (nI j) n = true := by
  have h1 := nI_in h hn
  rw [not_or] at h1
  unfold v_in
  rw [decide_eq_false h1.1, decide_eq_false h1.2]
  rfl
theorem w_ck {α : Type} (e : Option α) : q_ck true e = e := rfl
theorem w_let {α β : Type} (x : α) (k : α → β) : q_let x k = k x := rfl
theorem w_bd {α β γ : Type} (a : α) (b : β) (k : α → β → Option γ) : q_bd (some (a, b)) k = k a b := rfl
theorem w_row_same (S : QS) (a : VA) (f : Nat → Int32) : (q_row S a f).1 a = f := if_pos rfl
theorem w_row_ne {S : QS} {a b : VA} {f : Nat → Int32} (h : b ≠ a) : (q_row S a f).1 b = S.1 b := if_neg h
theorem w_row_2 (S : QS) (a : VA) (f : Nat → Int32) : (q_row S a f).2 = S.2 := rfl
theorem w_set (S : QS) (a : VA) (k : Nat) (x : Int32) : q_set S a k x = q_row S a (upd (S.1 a) k x) := rfl
theorem w_row_row (S : QS) (a : VA) (f g : Nat → Int32) : q_row (q_row S a f) a g = q_row S a g := by
  refine Prod.ext ?_ rfl
  funext b
  show (if b = a then g else if b = a then f else S.1 b) = if b = a then g else S.1 b
  split <;> rfl
theorem w_row_id (S : QS) (a : VA) : q_row S a (S.1 a) = S := by
  refine Prod.ext ?_ rfl
  funext b
  show (if b = a then S.1 a else S.1 b) = S.1 b
  split
  · rename_i h
    rw [h]
  · rfl
theorem w_row_comm {S : QS} {a b : VA} {f g : Nat → Int32} (h : a ≠ b) : q_row (q_row S a f) b g = q_row (q_row S b g) a f := by
  refine Prod.ext ?_ rfl
  funext c
  show (if c = b then g else if c = a then f else S.1 c) = if c = a then f else if c = b then g else S.1 c
  by_cases h1 : c = b
  · rw [if_pos h1, if_neg (fun e => h (e.symm.trans h1)), if_pos h1]
  · rw [if_neg h1, if_neg h1]
/-- numbers -/
theorem w_hive (h w : Nat) : (16880 : Int32) + 11 * nI h + nI w = nI (16880 + 11 * h + w) := by
  rw [show (16880 : Int32) = nI 16880 from rfl, show (11 : Int32) = nI 11 from rfl, pk_mul, nI_add, nI_add]
theorem w_thing (h w : Nat) : (17320 : Int32) + 8 * nI h + nI w = nI (17320 + 8 * h + w) := by
  rw [show (17320 : Int32) = nI 17320 from rfl, show (8 : Int32) = nI 8 from rfl, pk_mul, nI_add, nI_add]
theorem w_field (h w : Nat) : (4050 : Int32) + 64 * nI h + nI w = nI (4050 + 64 * h + w) := by
  rw [show (4050 : Int32) = nI 4050 from rfl, show (64 : Int32) = nI 64 from rfl, pk_mul, nI_add, nI_add]
theorem w_place (p : Nat) : (10 : Int32) + nI p = nI (10 + p) := by
  rw [show (10 : Int32) = nI 10 from rfl, nI_add]
theorem w_length (p : Nat) : (3850 : Int32) + nI p = nI (3850 + p) := by
  rw [show (3850 : Int32) = nI 3850 from rfl, nI_add]
/-! ===== the reference: its reads and writes of 'now' ===== -/
theorem r_190 {h w : Nat} (hh : h < 40) (hw : w < 11) (S : QS) : f_190 (nI h) (nI w) S = some (S.1 (40, 0, 0) (16880 + 11 * h + w), S) := by
  unfold f_190
  rw [w_hive, w_in (by omega) (by omega), nI_clamp (by omega)]
  rfl
theorem r_191 {h w : Nat} (hh : h < 40) (hw : w < 11) (v : Int32) (S : QS) : f_191 (nI h) (nI w) v S = some ((), q_row S (40, 0, 0) (upd (S.1 (40, 0, 0)) (16880 + 11 * h + w) v)) := by
  unfold f_191
  rw [w_hive, w_in (by omega) (by omega), nI_clamp (by omega)]
  rfl
theorem r_192 {h w : Nat} (hh : h < 200) (hw : w < 8) (S : QS) : f_192 (nI h) (nI w) S = some (S.1 (40, 0, 0) (17320 + 8 * h + w), S) := by
  unfold f_192
  rw [w_thing, w_in (by omega) (by omega), nI_clamp (by omega)]
  rfl
theorem r_193 {h w : Nat} (hh : h < 200) (hw : w < 8) (v : Int32) (S : QS) : f_193 (nI h) (nI w) v S = some ((), q_row S (40, 0, 0) (upd (S.1 (40, 0, 0)) (17320 + 8 * h + w) v)) := by
  unfold f_193
  rw [w_thing, w_in (by omega) (by omega), nI_clamp (by omega)]
  rfl
theorem r_194 {p : Nat} (hp : p < 3840) (S : QS) : f_194 (nI p) S = some (S.1 (40, 0, 0) (10 + p), S) := by
  unfold f_194
  rw [w_place, w_in (by omega) (by omega), nI_clamp (by omega)]
  rfl
theorem r_195 {n : Nat} (hn : n < 200) (S : QS) : f_195 (nI n) S = some (S.1 (40, 0, 0) (3850 + n), S) := by
  unfold f_195
  rw [w_length, w_in (by omega) (by omega), nI_clamp (by omega)]
  rfl
theorem r_196 {n i : Nat} (hn : n < 200) (hi : i < 64) (S : QS) : f_196 (nI n) (nI i) S = some (S.1 (40, 0, 0) (4050 + 64 * n + i), S) := by
  unfold f_196
  rw [w_field, w_in (by omega) (by omega), nI_clamp (by omega)]
  rfl
theorem r_197 {n i : Nat} (hn : n < 200) (hi : i < 64) (v : Int32) (S : QS) : f_197 (nI n) (nI i) v S = some ((), q_row S (40, 0, 0) (upd (S.1 (40, 0, 0)) (4050 + 64 * n + i) v)) := by
  unfold f_197
  rw [w_field, w_in (by omega) (by omega), nI_clamp (by omega)]
  rfl
theorem r_186 (x : Int32) (S : QS) : f_186 x S = some (-1, q_row S (11, 0, 0) (upd (S.1 (11, 0, 0)) 5 x)) := rfl
theorem r_187 (x : Int32) (S : QS) : f_187 x S = some (x, q_row S (11, 0, 0) (upd (S.1 (11, 0, 0)) 5 0)) := rfl
theorem r_205 {b : Nat} (hb : b < 17) (S : QS) : f_205 (nI b) S = some ((), q_row S (42, 0, 0) (upd (S.1 (42, 0, 0)) b (S.1 (42, 0, 0) b + 1))) := by
  unfold f_205
  rw [w_in hb (by omega), nI_clamp (by omega)]
  rfl
/-- why not: a hive's, a thing's number; a place; a frame's place -/
def a_hw (A : Nat → Int32) (x : Int32) : Int32 := if x < 0 then 2 else if 39 < x then 2 else if x < A 0 then 0 else 1
def a_tw (A : Nat → Int32) (x : Int32) : Int32 := if x < 0 then 2 else if 199 < x then 2 else if x < A 2 then 0 else 1
theorem r_198 (x : Int32) (S : QS) : f_198 x S = some (a_hw (S.1 (40, 0, 0)) x, S) := by
  unfold f_198 f_189 a_hw
  rw [show v_in 0 19520 = true from by decide, show (0 : Int32).toNatClampNeg = 0 from rfl]
  by_cases h1 : x < 0
  · simp [h1, q_bd]
  · by_cases h2 : 39 < x
    · simp [h1, h2, q_bd]
    · by_cases h3 : x < S.1 (40, 0, 0) 0
      · simp [h1, h2, h3, q_bd, q_ck, q_let]
      · simp [h1, h2, h3, q_bd, q_ck, q_let]
theorem r_199 (x : Int32) (S : QS) : f_199 x S = some (a_tw (S.1 (40, 0, 0)) x, S) := by
  unfold f_199 f_189 a_tw
  rw [show v_in 2 19520 = true from by decide, show (2 : Int32).toNatClampNeg = 2 from rfl]
  by_cases h1 : x < 0
  · simp [h1, q_bd]
  · by_cases h2 : 199 < x
    · simp [h1, h2, q_bd]
    · by_cases h3 : x < S.1 (40, 0, 0) 2
      · simp [h1, h2, h3, q_bd, q_ck, q_let]
      · simp [h1, h2, h3, q_bd, q_ck, q_let]
/-! ===== loops ===== -/
/-- keep: 'was' becomes 'now' -/
def a_keep (A B : Nat → Int32) : Nat → Int32 := fun k => if k < 19520 then A k else B k
theorem r_188_loop : ∀ (n j : Nat) (S : QS), j ≤ 19520 → 19520 - j < n → b_188_2 n (nI j) S = some ((), q_row (q_row S (41, 0, 0) (fun k => if j ≤ k ∧ k < 19520 then S.1 (40, 0, 0) k else S.1 (41, 0, 0) k)) (11, 0, 0) (upd (S.1 (11, 0, 0)) 2 1)) := by
  intro n
  induction n with
  | zero => intro j S _ h; omega
  | succ n ih =>
    intro j S hj hn
    rw [b_188_2]
    by_cases hc : j = 19520
    · subst hc
      rw [if_pos (show (19520 : Int32) ≤ nI 19520 from by decide)]
      have e : (fun k => if 19520 ≤ k ∧ k < 19520 then S.1 (40, 0, 0) k else S.1 (41, 0, 0) k) = S.1 (41, 0, 0) := by
        funext k
        rw [if_neg (by omega)]
      rw [e, w_row_id]
      rfl
    · have hlt : ¬ (19520 : Int32) ≤ nI j := by
        rw [show (19520 : Int32) = nI 19520 from rfl, nI_leI (by omega) (by omega)]
        omega
      rw [if_neg hlt, w_in (by omega) (by omega), nI_clamp (by omega), w_ck, w_let, w_ck, w_let, nI_1, ih (j + 1) _ (by omega) (by omega), w_set]
      congr 2
      rw [w_row_ne (b := (40, 0, 0)) (by decide), w_row_same, w_row_ne (b := (11, 0, 0)) (by decide), w_row_row]
      congr 1
      congr 1
      funext k
      unfold upd
      by_cases h1 : k = j
      · subst h1
        rw [if_neg (by omega), if_pos rfl, if_pos (by omega)]
      · by_cases h2 : j + 1 ≤ k ∧ k < 19520
        · rw [if_pos h2, if_pos (by omega)]
        · rw [if_neg h2, if_neg h1, if_neg (by omega)]
theorem r_188 (S : QS) : f_188 S = some ((), q_row (q_row S (41, 0, 0) (a_keep (S.1 (40, 0, 0)) (S.1 (41, 0, 0)))) (11, 0, 0) (upd (S.1 (11, 0, 0)) 2 1)) := by
  unfold f_188
  rw [show (0 : Int32) = nI 0 from rfl, r_188_loop q_N 0 S (by omega) (by unfold q_N; omega)]
  congr 3
  congr 1
  funext k
  unfold a_keep
  simp
