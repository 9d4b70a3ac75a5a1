theorem q_made_al : q_le q_made = q_al q_D0 := by
  funext b
  show List.elem b q_made = q_al q_D0 b
  by_cases h : b ∈ q_made
  · have h1 : ∀ b ∈ q_made, q_al q_D0 b = true := by decide
    rw [h1 b h, List.elem_eq_mem]
    exact decide_eq_true h
  · have h2 : q_al q_D0 b = false := by
      cases hb : q_al q_D0 b with
      | false => rfl
      | true =>
        exfalso
        apply h
        obtain ⟨t, i, j⟩ := b
        unfold q_al at hb
        split at hb
        · cases hb
        · cases hb
        · cases hb
        · cases hb
        · cases hb
        · rename_i ht
          dsimp only at ht
          subst ht
          have h3 : i = 16 ∧ j = 0 := by simpa [q_D0] using hb
          obtain ⟨rfl, rfl⟩ := h3
          decide
        · have h3 : ∀ b ∈ q_static, b ∈ q_made := by decide
          exact h3 _ (by simpa using hb)
    rw [h2, List.elem_eq_mem]
    exact decide_eq_false h
/-- the state at the loop's first round -/
def q_S0 (L : Nat) (xs : Nat → Int32) : QS := (q_I1 L xs, fun _ _ => 0, q_D0, 52, 83689)
theorem q_S0_V (L : Nat) (xs : Nat → Int32) : q_C (q_I1 L xs) (q_R q_D0) q_made 52 83689 = q_V (q_S0 L xs) := by
  unfold q_C q_V q_S0
  rw [q_made_al]
/-- the law answers 1 where its loop, as a function, does -/
theorem law_of (L : Nat) (xs : Nat → Int32) {S' : QS} (h : b_0_18 q_N L 0 (q_S0 L xs) = some (1, S')) : ∃ n, v_go n 0 (0, [(0, .inr (.inr (60, L, 0)))], [], q_C (q_I0 L xs) (q_R q_D0) [] 0 0) = some (some (.inl 1), q_V S') := by
  refine law_start L xs ?_
  rw [q_S0_V]
  refine q_run.sub (lv' := [(0, .inr (.inr (60, L, 0))), (1, .inr (.inr (10, 0, 0))), (2, .inr (.inr (11, 0, 0))), (3, .inl 0)]) [0, 1, 2, 3] rfl (by decide) ⟨rfl, rfl, rfl, rfl, trivial⟩ ?_
  exact sb_0_18 q_N L 0 (q_S0 L xs) 1 S' h
