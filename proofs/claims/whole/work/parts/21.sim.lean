/-! ===== fewer locals do as well ===== -/
def v_nd (lv : VL) : Prop := (lv.map (fun q => q.1)).Nodup
def v_sub (a b : VL) : Prop := v_nd a ∧ ∀ i v, v_get a i = some v → v_get b i = some v
theorem v_get_nd {a : VL} (h : v_nd a) {i : Nat} {v : VV} (hm : (i, v) ∈ a) : v_get a i = some v := by
  induction a with
  | nil => cases hm
  | cons q l ih =>
    obtain ⟨j, w⟩ := q
    unfold v_nd at h
    rw [List.map_cons, List.nodup_cons] at h
    unfold v_get
    rcases List.mem_cons.mp hm with e | e
    · cases e
      rw [beq_self_eq_true]
    · have hne : (j == i) = false := by
        rw [beq_eq_false_iff_ne]
        intro e2
        subst e2
        exact h.1 (List.mem_map.mpr ⟨(j, v), e, rfl⟩)
      rw [hne]
      exact ih h.2 e
theorem v_get_filter {a : VL} {p : Nat × VV → Bool} {i : Nat} {v : VV} (h : v_get a i = some v) (hp : p (i, v) = true) : v_get (a.filter p) i = some v := by
  induction a with
  | nil => cases h
  | cons q l ih =>
    obtain ⟨j, w⟩ := q
    unfold v_get at h
    split at h
    · rename_i hj
      cases h
      have e := beq_iff_eq.mp hj
      subst e
      rw [List.filter_cons_of_pos hp]
      unfold v_get
      rw [beq_self_eq_true]
    · rename_i hj
      by_cases hq : p (j, w) = true
      · rw [List.filter_cons_of_pos hq]
        unfold v_get
        rw [hj]
        exact ih h
      · rw [List.filter_cons_of_neg hq]
        exact ih h
theorem v_nd_filter {a : VL} (p : Nat × VV → Bool) (h : v_nd a) : v_nd (a.filter p) := by
  unfold v_nd at h ⊢
  exact List.Sublist.nodup (List.Sublist.map _ List.filter_sublist) h
theorem v_sub_put {a b : VL} {i : Nat} {v : VV} {p : Nat × VV → Bool} (hp : ∀ q, p q = true → q.1 ≠ i) (h : v_sub a b) : v_sub ((i, v) :: a.filter p) ((i, v) :: b.filter p) := by
  refine ⟨?_, fun j w hj => ?_⟩
  · unfold v_nd
    rw [List.map_cons, List.nodup_cons]
    refine ⟨fun hm => ?_, v_nd_filter p h.1⟩
    obtain ⟨q, hq, e⟩ := List.mem_map.mp hm
    exact hp q (List.mem_filter.mp hq).2 e
  · unfold v_get at hj ⊢
    split at hj
    · exact hj
    · rename_i hji
      have hm := v_get_mem hj
      obtain ⟨h1, h2⟩ := List.mem_filter.mp hm
      exact v_get_filter (h.2 j w (v_get_nd h.1 h1)) h2
theorem v_sub_put1 {a b : VL} {i : Nat} {v : VV} (h : v_sub a b) : v_sub (v_put1 a i v) (v_put1 b i v) := v_sub_put (fun q hq => by
  rw [Bool.and_eq_true] at hq
  simpa using hq.1) h
theorem v_sub_put2 {a b : VL} {i : Nat} {v : VV} (h : v_sub a b) : v_sub (v_put2 a i v) (v_put2 b i v) := v_sub_put (fun q hq => by
  rw [Bool.and_eq_true] at hq
  simpa using hq.1) h
/-- the same step, with more locals -/
def v_lo : VO → VO → Prop
  | .inl s, .inl t => s.1 = t.1 ∧ v_sub s.2.1 t.2.1 ∧ s.2.2 = t.2.2
  | .inr (.inl r), .inr (.inl q) => r = q
  | .inr (.inr s), .inr (.inr t) => s.1 = t.1 ∧ s.2.1 = t.2.1 ∧ s.2.2.1 = t.2.2.1 ∧ v_sub s.2.2.2.1 t.2.2.2.1 ∧ s.2.2.2.2 = t.2.2.2.2
  | _, _ => False
theorem v_fresh_sub {a b : VL} (h : v_sub a b) {mode tag : Nat} {j : Int} {n : Int32} {r : VA} (hf : v_fresh a mode tag j n = some r) : v_fresh b mode tag j n = some r := by
  unfold v_fresh at hf ⊢
  split at hf
  · exact hf
  · split at hf
    · rename_i h0
      simp only [h.2 _ _ h0]
      exact hf
    · cases hf
  · split at hf
    · rename_i h0 h1
      simp only [h.2 _ _ h0, h.2 _ _ h1]
      exact hf
    · cases hf
  · exact hf
theorem v_call_sub {a b : VL} (h : v_sub a b) {x : VX} {pc : Nat} {V : VH} {q : Option (List VV × List VV)} {o : VO} (hc : v_call x pc a V q = some o) : ∃ o', v_call x pc b V q = some o' ∧ v_lo o o' := by
  unfold v_call at hc ⊢
  split at hc
  · split at hc <;> (try split at hc) <;> first
      | (cases hc; done)
      | (obtain ⟨h1, hc⟩ := v_okd hc; cases hc; rw [h1]; exact ⟨_, rfl, rfl, h, rfl⟩)
      | (obtain ⟨h1, hc⟩ := v_okd hc; cases hc; rw [h1]; exact ⟨_, rfl, rfl, rfl, rfl, h, rfl⟩)
  · cases hc
theorem v_new_sub {a b : VL} (h : v_sub a b) {q : Option VA} {k n pc len : Nat} {st : List VV} {V : VH} {o : VO} (hc : v_new q k n pc len a st V = some o) : ∃ o', v_new q k n pc len b st V = some o' ∧ v_lo o o' := by
  unfold v_new at hc ⊢
  split at hc
  · obtain ⟨h1, hc⟩ := v_okd hc
    cases hc
    rw [h1]
    exact ⟨_, rfl, rfl, h, rfl⟩
  · cases hc
theorem v_off_sub {a b : VL} (h : v_sub a b) {pc : Nat} {d : Option Int} {st : List VV} {V : VH} {o : VO} (hc : v_off pc d a st V = some o) : ∃ o', v_off pc d b st V = some o' ∧ v_lo o o' := by
  unfold v_off at hc ⊢
  split at hc
  · cases hc
    exact ⟨_, rfl, rfl, h, rfl⟩
  · cases hc
theorem v_i_sub {i : Instr} {a b : VL} (h : v_sub a b) {len : Nat} {x : VX} {pc : Nat} {st : List VV} {V : VH} {o : VO} (hc : v_i i len x pc a st V = some o) : ∃ o', v_i i len x pc b st V = some o' ∧ v_lo o o' := by
  cases i <;> simp only [v_i] at hc ⊢ <;> first
    | (cases hc; done)
    | exact v_call_sub h hc
    | (cases hc; exact ⟨_, rfl, rfl, h, rfl⟩)
    | (split at hc <;> first
        | (cases hc; done)
        | (cases hc; exact ⟨_, rfl, rfl, h, rfl⟩)
        | (cases hc; exact ⟨_, rfl, rfl, v_sub_put1 h, rfl⟩)
        | (cases hc; exact ⟨_, rfl, rfl, v_sub_put2 h, rfl⟩)
        | (cases hc; exact ⟨_, rfl, rfl⟩)
        | exact v_off_sub h hc
        | (rename_i hg; simp only [h.2 _ _ hg]; cases hc; first | exact ⟨_, rfl, rfl, h, rfl⟩ | exact ⟨_, rfl, rfl, v_sub_put1 h, rfl⟩)
        | (obtain ⟨h1, hc⟩ := v_okd hc; cases hc; rw [h1]; first | exact ⟨_, rfl, rfl, h, rfl⟩ | exact ⟨_, rfl, rfl⟩)
        | (split at hc <;> first
            | (cases hc; done)
            | (obtain ⟨h1, hc⟩ := v_okd hc; cases hc; rw [h1]; exact ⟨_, rfl, rfl, h, rfl⟩)
            | (rename_i hf; simp only [v_fresh_sub h hf]; split at hc <;> first | (cases hc; done) | exact v_new_sub h hc)))
    | (cases hf : v_fresh a x.2.1 x.2.2.1 x.2.2.2 0 with
       | none => rw [hf] at hc; simp [v_new] at hc
       | some r => rw [hf] at hc; rw [v_fresh_sub h hf]; exact v_new_sub h hc)
theorem v_go_sub : ∀ {n m pc : Nat} {a b : VL} {st : List VV} {V : VH} {q : Option VV × VH}, v_sub a b → v_go n m (pc, a, st, V) = some q → v_go n m (pc, b, st, V) = some q
  | 0, _, _, _, _, _, _, _, _, h => by cases h
  | n + 1, m, pc, a, b, st, V, q, hs, h => by
    unfold v_go at h ⊢
    have h1 : ∀ o, v_1 (v_code m) (pc, a, st, V) = some o → ∃ o', v_1 (v_code m) (pc, b, st, V) = some o' ∧ v_lo o o' := by
      intro o ho
      unfold v_1 at ho ⊢
      dsimp only at ho ⊢
      split at ho
      · exact v_i_sub hs ho
      · cases ho
    split at h
    · cases h
    · rename_i t ht
      obtain ⟨o', e, hl⟩ := h1 _ ht
      rw [e]
      match o', hl with
      | .inl u, hl =>
        obtain ⟨p1, l1, r1⟩ := t
        obtain ⟨p2, l2, r2⟩ := u
        obtain ⟨e1, e2, e3⟩ := hl
        dsimp only at e1 e2 e3
        subst e1
        subst e3
        exact v_go_sub e2 h
    · rename_i r ht
      obtain ⟨o', e, hl⟩ := h1 _ ht
      rw [e]
      match o', hl with
      | .inr (.inl u), hl =>
        have hl : r = u := hl
        subst hl
        exact h
    · rename_i m2 as t ht
      obtain ⟨o', e, hl⟩ := h1 _ ht
      rw [e]
      match o', hl with
      | .inr (.inr (m3, as3, u)), hl =>
        obtain ⟨p1, l1, s1, V1⟩ := t
        obtain ⟨p2, l2, s2, V2⟩ := u
        obtain ⟨e1, e2, e3, e4, e5⟩ := hl
        dsimp only at e1 e2 e3 e4 e5
        subst e1
        subst e2
        subst e3
        cases e5
        dsimp only at h ⊢
        split at h
        · cases h
        · rename_i hr
          (try rw [hr])
          (try dsimp only)
          split at h
          · cases h
          · rename_i r2 V3 h3
            (try rw [h3])
            exact v_go_sub e4 h
