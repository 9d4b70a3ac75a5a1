/-! ===== the virtual heap beside the machine's ===== -/
def v_enc (ρ : VA → Nat) : VV → Value
  | .inl x => .int x
  | .inr (.inl x) => .long x
  | .inr (.inr a) => if a.1 = 0 then .null else .ref (ρ a)
/-- what is fixed in a run: the classes' numbers, the script's cell, its length, its ints, where the new cells begin -/
abbrev VC : Type := va_G × Nat × Nat × (Nat → Int32) × Nat
def v_cA (G : VC) (V : VH) (a : VA) : Prop := a.1 = 0 ∨ a = (60, G.2.2.1, 0) ∨ V.2.2.2.1 a = true
def v_clo (G : VC) (V : VH) : VV → Prop
  | .inl _ => True
  | .inr (.inl _) => True
  | .inr (.inr a) => v_cA G V a
def v_ety (k : Nat) : FieldType := match k with
  | 11 => .int
  | 12 => .boolean
  | 13 => .long
  | 14 => .object RX3
  | 15 => .object RX2
  | _ => .object RX7
def v_rq (ρ : VA → Nat) (a : VA) : Option Nat := if a.1 = 0 then none else some (ρ a)
def v_F (ρ : VA → Nat) (V : VH) (a : VA) (j : Nat) : Value := if v_fty (v_kind a) j = 1 then v_enc ρ (.inr (.inr (V.2.1 a j))) else .int (V.1 a j)
def v_E (ρ : VA → Nat) (V : VH) (cA : ClassId) (a : VA) : va_E :=
  if v_kind a < 11 then .inr (v_kind a, (List.range (v_nf (v_kind a))).map (v_F ρ V a))
  else if v_kind a = 13 then .inl (cA, v_len a, .inr (.inl (V.2.2.1 a)))
  else if v_kind a < 13 then .inl (cA, v_len a, .inl (V.1 a))
  else .inl (cA, v_len a, .inr (.inr (.inr (.inr (fun j => v_rq ρ (V.2.1 a j))))))
def v_KA (s : State) (cA : ClassId) (a : VA) : Prop := 11 ≤ v_kind a → ArrOfT s cA (v_ety (v_kind a)) ∧ va_RA s cA (v_ety (v_kind a))
def v_Rl (G : VC) (ρ : VA → Nat) (V : VH) (ws : va_W) (s : State) (H : Heap) : Prop :=
  va_P G.1 vcl ws H ∧ va_D (fun q => G.2.2.2.2 ≤ q) ws ∧ va_K G.1 vcl [] s ∧
  (∀ a, V.2.2.2.1 a = true → a.1 ≠ 0 ∧ v_kind a ≤ 16 ∧ ∃ (k : Nat) (cA : ClassId), ws[k]? = some (ρ a, v_E ρ V cA a) ∧ v_KA s cA a) ∧
  (∀ a a', V.2.2.2.1 a = true → V.2.2.2.1 a' = true → ρ a = ρ a' → a = a') ∧
  (∀ a j, V.2.2.2.1 a = true → v_cA G V (V.2.1 a j)) ∧
  ρ (60, G.2.2.1, 0) = G.2.1 ∧ ∀ j, j < G.2.2.1 → V.1 (60, G.2.2.1, 0) j = G.2.2.2.1 j
theorem v_E_congr {ρ ρ' : VA → Nat} {V V' : VH} {cA : ClassId} {a : VA} (h1 : V'.1 a = V.1 a) (h2 : V'.2.1 a = V.2.1 a) (h3 : V'.2.2.1 a = V.2.2.1 a) (hr : ∀ j, (V.2.1 a j).1 = 0 ∨ ρ' (V.2.1 a j) = ρ (V.2.1 a j)) : v_E ρ' V' cA a = v_E ρ V cA a := by
  have e1 : v_F ρ' V' a = v_F ρ V a := by
    funext j
    unfold v_F
    rw [h1, h2]
    by_cases hc : v_fty (v_kind a) j = 1
    · simp only [hc, if_true]
      unfold v_enc
      rcases hr j with h | h
      · simp [h]
      · simp [h]
    · simp only [hc, if_false]
  have e2 : (fun j => v_rq ρ' (V'.2.1 a j)) = fun j => v_rq ρ (V.2.1 a j) := by
    funext j
    rw [h2]
    unfold v_rq
    rcases hr j with h | h
    · simp [h]
    · simp [h]
  unfold v_E
  rw [e1, e2, h1, h3]
theorem v_script_no {G : VC} {ρ : VA → Nat} {V : VH} {ws : va_W} {s : State} {H : Heap} (h : v_Rl G ρ V ws s H) {a : VA} (ha : V.2.2.2.1 a = true) : a ≠ (60, G.2.2.1, 0) := by
  intro e
  obtain ⟨-, hk, -⟩ := h.2.2.2.1 a ha
  rw [e] at hk
  exact absurd (show (17 : Nat) ≤ 16 from hk) (by decide)
/-- one cell's rows have changed -/
theorem v_Rl.upd {G : VC} {ρ : VA → Nat} {V V' : VH} {ws : va_W} {s : State} {H H1 : Heap} (h : v_Rl G ρ V ws s H) {a : VA} {k : Nat} {cA : ClassId} {e : va_E} (ha : V.2.2.2.1 a = true) (hk : ws[k]? = some (ρ a, v_E ρ V cA a)) (hK : v_KA s cA a) (he : e = v_E ρ V' cA a)
    (hP : va_P G.1 vcl (ws.set k (ρ a, e)) H1) (hD : va_D (fun q => G.2.2.2.2 ≤ q) (ws.set k (ρ a, e)))
    (h1 : ∀ b, b ≠ a → V'.1 b = V.1 b) (h2 : ∀ b, b ≠ a → V'.2.1 b = V.2.1 b) (h3 : ∀ b, b ≠ a → V'.2.2.1 b = V.2.2.1 b) (h4 : V'.2.2.2.1 = V.2.2.2.1) (hc : ∀ j, v_cA G V (V'.2.1 a j)) : v_Rl G ρ V' (ws.set k (ρ a, e)) s H1 := by
  subst he
  obtain ⟨g1, g2, g3, g4, g5, g6, g7, g8⟩ := id h
  have hcA : ∀ b, v_cA G V b → v_cA G V' b := fun b hb => by unfold v_cA at hb ⊢; rw [h4]; exact hb
  refine ⟨hP, hD, g3, fun b hb => ?_, fun b b' hb hb' => g5 b b' (by rw [← h4]; exact hb) (by rw [← h4]; exact hb'), fun b j hb => ?_, g7, fun j hj => ?_⟩
  · rw [h4] at hb
    obtain ⟨n0, nk, k', cB, hw, hKb⟩ := g4 b hb
    refine ⟨n0, nk, ?_⟩
    by_cases hba : b = a
    · subst hba
      refine ⟨k, cA, ?_, hK⟩
      have hl : k < ws.length := (List.getElem?_eq_some_iff.mp hk).1
      rw [List.getElem?_set_self hl]
    · refine ⟨k', cB, ?_, hKb⟩
      have hne : k ≠ k' := by
        intro hkk
        subst hkk
        rw [hk] at hw
        exact hba (g5 b a hb ha (congrArg Prod.fst (Option.some.inj hw)).symm)
      rw [List.getElem?_set_ne hne, hw, v_E_congr (h1 b hba) (h2 b hba) (h3 b hba) (fun j => Or.inr rfl)]
  · rw [h4] at hb
    by_cases hba : b = a
    · subst hba
      exact hcA _ (hc j)
    · rw [h2 b hba]
      exact hcA _ (g6 b j hb)
  · rw [h1 _ (fun e => v_script_no h ha e.symm)]
    exact g8 j hj
def v_ext (ρ : VA → Nat) (a : VA) (q : Nat) : VA → Nat := fun b => if b = a then q else ρ b
theorem v_ext_cA {G : VC} {ρ : VA → Nat} {V : VH} {a b : VA} {q : Nat} (hn : V.2.2.2.1 a = false) (hs : a ≠ (60, G.2.2.1, 0)) (hb : v_cA G V b) : b.1 = 0 ∨ v_ext ρ a q b = ρ b := by
  rcases hb with h | h | h
  · exact Or.inl h
  · subst h
    exact Or.inr (if_neg (fun e => hs e.symm))
  · refine Or.inr (if_neg (fun e => ?_))
    rw [e, hn] at h
    cases h
/-- a new cell -/
theorem v_Rl.new {G : VC} {ρ : VA → Nat} {V : VH} {ws : va_W} {s : State} {H H1 : Heap} (h : v_Rl G ρ V ws s H) {a : VA} {q n : Nat} {cA : ClassId} {e : va_E} (hn : V.2.2.2.1 a = false) (h0 : a.1 ≠ 0) (hk : v_kind a ≤ 16) (hK : v_KA s cA a) (he : e = v_E (v_ext ρ a q) (v_make V a n) cA a)
    (hP : va_P G.1 vcl (ws ++ [(q, e)]) H1) (hD : va_D (fun q => G.2.2.2.2 ≤ q) (ws ++ [(q, e)])) : v_Rl G (v_ext ρ a q) (v_make V a n) (ws ++ [(q, e)]) s H1 := by
  subst he
  obtain ⟨g1, g2, g3, g4, g5, g6, g7, g8⟩ := id h
  have hs : a ≠ (60, G.2.2.1, 0) := by
    intro e
    rw [e] at hk
    exact absurd (show (17 : Nat) ≤ 16 from hk) (by decide)
  have hal : ∀ b, (v_make V a n).2.2.2.1 b = true → b ≠ a → V.2.2.2.1 b = true := fun b hb hba => by
    have h9 : (if b = a then true else V.2.2.2.1 b) = true := hb
    rwa [if_neg hba] at h9
  have hcA : ∀ b, v_cA G V b → v_cA G (v_make V a n) b := fun b hb => by
    rcases hb with h | h | h
    · exact Or.inl h
    · exact Or.inr (Or.inl h)
    · refine Or.inr (Or.inr ?_)
      show (if b = a then true else V.2.2.2.1 b) = true
      split <;> first | rfl | exact h
  have hnew : (ws ++ [(q, v_E (v_ext ρ a q) (v_make V a n) cA a)])[ws.length]? = some (q, v_E (v_ext ρ a q) (v_make V a n) cA a) := by
    rw [List.getElem?_append_right (Nat.le_refl _)]; simp
  have hold : ∀ (k' : Nat) (x : Nat × va_E), ws[k']? = some x → (ws ++ [(q, v_E (v_ext ρ a q) (v_make V a n) cA a)])[k']? = some x := fun k' x hx => by
    rw [List.getElem?_append_left (List.getElem?_eq_some_iff.mp hx).1]; exact hx
  have hfar : ∀ b, V.2.2.2.1 b = true → ρ b ≠ q := fun b hb e => by
    obtain ⟨-, -, k', cB, hw, -⟩ := g4 b hb
    have h9 := hD.1 k' ws.length _ _ (hold k' _ hw) hnew e
    have h8 := (List.getElem?_eq_some_iff.mp hw).1
    omega
  have hρa : v_ext ρ a q a = q := if_pos rfl
  have hρ : ∀ b, b ≠ a → v_ext ρ a q b = ρ b := fun b hb => if_neg hb
  refine ⟨hP, hD, g3, fun b hb => ?_, fun b b' hb hb' => ?_, fun b j hb => ?_, ?_, fun j hj => ?_⟩
  · by_cases hba : b = a
    · subst hba
      exact ⟨h0, hk, ws.length, cA, by rw [hρa]; exact hnew, hK⟩
    · have hb' := hal b hb hba
      obtain ⟨n0, nk, k', cB, hw, hKb⟩ := g4 b hb'
      refine ⟨n0, nk, k', cB, ?_, hKb⟩
      rw [hold k' _ hw, hρ b hba, v_E_congr (ρ := ρ) (V := V) (if_neg hba) (if_neg hba) (if_neg hba) (fun j => v_ext_cA hn hs (g6 b j hb'))]
  · by_cases hba : b = a
    · by_cases hba' : b' = a
      · intro _; rw [hba, hba']
      · rw [hba, hρa, hρ b' hba']
        exact fun e => absurd e.symm (hfar b' (hal b' hb' hba'))
    · by_cases hba' : b' = a
      · rw [hba', hρa, hρ b hba]
        exact fun e => absurd e (hfar b (hal b hb hba))
      · rw [hρ b hba, hρ b' hba']
        exact g5 b b' (hal b hb hba) (hal b' hb' hba')
  · by_cases hba : b = a
    · subst hba
      refine Or.inl ?_
      show ((if b = b then fun _ => ((0, 0, 0) : VA) else V.2.1 b) j).1 = 0
      rw [if_pos rfl]
    · have h9 : (v_make V a n).2.1 b = V.2.1 b := if_neg hba
      rw [h9]
      exact hcA _ (g6 b j (hal b hb hba))
  · rw [hρ _ (fun e => hs e.symm)]; exact g7
  · have h9 : (v_make V a n).1 (60, G.2.2.1, 0) = V.1 (60, G.2.2.1, 0) := if_neg (fun e => hs e.symm)
    rw [h9]; exact g8 j hj
theorem v_enc_ext {G : VC} {ρ ρ' : VA → Nat} {V : VH} (hρ : ∀ a, V.2.2.2.1 a = true → ρ' a = ρ a) (hs : ρ' (60, G.2.2.1, 0) = ρ (60, G.2.2.1, 0)) {v : VV} (hv : v_clo G V v) : v_enc ρ' v = v_enc ρ v := by
  match v, hv with
  | .inl _, _ => rfl
  | .inr (.inl _), _ => rfl
  | .inr (.inr a), hv =>
    show (if a.1 = 0 then Value.null else .ref (ρ' a)) = if a.1 = 0 then .null else .ref (ρ a)
    rcases hv with h | h | h
    · rw [if_pos h, if_pos h]
    · rw [h, hs]
    · rw [hρ a h]
theorem v_map_ext {G : VC} {ρ ρ' : VA → Nat} {V : VH} (hρ : ∀ a, V.2.2.2.1 a = true → ρ' a = ρ a) (hs : ρ' (60, G.2.2.1, 0) = ρ (60, G.2.2.1, 0)) {st : List VV} (h : ∀ v ∈ st, v_clo G V v) : st.map (v_enc ρ') = st.map (v_enc ρ) := List.map_congr_left fun v hv => v_enc_ext hρ hs (h v hv)
theorem v_lv_ext {G : VC} {ρ ρ' : VA → Nat} {V : VH} (hρ : ∀ a, V.2.2.2.1 a = true → ρ' a = ρ a) (hs : ρ' (60, G.2.2.1, 0) = ρ (60, G.2.2.1, 0)) {lv : VL} (h : ∀ q ∈ lv, v_clo G V q.2) : lv.map (fun q => (q.1, v_enc ρ' q.2)) = lv.map (fun q => (q.1, v_enc ρ q.2)) := List.map_congr_left fun q hq => by rw [v_enc_ext hρ hs (h q hq)]
theorem v_clo_mono {G : VC} {V V' : VH} (h : ∀ a, V.2.2.2.1 a = true → V'.2.2.2.1 a = true) {v : VV} (hv : v_clo G V v) : v_clo G V' v := by
  match v, hv with
  | .inl _, _ => trivial
  | .inr (.inl _), _ => trivial
  | .inr (.inr a), hv =>
    rcases hv with h1 | h1 | h1
    · exact Or.inl h1
    · exact Or.inr (Or.inl h1)
    · exact Or.inr (Or.inr (h a h1))
theorem v_Rl.ref {G : VC} {ρ : VA → Nat} {V : VH} {ws : va_W} {s : State} {H : Heap} (_h : v_Rl G ρ V ws s H) {a : VA} (hc : v_cA G V a) (hk : v_kind a ≤ 16) : V.2.2.2.1 a = true ∧ v_enc ρ (.inr (.inr a)) = .ref (ρ a) := by
  rcases hc with h | h | h
  · have : v_kind a = 99 := by unfold v_kind; rw [h]; rfl
    omega
  · rw [h] at hk
    exact absurd (show (17 : Nat) ≤ 16 from hk) (by decide)
  · refine ⟨h, if_neg ?_⟩
    intro h0
    have : v_kind a = 99 := by unfold v_kind; rw [h0]; rfl
    omega
theorem v_Rl.moved {G : VC} {ρ : VA → Nat} {V : VH} {ws : va_W} {s t : State} {H : Heap} (hvm : s.vm.Alike t.vm) (h : v_Rl G ρ V ws s H) : v_Rl G ρ V ws t H := by
  obtain ⟨g1, g2, g3, g4, g5, g6, g7, g8⟩ := h
  refine ⟨g1, g2, va_K.moved hvm g3, fun a ha => ?_, g5, g6, g7, g8⟩
  obtain ⟨n0, nk, k, cA, hw, hK⟩ := g4 a ha
  exact ⟨n0, nk, k, cA, hw, fun h11 => ⟨arrOfT_moved hvm (hK h11).1, (hK h11).2.moved hvm⟩⟩
