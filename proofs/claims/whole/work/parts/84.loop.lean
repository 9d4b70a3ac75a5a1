/-! ===== the law's loop: one call ===== -/
theorem g_Ok_mono {c c' : Nat} {X Z : QS} {e e' : Option (Int32 × QS)} (h : g_Ok c X Z e e') (hc : c ≤ c') (h5 : c' ≤ 512) : g_Ok c' X Z e e' := by
  obtain ⟨r, y, Y, V, S, T, h1, h2, h3⟩ := h
  exact ⟨r, y, Y, V, S, T, h1, h2, g_R_mono h3 hc h5⟩
def lI (c L : Nat) (xs : Nat → Int32) (S : QS) : Prop := (∃ y Y V, g_R c y Y V S S S S) ∧ S.1 (60, L, 0) = xs
theorem lI_mono {c c' L : Nat} {xs : Nat → Int32} {S : QS} (h : lI c L xs S) (hc : c ≤ c') (h5 : c' ≤ 512) : lI c' L xs S := by
  obtain ⟨⟨y, Y, V, h1⟩, h2⟩ := h
  exact ⟨⟨y, Y, V, g_R_mono h1 hc h5⟩, h2⟩
/-- the reference's rows stand in what the class left -/
theorem l_ref {y : Nat} {Y V Y1 V1 : GA} {S S1 : QS} (hT : g_T Y V S S) (hC : g_C y Y1 V1 S S1) : g_T Y V S1 S1 := by
  have fr := hC.2.2.2.2.2.2.1
  refine ⟨fun r i j hr hv => ?_, fun hc r i j hr hv => ?_, fun _ _ => rfl, rfl⟩
  · rw [fr _ (g_rf_R hr hv).1]
    exact hT.1 r i j hr hv
  · rw [fr (41, 0, 0) rfl]
    exact hT.2.1 hc r i j hr hv
/-- the class's rows stand in what the reference left -/
theorem l_cls {y : Nat} {Y V Y1 V1 : GA} {X S1 T : QS} (hC : g_C y Y V X S1) (hT : g_T Y1 V1 S1 T) : g_C y Y V T T := by
  obtain ⟨h1, h2, h3, h4, h5, h6, h7, h8⟩ := hC
  have fr := hT.2.2.1
  have hz := hT.2.2.2
  have h1' : T.2.2.1.1 = y ∧ T.2.2.1.2.1 = 1 - y ∧ y < 2 := by rw [hz]; exact h1
  have m4 : g_md T y Y := by
    unfold g_md at h4 ⊢
    rw [hz]
    exact h4
  have m5 : Y 10 3 0 = 1 → g_md T (1 - y) V := by
    intro q
    have h5' := h5 q
    unfold g_md at h5' ⊢
    rw [hz]
    exact h5'
  have m8 : g_room T := by
    unfold g_room at h8 ⊢
    rw [hz]
    exact h8
  refine ⟨h1', fun r i j hr hv hl => ?_, fun hc r i j hr hv hl => ?_, m4, m5, fun k hk => ?_, fun _ _ => rfl, m8⟩
  · rw [fr _ (Or.inl (g_cl_R hr hv))]
    exact h2 r i j hr hv hl
  · rw [fr _ (Or.inl (g_cl_R (by omega) hv))]
    exact h3 hc r i j hr hv hl
  · have q := h6 k hk
    unfold g_rw at q ⊢
    rw [fr (7, g_rk k, 0) (Or.inl rfl)]
    exact q
theorem l_step {c c' L : Nat} {xs : Nat → Int32} {S : QS} (fc fr : QS → Option (Int32 × QS)) (h : lI c L xs S) (hj : ∀ {y : Nat} {Y V : GA} {X Z S T : QS}, g_R c y Y V X Z S T → g_Ok c' X Z (fc S) (fr T)) : ∃ r S1 T1, fc S = some (r, S1) ∧ S1.1 (60, L, 0) = xs ∧ fr S1 = some (r, T1) ∧ lI c' L xs T1 := by
  obtain ⟨⟨y, Y, V, hR⟩, hx⟩ := h
  obtain ⟨r, y1, Y1, V1, S1, T1, e1, e2, hR1⟩ := hj hR
  have hT1 := l_ref hR.2.1 hR1.1
  obtain ⟨r', y2, Y2, V2, S2, T2, e1', e2', hR2⟩ := hj (X := S) (Z := S1) (S := S) (T := S1) ⟨hR.1, hT1, hR.2.2⟩
  rw [e1] at e1'
  have q := Prod.mk.inj (Option.some.inj e1')
  obtain ⟨q1, q2⟩ := q
  subst q1
  subst q2
  have x1 : S1.1 (60, L, 0) = xs := by
    rw [hR1.1.2.2.2.2.2.2.1 (60, L, 0) rfl]
    exact hx
  refine ⟨r, S1, T2, e1, x1, e2', ⟨y2, Y2, V2, l_cls hR2.1 hR2.2.1, ⟨hR2.2.1.1, hR2.2.1.2.1, fun _ _ => rfl, rfl⟩, hR2.2.2⟩, ?_⟩
  rw [hR2.2.1.2.2.1 (60, L, 0) (Or.inr rfl)]
  exact x1
theorem lI_room {c L : Nat} {xs : Nat → Int32} {S : QS} (h : lI c L xs S) : S.2.2.2.1 ≤ 600000 ∧ S.2.2.2.2 ≤ 7302250 := by
  obtain ⟨⟨y, Y, V, h1⟩, h2⟩ := h
  obtain ⟨r1, r2, r3, r4, r5⟩ := h1.1.2.2.2.2.2.2.2
  omega
