/-! ===== one step: new cells, the calls that are steps of their own ===== -/
theorem v_le_make (V : VH) (a : VA) (n : Nat) : ∀ b, V.2.2.2.1 b = true → (v_make V a n).2.2.2.1 b = true := fun b hb => by
  show (if b = a then true else V.2.2.2.1 b) = true
  split
  · rfl
  · exact hb
/-- behind a new cell -/
theorem v_made {G : VC} {m : VM} {s : State} {ρ : VA → Nat} {V : VH} {ws : va_W} {H H1 : Heap} {locs : List Loc} {ls : Array Slot} {lv : VL} {st : List VV} {a : VA} {q n : Nat} {cA : ClassId} {e : va_E} (hS : v_ST G m s ρ V ws H locs ls lv st) (hn : V.2.2.2.1 a = false) (h0 : a.1 ≠ 0) (hk : v_kind a ≤ 16) (hK : v_KA s cA a) (he : e = v_E (v_ext ρ a q) (v_make V a n) cA a)
    (hP : va_P G.1 vcl (ws ++ [(q, e)]) H1) (hD : va_D (fun q => G.2.2.2.2 ≤ q) (ws ++ [(q, e)])) (hva : va_S (fun q => G.2.2.2.2 ≤ q) s.heap H1 locs) {r : List VV} (hr : ∀ v ∈ r, v_clo G V v) :
    v_ST G m s (v_ext ρ a q) (v_make V a n) (ws ++ [(q, e)]) H1 locs ls lv (.inr (.inr a) :: r) ∧ (∀ b, V.2.2.2.1 b = true → v_ext ρ a q b = ρ b) ∧ (.inr (.inr a) :: r).map (v_enc (v_ext ρ a q)) = .ref q :: r.map (v_enc ρ) := by
  obtain ⟨hR, hl, hlc, hst, -⟩ := id hS
  have hs : a ≠ (60, G.2.2.1, 0) := by
    intro e
    rw [e] at hk
    exact absurd (show (17 : Nat) ≤ 16 from hk) (by decide)
  have hρ : ∀ b, V.2.2.2.1 b = true → v_ext ρ a q b = ρ b := fun b hb => if_neg (fun e => by rw [e, hn] at hb; cases hb)
  have hρs : v_ext ρ a q (60, G.2.2.1, 0) = ρ (60, G.2.2.1, 0) := if_neg (fun e => hs e.symm)
  refine ⟨⟨hR.new hn h0 hk hK he hP hD, ?_, fun q hq => v_clo_mono (v_le_make V a n) (hlc q hq), v_cs (Or.inr (Or.inr ?_)) (fun v hv => v_clo_mono (v_le_make V a n) (hr v hv)), hva⟩, hρ, ?_⟩
  · rw [v_lv_ext hρ hρs hlc]; exact hl
  · show (if a = a then true else V.2.2.2.1 a) = true
    rw [if_pos rfl]
  · rw [List.map_cons, v_map_ext hρ hρs hr]
    congr 1
    show (if a.1 = 0 then Value.null else .ref (v_ext ρ a q a)) = _
    rw [if_neg h0, show v_ext ρ a q a = q from if_pos rfl]
theorem v_newd {a : Option VA} {k n pc len : Nat} {lv lv2 : VL} {st st2 : List VV} {V V2 : VH} {pc2 : Nat} (h : v_new a k n pc len lv st V = some (.inl (pc2, lv2, st2, V2))) : ∃ b, a = some b ∧ V.2.2.2.1 b = false ∧ v_kind b = k ∧ b.1 ≠ 0 ∧ pc + len = pc2 ∧ lv = lv2 ∧ .inr (.inr b) :: st = st2 ∧ v_make V b n = V2 := by
  unfold v_new at h
  split at h
  · rename_i b
    obtain ⟨h1, h⟩ := v_okd h
    obtain ⟨e1, e2, e3, e4⟩ := v_inj h
    simp only [Bool.and_eq_true, Bool.not_eq_true', beq_iff_eq, beq_eq_false_iff_ne] at h1
    exact ⟨b, rfl, h1.1.1, h1.1.2, h1.2, e1, e2, e3, e4⟩
  · cases h
theorem v_tc_def (c : Nat) (ty : FieldType) (h : v_tc c ty = true) : defaultValue ty = if c = 1 then .null else .int 0 := by
  unfold v_tc at h
  split at h <;> first | rfl | cases h
theorem v_s_new (idx : Nat) : v_SP (.new idx) := by
  intro p l e R s mid args below meth c Q G oi m len x pc lv st V pc2 lv2 st2 V2 ρ ws H locs ls c0 s0 hC hd ho hS h hc0 hs0 hrc hrs hk
  obtain ⟨hx, hb, hml, hown, hts, hWd, hin, hfr, hlo, hB, hX, hXl, hXB⟩ := id hC
  obtain ⟨hR, hl, hlc, hst, hva⟩ := id hS
  simp only [v_okI, Bool.and_eq_true, decide_eq_true_eq, beq_iff_eq, List.elem_eq_mem] at ho
  obtain ⟨⟨⟨rfl, hck⟩, hci⟩, -⟩ := ho
  simp only [v_i] at h
  obtain ⟨b, -, hn, hkb, h0, rfl, rfl, rfl, rfl⟩ := v_newd h
  obtain ⟨C, T, ty0, hcl, hw0, hin1, hin2, hpf, hnm, htc, hT1⟩ := v_cls hci
  have hlink : Cond.classLink (v_own oi) idx C ∈ v_tbl := by
    have h9 := v_clk_in _ hck
    unfold v_cw at h9
    dsimp only at h9
    rw [hcl] at h9
    exact h9
  have hcn : (v_make V b (v_nf x.1)).2.2.2.2.1 = V.2.2.2.2.1 + 1 := rfl
  have hsn : (v_make V b (v_nf x.1)).2.2.2.2.2 = V.2.2.2.2.2 + v_nf x.1 := rfl
  rw [hcn] at hrc
  rw [hsn] at hrs
  have hF : ∀ (ρ' : VA → Nat) (j : Nat), v_F ρ' (v_make V b (v_nf x.1)) b j = if v_fty x.1 j = 1 then .null else .int 0 := by
    intro ρ' j
    unfold v_F
    rw [hkb, show (v_make V b (v_nf x.1)).2.1 b = fun _ => (0, 0, 0) from if_pos rfl, show (v_make V b (v_nf x.1)).1 b = fun _ => 0 from if_pos rfl]
    rfl
  refine va_new (D := G.1) (ci := x.1) (fs := (List.range (v_nf x.1)).map (fun j => if v_fty x.1 j = 1 then Value.null else .int 0)) (C := C) (T := T) (N := v_nf x.1) hx hb hts hw0 ty0 hpf hown (hts _ hlink) (hts _ hin1) (hts _ hin2) hR.2.2.1 hR.1 hR.2.1 hva (fun q hq => Nat.le_trans hB hq) hcl (fun j hj => ?_) (by omega) (by omega) hd (fun q H1 hP1 hD1 hS1 => ?_)
  · unfold vp_V
    rw [List.getD_eq_getElem?_getD, v_range_get _ hj]
    exact v_tc_def _ _ (htc j hj)
  · obtain ⟨g1, g2, g3⟩ := v_made (cA := 0) hS hn h0 (by omega) (fun h11 => by omega) (by rw [v_E_obj (by omega), hkb]; congr 2; exact List.map_congr_left (fun j _ => (hF _ j).symm)) hP1 hD1 hS1 (n := v_nf x.1) hst
    have hk9 := hk _ _ H1 locs ls g1 g2
    rw [g3] at hk9
    exact W.cs (by rw [hcn]; omega) (by rw [hsn]; omega) hk9
theorem v_at (t t' : ArrayType) (h : (t == t') = true) : t = t' := by
  revert h
  cases t <;> cases t' <;> decide
theorem v_s_newarray (t : ArrayType) : v_SP (.newarray t) := by
  intro p l e R s mid args below meth c Q G oi m len x pc lv st V pc2 lv2 st2 V2 ρ ws H locs ls c0 s0 hC hd ho hS h hc0 hs0 hrc hrs hk
  obtain ⟨hx, hb, hml, hown, hts, hWd, hin, hfr, hlo, hB, hX, hXl, hXB⟩ := id hC
  obtain ⟨hR, hl, hlc, hst, hva⟩ := id hS
  simp only [v_okI, Bool.and_eq_true, beq_iff_eq, Bool.or_eq_true] at ho
  obtain ⟨⟨rfl, hkt⟩, -⟩ := ho
  simp only [v_i] at h
  split at h
  · rename_i n r
    split at h
    · rename_i b hfr2
      split at h
      · rename_i hcond
        simp only [Bool.and_eq_true, decide_eq_true_eq, beq_iff_eq] at hcond
        obtain ⟨⟨hn0, hlen⟩, hmax⟩ := hcond
        obtain ⟨b2, hb2, hn, hkb, h0, rfl, rfl, rfl, rfl⟩ := v_newd h
        cases hb2
        have hcn : (v_make V b n.toNatClampNeg).2.2.2.2.1 = V.2.2.2.2.1 + 1 := rfl
        have hsn : (v_make V b n.toNatClampNeg).2.2.2.2.2 = V.2.2.2.2.2 + n.toNatClampNeg := rfl
        rw [hcn] at hrc
        rw [hsn] at hrs
        have hI : (v_make V b n.toNatClampNeg).1 b = fun _ => 0 := if_pos rfl
        have hL : (v_make V b n.toNatClampNeg).2.2.1 b = fun _ => 0 := if_pos rfl
        rcases hkt with (⟨hx1, ht⟩ | ⟨hx1, ht⟩) | ⟨hx1, ht⟩ <;> (have ht := v_at _ _ ht; subst ht)
        · refine va_newa (atype := .int) (ty := .int) (a0 := (n.toNatClampNeg, .inl (fun _ => 0))) hx hb (hts (Cond.arrayClass .int) (v_arr_in _ (by simp))) rfl hR.2.2.1 hR.1 hR.2.1 hva (fun q hq => Nat.le_trans hB hq) (fun _ => rfl) hn0 rfl (by show n.toNatClampNeg * 4 ≤ _; omega) (by omega) (by omega) hd (fun q cA H1 hK1 hP1 hD1 hS1 => ?_)
          obtain ⟨g1, g2, g3⟩ := v_made (cA := cA) hS hn h0 (by omega) (fun _ => by rw [hkb, hx1]; exact hK1.2 0 _ rfl) (by rw [v_E_int (Or.inl (by omega)), hI, hlen]) hP1 hD1 hS1 (n := n.toNatClampNeg) (v_t1 hst)
          have hk9 := hk _ _ H1 locs ls g1 g2
          rw [g3] at hk9
          exact W.cs (by rw [hcn]; omega) (by rw [hsn]; omega) hk9
        · refine va_newa (atype := .boolean) (ty := .boolean) (a0 := (n.toNatClampNeg, .inl (fun _ => 0))) hx hb (hts (Cond.arrayClass .boolean) (v_arr_in _ (by simp))) rfl hR.2.2.1 hR.1 hR.2.1 hva (fun q hq => Nat.le_trans hB hq) (fun _ => rfl) hn0 rfl (by show n.toNatClampNeg * 1 ≤ _; omega) (by omega) (by omega) hd (fun q cA H1 hK1 hP1 hD1 hS1 => ?_)
          obtain ⟨g1, g2, g3⟩ := v_made (cA := cA) hS hn h0 (by omega) (fun _ => by rw [hkb, hx1]; exact hK1.2 0 _ rfl) (by rw [v_E_int (Or.inr (by omega)), hI, hlen]) hP1 hD1 hS1 (n := n.toNatClampNeg) (v_t1 hst)
          have hk9 := hk _ _ H1 locs ls g1 g2
          rw [g3] at hk9
          exact W.cs (by rw [hcn]; omega) (by rw [hsn]; omega) hk9
        · refine va_newa (atype := .long) (ty := .long) (a0 := (n.toNatClampNeg, .inr (.inl (fun _ => 0)))) hx hb (hts (Cond.arrayClass .long) (v_arr_in _ (by simp))) rfl hR.2.2.1 hR.1 hR.2.1 hva (fun q hq => Nat.le_trans hB hq) (fun _ => rfl) hn0 rfl (by show n.toNatClampNeg * 8 ≤ _; omega) (by omega) (by omega) hd (fun q cA H1 hK1 hP1 hD1 hS1 => ?_)
          obtain ⟨g1, g2, g3⟩ := v_made (cA := cA) hS hn h0 (by omega) (fun _ => by rw [hkb, hx1]; exact hK1.2 0 _ rfl) (by rw [v_E_long (by omega), hL, hlen]) hP1 hD1 hS1 (n := n.toNatClampNeg) (v_t1 hst)
          have hk9 := hk _ _ H1 locs ls g1 g2
          rw [g3] at hk9
          exact W.cs (by rw [hcn]; omega) (by rw [hsn]; omega) hk9
      · cases h
    · cases h
  · cases h
theorem v_s_anewarray (idx : Nat) : v_SP (.anewarray idx) := by
  intro p l e R s mid args below meth c Q G oi m len x pc lv st V pc2 lv2 st2 V2 ρ ws H locs ls c0 s0 hC hd ho hS h hc0 hs0 hrc hrs hk
  obtain ⟨hx, hb, hml, hown, hts, hWd, hin, hfr, hlo, hB, hX, hXl, hXB⟩ := id hC
  obtain ⟨hR, hl, hlc, hst, hva⟩ := id hS
  simp only [v_okI, Bool.and_eq_true, decide_eq_true_eq, beq_iff_eq, List.elem_eq_mem] at ho
  obtain ⟨⟨⟨rfl, hck⟩, hkr⟩, -⟩ := ho
  obtain ⟨rr, he1, hcl, hc11⟩ := v_ety_obj hkr
  have hlink : Cond.classLink (v_own oi) idx rr.1 ∈ v_tbl := by
    have h9 := v_clk_in _ hck
    unfold v_cw at h9
    dsimp only at h9
    rw [hcl] at h9
    exact h9
  have hover : va_AO rr.1 s := by
    have h3 : x.1 = 14 ∨ x.1 = 15 ∨ x.1 = 16 := by omega
    rcases h3 with h3 | h3 | h3 <;> rw [h3] at hcl
    · have e : rr = (RX3, TX3, 12) := (Option.some.inj hcl).symm
      rw [e]; exact hWd.2.1
    · have e : rr = (RX2, TX2, 2) := (Option.some.inj hcl).symm
      rw [e]; exact hWd.2.2.1
    · have e : rr = (RX7, TX7, 9) := (Option.some.inj hcl).symm
      rw [e]; exact hWd.2.2.2
  simp only [v_i] at h
  split at h
  · rename_i n r
    split at h
    · rename_i b hfr2
      split at h
      · rename_i hcond
        simp only [Bool.and_eq_true, decide_eq_true_eq, beq_iff_eq] at hcond
        obtain ⟨⟨hn0, hlen⟩, hmax⟩ := hcond
        obtain ⟨b2, hb2, hn, hkb, h0, rfl, rfl, rfl, rfl⟩ := v_newd h
        cases hb2
        have hcn : (v_make V b n.toNatClampNeg).2.2.2.2.1 = V.2.2.2.2.1 + 1 := rfl
        have hsn : (v_make V b n.toNatClampNeg).2.2.2.2.2 = V.2.2.2.2.2 + n.toNatClampNeg := rfl
        rw [hcn] at hrc
        rw [hsn] at hrs
        have hRr : (v_make V b n.toNatClampNeg).2.1 b = fun _ => (0, 0, 0) := if_pos rfl
        refine va_newq hx hb hown (hts _ hlink) hover hR.2.2.1 hR.1 hR.2.1 hva (fun q hq => Nat.le_trans hB hq) hn0 rfl (by omega) (by omega) (by omega) hd (fun q cA H1 hK1 hP1 hD1 hS1 => ?_)
        obtain ⟨g1, g2, g3⟩ := v_made (cA := cA) hS hn h0 (by omega) (fun _ => by rw [hkb, he1]; exact hK1.2 0 _ rfl) (by rw [v_E_ref (by omega), hRr, hlen]; rfl) hP1 hD1 hS1 (n := n.toNatClampNeg) (v_t1 hst)
        have hk9 := hk _ _ H1 locs ls g1 g2
        rw [g3] at hk9
        exact W.cs (by rw [hcn]; omega) (by rw [hsn]; omega) hk9
      · cases h
    · cases h
  · cases h
theorem v_take_eq : ∀ {n : Nat} {acc st as r : List VV}, v_take n acc st = some (as, r) → ∃ pre, st = pre ++ r ∧ pre.length = n ∧ as = pre.reverse ++ acc
  | 0, acc, st, as, r, h => by
    cases h
    exact ⟨[], rfl, rfl, rfl⟩
  | n + 1, acc, [], as, r, h => by cases h
  | n + 1, acc, v :: st, as, r, h => by
    obtain ⟨pre, h1, h2, h3⟩ := v_take_eq (n := n) (acc := v :: acc) (st := st) h
    exact ⟨v :: pre, by rw [h1]; rfl, by simp [h2], by rw [h3]; simp⟩
theorem v_sum_cat (ρ : VA → Nat) : ∀ st : List VV, ((st.map (v_enc ρ)).map fun v => v.category).sum = v_sum st
  | [] => rfl
  | v :: l => by
    rw [List.map_cons, List.map_cons, List.sum_cons, v_sum_cat ρ l, v_enc_cat]
    rfl
theorem v_s_invokespecial (idx : Nat) : v_SP (.invokespecial idx) := by
  intro p l e R s mid args below meth c Q G oi m len x pc lv st V pc2 lv2 st2 V2 ρ ws H locs ls c0 s0 hC hd ho hS h hc0 hs0 hrc hrs hk
  obtain ⟨hx, hb, hml, hown, hts, hWd, hin, hfr, hlo, hB, hX, hXl, hXB⟩ := id hC
  obtain ⟨hR, hl, hlc, hst, hva⟩ := id hS
  simp only [v_okI, Bool.and_eq_true, Bool.or_eq_true, decide_eq_true_eq, beq_iff_eq, List.elem_eq_mem] at ho
  obtain ⟨⟨rfl, hml2⟩, hkd⟩ := ho
  simp only [v_i] at h
  unfold v_call at h
  split at h
  · rename_i as r htk
    obtain ⟨pre, hp1, hp2, hp3⟩ := v_take_eq htk
    rcases hkd with ⟨⟨⟨h5, hn1⟩, hf1⟩, hl1⟩ | ⟨⟨h24, -⟩, -⟩
    · simp only [h5] at h
      split at h
      · rename_i a
        obtain ⟨h8, h⟩ := v_okd h
        obtain ⟨rfl, rfl, rfl, rfl⟩ := v_inj h
        rw [Bool.and_eq_true, decide_eq_true_eq, Bool.not_eq_true', beq_eq_false_iff_ne] at h8
        have hw9 := v_mlk_in _ hml2
        unfold v_mw at hw9
        dsimp only at hw9
        simp only [h5] at hw9
        have hpr : pre = [.inr (.inr a)] := by
          have h9 := congrArg List.reverse hp3
          simpa using h9.symm
        subst hpr
        subst hp1
        have hen : v_enc ρ (.inr (.inr a)) = .ref (ρ a) := if_neg h8.2
        have hk9 := hk ρ ws H locs ls ⟨hR, hl, hlc, v_t1 hst, hva⟩ (fun _ _ => rfl)
        rw [show ([Sum.inr (Sum.inr a)] ++ r : List VV).map (v_enc ρ) = .ref (ρ a) :: r.map (v_enc ρ) by rw [List.singleton_append, List.map_cons, hen]]
        refine W.objInit hx hb hown (hts _ (hw9 _ (by simp))) (hts _ (hw9 _ (by simp))) (hts _ cw_obj) rfl (by rw [hml]; exact hl.1) rfl hd (by omega) ?_ hk9
        have h7 := v_sum_cat ρ r
        show 2 * 0 + _ + 12 ≤ _
        omega
      · cases h
    · exfalso
      rcases h24 with h24 | h24 <;> rw [h24] at h <;> (obtain ⟨-, h⟩ := v_okd h; cases h)
  · cases h
theorem v_s_invokestatic (idx : Nat) : v_SP (.invokestatic idx) := by
  intro p l e R s mid args below meth c Q G oi m len x pc lv st V pc2 lv2 st2 V2 ρ ws H locs ls c0 s0 hC hd ho hS h hc0 hs0 hrc hrs hk
  obtain ⟨hx, hb, hml, hown, hts, hWd, hin, hfr, hlo, hB, hX, hXl, hXB⟩ := id hC
  obtain ⟨hR, hl, hlc, hst, hva⟩ := id hS
  simp only [v_okI, Bool.and_eq_true, Bool.or_eq_true, decide_eq_true_eq, beq_iff_eq, List.elem_eq_mem] at ho
  obtain ⟨⟨rfl, hml2⟩, hkd⟩ := ho
  have hw9 := v_mlk_in _ hml2
  unfold v_mw at hw9
  dsimp only at hw9
  simp only [v_i] at h
  unfold v_call at h
  split at h
  · rename_i as r htk
    obtain ⟨pre, hp1, hp2, hp3⟩ := v_take_eq htk
    have hpr : pre = as.reverse := by rw [hp3]; simp
    subst hpr
    subst hp1
    have hcr : ∀ v ∈ r, v_clo G V v := fun v hv => hst v (List.mem_append_right _ hv)
    have h7 := v_sum_cat ρ r
    rw [List.map_append]
    rcases hkd with (⟨⟨⟨h6, -⟩, hf1⟩, hl1⟩ | ⟨⟨⟨h789, -⟩, hf1⟩, hl1⟩) | ⟨⟨h13, -⟩, -⟩
    · simp only [h6] at h hw9
      split at h
      · rename_i a sp b dp n
        obtain ⟨h8, h⟩ := v_okd h
        obtain ⟨rfl, rfl, rfl, rfl⟩ := v_inj h
        simp only [Bool.and_eq_true, decide_eq_true_eq, beq_iff_eq] at h8
        obtain ⟨⟨⟨⟨⟨⟨⟨g0, ga⟩, gb⟩, g1⟩, g2⟩, g3⟩, g4⟩, g5⟩ := h8
        have hca : v_cA G V a := hst (.inr (.inr a)) (by simp)
        have hcb : v_cA G V b := hst (.inr (.inr b)) (by simp)
        obtain ⟨hala, hena⟩ := hR.ref hca (by omega)
        obtain ⟨halb, henb⟩ := hR.ref hcb (by omega)
        obtain ⟨-, -, ka, cA, hwa, hKA⟩ := hR.2.2.2.1 a hala
        obtain ⟨-, -, kb, cB, hwb, hKB⟩ := hR.2.2.2.1 b halb
        have hKA2 := hKA (by omega)
        have hKB2 := hKB (by omega)
        rw [ga] at hKA2
        rw [gb] at hKB2
        rw [v_E_int (Or.inl ga)] at hwa
        have hwb2 := hwb
        rw [v_E_int (Or.inl gb)] at hwb2
        have es : ([Sum.inr (Sum.inr a), Sum.inl sp, Sum.inr (Sum.inr b), Sum.inl dp, Sum.inl n] : List VV).reverse.map (v_enc ρ) ++ r.map (v_enc ρ) = .int n :: .int dp :: .ref (ρ b) :: .int sp :: .ref (ρ a) :: r.map (v_enc ρ) := by
          show v_enc ρ (.inl n) :: v_enc ρ (.inl dp) :: v_enc ρ (.inr (.inr b)) :: v_enc ρ (.inl sp) :: v_enc ρ (.inr (.inr a)) :: _ = _
          rw [hena, henb]
          rfl
        rw [es]
        refine va_copyi (ty := .int) hx hb (by rw [hml]; exact hl.1.symm) hown (hts _ (hw9 _ (by simp))) (hts _ (hw9 _ (by simp))) (hts _ (hw9 _ (by simp))) (hts _ (hw9 _ (by simp))) (v_KK2 hR.2.2.1 hKA2 hKB2) hR.1 hR.2.1 hva ka kb 0 1 hwa hwb2 rfl rfl rfl g1 g2 g3 g4 g5 (fun _ _ => rfl) (by omega) ?_ hd (fun H1 locs1 hP1 hD1 hS1 => hk ρ _ H1 locs1 ls (hS.keep rfl (hR.upd (V' := v_rowI V b (va_cpy (V.1 a) (V.1 b) sp.toNatClampNeg dp.toNatClampNeg n.toNatClampNeg)) halb hwb hKB ?_ hP1 hD1 (fun b hb => if_neg hb) (fun b hb => rfl) (fun b hb => rfl) rfl (fun i => hR.2.2.2.2.2.1 b i halb)) hS1 hcr) (fun _ _ => rfl))
        · have h9 : nativeFrameWords "java/lang/System" "arraycopy" 5 + 11 ≤ 60 := by decide
          omega
        · rw [v_E_int (Or.inl gb), show (v_rowI V b (va_cpy (V.1 a) (V.1 b) sp.toNatClampNeg dp.toNatClampNeg n.toNatClampNeg)).1 b = va_cpy (V.1 a) (V.1 b) sp.toNatClampNeg dp.toNatClampNeg n.toNatClampNeg from if_pos rfl]
      · cases h
    · rcases h789 with (h6 | h6) | h6 <;> simp only [h6] at h hw9
      · split at h
        · rename_i a b
          obtain ⟨h8, h⟩ := v_okd h
          obtain ⟨rfl, rfl, rfl, rfl⟩ := v_inj h
          have h8 := of_decide_eq_true h8
          rw [show ([Sum.inl a, Sum.inl b] : List VV).reverse.map (v_enc ρ) ++ r.map (v_enc ρ) = .int b :: .int a :: r.map (v_enc ρ) from rfl]
          exact va_mmax hx hb (by rw [hml]; exact hl.1.symm) hown (hts _ (hw9 _ (by simp))) (hts _ (hw9 _ (by simp))) (hts _ (hw9 _ (by simp))) (hts _ cw_max) (by omega) (by omega) hrc hrs hd (hk ρ ws H locs ls ⟨hR, hl, hlc, v_cs trivial hcr, hva⟩ (fun _ _ => rfl))
        · cases h
      · split at h
        · rename_i a b
          obtain ⟨h8, h⟩ := v_okd h
          obtain ⟨rfl, rfl, rfl, rfl⟩ := v_inj h
          have h8 := of_decide_eq_true h8
          rw [show ([Sum.inl a, Sum.inl b] : List VV).reverse.map (v_enc ρ) ++ r.map (v_enc ρ) = .int b :: .int a :: r.map (v_enc ρ) from rfl]
          exact va_mmin hx hb (by rw [hml]; exact hl.1.symm) hown (hts _ (hw9 _ (by simp))) (hts _ (hw9 _ (by simp))) (hts _ (hw9 _ (by simp))) (hts _ cw_min) (by omega) (by omega) hrc hrs hd (hk ρ ws H locs ls ⟨hR, hl, hlc, v_cs trivial hcr, hva⟩ (fun _ _ => rfl))
        · cases h
      · split at h
        · rename_i a b
          obtain ⟨h8, h⟩ := v_okd h
          obtain ⟨rfl, rfl, rfl, rfl⟩ := v_inj h
          have h8 := of_decide_eq_true h8
          rw [show ([Sum.inr (Sum.inl a), Sum.inr (Sum.inl b)] : List VV).reverse.map (v_enc ρ) ++ r.map (v_enc ρ) = .long b :: .long a :: r.map (v_enc ρ) from rfl]
          exact va_mmin_long hx hb (by rw [hml]; exact hl.1.symm) hown (hts _ (hw9 _ (by simp))) (hts _ (hw9 _ (by simp))) (hts _ (hw9 _ (by simp))) (hts _ cw_minl) (by omega) (by omega) hrc hrs hd (hk ρ ws H locs ls ⟨hR, hl, hlc, v_cs trivial hcr, hva⟩ (fun _ _ => rfl))
        · cases h
    · exfalso
      rcases h13 with h24 | h24 <;> rw [h24] at h <;> (obtain ⟨-, h⟩ := v_okd h; cases h)
  · cases h
theorem v_s_invokevirtual (idx : Nat) : v_SP (.invokevirtual idx) := by
  intro p l e R s mid args below meth c Q G oi m len x pc lv st V pc2 lv2 st2 V2 ρ ws H locs ls c0 s0 hC hd ho hS h hc0 hs0 hrc hrs hk
  obtain ⟨hx, hb, hml, hown, hts, hWd, hin, hfr, hlo, hB, hX, hXl, hXB⟩ := id hC
  obtain ⟨hR, hl, hlc, hst, hva⟩ := id hS
  simp only [v_okI, Bool.and_eq_true, decide_eq_true_eq, beq_iff_eq, List.elem_eq_mem] at ho
  obtain ⟨⟨⟨⟨rfl, -⟩, h0⟩, -⟩, -⟩ := ho
  exfalso
  simp only [v_i] at h
  unfold v_call at h
  split at h
  · rw [h0] at h
    obtain ⟨-, h⟩ := v_okd h
    cases h
  · cases h
