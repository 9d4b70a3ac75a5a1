/-! ===== one step: constants, switches, fields, arrays, new cells ===== -/
def v_tc (c : Nat) (ty : FieldType) : Bool := match c, ty with
  | 0, .int => true
  | 1, .object _ => true
  | 1, .array _ => true
  | 2, .boolean => true
  | _, _ => false
theorem v_cls {ci : Nat} (h : ci < 11) : ∃ (C : String) (T : u_T) (ty0 : Nat → FieldType), vcl[ci]? = some (C, T, v_nf ci) ∧ (∀ w ∈ u_ws C T (v_nf ci), w ∈ v_tbl) ∧ Cond.instantiable C (v_nf ci) ∈ v_tbl ∧ Cond.initialized C ∈ v_tbl ∧ (∀ k, k < v_nf ci → parseFieldDescriptor (T k).2.2.1 = some (ty0 k)) ∧ (∀ a, a < v_nf ci → ∀ b, b < v_nf ci → a ≠ b → (T a).2.1 ≠ (T b).2.1) ∧ (∀ k, k < v_nf ci → v_tc (v_fty ci k) (ty0 k) = true) ∧ (∀ k, k < v_nf ci → (T k).1 = v_own ci) := by
  have hw : ∀ {A B : List Cond}, (∀ w ∈ A ++ B, w ∈ v_tbl) → ∀ w ∈ A, w ∈ v_tbl := fun h w hw => h w (List.mem_append_left _ hw)
  have h1 : ∀ {A : List Cond} {x y : Cond}, (∀ w ∈ A ++ [x, y], w ∈ v_tbl) → x ∈ v_tbl := fun h => h _ (List.mem_append_right _ (by simp))
  have h2 : ∀ {A : List Cond} {x y : Cond}, (∀ w ∈ A ++ [x, y], w ∈ v_tbl) → y ∈ v_tbl := fun h => h _ (List.mem_append_right _ (by simp))
  match ci, h with
  | 0, _ => exact ⟨RX0, TX0, tyX0, rfl, hw v_c0_in, h1 v_c0_in, h2 v_c0_in, tyX0_ok, nmX0, by decide +kernel, by decide +kernel⟩
  | 1, _ => exact ⟨RX1, TX1, tyX1, rfl, hw v_c1_in, h1 v_c1_in, h2 v_c1_in, tyX1_ok, nmX1, by decide +kernel, by decide +kernel⟩
  | 2, _ => exact ⟨RX2, TX2, tyX2, rfl, hw v_c2_in, h1 v_c2_in, h2 v_c2_in, tyX2_ok, nmX2, by decide +kernel, by decide +kernel⟩
  | 3, _ => exact ⟨RX3, TX3, tyX3, rfl, hw v_c3_in, h1 v_c3_in, h2 v_c3_in, tyX3_ok, nmX3, by decide +kernel, by decide +kernel⟩
  | 4, _ => exact ⟨RX4, TX4, tyX4, rfl, hw v_c4_in, h1 v_c4_in, h2 v_c4_in, tyX4_ok, nmX4, by decide +kernel, by decide +kernel⟩
  | 5, _ => exact ⟨RX5, TX5, tyX5, rfl, hw v_c5_in, h1 v_c5_in, h2 v_c5_in, tyX5_ok, nmX5, by decide +kernel, by decide +kernel⟩
  | 6, _ => exact ⟨RX6, TX6, tyX6, rfl, hw v_c6_in, h1 v_c6_in, h2 v_c6_in, tyX6_ok, nmX6, by decide +kernel, by decide +kernel⟩
  | 7, _ => exact ⟨RX7, TX7, tyX7, rfl, hw v_c7_in, h1 v_c7_in, h2 v_c7_in, tyX7_ok, nmX7, by decide +kernel, by decide +kernel⟩
  | 8, _ => exact ⟨RX8, TX8, tyX8, rfl, hw v_c8_in, h1 v_c8_in, h2 v_c8_in, tyX8_ok, nmX8, by decide +kernel, by decide +kernel⟩
  | 9, _ => exact ⟨RX9, TX9, tyX9, rfl, hw v_c9_in, h1 v_c9_in, h2 v_c9_in, tyX9_ok, nmX9, by decide +kernel, by decide +kernel⟩
  | 10, _ => exact ⟨RX10, TX10, tyX10, rfl, hw v_c10_in, h1 v_c10_in, h2 v_c10_in, tyX10_ok, nmX10, by decide +kernel, by decide +kernel⟩
theorem v_E_obj {ρ : VA → Nat} {V : VH} {cA : ClassId} {a : VA} (h : v_kind a < 11) : v_E ρ V cA a = .inr (v_kind a, (List.range (v_nf (v_kind a))).map (v_F ρ V a)) := if_pos h
theorem v_E_int {ρ : VA → Nat} {V : VH} {cA : ClassId} {a : VA} (h : v_kind a = 11 ∨ v_kind a = 12) : v_E ρ V cA a = .inl (cA, v_len a, .inl (V.1 a)) := by
  unfold v_E
  rw [if_neg (by omega), if_neg (by omega), if_pos (by omega)]
theorem v_E_long {ρ : VA → Nat} {V : VH} {cA : ClassId} {a : VA} (h : v_kind a = 13) : v_E ρ V cA a = .inl (cA, v_len a, .inr (.inl (V.2.2.1 a))) := by
  unfold v_E
  rw [if_neg (by omega), if_pos h]
theorem v_E_ref {ρ : VA → Nat} {V : VH} {cA : ClassId} {a : VA} (h : 14 ≤ v_kind a) : v_E ρ V cA a = .inl (cA, v_len a, .inr (.inr (.inr (.inr (fun j => v_rq ρ (V.2.1 a j)))))) := by
  unfold v_E
  rw [if_neg (by omega), if_neg (by omega), if_neg (by omega)]
theorem v_range_get {α : Type} (f : Nat → α) {n k : Nat} (h : k < n) : ((List.range n).map f)[k]? = some (f k) := by
  rw [List.getElem?_map, List.getElem?_range h]; rfl
theorem v_range_set {α : Type} (f g : Nat → α) {n k : Nat} (h : ∀ j, j ≠ k → g j = f j) : ((List.range n).map f).set k (g k) = (List.range n).map g := by
  apply List.ext_getElem?
  intro j
  by_cases hj : j < n
  · by_cases hk : j = k
    · subst hk
      rw [List.getElem?_set_self (by simpa using hj), v_range_get g hj]
    · rw [List.getElem?_set_ne (fun e => hk e.symm), v_range_get f hj, v_range_get g hj, h j hk]
  · rw [List.getElem?_eq_none (by simpa using hj), List.getElem?_eq_none (by simpa using hj)]
theorem v_KK {D : va_G} {s : State} {cA : ClassId} {ty : FieldType} (h : va_K D vcl [] s) (h2 : ArrOfT s cA ty ∧ va_RA s cA ty) : va_K D vcl [(cA, ty)] s := by
  refine ⟨h.1, fun k q hq => ?_⟩
  match k, hq with
  | 0, hq => cases hq; exact h2
  | k + 1, hq => simp at hq
theorem v_KK2 {D : va_G} {s : State} {cA cB : ClassId} {ty : FieldType} (h : va_K D vcl [] s) (h1 : ArrOfT s cA ty ∧ va_RA s cA ty) (h2 : ArrOfT s cB ty ∧ va_RA s cB ty) : va_K D vcl [(cA, ty), (cB, ty)] s := by
  refine ⟨h.1, fun k q hq => ?_⟩
  match k, hq with
  | 0, hq => cases hq; exact h1
  | 1, hq => cases hq; exact h2
  | k + 2, hq => simp at hq
theorem v_ST.keep {G : VC} {m : VM} {s : State} {ρ : VA → Nat} {V V' : VH} {ws ws' : va_W} {H H' : Heap} {locs locs' : List Loc} {ls : Array Slot} {lv : VL} {st st' : List VV} (hS : v_ST G m s ρ V ws H locs ls lv st) (hal : V'.2.2.2.1 = V.2.2.2.1) (hR : v_Rl G ρ V' ws' s H') (hva : va_S (fun q => G.2.2.2.2 ≤ q) s.heap H' locs') (hst : ∀ v ∈ st', v_clo G V v) : v_ST G m s ρ V' ws' H' locs' ls lv st' := by
  have hm : ∀ a, V.2.2.2.1 a = true → V'.2.2.2.1 a = true := fun a h => by rw [hal]; exact h
  exact ⟨hR, hS.2.1, fun q hq => v_clo_mono hm (hS.2.2.1 q hq), fun v hv => v_clo_mono hm (hst v hv), hva⟩
theorem v_rf (ρ : VA → Nat) (a : VA) : va_rf (v_rq ρ a) = v_enc ρ (.inr (.inr a)) := by
  show va_rf (if a.1 = 0 then none else some (ρ a)) = if a.1 = 0 then .null else .ref (ρ a)
  split <;> rfl
theorem v_bool_ok {v : Int32} (h : v_bool v = true) : narrow .boolean (.int v) = .int v ∧ fits .boolean (.int v) = true := by
  unfold v_bool at h
  simp only [Bool.or_eq_true, decide_eq_true_eq] at h
  rcases h with rfl | rfl <;> exact ⟨rfl, rfl⟩
theorem v_s_ldc (idx : Nat) : v_SP (.ldc idx) := by
  intro p l e R s mid args below meth c Q G oi m len x pc lv st V pc2 lv2 st2 V2 ρ ws H locs ls c0 s0 hC hd ho hS h hc0 hs0 hrc hrs hk
  obtain ⟨hx, hb, hml, hown, hts, hWd, hin, hfr, hlo, hB, hX, hXl, hXB⟩ := id hC
  obtain ⟨hR, hl, hlc, hst, hva⟩ := id hS
  have hlen : len = 2 ∧ (oi, idx, x.2.2.2) ∈ v_ck := by simpa [v_okI] using ho
  obtain ⟨rfl, hck⟩ := hlen
  simp only [v_i] at h
  obtain ⟨rfl, rfl, rfl, rfl⟩ := v_inj h
  exact lv_ldc hx hb hown (hts _ (v_ck_in _ hck)) hd (hk ρ ws H locs ls ⟨hR, hl, hlc, v_cs trivial hst, hva⟩ (fun _ _ => rfl))
theorem v_s_ldc2_w (idx : Nat) : v_SP (.ldc2_w idx) := by
  intro p l e R s mid args below meth c Q G oi m len x pc lv st V pc2 lv2 st2 V2 ρ ws H locs ls c0 s0 hC hd ho hS h hc0 hs0 hrc hrs hk
  obtain ⟨hx, hb, hml, hown, hts, hWd, hin, hfr, hlo, hB, hX, hXl, hXB⟩ := id hC
  obtain ⟨hR, hl, hlc, hst, hva⟩ := id hS
  have hlen : len = 3 ∧ (oi, idx, x.2.2.2) ∈ v_ckl := by simpa [v_okI] using ho
  obtain ⟨rfl, hck⟩ := hlen
  simp only [v_i] at h
  obtain ⟨rfl, rfl, rfl, rfl⟩ := v_inj h
  exact lv_ldc2 hx hb hown (hts _ (v_ckl_in _ hck)) hd (hk ρ ws H locs ls ⟨hR, hl, hlc, v_cs trivial hst, hva⟩ (fun _ _ => rfl))
theorem v_s_tableswitch (d lo hi : Int) (offs : Array Int) : v_SP (.tableswitch d lo hi offs) := by
  intro p l e R s mid args below meth c Q G oi m len x pc lv st V pc2 lv2 st2 V2 ρ ws H locs ls c0 s0 hC hd ho hS h hc0 hs0 hrc hrs hk
  obtain ⟨hx, hb, hml, hown, hts, hWd, hin, hfr, hlo, hB, hX, hXl, hXB⟩ := id hC
  obtain ⟨hR, hl, hlc, hst, hva⟩ := id hS
  have ho2 : 0 ≤ (pc : Int) + d ∧ ∀ o ∈ offs.toList, 0 ≤ (pc : Int) + o := by
    simp only [v_okI, Bool.and_eq_true, decide_eq_true_eq, List.all_eq_true] at ho
    exact ho
  simp only [v_i] at h
  split at h
  · rename_i a r
    unfold v_off at h
    split at h
    · rename_i o hoo
      obtain ⟨rfl, rfl, rfl, rfl⟩ := v_inj h
      have hk9 := hk ρ ws H locs ls ⟨hR, hl, hlc, v_t1 hst, hva⟩ (fun _ _ => rfl)
      unfold v_tab at hoo
      split at hoo
      · rename_i hc
        cases hoo
        refine lv_tableOut hx hb hd ?_ (Int.toNat_of_nonneg ho2.1).symm hk9
        simpa using hc
      · rename_i hc
        have hc2 : ¬ a.toInt < lo ∧ ¬ hi < a.toInt := by simpa using hc
        have ho3 : offs[(a.toInt - lo).toNat]? = some o := by rw [← Array.getElem?_toList]; exact hoo
        exact lv_tableIn hx hb hd hc2.1 hc2.2 ho3 (Int.toNat_of_nonneg (ho2.2 o (List.mem_of_getElem? hoo))).symm hk9
    · cases h
  · cases h
theorem v_look_off (d x : Int) : ∀ l : List (Int × Int), Op.lookupswitch.offset l d x = v_look d x l
  | [] => rfl
  | (a, o) :: l => by
    unfold v_look
    by_cases h : x = a
    · subst h
      simp [Op.lookupswitch.offset]
    · simp [Op.lookupswitch.offset, h, fun e : a = x => h e.symm]
      rw [if_neg (fun e : a = x => h e.symm)]
      exact v_look_off d x l
theorem v_look_ge {pc d x : Int} : ∀ {l : List (Int × Int)}, 0 ≤ pc + d → (∀ o ∈ l, 0 ≤ pc + o.2) → 0 ≤ pc + v_look d x l
  | [], h, _ => h
  | (a, o) :: l, h, h2 => by
    unfold v_look
    split
    · exact h2 (a, o) List.mem_cons_self
    · exact v_look_ge h (fun q hq => h2 q (List.mem_cons_of_mem _ hq))
theorem v_s_lookupswitch (d : Int) (ps : Array (Int × Int)) : v_SP (.lookupswitch d ps) := by
  intro p l e R s mid args below meth c Q G oi m len x pc lv st V pc2 lv2 st2 V2 ρ ws H locs ls c0 s0 hC hd ho hS h hc0 hs0 hrc hrs hk
  obtain ⟨hx, hb, hml, hown, hts, hWd, hin, hfr, hlo, hB, hX, hXl, hXB⟩ := id hC
  obtain ⟨hR, hl, hlc, hst, hva⟩ := id hS
  simp only [v_okI, Bool.and_eq_true, decide_eq_true_eq] at ho
  obtain ⟨⟨ho1, ho2⟩, ho3⟩ := ho
  have ho2 : ∀ o ∈ ps.toList, 0 ≤ (pc : Int) + o.2 := fun o h => of_decide_eq_true (List.all_eq_true.mp ho2 o h)
  simp only [v_i] at h
  split at h
  · rename_i a r
    simp only [v_off] at h
    obtain ⟨rfl, rfl, rfl, rfl⟩ := v_inj h
    exact lv_lookup hx hb hd ho3 (v_look_off d a.toInt ps.toList) (Int.toNat_of_nonneg (v_look_ge ho1 ho2)).symm (hk ρ ws H locs ls ⟨hR, hl, hlc, v_t1 hst, hva⟩ (fun _ _ => rfl))
  · cases h
theorem v_s_getfield (idx : Nat) : v_SP (.getfield idx) := by
  intro p l e R s mid args below meth c Q G oi m len x pc lv st V pc2 lv2 st2 V2 ρ ws H locs ls c0 s0 hC hd ho hS h hc0 hs0 hrc hrs hk
  obtain ⟨hx, hb, hml, hown, hts, hWd, hin, hfr, hlo, hB, hX, hXl, hXB⟩ := id hC
  obtain ⟨hR, hl, hlc, hst, hva⟩ := id hS
  simp only [v_okI, Bool.and_eq_true, decide_eq_true_eq, beq_iff_eq, List.elem_eq_mem] at ho
  obtain ⟨⟨⟨rfl, hfl⟩, hty⟩, hle⟩ := ho
  obtain ⟨hci, hkn⟩ := v_flk_k _ hfl
  dsimp only at hci hkn
  obtain ⟨C, T, ty0, hcl, hw0, -, -, hpf, hnm, htc, hT1⟩ := v_cls hci
  have hlink : Cond.fieldLink (v_own oi) idx (T x.2.1).1 (T x.2.1).2.1 (T x.2.1).2.2.1 ∈ v_tbl := by
    have h9 := v_flk_in _ hfl
    unfold v_fl at h9
    dsimp only at h9
    rw [hcl] at h9
    exact h9
  simp only [v_i] at h
  split at h
  · rename_i a r
    have hca : v_cA G V a := hst _ List.mem_cons_self
    have key : ∀ v : VV, v_kind a = x.1 → v_F ρ V a x.2.1 = v_enc ρ v → v_clo G V v → (∀ (q : v_ST G m s ρ V ws H locs ls lv (v :: r)), W p l e R s mid args below meth c H locs (V.2.2.2.2.1 - c0) (V.2.2.2.2.2 - s0) Q (F0 mid (pc + 3) ls ((v :: r).map (v_enc ρ)))) → W p l e R s mid args below meth c H locs (V.2.2.2.2.1 - c0) (V.2.2.2.2.2 - s0) Q (F0 mid pc ls ((.inr (.inr a) :: r).map (v_enc ρ))) := by
      intro v hka hv hcv hk2
      obtain ⟨hal, hen⟩ := hR.ref hca (by omega)
      obtain ⟨-, -, k, cA, hwk, hKA⟩ := hR.2.2.2.1 a hal
      rw [v_E_obj (by omega), hka] at hwk
      rw [List.map_cons, hen]
      exact va_get (D := G.1) (ci := x.1) (C := C) (T := T) (N := v_nf x.1) hx hb hts hw0 hown hR.2.2.1 hR.1 k hwk hcl x.2.1 hkn (hts _ hlink) (fun _ h9 => h9) (by rw [v_range_get _ hkn, hv]) hd (hk2 ⟨hR, hl, hlc, v_cs hcv (v_t1 hst), hva⟩)
    split at h
    · rename_i h0
      obtain ⟨hka, h⟩ := v_okd h
      obtain ⟨rfl, rfl, rfl, rfl⟩ := v_inj h
      rw [beq_iff_eq] at hka
      refine key (.inl (V.1 a x.2.1)) hka ?_ trivial (fun q => hk ρ ws H locs ls q (fun _ _ => rfl))
      have hne : ¬ v_fty (v_kind a) x.2.1 = 1 := by
        rw [hka]
        intro h1
        rw [h0, h1] at hty
        exact absurd hty (by decide)
      unfold v_F
      rw [if_neg hne]
      rfl
    · rename_i h0
      obtain ⟨hka, h⟩ := v_okd h
      obtain ⟨rfl, rfl, rfl, rfl⟩ := v_inj h
      rw [beq_iff_eq] at hka
      obtain ⟨hal, -⟩ := hR.ref hca (by omega)
      refine key (.inr (.inr (V.2.1 a x.2.1))) hka ?_ (hR.2.2.2.2.2.1 a _ hal) (fun q => hk ρ ws H locs ls q (fun _ _ => rfl))
      have h1 : x.2.2.1 = 1 := by
        have : x.2.2.1 ≠ 0 := h0
        omega
      have he : v_fty (v_kind a) x.2.1 = 1 := by
        rw [hka]
        rw [h1] at hty
        simpa using hty
      unfold v_F
      rw [if_pos he]
  · cases h
