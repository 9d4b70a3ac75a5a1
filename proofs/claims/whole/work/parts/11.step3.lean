/-! ===== one step: writes, arrays, new cells ===== -/
theorem v_setI_F {ρ : VA → Nat} {V : VH} {a : VA} {k : Nat} {v : Int32} (h1 : ¬ v_fty (v_kind a) k = 1) : ∀ j, v_F ρ (v_setI V a k v) a j = if j = k then .int v else v_F ρ V a j := by
  intro j
  have e : (v_setI V a k v).1 a = upd (V.1 a) k v := if_pos rfl
  unfold v_F
  rw [e]
  by_cases hj : j = k
  · subst hj
    rw [if_neg h1, if_pos rfl]
    show Value.int (upd (V.1 a) j v j) = .int v
    unfold upd
    rw [if_pos rfl]
  · rw [if_neg hj]
    show (if v_fty (v_kind a) j = 1 then v_enc ρ (.inr (.inr (V.2.1 a j))) else .int (upd (V.1 a) k v j)) = _
    unfold upd
    rw [if_neg hj]
theorem v_setR_F {ρ : VA → Nat} {V : VH} {a : VA} {k : Nat} {v : VA} (h1 : v_fty (v_kind a) k = 1) : ∀ j, v_F ρ (v_setR V a k v) a j = if j = k then v_enc ρ (.inr (.inr v)) else v_F ρ V a j := by
  intro j
  have e : (v_setR V a k v).2.1 a = va_up (V.2.1 a) k v := if_pos rfl
  unfold v_F
  rw [e]
  by_cases hj : j = k
  · subst hj
    rw [if_pos h1, if_pos rfl]
    unfold va_up
    rw [if_pos rfl]
  · rw [if_neg hj]
    unfold va_up
    rw [if_neg hj]
    rfl
/-- a put of a field, final or not -/
theorem v_putx {p : Program} {l : Launch} {e : Env} {R : Room} {s : State} {mid : MethodId} {args : Array Value} {below : List Frame} {meth : Method} {c : Code} {Q : State → Prop} {G : VC} {oi : Nat} {m : VM} {idx : Nat} {x : VX} {pc : Nat} {V V' : VH} {ρ : VA → Nat} {ws : va_W} {H : Heap} {locs : List Loc} {ls : Array Slot} {cells slots : Nat} {a : VA} {v : Value} {rest : List Value} {lv : VL} {st : List VV}
    (hC : v_CX G oi m p R s mid args meth c) (hd : decode m.2.2.1 pc = .ok (.putfield idx, 3)) (hS : v_ST G m s ρ V ws H locs ls lv st) (hfl : (oi, idx, x.1, x.2.1) ∈ v_flk) (hfin : (!(v_fin x.1 x.2.1) || ((m.2.1.name == "<init>") && (oi == x.1))) = true) (hka : v_kind a = x.1) (hca : v_cA G V a)
    (hnar : ∀ ty, v_tc (v_fty x.1 x.2.1) ty = true → narrow ty v = v ∧ fits ty v = true) (hF : ∀ j, v_F ρ V' a j = if j = x.2.1 then v else v_F ρ V a j)
    (h1 : ∀ b, b ≠ a → V'.1 b = V.1 b) (h2 : ∀ b, b ≠ a → V'.2.1 b = V.2.1 b) (h3 : ∀ b, b ≠ a → V'.2.2.1 b = V.2.2.1 b) (h4 : V'.2.2.2.1 = V.2.2.2.1) (hc : ∀ j, v_cA G V (V'.2.1 a j))
    (hk : ∀ (ws2 : va_W) (H2 : Heap) (locs2 : List Loc), v_Rl G ρ V' ws2 s H2 → va_S (fun q => G.2.2.2.2 ≤ q) s.heap H2 locs2 → W p l e R s mid args below meth c H2 locs2 cells slots Q (F0 mid (pc + 3) ls rest)) : W p l e R s mid args below meth c H locs cells slots Q (F0 mid pc ls (v :: v_enc ρ (.inr (.inr a)) :: rest)) := by
  obtain ⟨hx, hb, hml, hown, hts, hWd, hin, hfr, hlo, hB, hX, hXl, hXB⟩ := id hC
  obtain ⟨hR, hl, hlc, hst, hva⟩ := id hS
  obtain ⟨hci, hkn⟩ := v_flk_k _ hfl
  dsimp only at hci hkn
  obtain ⟨C, T, ty0, hcl, hw0, -, -, hpf, hnm, htc, hT1⟩ := v_cls hci
  have hlink : Cond.fieldLink (v_own oi) idx (T x.2.1).1 (T x.2.1).2.1 (T x.2.1).2.2.1 ∈ v_tbl := by
    have h9 := v_flk_in _ hfl
    unfold v_fl at h9
    dsimp only at h9
    rw [hcl] at h9
    exact h9
  obtain ⟨hal, hen⟩ := hR.ref hca (by omega)
  obtain ⟨-, -, k, cA, hwk, hKA⟩ := hR.2.2.2.1 a hal
  have hwk2 := hwk
  rw [v_E_obj (by omega), hka] at hwk2
  rw [hen]
  obtain ⟨hn1, hn2⟩ := hnar _ (htc _ hkn)
  have hset : ((List.range (v_nf x.1)).map (v_F ρ V a)).set x.2.1 v = (List.range (v_nf x.1)).map (v_F ρ V' a) := by
    have h9 := v_range_set (v_F ρ V a) (v_F ρ V' a) (n := v_nf x.1) (k := x.2.1) (fun j hj => by rw [hF, if_neg hj])
    rw [hF, if_pos rfl] at h9
    exact h9
  have kk : ∀ (H1 : Heap) (locs1 : List Loc), va_P G.1 vcl (ws.set k (ρ a, .inr (x.1, ((List.range (v_nf x.1)).map (v_F ρ V a)).set x.2.1 v))) H1 → va_D (fun q => G.2.2.2.2 ≤ q) (ws.set k (ρ a, .inr (x.1, ((List.range (v_nf x.1)).map (v_F ρ V a)).set x.2.1 v))) → va_S (fun q => G.2.2.2.2 ≤ q) s.heap H1 locs1 → W p l e R s mid args below meth c H1 locs1 cells slots Q (F0 mid (pc + 3) ls rest) := by
    intro H1 locs1 hP1 hD1 hS1
    refine hk _ H1 locs1 (hR.upd hal hwk hKA ?_ hP1 hD1 h1 h2 h3 h4 hc) hS1
    rw [v_E_obj (by omega), hka, hset]
  by_cases hf : (T x.2.1).2.2.2 = true
  · have hfe : v_fin x.1 x.2.1 = true := by unfold v_fin; rw [hcl]; exact hf
    rw [hfe] at hfin
    simp only [Bool.not_true, Bool.false_or, Bool.and_eq_true, beq_iff_eq] at hfin
    exact va_putF (D := G.1) (ci := x.1) (C := C) (T := T) (N := v_nf x.1) hx hb hts hw0 ty0 hpf hnm hown hR.2.2.1 hR.1 hR.2.1 hva k hwk2 hcl x.2.1 hkn (hts _ hlink) (fun _ h9 => h9) hf (hin hfin.1) (by rw [hT1 _ hkn, hfin.2]) (hpf _ hkn) hn1 hn2 (by simpa using hkn) hd kk
  · exact va_put (D := G.1) (ci := x.1) (C := C) (T := T) (N := v_nf x.1) hx hb hts hw0 ty0 hpf hnm hown hR.2.2.1 hR.1 hR.2.1 hva k hwk2 hcl x.2.1 hkn (hts _ hlink) (fun _ h9 => h9) (by simpa using hf) (hpf _ hkn) hn1 hn2 (by simpa using hkn) hd kk
theorem v_tc1 {v : VA} {ρ : VA → Nat} : ∀ ty, v_tc 1 ty = true → narrow ty (v_enc ρ (.inr (.inr v))) = v_enc ρ (.inr (.inr v)) ∧ fits ty (v_enc ρ (.inr (.inr v))) = true := by
  intro ty h
  show narrow ty (if v.1 = 0 then .null else .ref (ρ v)) = (if v.1 = 0 then .null else .ref (ρ v)) ∧ fits ty (if v.1 = 0 then .null else .ref (ρ v)) = true
  cases ty <;> first | (simp [v_tc] at h; done) | (split <;> exact ⟨rfl, rfl⟩)
theorem v_tc0 {v : Int32} : ∀ ty, v_tc 0 ty = true → narrow ty (.int v) = .int v ∧ fits ty (.int v) = true := by
  intro ty h
  cases ty <;> first | (simp [v_tc] at h; done) | exact ⟨rfl, rfl⟩
theorem v_tc2 {v : Int32} (hv : v_bool v = true) : ∀ ty, v_tc 2 ty = true → narrow ty (.int v) = .int v ∧ fits ty (.int v) = true := by
  intro ty h
  cases ty <;> first | (simp [v_tc] at h; done) | exact v_bool_ok hv
theorem v_s_putfield (idx : Nat) : v_SP (.putfield idx) := by
  intro p l e R s mid args below meth c Q G oi m len x pc lv st V pc2 lv2 st2 V2 ρ ws H locs ls c0 s0 hC hd ho hS h hc0 hs0 hrc hrs hk
  obtain ⟨hx, hb, hml, hown, hts, hWd, hin, hfr, hlo, hB, hX, hXl, hXB⟩ := id hC
  obtain ⟨hR, hl, hlc, hst, hva⟩ := id hS
  simp only [v_okI, Bool.and_eq_true, decide_eq_true_eq, beq_iff_eq, List.elem_eq_mem] at ho
  obtain ⟨⟨⟨⟨rfl, hfl⟩, hty⟩, hfin⟩, hle⟩ := ho
  simp only [v_i] at h
  split at h
  · rename_i h0
    split at h
    · rename_i v a r
      obtain ⟨hka, h⟩ := v_okd h
      obtain ⟨rfl, rfl, rfl, rfl⟩ := v_inj h
      rw [beq_iff_eq] at hka
      have hca : v_cA G V a := v_t1 hst _ List.mem_cons_self
      have hcv : v_cA G V v := hst _ List.mem_cons_self
      have hal := (hR.ref hca (by have := (v_flk_k _ hfl).1; dsimp only at this; omega)).1
      refine v_putx (x := x) (V' := v_setR V a x.2.1 v) hC hd hS hfl hfin hka hca (by rw [← hty, h0]; exact v_tc1) (v_setR_F (by rw [hka, ← hty, h0])) (fun b hb => rfl) (fun b hb => if_neg hb) (fun b hb => rfl) rfl (fun j => ?_) (fun ws2 H2 locs2 hR2 hva2 => hk ρ ws2 H2 locs2 ls (hS.keep rfl hR2 hva2 (v_t2 hst)) (fun _ _ => rfl))
      show v_cA G V ((if a = a then va_up (V.2.1 a) x.2.1 v else V.2.1 a) j)
      rw [if_pos rfl]
      unfold va_up
      split
      · exact hcv
      · exact hR.2.2.2.2.2.1 a j hal
    · cases h
  · rename_i h0
    split at h
    · rename_i v a r
      obtain ⟨hka, h⟩ := v_okd h
      obtain ⟨rfl, rfl, rfl, rfl⟩ := v_inj h
      rw [beq_iff_eq] at hka
      have hca : v_cA G V a := v_t1 hst _ List.mem_cons_self
      have hal := (hR.ref hca (by have := (v_flk_k _ hfl).1; dsimp only at this; omega)).1
      exact v_putx (x := x) (V' := v_setI V a x.2.1 v) hC hd hS hfl hfin hka hca (by rw [← hty, h0]; exact v_tc0) (v_setI_F (by rw [hka, ← hty, h0]; decide)) (fun b hb => if_neg hb) (fun b hb => rfl) (fun b hb => rfl) rfl (fun j => hR.2.2.2.2.2.1 a j hal) (fun ws2 H2 locs2 hR2 hva2 => hk ρ ws2 H2 locs2 ls (hS.keep rfl hR2 hva2 (v_t2 hst)) (fun _ _ => rfl))
    · cases h
  · rename_i h1 h0
    have h2 : x.2.2.1 = 2 := by
      have g1 : x.2.2.1 ≠ 1 := h1
      have g0 : x.2.2.1 ≠ 0 := h0
      omega
    split at h
    · rename_i v a r
      obtain ⟨hka, h⟩ := v_okd h
      obtain ⟨rfl, rfl, rfl, rfl⟩ := v_inj h
      rw [Bool.and_eq_true, beq_iff_eq] at hka
      obtain ⟨hka, hbv⟩ := hka
      have hca : v_cA G V a := v_t1 hst _ List.mem_cons_self
      have hal := (hR.ref hca (by have := (v_flk_k _ hfl).1; dsimp only at this; omega)).1
      exact v_putx (x := x) (V' := v_setI V a x.2.1 v) hC hd hS hfl hfin hka hca (by rw [← hty, h2]; exact v_tc2 hbv) (v_setI_F (by rw [hka, ← hty, h2]; decide)) (fun b hb => if_neg hb) (fun b hb => rfl) (fun b hb => rfl) rfl (fun j => hR.2.2.2.2.2.1 a j hal) (fun ws2 H2 locs2 hR2 hva2 => hk ρ ws2 H2 locs2 ls (hS.keep rfl hR2 hva2 (v_t2 hst)) (fun _ _ => rfl))
    · cases h
/-- the script's cell -/
theorem v_script {G : VC} {ρ : VA → Nat} {V : VH} {ws : va_W} {s : State} {H : Heap} (h : v_Rl G ρ V ws s H) {a : VA} (hc : v_cA G V a) (hk : v_kind a = 17) : a = (60, G.2.2.1, 0) := by
  rcases hc with h0 | h0 | h0
  · have : v_kind a = 99 := by unfold v_kind; rw [h0]; rfl
    omega
  · exact h0
  · have := (h.2.2.2.1 a h0).2.1
    omega
theorem v_in_lt {i : Int32} {n : Nat} (h : v_in i n = true) : i.toNatClampNeg < n := by
  have h1 := v_in_iff h
  unfold vp_in at h1
  omega
theorem v_s_arraylength : v_SP .arraylength := by
  intro p l e R s mid args below meth c Q G oi m len x pc lv st V pc2 lv2 st2 V2 ρ ws H locs ls c0 s0 hC hd ho hS h hc0 hs0 hrc hrs hk
  obtain ⟨hx, hb, hml, hown, hts, hWd, hin, hfr, hlo, hB, hX, hXl, hXB⟩ := id hC
  obtain ⟨hR, hl, hlc, hst, hva⟩ := id hS
  have hlen : len = 1 := by simpa [v_okI] using ho
  subst hlen
  simp only [v_i] at h
  split at h
  · rename_i a r
    obtain ⟨hka, h⟩ := v_okd h
    obtain ⟨rfl, rfl, rfl, rfl⟩ := v_inj h
    have hca : v_cA G V a := hst _ List.mem_cons_self
    have hk9 := hk ρ ws H locs ls ⟨hR, hl, hlc, v_cs trivial (v_t1 hst), hva⟩ (fun _ _ => rfl)
    simp only [Bool.or_eq_true, beq_iff_eq] at hka
    rcases hka with hka | hka
    · obtain ⟨hal, hen⟩ := hR.ref hca (by omega)
      obtain ⟨-, -, k, cA, hwk, hKA⟩ := hR.2.2.2.1 a hal
      rw [v_E_int (Or.inl hka)] at hwk
      rw [List.map_cons, hen]
      have hKA := hKA (by omega)
      rw [hka] at hKA
      exact va_alen hx hb (v_KK hR.2.2.1 hKA) hR.1 k 0 hwk rfl rfl hd hk9
    · have he := v_script hR hca hka
      subst he
      have hen : v_enc ρ (.inr (.inr (60, G.2.2.1, 0))) = .ref G.2.1 := by
        show (if (60 : Nat) = 0 then Value.null else .ref (ρ (60, G.2.2.1, 0))) = _
        rw [if_neg (by decide), hR.2.2.2.2.2.2.1]
      rw [List.map_cons, hen]
      exact va_slen hx hb hX hXl (Nat.not_le.mpr hXB) hva hd hk9
  · cases h
theorem v_s_iaload : v_SP .iaload := by
  intro p l e R s mid args below meth c Q G oi m len x pc lv st V pc2 lv2 st2 V2 ρ ws H locs ls c0 s0 hC hd ho hS h hc0 hs0 hrc hrs hk
  obtain ⟨hx, hb, hml, hown, hts, hWd, hin, hfr, hlo, hB, hX, hXl, hXB⟩ := id hC
  obtain ⟨hR, hl, hlc, hst, hva⟩ := id hS
  have hlen : len = 1 := by simpa [v_okI] using ho
  subst hlen
  simp only [v_i] at h
  split at h
  · rename_i j a r
    obtain ⟨hka, h⟩ := v_okd h
    obtain ⟨rfl, rfl, rfl, rfl⟩ := v_inj h
    have hca : v_cA G V a := v_t1 hst _ List.mem_cons_self
    have hk9 := hk ρ ws H locs ls ⟨hR, hl, hlc, v_cs trivial (v_t2 hst), hva⟩ (fun _ _ => rfl)
    simp only [Bool.and_eq_true, Bool.or_eq_true, beq_iff_eq] at hka
    obtain ⟨hka, hj⟩ := hka
    rcases hka with hka | hka
    · obtain ⟨hal, hen⟩ := hR.ref hca (by omega)
      obtain ⟨-, -, k, cA, hwk, hKA⟩ := hR.2.2.2.1 a hal
      rw [v_E_int (Or.inl hka)] at hwk
      rw [List.map_cons, List.map_cons, hen]
      have hKA := hKA (by omega)
      rw [hka] at hKA
      exact va_iald hx hb (v_KK hR.2.2.1 hKA) hR.1 k 0 hwk rfl (v_in_iff hj) hd hk9
    · have he := v_script hR hca hka
      subst he
      have hen : v_enc ρ (.inr (.inr (60, G.2.2.1, 0))) = .ref G.2.1 := by
        show (if (60 : Nat) = 0 then Value.null else .ref (ρ (60, G.2.2.1, 0))) = _
        rw [if_neg (by decide), hR.2.2.2.2.2.2.1]
      have hv := hR.2.2.2.2.2.2.2 j.toNatClampNeg (v_in_lt hj)
      rw [List.map_cons, List.map_cons, hen]
      rw [hv] at hk9
      exact va_sld hx hb hX hXl (Nat.not_le.mpr hXB) hva (v_in_iff hj) hd hk9
  · cases h
theorem v_s_baload : v_SP .baload := by
  intro p l e R s mid args below meth c Q G oi m len x pc lv st V pc2 lv2 st2 V2 ρ ws H locs ls c0 s0 hC hd ho hS h hc0 hs0 hrc hrs hk
  obtain ⟨hx, hb, hml, hown, hts, hWd, hin, hfr, hlo, hB, hX, hXl, hXB⟩ := id hC
  obtain ⟨hR, hl, hlc, hst, hva⟩ := id hS
  have hlen : len = 1 := by simpa [v_okI] using ho
  subst hlen
  simp only [v_i] at h
  split at h
  · rename_i j a r
    obtain ⟨hka, h⟩ := v_okd h
    obtain ⟨rfl, rfl, rfl, rfl⟩ := v_inj h
    have hca : v_cA G V a := v_t1 hst _ List.mem_cons_self
    simp only [Bool.and_eq_true, beq_iff_eq] at hka
    obtain ⟨hka, hj⟩ := hka
    obtain ⟨hal, hen⟩ := hR.ref hca (by omega)
    obtain ⟨-, -, k, cA, hwk, hKA⟩ := hR.2.2.2.1 a hal
    rw [v_E_int (Or.inr hka)] at hwk
    rw [List.map_cons, List.map_cons, hen]
    have hKA := hKA (by omega)
    rw [hka] at hKA
    exact va_zald hx hb (v_KK hR.2.2.1 hKA) hR.1 k 0 hwk rfl (v_in_iff hj) hd (hk ρ ws H locs ls ⟨hR, hl, hlc, v_cs trivial (v_t2 hst), hva⟩ (fun _ _ => rfl))
  · cases h
theorem v_s_laload : v_SP .laload := by
  intro p l e R s mid args below meth c Q G oi m len x pc lv st V pc2 lv2 st2 V2 ρ ws H locs ls c0 s0 hC hd ho hS h hc0 hs0 hrc hrs hk
  obtain ⟨hx, hb, hml, hown, hts, hWd, hin, hfr, hlo, hB, hX, hXl, hXB⟩ := id hC
  obtain ⟨hR, hl, hlc, hst, hva⟩ := id hS
  have hlen : len = 1 := by simpa [v_okI] using ho
  subst hlen
  simp only [v_i] at h
  split at h
  · rename_i j a r
    obtain ⟨hka, h⟩ := v_okd h
    obtain ⟨rfl, rfl, rfl, rfl⟩ := v_inj h
    have hca : v_cA G V a := v_t1 hst _ List.mem_cons_self
    simp only [Bool.and_eq_true, beq_iff_eq] at hka
    obtain ⟨hka, hj⟩ := hka
    obtain ⟨hal, hen⟩ := hR.ref hca (by omega)
    obtain ⟨-, -, k, cA, hwk, hKA⟩ := hR.2.2.2.1 a hal
    rw [v_E_long hka] at hwk
    rw [List.map_cons, List.map_cons, hen]
    have hKA := hKA (by omega)
    rw [hka] at hKA
    exact va_lald hx hb (v_KK hR.2.2.1 hKA) hR.1 k 0 hwk rfl (v_in_iff hj) hd (hk ρ ws H locs ls ⟨hR, hl, hlc, v_cs trivial (v_t2 hst), hva⟩ (fun _ _ => rfl))
  · cases h
theorem v_ety_obj {k : Nat} (h : 14 ≤ k ∧ k ≤ 16) : ∃ r : vw_C, v_ety k = .object r.1 ∧ vcl[v_cls3 k]? = some r ∧ v_cls3 k < 11 := by
  have : k = 14 ∨ k = 15 ∨ k = 16 := by omega
  rcases this with rfl | rfl | rfl
  · exact ⟨(RX3, TX3, 12), rfl, rfl, by decide⟩
  · exact ⟨(RX2, TX2, 2), rfl, rfl, by decide⟩
  · exact ⟨(RX7, TX7, 9), rfl, rfl, by decide⟩
theorem v_s_aaload : v_SP .aaload := by
  intro p l e R s mid args below meth c Q G oi m len x pc lv st V pc2 lv2 st2 V2 ρ ws H locs ls c0 s0 hC hd ho hS h hc0 hs0 hrc hrs hk
  obtain ⟨hx, hb, hml, hown, hts, hWd, hin, hfr, hlo, hB, hX, hXl, hXB⟩ := id hC
  obtain ⟨hR, hl, hlc, hst, hva⟩ := id hS
  have hlen : len = 1 := by simpa [v_okI] using ho
  subst hlen
  simp only [v_i] at h
  split at h
  · rename_i j a r
    obtain ⟨hka, h⟩ := v_okd h
    obtain ⟨rfl, rfl, rfl, rfl⟩ := v_inj h
    have hca : v_cA G V a := v_t1 hst _ List.mem_cons_self
    simp only [Bool.and_eq_true, decide_eq_true_eq] at hka
    obtain ⟨hka, hj⟩ := hka
    obtain ⟨hal, hen⟩ := hR.ref hca (by omega)
    obtain ⟨-, -, k, cA, hwk, hKA⟩ := hR.2.2.2.1 a hal
    rw [v_E_ref hka.1] at hwk
    rw [List.map_cons, List.map_cons, hen]
    have hKA := hKA (by omega)
    obtain ⟨rr, he1, -, -⟩ := v_ety_obj hka
    rw [he1] at hKA
    have hk9 := hk ρ ws H locs ls ⟨hR, hl, hlc, v_cs (hR.2.2.2.2.2.1 a _ hal) (v_t2 hst), hva⟩ (fun _ _ => rfl)
    rw [List.map_cons, ← v_rf] at hk9
    exact va_aldq hx hb (v_KK hR.2.2.1 hKA) hR.1 k 0 hwk rfl (v_in_iff hj) hd hk9
  · cases h
theorem v_s_iastore : v_SP .iastore := by
  intro p l e R s mid args below meth c Q G oi m len x pc lv st V pc2 lv2 st2 V2 ρ ws H locs ls c0 s0 hC hd ho hS h hc0 hs0 hrc hrs hk
  obtain ⟨hx, hb, hml, hown, hts, hWd, hin, hfr, hlo, hB, hX, hXl, hXB⟩ := id hC
  obtain ⟨hR, hl, hlc, hst, hva⟩ := id hS
  have hlen : len = 1 := by simpa [v_okI] using ho
  subst hlen
  simp only [v_i] at h
  split at h
  · rename_i v j a r
    obtain ⟨hka, h⟩ := v_okd h
    obtain ⟨rfl, rfl, rfl, rfl⟩ := v_inj h
    have hca : v_cA G V a := v_t2 hst _ List.mem_cons_self
    simp only [Bool.and_eq_true, beq_iff_eq] at hka
    obtain ⟨hka, hj⟩ := hka
    obtain ⟨hal, hen⟩ := hR.ref hca (by omega)
    obtain ⟨-, -, k, cA, hwk, hKA⟩ := hR.2.2.2.1 a hal
    have hwk2 := hwk
    rw [v_E_int (Or.inl hka)] at hwk2
    rw [List.map_cons, List.map_cons, List.map_cons, hen]
    have hKA2 := hKA (by omega)
    rw [hka] at hKA2
    refine va_iast hx hb (v_KK hR.2.2.1 hKA2) hR.1 hR.2.1 hva k 0 hwk2 rfl (v_in_iff hj) hd (fun H1 locs1 hP1 hD1 hS1 => hk ρ _ H1 locs1 ls (hS.keep rfl (hR.upd (V' := v_setI V a j.toNatClampNeg v) hal hwk hKA ?_ hP1 hD1 (fun b hb => if_neg hb) (fun b hb => rfl) (fun b hb => rfl) rfl (fun i => hR.2.2.2.2.2.1 a i hal)) hS1 (v_t1 (v_t2 hst))) (fun _ _ => rfl))
    rw [v_E_int (Or.inl hka), show (v_setI V a j.toNatClampNeg v).1 a = upd (V.1 a) j.toNatClampNeg v from if_pos rfl]
  · cases h
theorem v_nar_bool {v : Int32} (h : v_bool v = true) : vp_nar .boolean v = v := by
  unfold vp_nar
  rw [(v_bool_ok h).1]
theorem v_s_bastore : v_SP .bastore := by
  intro p l e R s mid args below meth c Q G oi m len x pc lv st V pc2 lv2 st2 V2 ρ ws H locs ls c0 s0 hC hd ho hS h hc0 hs0 hrc hrs hk
  obtain ⟨hx, hb, hml, hown, hts, hWd, hin, hfr, hlo, hB, hX, hXl, hXB⟩ := id hC
  obtain ⟨hR, hl, hlc, hst, hva⟩ := id hS
  have hlen : len = 1 := by simpa [v_okI] using ho
  subst hlen
  simp only [v_i] at h
  split at h
  · rename_i v j a r
    obtain ⟨hka, h⟩ := v_okd h
    obtain ⟨rfl, rfl, rfl, rfl⟩ := v_inj h
    have hca : v_cA G V a := v_t2 hst _ List.mem_cons_self
    simp only [Bool.and_eq_true, beq_iff_eq] at hka
    obtain ⟨⟨hka, hj⟩, hbv⟩ := hka
    obtain ⟨hal, hen⟩ := hR.ref hca (by omega)
    obtain ⟨-, -, k, cA, hwk, hKA⟩ := hR.2.2.2.1 a hal
    have hwk2 := hwk
    rw [v_E_int (Or.inr hka)] at hwk2
    rw [List.map_cons, List.map_cons, List.map_cons, hen]
    have hKA2 := hKA (by omega)
    rw [hka] at hKA2
    refine va_zast hx hb (v_KK hR.2.2.1 hKA2) hR.1 hR.2.1 hva k 0 hwk2 rfl (v_in_iff hj) hd (fun H1 locs1 hP1 hD1 hS1 => hk ρ _ H1 locs1 ls (hS.keep rfl (hR.upd (V' := v_setI V a j.toNatClampNeg v) hal hwk hKA ?_ hP1 hD1 (fun b hb => if_neg hb) (fun b hb => rfl) (fun b hb => rfl) rfl (fun i => hR.2.2.2.2.2.1 a i hal)) hS1 (v_t1 (v_t2 hst))) (fun _ _ => rfl))
    rw [v_E_int (Or.inr hka), show (v_setI V a j.toNatClampNeg v).1 a = upd (V.1 a) j.toNatClampNeg v from if_pos rfl, v_nar_bool hbv]
  · cases h
theorem v_s_lastore : v_SP .lastore := by
  intro p l e R s mid args below meth c Q G oi m len x pc lv st V pc2 lv2 st2 V2 ρ ws H locs ls c0 s0 hC hd ho hS h hc0 hs0 hrc hrs hk
  obtain ⟨hx, hb, hml, hown, hts, hWd, hin, hfr, hlo, hB, hX, hXl, hXB⟩ := id hC
  obtain ⟨hR, hl, hlc, hst, hva⟩ := id hS
  have hlen : len = 1 := by simpa [v_okI] using ho
  subst hlen
  simp only [v_i] at h
  split at h
  · rename_i v j a r
    obtain ⟨hka, h⟩ := v_okd h
    obtain ⟨rfl, rfl, rfl, rfl⟩ := v_inj h
    have hca : v_cA G V a := v_t2 hst _ List.mem_cons_self
    simp only [Bool.and_eq_true, beq_iff_eq] at hka
    obtain ⟨hka, hj⟩ := hka
    obtain ⟨hal, hen⟩ := hR.ref hca (by omega)
    obtain ⟨-, -, k, cA, hwk, hKA⟩ := hR.2.2.2.1 a hal
    have hwk2 := hwk
    rw [v_E_long hka] at hwk2
    rw [List.map_cons, List.map_cons, List.map_cons, hen]
    have hKA2 := hKA (by omega)
    rw [hka] at hKA2
    refine va_last hx hb (v_KK hR.2.2.1 hKA2) hR.1 hR.2.1 hva k 0 hwk2 rfl (v_in_iff hj) hd (fun H1 locs1 hP1 hD1 hS1 => hk ρ _ H1 locs1 ls (hS.keep rfl (hR.upd (V' := v_setL V a j.toNatClampNeg v) hal hwk hKA ?_ hP1 hD1 (fun b hb => rfl) (fun b hb => rfl) (fun b hb => if_neg hb) rfl (fun i => hR.2.2.2.2.2.1 a i hal)) hS1 (v_t1 (v_t2 hst))) (fun _ _ => rfl))
    rw [v_E_long hka, show (v_setL V a j.toNatClampNeg v).2.2.1 a = vp_updL (V.2.2.1 a) j.toNatClampNeg v from if_pos rfl]
  · cases h
theorem v_s_aastore : v_SP .aastore := by
  intro p l e R s mid args below meth c Q G oi m len x pc lv st V pc2 lv2 st2 V2 ρ ws H locs ls c0 s0 hC hd ho hS h hc0 hs0 hrc hrs hk
  obtain ⟨hx, hb, hml, hown, hts, hWd, hin, hfr, hlo, hB, hX, hXl, hXB⟩ := id hC
  obtain ⟨hR, hl, hlc, hst, hva⟩ := id hS
  have hlen : len = 1 := by simpa [v_okI] using ho
  subst hlen
  simp only [v_i] at h
  split at h
  · rename_i v j a r
    obtain ⟨hka, h⟩ := v_okd h
    obtain ⟨rfl, rfl, rfl, rfl⟩ := v_inj h
    have hca : v_cA G V a := v_t2 hst _ List.mem_cons_self
    have hcv : v_cA G V v := hst _ List.mem_cons_self
    simp only [Bool.and_eq_true, decide_eq_true_eq, beq_iff_eq] at hka
    obtain ⟨⟨hka, hj⟩, hkv⟩ := hka
    obtain ⟨rr, he1, hcl, hc11⟩ := v_ety_obj hka
    have hkv : v_kind v = v_cls3 (v_kind a) := hkv
    obtain ⟨hal, hen⟩ := hR.ref hca (by omega)
    obtain ⟨halv, henv⟩ := hR.ref hcv (by omega)
    obtain ⟨-, -, k, cA, hwk, hKA⟩ := hR.2.2.2.1 a hal
    obtain ⟨-, -, kv, cv, hwv, -⟩ := hR.2.2.2.1 v halv
    rw [v_E_obj (by omega)] at hwv
    have hwk2 := hwk
    rw [v_E_ref hka.1] at hwk2
    rw [List.map_cons, List.map_cons, List.map_cons, hen, henv]
    have hKA2 := hKA (by omega)
    rw [he1] at hKA2
    refine va_astq (r := rr) hx hb (v_KK hR.2.2.1 hKA2) hR.1 hR.2.1 hva k 0 kv (v_kind v) hwk2 rfl hwv (by rw [hkv]; exact hcl) (v_in_iff hj) hd (fun H1 locs1 hP1 hD1 hS1 => hk ρ _ H1 locs1 ls (hS.keep rfl (hR.upd (V' := v_setR V a j.toNatClampNeg v) hal hwk hKA ?_ hP1 hD1 (fun b hb => rfl) (fun b hb => if_neg hb) (fun b hb => rfl) rfl (fun i => ?_)) hS1 (v_t1 (v_t2 hst))) (fun _ _ => rfl))
    · have hv0 : ¬ v.1 = 0 := by
        intro h0
        have : v_kind v = 99 := by unfold v_kind; rw [h0]; rfl
        omega
      rw [v_E_ref hka.1, show (v_setR V a j.toNatClampNeg v).2.1 a = va_up (V.2.1 a) j.toNatClampNeg v from if_pos rfl]
      congr 7
      funext i
      unfold va_up
      by_cases hi : i = j.toNatClampNeg
      · rw [if_pos hi, if_pos hi]
        unfold v_rq
        rw [if_neg hv0]
      · rw [if_neg hi, if_neg hi]
    · show v_cA G V ((if a = a then va_up (V.2.1 a) j.toNatClampNeg v else V.2.1 a) i)
      rw [if_pos rfl]
      unfold va_up
      split
      · exact hcv
      · exact hR.2.2.2.2.2.1 a i hal
  · cases h
