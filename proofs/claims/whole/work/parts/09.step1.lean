/-! ===== one step of the clean interpreter is steps of the machine ===== -/
/-- words that are carried apart: links of nest mates, arrays of objects -/
def v_Wd (s : State) : Prop := (∀ q ∈ v_nest, va_Nw (v_nw q) s) ∧ va_AO RX3 s ∧ va_AO RX2 s ∧ va_AO RX7 s
def v_CX (G : VC) (oi : Nat) (m : VM) (p : Program) (R : Room) (s : State) (mid : MethodId) (args : Array Value) (meth : Method) (c : Code) : Prop :=
  p.tables.exec = Jvm.exec ∧ c.code = m.2.2.1 ∧ c.maxLocals = m.2.2.2.1 ∧ s.vm.findClass (v_own oi) = some mid.cls ∧ (∀ w ∈ v_tbl, w.before args s = true) ∧ v_Wd s ∧ (m.2.1.name = "<init>" → meth.name = "<init>") ∧ m.2.2.2.2.2.1 ≤ R.frames ∧ m.2.2.2.2.2.2.1 ≤ R.locals ∧ G.2.2.2.2 ≤ s.heap.size ∧ va_X G.2.1 G.2.2.1 G.2.2.2.1 s s.heap ∧ G.2.1 < s.heap.size ∧ G.2.1 < G.2.2.2.2
def v_ST (G : VC) (m : VM) (s : State) (ρ : VA → Nat) (V : VH) (ws : va_W) (H : Heap) (locs : List Loc) (ls : Array Slot) (lv : VL) (st : List VV) : Prop :=
  v_Rl G ρ V ws s H ∧ lv_has ls m.2.2.2.1 (lv.map (fun q => (q.1, v_enc ρ q.2))) ∧ (∀ q ∈ lv, v_clo G V q.2) ∧ (∀ v ∈ st, v_clo G V v) ∧ va_S (fun q => G.2.2.2.2 ≤ q) s.heap H locs
def v_SP (i : Instr) : Prop := ∀ (p : Program) (l : Launch) (e : Env) (R : Room) (s : State) (mid : MethodId) (args : Array Value) (below : List Frame) (meth : Method) (c : Code) (Q : State → Prop) (G : VC) (oi : Nat) (m : VM) (len : Nat) (x : VX) (pc : Nat) (lv : VL) (st : List VV) (V : VH) (pc2 : Nat) (lv2 : VL) (st2 : List VV) (V2 : VH) (ρ : VA → Nat) (ws : va_W) (H : Heap) (locs : List Loc) (ls : Array Slot) (c0 s0 : Nat),
  v_CX G oi m p R s mid args meth c → decode m.2.2.1 pc = .ok (i, len) → v_okI oi m pc i len x = true → v_ST G m s ρ V ws H locs ls lv st → v_i i len x pc lv st V = some (.inl (pc2, lv2, st2, V2)) → c0 ≤ V.2.2.2.2.1 → s0 ≤ V.2.2.2.2.2 → V2.2.2.2.2.1 - c0 ≤ R.cells → V2.2.2.2.2.2 - s0 ≤ R.slots →
  (∀ (ρ2 : VA → Nat) (ws2 : va_W) (H2 : Heap) (locs2 : List Loc) (ls2 : Array Slot), v_ST G m s ρ2 V2 ws2 H2 locs2 ls2 lv2 st2 → (∀ a, V.2.2.2.1 a = true → ρ2 a = ρ a) → W p l e R s mid args below meth c H2 locs2 (V2.2.2.2.2.1 - c0) (V2.2.2.2.2.2 - s0) Q (F0 mid pc2 ls2 (st2.map (v_enc ρ2)))) →
  W p l e R s mid args below meth c H locs (V.2.2.2.2.1 - c0) (V.2.2.2.2.2 - s0) Q (F0 mid pc ls (st.map (v_enc ρ)))
theorem v_inj {a a' : Nat} {b b' : VL} {c c' : List VV} {d d' : VH} (h : (some (Sum.inl (a, b, c, d)) : Option VO) = some (.inl (a', b', c', d'))) : a = a' ∧ b = b' ∧ c = c' ∧ d = d' := by
  cases h
  exact ⟨rfl, rfl, rfl, rfl⟩
theorem v_okd {b : Bool} {o o' : VO} (h : v_ok b o = some o') : b = true ∧ some o = some o' := by
  cases b with
  | true => exact ⟨rfl, h⟩
  | false => cases h
theorem v_cs {P : VV → Prop} {x : VV} {r : List VV} (hx : P x) (hr : ∀ v ∈ r, P v) : ∀ v ∈ x :: r, P v := fun v hv => by
  rcases List.mem_cons.mp hv with rfl | h
  · exact hx
  · exact hr v h
theorem v_t1 {P : VV → Prop} {x : VV} {r : List VV} (h : ∀ v ∈ x :: r, P v) : ∀ v ∈ r, P v := fun v hv => h v (List.mem_cons_of_mem _ hv)
theorem v_t2 {P : VV → Prop} {x y : VV} {r : List VV} (h : ∀ v ∈ x :: y :: r, P v) : ∀ v ∈ r, P v := v_t1 (v_t1 h)
theorem v_get_mem {lv : VL} {i : Nat} {v : VV} (h : v_get lv i = some v) : (i, v) ∈ lv := by
  induction lv with
  | nil => cases h
  | cons q l ih =>
    obtain ⟨j, w⟩ := q
    unfold v_get at h
    split at h
    · rename_i hj
      cases h
      rw [beq_iff_eq] at hj
      subst hj
      exact List.mem_cons_self
    · exact List.mem_cons_of_mem _ (ih h)
theorem v_get_at {ls : Array Slot} {n : Nat} {ρ : VA → Nat} {lv : VL} {i : Nat} {v : VV} (hl : lv_has ls n (lv.map (fun q => (q.1, v_enc ρ q.2)))) (h : v_get lv i = some v) : ls[i]? = some (.val (v_enc ρ v)) := hl.2.2 (i, v_enc ρ v) (List.mem_map.mpr ⟨(i, v), v_get_mem h, rfl⟩)
theorem v_enc_cat (ρ : VA → Nat) (v : VV) : (v_enc ρ v).category = v_cat v := by
  match v with
  | .inl _ => rfl
  | .inr (.inl _) => rfl
  | .inr (.inr a) =>
    show (if a.1 = 0 then Value.null else .ref (ρ a)).category = 1
    split <;> rfl
theorem v_put1_map (ρ : VA → Nat) (lv : VL) (i : Nat) (v : VV) : (i, v_enc ρ v) :: (lv.map (fun q => (q.1, v_enc ρ q.2))).filter (fun q => !(q.1 == i) && !(q.1 + 1 == i && q.2.category == 2)) = (v_put1 lv i v).map (fun q => (q.1, v_enc ρ q.2)) := by
  unfold v_put1
  rw [List.map_cons, List.filter_map]
  congr 2
  apply List.filter_congr
  intro q _
  simp only [Function.comp, v_enc_cat]
theorem v_put2_map (ρ : VA → Nat) (lv : VL) (i : Nat) (v : VV) : (i, v_enc ρ v) :: (lv.map (fun q => (q.1, v_enc ρ q.2))).filter (fun q => !(q.1 == i) && (!(q.1 == i + 1) && !(q.1 + 1 == i && q.2.category == 2))) = (v_put2 lv i v).map (fun q => (q.1, v_enc ρ q.2)) := by
  unfold v_put2
  rw [List.map_cons, List.filter_map]
  congr 2
  apply List.filter_congr
  intro q _
  simp only [Function.comp, v_enc_cat]
theorem v_put1_clo {G : VC} {V : VH} {lv : VL} {i : Nat} {v : VV} (h : ∀ q ∈ lv, v_clo G V q.2) (hv : v_clo G V v) : ∀ q ∈ v_put1 lv i v, v_clo G V q.2 := fun q hq => by
  rcases List.mem_cons.mp hq with rfl | h1
  · exact hv
  · exact h q (List.mem_filter.mp h1).1
theorem v_put2_clo {G : VC} {V : VH} {lv : VL} {i : Nat} {v : VV} (h : ∀ q ∈ lv, v_clo G V q.2) (hv : v_clo G V v) : ∀ q ∈ v_put2 lv i v, v_clo G V q.2 := fun q hq => by
  rcases List.mem_cons.mp hq with rfl | h1
  · exact hv
  · exact h q (List.mem_filter.mp h1).1
theorem v_in_iff {i : Int32} {n : Nat} (h : v_in i n = true) : vp_in i n := by
  unfold v_in at h
  unfold vp_in
  simpa [not_or] using h
theorem v_s_iconst (n : Int) : v_SP (.iconst n) := by
  intro p l e R s mid args below meth c Q G oi m len x pc lv st V pc2 lv2 st2 V2 ρ ws H locs ls c0 s0 hC hd ho hS h hc0 hs0 hrc hrs hk
  obtain ⟨hx, hb, hml, hown, hts, hWd, hin, hfr, hlo, hB, hX, hXl, hXB⟩ := id hC
  obtain ⟨hR, hl, hlc, hst, hva⟩ := id hS
  have hlen : len = 1 := by simpa [v_okI] using ho
  subst hlen
  simp only [v_i] at h
  obtain ⟨rfl, rfl, rfl, rfl⟩ := v_inj h
  exact lv_iconst hx hb hd rfl (hk ρ ws H locs ls ⟨hR, hl, hlc, v_cs trivial hst, hva⟩ (fun _ _ => rfl))
theorem v_s_bipush (n : Int) : v_SP (.bipush n) := by
  intro p l e R s mid args below meth c Q G oi m len x pc lv st V pc2 lv2 st2 V2 ρ ws H locs ls c0 s0 hC hd ho hS h hc0 hs0 hrc hrs hk
  obtain ⟨hx, hb, hml, hown, hts, hWd, hin, hfr, hlo, hB, hX, hXl, hXB⟩ := id hC
  obtain ⟨hR, hl, hlc, hst, hva⟩ := id hS
  have hlen : len = 2 := by simpa [v_okI] using ho
  subst hlen
  simp only [v_i] at h
  obtain ⟨rfl, rfl, rfl, rfl⟩ := v_inj h
  exact lv_bipush hx hb hd rfl (hk ρ ws H locs ls ⟨hR, hl, hlc, v_cs trivial hst, hva⟩ (fun _ _ => rfl))
theorem v_s_sipush (n : Int) : v_SP (.sipush n) := by
  intro p l e R s mid args below meth c Q G oi m len x pc lv st V pc2 lv2 st2 V2 ρ ws H locs ls c0 s0 hC hd ho hS h hc0 hs0 hrc hrs hk
  obtain ⟨hx, hb, hml, hown, hts, hWd, hin, hfr, hlo, hB, hX, hXl, hXB⟩ := id hC
  obtain ⟨hR, hl, hlc, hst, hva⟩ := id hS
  have hlen : len = 3 := by simpa [v_okI] using ho
  subst hlen
  simp only [v_i] at h
  obtain ⟨rfl, rfl, rfl, rfl⟩ := v_inj h
  exact lv_sipush hx hb hd rfl (hk ρ ws H locs ls ⟨hR, hl, hlc, v_cs trivial hst, hva⟩ (fun _ _ => rfl))
theorem v_s_lconst (n : Fin 2) : v_SP (.lconst n) := by
  intro p l e R s mid args below meth c Q G oi m len x pc lv st V pc2 lv2 st2 V2 ρ ws H locs ls c0 s0 hC hd ho hS h hc0 hs0 hrc hrs hk
  obtain ⟨hx, hb, hml, hown, hts, hWd, hin, hfr, hlo, hB, hX, hXl, hXB⟩ := id hC
  obtain ⟨hR, hl, hlc, hst, hva⟩ := id hS
  have hlen : len = 1 := by simpa [v_okI] using ho
  subst hlen
  simp only [v_i] at h
  obtain ⟨rfl, rfl, rfl, rfl⟩ := v_inj h
  exact lv_lconst hx hb hd rfl (hk ρ ws H locs ls ⟨hR, hl, hlc, v_cs trivial hst, hva⟩ (fun _ _ => rfl))
theorem v_s_iload (k : Nat) : v_SP (.iload k) := by
  intro p l e R s mid args below meth c Q G oi m len x pc lv st V pc2 lv2 st2 V2 ρ ws H locs ls c0 s0 hC hd ho hS h hc0 hs0 hrc hrs hk
  obtain ⟨hx, hb, hml, hown, hts, hWd, hin, hfr, hlo, hB, hX, hXl, hXB⟩ := id hC
  obtain ⟨hR, hl, hlc, hst, hva⟩ := id hS
  have hlen : len = 2 := by simpa [v_okI] using ho
  subst hlen
  simp only [v_i] at h
  split at h
  · rename_i v hv
    obtain ⟨rfl, rfl, rfl, rfl⟩ := v_inj h
    exact lv_iload hx hb hd (v_get_at hl hv) (hk ρ ws H locs ls ⟨hR, hl, hlc, v_cs trivial hst, hva⟩ (fun _ _ => rfl))
  · cases h
theorem v_s_iload_n (k : Fin 4) : v_SP (.iload_n k) := by
  intro p l e R s mid args below meth c Q G oi m len x pc lv st V pc2 lv2 st2 V2 ρ ws H locs ls c0 s0 hC hd ho hS h hc0 hs0 hrc hrs hk
  obtain ⟨hx, hb, hml, hown, hts, hWd, hin, hfr, hlo, hB, hX, hXl, hXB⟩ := id hC
  obtain ⟨hR, hl, hlc, hst, hva⟩ := id hS
  have hlen : len = 1 := by simpa [v_okI] using ho
  subst hlen
  simp only [v_i] at h
  split at h
  · rename_i v hv
    obtain ⟨rfl, rfl, rfl, rfl⟩ := v_inj h
    exact lv_iload_n hx hb hd rfl (v_get_at hl hv) (hk ρ ws H locs ls ⟨hR, hl, hlc, v_cs trivial hst, hva⟩ (fun _ _ => rfl))
  · cases h
theorem v_s_lload (k : Nat) : v_SP (.lload k) := by
  intro p l e R s mid args below meth c Q G oi m len x pc lv st V pc2 lv2 st2 V2 ρ ws H locs ls c0 s0 hC hd ho hS h hc0 hs0 hrc hrs hk
  obtain ⟨hx, hb, hml, hown, hts, hWd, hin, hfr, hlo, hB, hX, hXl, hXB⟩ := id hC
  obtain ⟨hR, hl, hlc, hst, hva⟩ := id hS
  have hlen : len = 2 := by simpa [v_okI] using ho
  subst hlen
  simp only [v_i] at h
  split at h
  · rename_i v hv
    obtain ⟨rfl, rfl, rfl, rfl⟩ := v_inj h
    exact lv_lload hx hb hd (v_get_at hl hv) (hk ρ ws H locs ls ⟨hR, hl, hlc, v_cs trivial hst, hva⟩ (fun _ _ => rfl))
  · cases h
theorem v_s_lload_n (k : Fin 4) : v_SP (.lload_n k) := by
  intro p l e R s mid args below meth c Q G oi m len x pc lv st V pc2 lv2 st2 V2 ρ ws H locs ls c0 s0 hC hd ho hS h hc0 hs0 hrc hrs hk
  obtain ⟨hx, hb, hml, hown, hts, hWd, hin, hfr, hlo, hB, hX, hXl, hXB⟩ := id hC
  obtain ⟨hR, hl, hlc, hst, hva⟩ := id hS
  have hlen : len = 1 := by simpa [v_okI] using ho
  subst hlen
  simp only [v_i] at h
  split at h
  · rename_i v hv
    obtain ⟨rfl, rfl, rfl, rfl⟩ := v_inj h
    exact lv_lload_n hx hb hd rfl (v_get_at hl hv) (hk ρ ws H locs ls ⟨hR, hl, hlc, v_cs trivial hst, hva⟩ (fun _ _ => rfl))
  · cases h
theorem v_s_aload (k : Nat) : v_SP (.aload k) := by
  intro p l e R s mid args below meth c Q G oi m len x pc lv st V pc2 lv2 st2 V2 ρ ws H locs ls c0 s0 hC hd ho hS h hc0 hs0 hrc hrs hk
  obtain ⟨hx, hb, hml, hown, hts, hWd, hin, hfr, hlo, hB, hX, hXl, hXB⟩ := id hC
  obtain ⟨hR, hl, hlc, hst, hva⟩ := id hS
  have hlen : len = 2 := by simpa [v_okI] using ho
  subst hlen
  simp only [v_i] at h
  split at h
  · rename_i v hv
    obtain ⟨rfl, rfl, rfl, rfl⟩ := v_inj h
    have hcv : v_clo G V (.inr (.inr v)) := hlc _ (v_get_mem hv)
    have hk9 := hk ρ ws H locs ls ⟨hR, hl, hlc, v_cs hcv hst, hva⟩ (fun _ _ => rfl)
    have h9 := v_get_at hl hv
    by_cases h0 : v.1 = 0
    · have e : v_enc ρ (.inr (.inr v)) = .null := if_pos h0
      rw [e] at h9
      rw [List.map_cons, e] at hk9
      exact lv_aloadN hx hb hd h9 hk9
    · have e : v_enc ρ (.inr (.inr v)) = .ref (ρ v) := if_neg h0
      rw [e] at h9
      rw [List.map_cons, e] at hk9
      exact lv_aload hx hb hd h9 hk9
  · cases h
theorem v_s_aload_n (k : Fin 4) : v_SP (.aload_n k) := by
  intro p l e R s mid args below meth c Q G oi m len x pc lv st V pc2 lv2 st2 V2 ρ ws H locs ls c0 s0 hC hd ho hS h hc0 hs0 hrc hrs hk
  obtain ⟨hx, hb, hml, hown, hts, hWd, hin, hfr, hlo, hB, hX, hXl, hXB⟩ := id hC
  obtain ⟨hR, hl, hlc, hst, hva⟩ := id hS
  have hlen : len = 1 := by simpa [v_okI] using ho
  subst hlen
  simp only [v_i] at h
  split at h
  · rename_i v hv
    obtain ⟨rfl, rfl, rfl, rfl⟩ := v_inj h
    have hcv : v_clo G V (.inr (.inr v)) := hlc _ (v_get_mem hv)
    have hk9 := hk ρ ws H locs ls ⟨hR, hl, hlc, v_cs hcv hst, hva⟩ (fun _ _ => rfl)
    have h9 := v_get_at hl hv
    by_cases h0 : v.1 = 0
    · have e : v_enc ρ (.inr (.inr v)) = .null := if_pos h0
      rw [e] at h9
      rw [List.map_cons, e] at hk9
      exact lv_aload_nN hx hb hd rfl h9 hk9
    · have e : v_enc ρ (.inr (.inr v)) = .ref (ρ v) := if_neg h0
      rw [e] at h9
      rw [List.map_cons, e] at hk9
      exact lv_aload_n hx hb hd rfl h9 hk9
  · cases h
theorem v_s_istore (k : Nat) : v_SP (.istore k) := by
  intro p l e R s mid args below meth c Q G oi m len x pc lv st V pc2 lv2 st2 V2 ρ ws H locs ls c0 s0 hC hd ho hS h hc0 hs0 hrc hrs hk
  obtain ⟨hx, hb, hml, hown, hts, hWd, hin, hfr, hlo, hB, hX, hXl, hXB⟩ := id hC
  obtain ⟨hR, hl, hlc, hst, hva⟩ := id hS
  have hlen : len = 2 ∧ (k < m.2.2.2.1) := by simpa [v_okI] using ho
  obtain ⟨rfl, hn⟩ := hlen
  simp only [v_i] at h
  split at h
  · rename_i v r
    obtain ⟨rfl, rfl, rfl, rfl⟩ := v_inj h
    refine lv_istore hx hb hd hl hn (v_put1_map ρ lv k (.inl v)) (fun ls2 hl2 => hk ρ ws H locs ls2 ⟨hR, hl2, v_put1_clo hlc trivial, v_t1 hst, hva⟩ (fun _ _ => rfl))
  · cases h
theorem v_s_istore_n (k : Fin 4) : v_SP (.istore_n k) := by
  intro p l e R s mid args below meth c Q G oi m len x pc lv st V pc2 lv2 st2 V2 ρ ws H locs ls c0 s0 hC hd ho hS h hc0 hs0 hrc hrs hk
  obtain ⟨hx, hb, hml, hown, hts, hWd, hin, hfr, hlo, hB, hX, hXl, hXB⟩ := id hC
  obtain ⟨hR, hl, hlc, hst, hva⟩ := id hS
  have hlen : len = 1 ∧ (k.val < m.2.2.2.1) := by simpa [v_okI] using ho
  obtain ⟨rfl, hn⟩ := hlen
  simp only [v_i] at h
  split at h
  · rename_i v r
    obtain ⟨rfl, rfl, rfl, rfl⟩ := v_inj h
    refine lv_istore_n hx hb hd rfl hl hn (v_put1_map ρ lv k (.inl v)) (fun ls2 hl2 => hk ρ ws H locs ls2 ⟨hR, hl2, v_put1_clo hlc trivial, v_t1 hst, hva⟩ (fun _ _ => rfl))
  · cases h
theorem v_s_lstore (k : Nat) : v_SP (.lstore k) := by
  intro p l e R s mid args below meth c Q G oi m len x pc lv st V pc2 lv2 st2 V2 ρ ws H locs ls c0 s0 hC hd ho hS h hc0 hs0 hrc hrs hk
  obtain ⟨hx, hb, hml, hown, hts, hWd, hin, hfr, hlo, hB, hX, hXl, hXB⟩ := id hC
  obtain ⟨hR, hl, hlc, hst, hva⟩ := id hS
  have hlen : len = 2 ∧ (k + 1 < m.2.2.2.1) := by simpa [v_okI] using ho
  obtain ⟨rfl, hn⟩ := hlen
  simp only [v_i] at h
  split at h
  · rename_i v r
    obtain ⟨rfl, rfl, rfl, rfl⟩ := v_inj h
    refine lv_lstore hx hb hd hl hn (v_put2_map ρ lv k (.inr (.inl v))) (fun ls2 hl2 => hk ρ ws H locs ls2 ⟨hR, hl2, v_put2_clo hlc trivial, v_t1 hst, hva⟩ (fun _ _ => rfl))
  · cases h
theorem v_s_lstore_n (k : Fin 4) : v_SP (.lstore_n k) := by
  intro p l e R s mid args below meth c Q G oi m len x pc lv st V pc2 lv2 st2 V2 ρ ws H locs ls c0 s0 hC hd ho hS h hc0 hs0 hrc hrs hk
  obtain ⟨hx, hb, hml, hown, hts, hWd, hin, hfr, hlo, hB, hX, hXl, hXB⟩ := id hC
  obtain ⟨hR, hl, hlc, hst, hva⟩ := id hS
  have hlen : len = 1 ∧ (k.val + 1 < m.2.2.2.1) := by simpa [v_okI] using ho
  obtain ⟨rfl, hn⟩ := hlen
  simp only [v_i] at h
  split at h
  · rename_i v r
    obtain ⟨rfl, rfl, rfl, rfl⟩ := v_inj h
    refine lv_lstore_n hx hb hd rfl hl hn (v_put2_map ρ lv k (.inr (.inl v))) (fun ls2 hl2 => hk ρ ws H locs ls2 ⟨hR, hl2, v_put2_clo hlc trivial, v_t1 hst, hva⟩ (fun _ _ => rfl))
  · cases h
theorem v_s_astore (k : Nat) : v_SP (.astore k) := by
  intro p l e R s mid args below meth c Q G oi m len x pc lv st V pc2 lv2 st2 V2 ρ ws H locs ls c0 s0 hC hd ho hS h hc0 hs0 hrc hrs hk
  obtain ⟨hx, hb, hml, hown, hts, hWd, hin, hfr, hlo, hB, hX, hXl, hXB⟩ := id hC
  obtain ⟨hR, hl, hlc, hst, hva⟩ := id hS
  have hlen : len = 2 ∧ (k < m.2.2.2.1) := by simpa [v_okI] using ho
  obtain ⟨rfl, hn⟩ := hlen
  simp only [v_i] at h
  split at h
  · rename_i v r
    obtain ⟨rfl, rfl, rfl, rfl⟩ := v_inj h
    have hcv : v_clo G V (.inr (.inr v)) := hst _ List.mem_cons_self
    have h9 := v_put1_map ρ lv k (.inr (.inr v))
    rw [List.map_cons]
    by_cases h0 : v.1 = 0
    · have e : v_enc ρ (.inr (.inr v)) = .null := if_pos h0
      rw [e] at h9 ⊢
      exact lv_astoreN hx hb hd hl hn h9 (fun ls2 hl2 => hk ρ ws H locs ls2 ⟨hR, hl2, v_put1_clo hlc hcv, v_t1 hst, hva⟩ (fun _ _ => rfl))
    · have e : v_enc ρ (.inr (.inr v)) = .ref (ρ v) := if_neg h0
      rw [e] at h9 ⊢
      exact lv_astore hx hb hd hl hn h9 (fun ls2 hl2 => hk ρ ws H locs ls2 ⟨hR, hl2, v_put1_clo hlc hcv, v_t1 hst, hva⟩ (fun _ _ => rfl))
  · cases h
theorem v_s_astore_n (k : Fin 4) : v_SP (.astore_n k) := by
  intro p l e R s mid args below meth c Q G oi m len x pc lv st V pc2 lv2 st2 V2 ρ ws H locs ls c0 s0 hC hd ho hS h hc0 hs0 hrc hrs hk
  obtain ⟨hx, hb, hml, hown, hts, hWd, hin, hfr, hlo, hB, hX, hXl, hXB⟩ := id hC
  obtain ⟨hR, hl, hlc, hst, hva⟩ := id hS
  have hlen : len = 1 ∧ (k.val < m.2.2.2.1) := by simpa [v_okI] using ho
  obtain ⟨rfl, hn⟩ := hlen
  simp only [v_i] at h
  split at h
  · rename_i v r
    obtain ⟨rfl, rfl, rfl, rfl⟩ := v_inj h
    have hcv : v_clo G V (.inr (.inr v)) := hst _ List.mem_cons_self
    have h9 := v_put1_map ρ lv k (.inr (.inr v))
    rw [List.map_cons]
    by_cases h0 : v.1 = 0
    · have e : v_enc ρ (.inr (.inr v)) = .null := if_pos h0
      rw [e] at h9 ⊢
      exact lv_astore_nN hx hb hd rfl hl hn h9 (fun ls2 hl2 => hk ρ ws H locs ls2 ⟨hR, hl2, v_put1_clo hlc hcv, v_t1 hst, hva⟩ (fun _ _ => rfl))
    · have e : v_enc ρ (.inr (.inr v)) = .ref (ρ v) := if_neg h0
      rw [e] at h9 ⊢
      exact lv_astore_n hx hb hd rfl hl hn h9 (fun ls2 hl2 => hk ρ ws H locs ls2 ⟨hR, hl2, v_put1_clo hlc hcv, v_t1 hst, hva⟩ (fun _ _ => rfl))
  · cases h
theorem v_s_iinc (k : Nat) (n : Int) : v_SP (.iinc k n) := by
  intro p l e R s mid args below meth c Q G oi m len x pc lv st V pc2 lv2 st2 V2 ρ ws H locs ls c0 s0 hC hd ho hS h hc0 hs0 hrc hrs hk
  obtain ⟨hx, hb, hml, hown, hts, hWd, hin, hfr, hlo, hB, hX, hXl, hXB⟩ := id hC
  obtain ⟨hR, hl, hlc, hst, hva⟩ := id hS
  have hlen : len = 3 ∧ (k < m.2.2.2.1) := by simpa [v_okI] using ho
  obtain ⟨rfl, hn⟩ := hlen
  simp only [v_i] at h
  split at h
  · rename_i v hv
    obtain ⟨rfl, rfl, rfl, rfl⟩ := v_inj h
    obtain ⟨j, hj⟩ := List.mem_iff_getElem?.mp (List.mem_map.mpr ⟨(k, .inl v), v_get_mem hv, rfl⟩ : (k, v_enc ρ (.inl v)) ∈ lv.map (fun q => (q.1, v_enc ρ q.2)))
    exact lv_iinc hx hb hd hl hj rfl hn (v_put1_map ρ lv k (.inl (v + Int32.ofInt n))) (fun ls2 hl2 => hk ρ ws H locs ls2 ⟨hR, hl2, v_put1_clo hlc trivial, hst, hva⟩ (fun _ _ => rfl))
  · cases h
theorem v_s_iadd : v_SP (.iadd) := by
  intro p l e R s mid args below meth c Q G oi m len x pc lv st V pc2 lv2 st2 V2 ρ ws H locs ls c0 s0 hC hd ho hS h hc0 hs0 hrc hrs hk
  obtain ⟨hx, hb, hml, hown, hts, hWd, hin, hfr, hlo, hB, hX, hXl, hXB⟩ := id hC
  obtain ⟨hR, hl, hlc, hst, hva⟩ := id hS
  have hlen : len = 1 := by simpa [v_okI] using ho
  subst hlen
  simp only [v_i] at h
  split at h
  · obtain ⟨rfl, rfl, rfl, rfl⟩ := v_inj h
    exact lv_iadd hx hb hd (hk ρ ws H locs ls ⟨hR, hl, hlc, v_cs trivial (v_t2 hst), hva⟩ (fun _ _ => rfl))
  · cases h
theorem v_s_isub : v_SP (.isub) := by
  intro p l e R s mid args below meth c Q G oi m len x pc lv st V pc2 lv2 st2 V2 ρ ws H locs ls c0 s0 hC hd ho hS h hc0 hs0 hrc hrs hk
  obtain ⟨hx, hb, hml, hown, hts, hWd, hin, hfr, hlo, hB, hX, hXl, hXB⟩ := id hC
  obtain ⟨hR, hl, hlc, hst, hva⟩ := id hS
  have hlen : len = 1 := by simpa [v_okI] using ho
  subst hlen
  simp only [v_i] at h
  split at h
  · obtain ⟨rfl, rfl, rfl, rfl⟩ := v_inj h
    exact lv_isub hx hb hd (hk ρ ws H locs ls ⟨hR, hl, hlc, v_cs trivial (v_t2 hst), hva⟩ (fun _ _ => rfl))
  · cases h
theorem v_s_imul : v_SP (.imul) := by
  intro p l e R s mid args below meth c Q G oi m len x pc lv st V pc2 lv2 st2 V2 ρ ws H locs ls c0 s0 hC hd ho hS h hc0 hs0 hrc hrs hk
  obtain ⟨hx, hb, hml, hown, hts, hWd, hin, hfr, hlo, hB, hX, hXl, hXB⟩ := id hC
  obtain ⟨hR, hl, hlc, hst, hva⟩ := id hS
  have hlen : len = 1 := by simpa [v_okI] using ho
  subst hlen
  simp only [v_i] at h
  split at h
  · obtain ⟨rfl, rfl, rfl, rfl⟩ := v_inj h
    exact lv_imul hx hb hd (hk ρ ws H locs ls ⟨hR, hl, hlc, v_cs trivial (v_t2 hst), hva⟩ (fun _ _ => rfl))
  · cases h
theorem v_s_iand : v_SP (.iand) := by
  intro p l e R s mid args below meth c Q G oi m len x pc lv st V pc2 lv2 st2 V2 ρ ws H locs ls c0 s0 hC hd ho hS h hc0 hs0 hrc hrs hk
  obtain ⟨hx, hb, hml, hown, hts, hWd, hin, hfr, hlo, hB, hX, hXl, hXB⟩ := id hC
  obtain ⟨hR, hl, hlc, hst, hva⟩ := id hS
  have hlen : len = 1 := by simpa [v_okI] using ho
  subst hlen
  simp only [v_i] at h
  split at h
  · obtain ⟨rfl, rfl, rfl, rfl⟩ := v_inj h
    exact lv_iand hx hb hd (hk ρ ws H locs ls ⟨hR, hl, hlc, v_cs trivial (v_t2 hst), hva⟩ (fun _ _ => rfl))
  · cases h
theorem v_s_ior : v_SP (.ior) := by
  intro p l e R s mid args below meth c Q G oi m len x pc lv st V pc2 lv2 st2 V2 ρ ws H locs ls c0 s0 hC hd ho hS h hc0 hs0 hrc hrs hk
  obtain ⟨hx, hb, hml, hown, hts, hWd, hin, hfr, hlo, hB, hX, hXl, hXB⟩ := id hC
  obtain ⟨hR, hl, hlc, hst, hva⟩ := id hS
  have hlen : len = 1 := by simpa [v_okI] using ho
  subst hlen
  simp only [v_i] at h
  split at h
  · obtain ⟨rfl, rfl, rfl, rfl⟩ := v_inj h
    exact lv_ior hx hb hd (hk ρ ws H locs ls ⟨hR, hl, hlc, v_cs trivial (v_t2 hst), hva⟩ (fun _ _ => rfl))
  · cases h
theorem v_s_ishl : v_SP (.ishl) := by
  intro p l e R s mid args below meth c Q G oi m len x pc lv st V pc2 lv2 st2 V2 ρ ws H locs ls c0 s0 hC hd ho hS h hc0 hs0 hrc hrs hk
  obtain ⟨hx, hb, hml, hown, hts, hWd, hin, hfr, hlo, hB, hX, hXl, hXB⟩ := id hC
  obtain ⟨hR, hl, hlc, hst, hva⟩ := id hS
  have hlen : len = 1 := by simpa [v_okI] using ho
  subst hlen
  simp only [v_i] at h
  split at h
  · obtain ⟨rfl, rfl, rfl, rfl⟩ := v_inj h
    exact lv_ishl hx hb hd (hk ρ ws H locs ls ⟨hR, hl, hlc, v_cs trivial (v_t2 hst), hva⟩ (fun _ _ => rfl))
  · cases h
theorem v_s_ishr : v_SP (.ishr) := by
  intro p l e R s mid args below meth c Q G oi m len x pc lv st V pc2 lv2 st2 V2 ρ ws H locs ls c0 s0 hC hd ho hS h hc0 hs0 hrc hrs hk
  obtain ⟨hx, hb, hml, hown, hts, hWd, hin, hfr, hlo, hB, hX, hXl, hXB⟩ := id hC
  obtain ⟨hR, hl, hlc, hst, hva⟩ := id hS
  have hlen : len = 1 := by simpa [v_okI] using ho
  subst hlen
  simp only [v_i] at h
  split at h
  · obtain ⟨rfl, rfl, rfl, rfl⟩ := v_inj h
    exact lv_ishr hx hb hd (hk ρ ws H locs ls ⟨hR, hl, hlc, v_cs trivial (v_t2 hst), hva⟩ (fun _ _ => rfl))
  · cases h
theorem v_s_ladd : v_SP (.ladd) := by
  intro p l e R s mid args below meth c Q G oi m len x pc lv st V pc2 lv2 st2 V2 ρ ws H locs ls c0 s0 hC hd ho hS h hc0 hs0 hrc hrs hk
  obtain ⟨hx, hb, hml, hown, hts, hWd, hin, hfr, hlo, hB, hX, hXl, hXB⟩ := id hC
  obtain ⟨hR, hl, hlc, hst, hva⟩ := id hS
  have hlen : len = 1 := by simpa [v_okI] using ho
  subst hlen
  simp only [v_i] at h
  split at h
  · obtain ⟨rfl, rfl, rfl, rfl⟩ := v_inj h
    exact lv_ladd hx hb hd (hk ρ ws H locs ls ⟨hR, hl, hlc, v_cs trivial (v_t2 hst), hva⟩ (fun _ _ => rfl))
  · cases h
theorem v_s_lsub : v_SP (.lsub) := by
  intro p l e R s mid args below meth c Q G oi m len x pc lv st V pc2 lv2 st2 V2 ρ ws H locs ls c0 s0 hC hd ho hS h hc0 hs0 hrc hrs hk
  obtain ⟨hx, hb, hml, hown, hts, hWd, hin, hfr, hlo, hB, hX, hXl, hXB⟩ := id hC
  obtain ⟨hR, hl, hlc, hst, hva⟩ := id hS
  have hlen : len = 1 := by simpa [v_okI] using ho
  subst hlen
  simp only [v_i] at h
  split at h
  · obtain ⟨rfl, rfl, rfl, rfl⟩ := v_inj h
    exact lv_lsub hx hb hd (hk ρ ws H locs ls ⟨hR, hl, hlc, v_cs trivial (v_t2 hst), hva⟩ (fun _ _ => rfl))
  · cases h
theorem v_s_lmul : v_SP (.lmul) := by
  intro p l e R s mid args below meth c Q G oi m len x pc lv st V pc2 lv2 st2 V2 ρ ws H locs ls c0 s0 hC hd ho hS h hc0 hs0 hrc hrs hk
  obtain ⟨hx, hb, hml, hown, hts, hWd, hin, hfr, hlo, hB, hX, hXl, hXB⟩ := id hC
  obtain ⟨hR, hl, hlc, hst, hva⟩ := id hS
  have hlen : len = 1 := by simpa [v_okI] using ho
  subst hlen
  simp only [v_i] at h
  split at h
  · obtain ⟨rfl, rfl, rfl, rfl⟩ := v_inj h
    exact lv_lmul hx hb hd (hk ρ ws H locs ls ⟨hR, hl, hlc, v_cs trivial (v_t2 hst), hva⟩ (fun _ _ => rfl))
  · cases h
theorem v_s_lcmp : v_SP (.lcmp) := by
  intro p l e R s mid args below meth c Q G oi m len x pc lv st V pc2 lv2 st2 V2 ρ ws H locs ls c0 s0 hC hd ho hS h hc0 hs0 hrc hrs hk
  obtain ⟨hx, hb, hml, hown, hts, hWd, hin, hfr, hlo, hB, hX, hXl, hXB⟩ := id hC
  obtain ⟨hR, hl, hlc, hst, hva⟩ := id hS
  have hlen : len = 1 := by simpa [v_okI] using ho
  subst hlen
  simp only [v_i] at h
  split at h
  · obtain ⟨rfl, rfl, rfl, rfl⟩ := v_inj h
    exact W.lcmp hx hb hd (hk ρ ws H locs ls ⟨hR, hl, hlc, v_cs trivial (v_t2 hst), hva⟩ (fun _ _ => rfl))
  · cases h
theorem v_s_ineg : v_SP (.ineg) := by
  intro p l e R s mid args below meth c Q G oi m len x pc lv st V pc2 lv2 st2 V2 ρ ws H locs ls c0 s0 hC hd ho hS h hc0 hs0 hrc hrs hk
  obtain ⟨hx, hb, hml, hown, hts, hWd, hin, hfr, hlo, hB, hX, hXl, hXB⟩ := id hC
  obtain ⟨hR, hl, hlc, hst, hva⟩ := id hS
  have hlen : len = 1 := by simpa [v_okI] using ho
  subst hlen
  simp only [v_i] at h
  split at h
  · obtain ⟨rfl, rfl, rfl, rfl⟩ := v_inj h
    exact lv_ineg hx hb hd (hk ρ ws H locs ls ⟨hR, hl, hlc, v_cs trivial (v_t1 hst), hva⟩ (fun _ _ => rfl))
  · cases h
theorem v_s_i2l : v_SP (.i2l) := by
  intro p l e R s mid args below meth c Q G oi m len x pc lv st V pc2 lv2 st2 V2 ρ ws H locs ls c0 s0 hC hd ho hS h hc0 hs0 hrc hrs hk
  obtain ⟨hx, hb, hml, hown, hts, hWd, hin, hfr, hlo, hB, hX, hXl, hXB⟩ := id hC
  obtain ⟨hR, hl, hlc, hst, hva⟩ := id hS
  have hlen : len = 1 := by simpa [v_okI] using ho
  subst hlen
  simp only [v_i] at h
  split at h
  · obtain ⟨rfl, rfl, rfl, rfl⟩ := v_inj h
    exact lv_i2l hx hb hd rfl (hk ρ ws H locs ls ⟨hR, hl, hlc, v_cs trivial (v_t1 hst), hva⟩ (fun _ _ => rfl))
  · cases h
theorem v_s_l2i : v_SP (.l2i) := by
  intro p l e R s mid args below meth c Q G oi m len x pc lv st V pc2 lv2 st2 V2 ρ ws H locs ls c0 s0 hC hd ho hS h hc0 hs0 hrc hrs hk
  obtain ⟨hx, hb, hml, hown, hts, hWd, hin, hfr, hlo, hB, hX, hXl, hXB⟩ := id hC
  obtain ⟨hR, hl, hlc, hst, hva⟩ := id hS
  have hlen : len = 1 := by simpa [v_okI] using ho
  subst hlen
  simp only [v_i] at h
  split at h
  · obtain ⟨rfl, rfl, rfl, rfl⟩ := v_inj h
    exact lv_l2i hx hb hd rfl (hk ρ ws H locs ls ⟨hR, hl, hlc, v_cs trivial (v_t1 hst), hva⟩ (fun _ _ => rfl))
  · cases h
theorem v_s_idiv : v_SP (.idiv) := by
  intro p l e R s mid args below meth c Q G oi m len x pc lv st V pc2 lv2 st2 V2 ρ ws H locs ls c0 s0 hC hd ho hS h hc0 hs0 hrc hrs hk
  obtain ⟨hx, hb, hml, hown, hts, hWd, hin, hfr, hlo, hB, hX, hXl, hXB⟩ := id hC
  obtain ⟨hR, hl, hlc, hst, hva⟩ := id hS
  have hlen : len = 1 := by simpa [v_okI] using ho
  subst hlen
  simp only [v_i] at h
  split at h
  · obtain ⟨hne, h⟩ := v_okd h
    obtain ⟨rfl, rfl, rfl, rfl⟩ := v_inj h
    exact lv_idiv hx hb hd (of_decide_eq_true hne) (hk ρ ws H locs ls ⟨hR, hl, hlc, v_cs trivial (v_t2 hst), hva⟩ (fun _ _ => rfl))
  · cases h
theorem v_s_irem : v_SP (.irem) := by
  intro p l e R s mid args below meth c Q G oi m len x pc lv st V pc2 lv2 st2 V2 ρ ws H locs ls c0 s0 hC hd ho hS h hc0 hs0 hrc hrs hk
  obtain ⟨hx, hb, hml, hown, hts, hWd, hin, hfr, hlo, hB, hX, hXl, hXB⟩ := id hC
  obtain ⟨hR, hl, hlc, hst, hva⟩ := id hS
  have hlen : len = 1 := by simpa [v_okI] using ho
  subst hlen
  simp only [v_i] at h
  split at h
  · obtain ⟨hne, h⟩ := v_okd h
    obtain ⟨rfl, rfl, rfl, rfl⟩ := v_inj h
    exact lv_irem hx hb hd (of_decide_eq_true hne) (hk ρ ws H locs ls ⟨hR, hl, hlc, v_cs trivial (v_t2 hst), hva⟩ (fun _ _ => rfl))
  · cases h
theorem v_s_ldiv : v_SP (.ldiv) := by
  intro p l e R s mid args below meth c Q G oi m len x pc lv st V pc2 lv2 st2 V2 ρ ws H locs ls c0 s0 hC hd ho hS h hc0 hs0 hrc hrs hk
  obtain ⟨hx, hb, hml, hown, hts, hWd, hin, hfr, hlo, hB, hX, hXl, hXB⟩ := id hC
  obtain ⟨hR, hl, hlc, hst, hva⟩ := id hS
  have hlen : len = 1 := by simpa [v_okI] using ho
  subst hlen
  simp only [v_i] at h
  split at h
  · obtain ⟨hne, h⟩ := v_okd h
    obtain ⟨rfl, rfl, rfl, rfl⟩ := v_inj h
    exact lv_ldiv hx hb hd (of_decide_eq_true hne) (hk ρ ws H locs ls ⟨hR, hl, hlc, v_cs trivial (v_t2 hst), hva⟩ (fun _ _ => rfl))
  · cases h
theorem v_s_dup : v_SP (.dup) := by
  intro p l e R s mid args below meth c Q G oi m len x pc lv st V pc2 lv2 st2 V2 ρ ws H locs ls c0 s0 hC hd ho hS h hc0 hs0 hrc hrs hk
  obtain ⟨hx, hb, hml, hown, hts, hWd, hin, hfr, hlo, hB, hX, hXl, hXB⟩ := id hC
  obtain ⟨hR, hl, hlc, hst, hva⟩ := id hS
  have hlen : len = 1 := by simpa [v_okI] using ho
  subst hlen
  simp only [v_i] at h
  split at h
  · obtain ⟨rfl, rfl, rfl, rfl⟩ := v_inj h
    exact lv_dup hx hb hd rfl (hk ρ ws H locs ls ⟨hR, hl, hlc, v_cs trivial hst, hva⟩ (fun _ _ => rfl))
  · obtain ⟨rfl, rfl, rfl, rfl⟩ := v_inj h
    exact lv_dup hx hb hd (v_enc_cat _ _) (hk ρ ws H locs ls ⟨hR, hl, hlc, v_cs (hst _ List.mem_cons_self) hst, hva⟩ (fun _ _ => rfl))
  · cases h
theorem v_s_dup2 : v_SP (.dup2) := by
  intro p l e R s mid args below meth c Q G oi m len x pc lv st V pc2 lv2 st2 V2 ρ ws H locs ls c0 s0 hC hd ho hS h hc0 hs0 hrc hrs hk
  obtain ⟨hx, hb, hml, hown, hts, hWd, hin, hfr, hlo, hB, hX, hXl, hXB⟩ := id hC
  obtain ⟨hR, hl, hlc, hst, hva⟩ := id hS
  have hlen : len = 1 := by simpa [v_okI] using ho
  subst hlen
  simp only [v_i] at h
  split at h
  · obtain ⟨rfl, rfl, rfl, rfl⟩ := v_inj h
    exact lv_dup2_11 hx hb hd rfl (v_enc_cat _ _) (hk ρ ws H locs ls ⟨hR, hl, hlc, v_cs trivial (v_cs (v_t1 hst _ List.mem_cons_self) hst), hva⟩ (fun _ _ => rfl))
  · cases h
theorem v_s_if_icmp (cd : Jvm.ClassFile.Cond) (off : Int) : v_SP (.if_icmp cd off) := by
  intro p l e R s mid args below meth c Q G oi m len x pc lv st V pc2 lv2 st2 V2 ρ ws H locs ls c0 s0 hC hd ho hS h hc0 hs0 hrc hrs hk
  obtain ⟨hx, hb, hml, hown, hts, hWd, hin, hfr, hlo, hB, hX, hXl, hXB⟩ := id hC
  obtain ⟨hR, hl, hlc, hst, hva⟩ := id hS
  have hlen : len = 3 ∧ ((pc : Int) + off = (x.1 : Int)) := by simpa [v_okI] using ho
  obtain ⟨rfl, ht⟩ := hlen
  simp only [v_i] at h
  split at h
  · rename_i bb aa r
    obtain ⟨rfl, rfl, rfl, rfl⟩ := v_inj h
    have hk9 := hk ρ ws H locs ls ⟨hR, hl, hlc, v_t2 hst, hva⟩ (fun _ _ => rfl)
    have et : ∀ {P : Prop} [Decidable P], P → v_br (decide P) x.1 (pc + 3) = x.1 := fun h => by rw [decide_eq_true h]; rfl
    have ef : ∀ {P : Prop} [Decidable P], ¬ P → v_br (decide P) x.1 (pc + 3) = pc + 3 := fun h => by rw [decide_eq_false h]; rfl
    cases cd with
    | eq => exact lv_icmp_eq hx hb hd ht (fun q => by simpa only [v_cmp, et q] using hk9) (fun q => by simpa only [v_cmp, ef q] using hk9)
    | ne => exact lv_icmp_ne hx hb hd ht (fun q => by simpa only [v_cmp, et q] using hk9) (fun q => by simpa only [v_cmp, ef (not_not_intro q)] using hk9)
    | lt => exact lv_icmp_lt hx hb hd ht (fun q => by simpa only [v_cmp, et q] using hk9) (fun q => by simpa only [v_cmp, ef q] using hk9)
    | ge => exact lv_icmp_ge hx hb hd ht (fun q => by simpa only [v_cmp, et q] using hk9) (fun q => by simpa only [v_cmp, ef q] using hk9)
    | gt => exact lv_icmp_gt hx hb hd ht (fun q => by simpa only [v_cmp, et q] using hk9) (fun q => by simpa only [v_cmp, ef q] using hk9)
    | le => exact lv_icmp_le hx hb hd ht (fun q => by simpa only [v_cmp, et q] using hk9) (fun q => by simpa only [v_cmp, ef q] using hk9)
  · cases h
theorem v_s_ifCond (cd : Jvm.ClassFile.Cond) (off : Int) : v_SP (.ifCond cd off) := by
  intro p l e R s mid args below meth c Q G oi m len x pc lv st V pc2 lv2 st2 V2 ρ ws H locs ls c0 s0 hC hd ho hS h hc0 hs0 hrc hrs hk
  obtain ⟨hx, hb, hml, hown, hts, hWd, hin, hfr, hlo, hB, hX, hXl, hXB⟩ := id hC
  obtain ⟨hR, hl, hlc, hst, hva⟩ := id hS
  have hlen : len = 3 ∧ ((pc : Int) + off = (x.1 : Int)) := by simpa [v_okI] using ho
  obtain ⟨rfl, ht⟩ := hlen
  simp only [v_i] at h
  split at h
  · rename_i aa r
    obtain ⟨rfl, rfl, rfl, rfl⟩ := v_inj h
    have hk9 := hk ρ ws H locs ls ⟨hR, hl, hlc, v_t1 hst, hva⟩ (fun _ _ => rfl)
    have et : ∀ {P : Prop} [Decidable P], P → v_br (decide P) x.1 (pc + 3) = x.1 := fun h => by rw [decide_eq_true h]; rfl
    have ef : ∀ {P : Prop} [Decidable P], ¬ P → v_br (decide P) x.1 (pc + 3) = pc + 3 := fun h => by rw [decide_eq_false h]; rfl
    cases cd with
    | eq => exact lv_if_eq hx hb hd ht (fun q => by simpa only [v_cmp, et q] using hk9) (fun q => by simpa only [v_cmp, ef q] using hk9)
    | ne => exact lv_if_ne hx hb hd ht (fun q => by simpa only [v_cmp, et q] using hk9) (fun q => by simpa only [v_cmp, ef (not_not_intro q)] using hk9)
    | lt => exact lv_if_lt hx hb hd ht (fun q => by simpa only [v_cmp, et q] using hk9) (fun q => by simpa only [v_cmp, ef q] using hk9)
    | ge => exact lv_if_ge hx hb hd ht (fun q => by simpa only [v_cmp, et q] using hk9) (fun q => by simpa only [v_cmp, ef q] using hk9)
    | gt => exact lv_if_gt hx hb hd ht (fun q => by simpa only [v_cmp, et q] using hk9) (fun q => by simpa only [v_cmp, ef q] using hk9)
    | le => exact lv_if_le hx hb hd ht (fun q => by simpa only [v_cmp, et q] using hk9) (fun q => by simpa only [v_cmp, ef q] using hk9)
  · cases h
theorem v_s_goto (off : Int) : v_SP (.goto off) := by
  intro p l e R s mid args below meth c Q G oi m len x pc lv st V pc2 lv2 st2 V2 ρ ws H locs ls c0 s0 hC hd ho hS h hc0 hs0 hrc hrs hk
  obtain ⟨hx, hb, hml, hown, hts, hWd, hin, hfr, hlo, hB, hX, hXl, hXB⟩ := id hC
  obtain ⟨hR, hl, hlc, hst, hva⟩ := id hS
  have hlen : len = 3 ∧ ((pc : Int) + off = (x.1 : Int)) := by simpa [v_okI] using ho
  obtain ⟨rfl, ht⟩ := hlen
  simp only [v_i] at h
  obtain ⟨rfl, rfl, rfl, rfl⟩ := v_inj h
  exact lv_goto hx hb hd ht (hk ρ ws H locs ls ⟨hR, hl, hlc, hst, hva⟩ (fun _ _ => rfl))
theorem v_s_ifnonnull (off : Int) : v_SP (.ifnonnull off) := by
  intro p l e R s mid args below meth c Q G oi m len x pc lv st V pc2 lv2 st2 V2 ρ ws H locs ls c0 s0 hC hd ho hS h hc0 hs0 hrc hrs hk
  obtain ⟨hx, hb, hml, hown, hts, hWd, hin, hfr, hlo, hB, hX, hXl, hXB⟩ := id hC
  obtain ⟨hR, hl, hlc, hst, hva⟩ := id hS
  have hlen : len = 3 ∧ ((pc : Int) + off = (x.1 : Int)) := by simpa [v_okI] using ho
  obtain ⟨rfl, ht⟩ := hlen
  simp only [v_i] at h
  split at h
  · rename_i a r
    obtain ⟨rfl, rfl, rfl, rfl⟩ := v_inj h
    have hk9 := hk ρ ws H locs ls ⟨hR, hl, hlc, v_t1 hst, hva⟩ (fun _ _ => rfl)
    rw [List.map_cons]
    by_cases h0 : a.1 = 0
    · have e : v_enc ρ (.inr (.inr a)) = .null := if_pos h0
      have eb : v_br (!(a.1 == 0)) x.1 (pc + 3) = pc + 3 := by rw [beq_iff_eq.mpr h0]; rfl
      rw [eb] at hk9
      rw [e]
      exact lv_ifnonnullN hx hb hd hk9
    · have e : v_enc ρ (.inr (.inr a)) = .ref (ρ a) := if_neg h0
      have eb : v_br (!(a.1 == 0)) x.1 (pc + 3) = x.1 := by rw [beq_eq_false_iff_ne.mpr h0]; rfl
      rw [eb] at hk9
      rw [e]
      exact lv_ifnonnull hx hb hd ht hk9
  · cases h
