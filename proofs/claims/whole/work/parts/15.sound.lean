/-! ===== soundness: a run of the clean interpreter is a run of the machine ===== -/
theorem v_1_inv {cd : List VE} {s : VS} {o : VO} (h : v_1 cd s = some o) : ∃ (i : Instr) (len : Nat) (x : VX), (s.1, i, len, x) ∈ cd ∧ v_i i len x s.1 s.2.1 s.2.2.1 s.2.2.2 = some o := by
  unfold v_1 at h
  split at h
  · rename_i q hq
    exact ⟨q.1, q.2.1, q.2.2, v_ft_mem hq, h⟩
  · cases h
def v_SN (n : Nat) : Prop := ∀ (mi pc : Nat) (lv : VL) (st : List VV) (V : VH) (r : Option VV) (V' : VH), mi < 287 → v_go n mi (pc, lv, st, V) = some (r, V') → ∀ (p : Program) (l : Launch) (e : Env) (R : Room) (s : State) (mid : MethodId) (args : Array Value) (below : List Frame) (meth : Method) (c : Code) (Q : State → Prop) (G : VC) (ρ : VA → Nat) (ws : va_W) (H : Heap) (locs : List Loc) (ls : Array Slot) (c0 s0 : Nat),
  v_CX G (v_cidx mi) (v_m mi) p R s mid args meth c → v_ST G (v_m mi) s ρ V ws H locs ls lv st → c0 ≤ V.2.2.2.2.1 → s0 ≤ V.2.2.2.2.2 → V'.2.2.2.2.1 - c0 ≤ R.cells → V'.2.2.2.2.2 - s0 ≤ R.slots →
  (∀ (ρ2 : VA → Nat) (ws2 : va_W) (H2 : Heap) (locs2 : List Loc) (ls2 : Array Slot) (lv2 : VL) (st2 : List VV) (V2 : VH) (pc2 : Nat) (i : Instr) (len : Nat) (x : VX), decode (v_m mi).2.2.1 pc2 = .ok (i, len) → v_okI (v_cidx mi) (v_m mi) pc2 i len x = true → v_ST G (v_m mi) s ρ2 V2 ws2 H2 locs2 ls2 lv2 st2 → v_i i len x pc2 lv2 st2 V2 = some (.inr (.inl (r, V'))) → (∀ a, V.2.2.2.1 a = true → ρ2 a = ρ a) → W p l e R s mid args below meth c H2 locs2 (V2.2.2.2.2.1 - c0) (V2.2.2.2.2.2 - s0) Q (F0 mid pc2 ls2 (st2.map (v_enc ρ2)))) →
  W p l e R s mid args below meth c H locs (V.2.2.2.2.1 - c0) (V.2.2.2.2.2 - s0) Q (F0 mid pc ls (st.map (v_enc ρ)))
/-- a callee's contract -/
theorem v_met {n m2 : Nat} (IH : v_SN n) (hm2 : m2 < 287) {as : List VV} {V V1 : VH} {r1 : Option VV} (h1 : v_go n m2 (0, v_args 0 as, [], V) = some (r1, V1)) (hsum : v_sum as ≤ (v_m m2).2.2.2.1) (hpl : plainName (v_m m2).2.1.cls = true) (hown : v_own (v_cidx m2) = (v_m m2).2.1.cls) {G : VC} {ρ : VA → Nat} {ws : va_W} (hbB : G.2.1 < G.2.2.2.2) (hclo : ∀ v ∈ as, v_clo G V v) (l : Launch) :
    Met l (v_m m2).2.1 (v_ws (v_m m2)) (v_rm (v_m m2) (V1.2.2.2.2.1 - V.2.2.2.2.1) (V1.2.2.2.2.2 - V.2.2.2.2.2)) (v_Pc G ρ V ws as) (v_Qc G ρ V V1 r1) (V1.2.2.2.2.1 - V.2.2.2.2.1) (V1.2.2.2.2.2 - V.2.2.2.2.2) (fun q => G.2.2.2.2 ≤ q) := by
  refine Met.ofW (cc := (v_m m2).2.2.1) (maxL := (v_m m2).2.2.2.1) (ret := (v_m m2).2.2.2.2.1) hpl rfl ?_
  intro p e s mid args below meth c s₁ B hml hv
  obtain ⟨rfl, hRl, hWd, hBs, hX, hbs⟩ := hv
  have hl := lv_entry (as.map (v_enc ρ)) (n := (v_m m2).2.2.2.1) (by rw [v_lgsl]; exact hsum)
  rw [lg_entry_eq]
  generalize (lg_sl (as.map (v_enc ρ)) ++ List.replicate ((v_m m2).2.2.2.1 - (lg_sl (as.map (v_enc ρ))).length) Slot.unset).toArray = ls at hl ⊢
  rw [v_args_map] at hl
  have hts := atoms_spec (ws := v_ws (v_m m2)) B.pre
  have hCX : v_CX G (v_cidx m2) (v_m m2) p (headSpec (v_ws (v_m m2)) (v_rm (v_m m2) (V1.2.2.2.2.1 - V.2.2.2.2.1) (V1.2.2.2.2.2 - V.2.2.2.2.2))).room s mid (as.map (v_enc ρ)).toArray meth c := ⟨B.exec, B.bytes, hml, by rw [hown]; exact findClass_of_methodNamed B.named, fun w hw => hts w (List.mem_cons_of_mem _ hw), hWd, fun h => by rw [(name_of_methodNamed B.named B.method).1, h], Nat.le_refl _, Nat.le_refl _, hBs, hX, hbs, hbB⟩
  have key := IH m2 0 (v_args 0 as) [] V r1 V1 hm2 h1 p l e _ s mid _ below meth c (MQ below (v_Qc G ρ V V1 r1) (as.map (v_enc ρ)).toArray s (V1.2.2.2.2.1 - V.2.2.2.2.1) (V1.2.2.2.2.2 - V.2.2.2.2.2) (fun q => G.2.2.2.2 ≤ q)) G ρ ws s.heap [] ls V.2.2.2.2.1 V.2.2.2.2.2 hCX ⟨hRl, hl, v_args_clo hclo, fun _ h => (by cases h), va_S.rf⟩ (Nat.le_refl _) (Nat.le_refl _) (Nat.le_refl _) (Nat.le_refl _) (by
    intro ρ2 ws2 H2 locs2 ls2 lv2 st2 V2 pc2 i len x hd ho hST hi hρ
    have hi2 := v_i_ret hi
    have hV := hi2.1
    subst hV
    refine v_retW (ws := ws2) hCX hd ho hi B.returns B.notSynchronized (fun t ht hW => ⟨ρ2, ws2, rfl, by rw [ht]; exact hST.1.moved hW.alike, hρ, fun v hv => ?_, hST.2.2.2.2.F ht⟩) hST.2.2.2.2.2.2
    have hcl := hST.2.2.2.1
    rcases hi2.2 with ⟨-, w, e1, e2, -⟩ | ⟨-, w, e1, e2⟩ | ⟨-, w, e1, e2, -⟩ | ⟨-, e1, e2⟩
    · rw [e2] at hv; cases hv; exact trivial
    · rw [e2] at hv; cases hv; exact trivial
    · rw [e2] at hv; cases hv; exact hcl _ (by rw [e1]; exact List.mem_cons_self)
    · rw [e2] at hv; cases hv)
  rw [Nat.sub_self, Nat.sub_self] at key
  exact key
theorem v_mlk_ns : ∀ q ∈ v_mlk, (q.2.2.2.1 = 0 ∨ q.2.2.2.1 = 2 ∨ q.2.2.2.1 = 4) → v_stats.elem q.2.2.1 = false := by decide +kernel
theorem v_cl_facts {q : Nat × Nat × Nat × Nat × Nat} (h : q ∈ v_mlk) (hk : q.2.2.2.1 < 5) : (v_m q.2.2.1).2.1.cls ≠ "java/lang/invoke/MethodHandle" ∧ (v_m q.2.2.1).2.1.cls ≠ "java/lang/invoke/VarHandle" ∧ plainName (v_m q.2.2.1).2.1.cls = true ∧ (parseMethodDescriptor (v_m q.2.2.1).2.1.desc).map (fun d => d.parameters.length) = some (q.2.2.2.2 - (if q.2.2.2.1 = 1 ∨ q.2.2.2.1 = 3 then 0 else 1)) ∧ ((q.2.2.2.1 = 2 ∨ q.2.2.2.1 = 4) → (v_m q.2.2.1).2.1.name = "<init>" ∧ (v_m q.2.2.1).2.2.2.2.1 = none) ∧ q.2.2.1 < 287 ∧ ((v_cidx q.2.2.1) < 11 ∧ v_own (v_cidx q.2.2.1) = (v_m q.2.2.1).2.1.cls ∧ vcl[v_cidx q.2.2.1]?.map (fun r => r.1) = some (v_m q.2.2.1).2.1.cls) ∧ Cond.code (v_m q.2.2.1).2.1 (v_m q.2.2.1).2.2.1 (v_m q.2.2.1).2.2.2.1 (v_m q.2.2.1).2.2.2.2.1 ∈ v_tbl := by
  have hcl := v_mlk_cl q h
  unfold v_cl at hcl
  rw [decide_eq_true hk] at hcl
  simp only [Bool.and_eq_true, decide_eq_true_eq] at hcl
  obtain ⟨⟨⟨⟨⟨⟨⟨⟨k1, k2⟩, k3⟩, k4⟩, k5⟩, k6⟩, k7⟩, k8⟩, k9⟩ := hcl
  refine ⟨k1, k2, k3, k4, fun h24 => ?_, k7, k9, ?_⟩
  · have e : (q.2.2.2.1 == 2 || q.2.2.2.1 == 4) = true := by simpa using h24
    rw [e] at k5
    simpa using k5
  · refine v_codes (v_m q.2.2.1) ?_
    show v_mth v_ms q.2.2.1 ∈ v_ms.drop 1
    have k6 : q.2.2.1 ≠ 0 := by simpa using k6
    obtain ⟨j, hj⟩ : ∃ j, q.2.2.1 = j + 1 := ⟨q.2.2.1 - 1, by omega⟩
    rw [hj]
    exact v_mth_mem (ms := v_ms.drop 1) (by rw [List.length_drop, v_ms_len]; omega)
theorem v_sound : ∀ n, v_SN n := by
  intro n
  induction n with
  | zero =>
    intro mi pc lv st V r V' hmi h
    cases h
  | succ n IH =>
    intro mi pc lv st V r V' hmi h p l e R s mid args below meth c Q G ρ ws H locs ls c0 s0 hC hS hc0 hs0 hrc hrs hret
    have hOK := v_okm hmi
    unfold v_go at h
    split at h
    · cases h
    · rename_i t ht
      obtain ⟨i, len, x, hmem, hi⟩ := v_1_inv ht
      obtain ⟨hd, ho⟩ := hOK _ hmem
      obtain ⟨pc2, lv2, st2, V2⟩ := t
      have hle1 : v_le V V2 := v_i_le hi
      have hle2 : v_le V2 V' := v_go_le h
      have hle := hle2.1
      have hle' := hle2.2.1
      refine v_step i p l e R s mid args below meth c Q G (v_cidx mi) (v_m mi) len x pc lv st V pc2 lv2 st2 V2 ρ ws H locs ls c0 s0 hC hd ho hS hi hc0 hs0 (by omega) (by omega) ?_
      intro ρ2 ws2 H2 locs2 ls2 hS2 hρ
      exact IH mi pc2 lv2 st2 V2 r V' hmi h p l e R s mid args below meth c Q G ρ2 ws2 H2 locs2 ls2 c0 s0 hC hS2 (Nat.le_trans hc0 hle1.1) (Nat.le_trans hs0 hle1.2.1) hrc hrs (fun ρ3 ws3 H3 locs3 ls3 lv3 st3 V3 pc3 i3 len3 x3 g1 g2 g3 g4 g5 => hret ρ3 ws3 H3 locs3 ls3 lv3 st3 V3 pc3 i3 len3 x3 g1 g2 g3 g4 (fun a ha => (g5 a (hle1.2.2 a ha)).trans (hρ a ha)))
    · rename_i q ht
      obtain ⟨i, len, x, hmem, hi⟩ := v_1_inv ht
      obtain ⟨hd, ho⟩ := hOK _ hmem
      cases h
      exact hret ρ ws H locs ls lv st V pc i len x hd ho hS hi (fun _ _ => rfl)
    · rename_i m2 as t ht
      obtain ⟨i, len, x, hmem, hi⟩ := v_1_inv ht
      obtain ⟨hd, ho⟩ := hOK _ hmem
      split at h
      · cases h
      · rename_i hrcv
        split at h
        · cases h
        · rename_i r1 V1 h1
          obtain ⟨hwh, rr, htk, rfl, rfl, h8, hkd⟩ := v_i_call hi
          dsimp only at h h1 hd ho htk hi
          obtain ⟨pre, hp1, hp2, hp3⟩ := v_take_eq htk
          rw [List.append_nil] at hp3
          have hpr : pre = as.reverse := by rw [hp3, List.reverse_reverse]
          subst hpr
          subst hp1
          obtain ⟨hx, hb, hml, hown, hts, hWd, hin, hfr, hlo, hB, hX, hXl, hXB⟩ := id hC
          obtain ⟨hR, hl, hlc, hst, hva⟩ := id hS
          have hca : ∀ v ∈ as, v_clo G V v := fun v hv => hst v (List.mem_append_left _ (List.mem_reverse.mpr hv))
          have hcr : ∀ v ∈ rr, v_clo G V v := fun v hv => hst v (List.mem_append_right _ hv)
          have hle1 : v_le V V1 := v_go_le h1
          have hle2 : v_le V1 V' := v_go_le h
          have e1 := hle1.1
          have e2 := hle1.2.1
          have e3 := hle2.1
          have e4 := hle2.2.1
          unfold v_rcv at hrcv
          rw [Bool.and_eq_true, decide_eq_true_eq] at hrcv
          obtain ⟨hsum, hrcv⟩ := hrcv
          have hroom : ((rr.map (v_enc ρ)).map (fun v => v.category)).sum ≤ 8 := by rw [v_sum_cat]; exact h8
          have hcells : V.2.2.2.2.1 - c0 + (V1.2.2.2.2.1 - V.2.2.2.2.1) ≤ R.cells ∧ V.2.2.2.2.2 - s0 + (V1.2.2.2.2.2 - V.2.2.2.2.2) ≤ R.slots := ⟨by omega, by omega⟩
          have hPc : ∀ U : State, U.heap = H → s.WarmedH U.vm → v_Pc G ρ V ws as (as.map (v_enc ρ)).toArray U := fun U hU hW => ⟨rfl, by rw [hU]; exact hR.moved hW.alike, hWd.warm hW, by rw [hU]; exact Nat.le_trans hB hva.1, by rw [hU]; exact (hX.kept (hva.2.1 _ hXl (Nat.not_le.mpr hXB))).moved hW.alike, by rw [hU]; exact Nat.lt_of_lt_of_le hXl hva.1⟩
          have hafter : ∀ (ρ' : VA → Nat) (ws' : va_W) (H1 : Heap) (locs1 : List Loc), v_Rl G ρ' V1 ws' s H1 → (∀ a, V.2.2.2.1 a = true → ρ' a = ρ a) → (∀ v, r1 = some v → v_clo G V1 v) → va_S (fun q => G.2.2.2.2 ≤ q) s.heap H1 locs1 → W p l e R s mid args below meth c H1 locs1 (V.2.2.2.2.1 - c0 + (V1.2.2.2.2.1 - V.2.2.2.2.1)) (V.2.2.2.2.2 - s0 + (V1.2.2.2.2.2 - V.2.2.2.2.2)) Q (F0 mid (pc + 3) ls ((r1.map (v_enc ρ')).toList ++ rr.map (v_enc ρ))) := by
            intro ρ' ws' H1 locs1 hR1 hρ hcv hva1
            have hρs : ρ' (60, G.2.2.1, 0) = ρ (60, G.2.2.1, 0) := by rw [hR1.2.2.2.2.2.2.1, hR.2.2.2.2.2.2.1]
            have hst1 : v_ST G (v_m mi) s ρ' V1 ws' H1 locs1 ls lv (r1.toList ++ rr) := by
              refine ⟨hR1, by rw [v_lv_ext hρ hρs hlc]; exact hl, fun q hq => v_clo_mono hle1.2.2 (hlc q hq), fun v hv => ?_, hva1⟩
              rcases List.mem_append.mp hv with hv | hv
              · exact hcv v (by simpa using hv)
              · exact v_clo_mono hle1.2.2 (hcr v hv)
            have key := IH mi (pc + 3) lv (r1.toList ++ rr) V1 r V' hmi h p l e R s mid args below meth c Q G ρ' ws' H1 locs1 ls c0 s0 hC hst1 (Nat.le_trans hc0 e1) (Nat.le_trans hs0 e2) hrc hrs (fun ρ3 ws3 H3 locs3 ls3 lv3 st3 V3 pc3 i3 len3 x3 g1 g2 g3 g4 g5 => hret ρ3 ws3 H3 locs3 ls3 lv3 st3 V3 pc3 i3 len3 x3 g1 g2 g3 g4 (fun a ha => (g5 a (hle1.2.2 a ha)).trans (hρ a ha)))
            rw [List.map_append, v_map_ext hρ hρs hcr, show r1.toList.map (v_enc ρ') = (r1.map (v_enc ρ')).toList by cases r1 <;> rfl] at key
            exact W.cs (by omega) (by omega) key
          rw [List.map_append, List.map_reverse]
          obtain ⟨idx, hwh⟩ := hwh
          rcases hwh with rfl | rfl | rfl
          · simp only [v_okI, Bool.and_eq_true, decide_eq_true_eq, beq_iff_eq, List.elem_eq_mem] at ho
            obtain ⟨⟨⟨⟨rfl, hlk⟩, hk0⟩, hf1⟩, hf2⟩ := ho
            have hw9 := v_mlk_in _ hlk
            have hns := v_mlk_ns _ hlk (Or.inl rfl)
            simp only [v_mw] at hw9
            dsimp only at hns
            obtain ⟨k1, k2, k3, k4, -, k7, k9, hcode⟩ := v_cl_facts hlk (Nat.zero_lt_succ _)
            dsimp only at k1 k2 k3 k4 k7 k9 hcode
            rw [hns, Bool.false_or] at hrcv
            obtain ⟨a, As, rfl⟩ : ∃ a As, as = .inr (.inr a) :: As := by
              match as, hrcv with
              | .inr (.inr a) :: As, _ => exact ⟨a, As, rfl⟩
            have hka : v_kind a = v_cidx x.1 := by simpa using hrcv
            obtain ⟨hal, hen⟩ := hR.ref (hca _ List.mem_cons_self) (by omega)
            obtain ⟨-, -, kk, cA, hwk, -⟩ := hR.2.2.2.1 a hal
            rw [v_E_obj (by omega)] at hwk
            obtain ⟨C, T, ty0, hcl2, -⟩ := v_cls k9.1
            rw [hka] at hwk
            have hCn : C = (v_m x.1).2.1.cls := by
              have h9 := k9.2.2
              rw [hcl2] at h9
              simpa using h9
            have hrv := va_recv hR.2.2.1 hR.1 hcl2 hwk
            dsimp only at hrv
            rw [hCn] at hrv
            rw [List.map_cons, hen] at hPc
            rw [List.map_cons, hen]
            refine v_callG (va_runV (C := (v_m x.1).2.1.cls) (n := As.length) (b := ρ a) (As := As.map (v_enc ρ)) (rest := rr.map (v_enc ρ)) ⟨hx, hb, hml, hown, hts⟩ (v_met IH k7 h1 hsum k3 k9.2.1 (ws := ws) hXB hca l) (cwV As.length hts ?_ rfl rfl rfl ⟨rfl, k1, k2, ?_⟩ ⟨Nat.le_trans hf1 hfr, Nat.le_trans hf2 hlo⟩) ⟨v_blind G ρ V ws _, hrv, hPc⟩ rfl (by simp) hl.1 ?_ (lv_room hroom) hd hcells) hva hafter
            · intro w hw
              rcases List.mem_append.mp hw with hw | hw
              · have h9 := hw9 w hw
                exact ⟨h9, good_of_word (List.mem_filter.mp h9).2⟩
              · exact v_goodIn hcode w hw
            · rw [k4]
              have h9 : (As.length + 1) = x.2.1 := by simpa using hp2
              rw [if_neg (by decide)]
              congr 1
              omega
            · show (Value.ref (ρ a) :: As.map (v_enc ρ)).reverse ++ rr.map (v_enc ρ) = _
              rw [List.reverse_cons, List.append_assoc]
              rfl
          · simp only [v_okI, Bool.and_eq_true, Bool.or_eq_true, decide_eq_true_eq, beq_iff_eq, List.elem_eq_mem] at ho
            obtain ⟨⟨rfl, hlk⟩, hkd2⟩ := ho
            rcases hkd2 with (⟨⟨⟨h6, -⟩, -⟩, -⟩ | ⟨⟨⟨h789, -⟩, -⟩, -⟩) | ⟨⟨h13, hf1⟩, hf2⟩
            · omega
            · omega
            · have hw9 := v_mlk_in _ hlk
              obtain ⟨k1, k2, k3, k4, -, k7, k9, hcode⟩ := v_cl_facts hlk (by dsimp only; omega)
              have hnl := v_nest_of _ hlk
              dsimp only at k1 k2 k3 k4 k7 k9 hcode hnl
              have hal : as.length = x.2.1 := by rw [List.length_reverse] at hp2; exact hp2
              rw [if_pos h13, Nat.sub_zero, ← hal] at k4
              rcases h13 with h13 | h13
              · simp only [v_mw, h13] at hw9
                refine v_callG (va_runS (n := as.length) (As := as.map (v_enc ρ)) (rest := rr.map (v_enc ρ)) ⟨hx, hb, hml, hown, hts⟩ (v_met IH k7 h1 hsum k3 k9.2.1 (ws := ws) hXB hca l) (va_cwS as.length hts ?_ rfl rfl rfl ⟨k1, k2, k4⟩ ⟨Nat.le_trans hf1 hfr, Nat.le_trans hf2 hlo⟩) ⟨v_blind G ρ V ws _, hPc⟩ rfl (by simp) hl.1 rfl (lv_room hroom) hd hcells) hva hafter
                intro w hw
                rcases List.mem_append.mp hw with hw | hw
                · have h9 := hw9 w hw
                  exact ⟨h9, good_of_word (List.mem_filter.mp h9).2⟩
                · exact v_goodIn hcode w hw
              · simp only [v_mw, h13] at hw9
                exact v_callG (va_runSN (host := "BeeYard") (n := as.length) (As := as.map (v_enc ρ)) (rest := rr.map (v_enc ρ)) ⟨hx, hb, hml, hown, hts⟩ (v_met IH k7 h1 hsum k3 k9.2.1 (ws := ws) hXB hca l) ⟨va_cnB as.length hts (v_goodIn hcode) rfl rfl rfl (hWd.1 _ (hnl (Or.inl h13))) (hts _ (hw9 _ (by simp))) ⟨k1, k2, k4⟩ ⟨Nat.le_trans hf1 hfr, Nat.le_trans hf2 hlo⟩, hts _ (hw9 _ (by simp)), trivial⟩ ⟨v_blind G ρ V ws _, hPc⟩ rfl (by simp) hl.1 rfl (lv_room hroom) hd hcells) hva hafter
          · simp only [v_okI, Bool.and_eq_true, Bool.or_eq_true, decide_eq_true_eq, beq_iff_eq, List.elem_eq_mem] at ho
            obtain ⟨⟨rfl, hlk⟩, hkd2⟩ := ho
            rcases hkd2 with ⟨⟨⟨h5, -⟩, -⟩, -⟩ | ⟨⟨h24, hf1⟩, hf2⟩
            · omega
            · have hw9 := v_mlk_in _ hlk
              obtain ⟨k1, k2, k3, k4, k5, k7, k9, hcode⟩ := v_cl_facts hlk (by dsimp only; omega)
              have hnl := v_nest_of _ hlk
              have hns := v_mlk_ns _ hlk (by dsimp only; omega)
              dsimp only at k1 k2 k3 k4 k5 k7 k9 hcode hnl hns
              obtain ⟨k51, k52⟩ := k5 h24
              rw [hns, Bool.false_or] at hrcv
              obtain ⟨a, As, rfl⟩ : ∃ a As, as = .inr (.inr a) :: As := by
                match as, hrcv with
                | .inr (.inr a) :: As, _ => exact ⟨a, As, rfl⟩
              have hka : v_kind a = v_cidx x.1 := by simpa using hrcv
              obtain ⟨-, hen⟩ := hR.ref (hca _ List.mem_cons_self) (by omega)
              have hwe : v_ws (v_m x.1) = Cond.code (v_m x.1).2.1 (v_m x.1).2.2.1 (v_m x.1).2.2.2.1 none :: v_tbl := by
                unfold v_ws
                rw [k52]
              have hal : As.length + 1 = x.2.1 := by simpa using hp2
              rw [if_neg (by omega), show x.2.1 - 1 = As.length by omega] at k4
              rw [List.map_cons, hen] at hPc
              rw [List.map_cons, hen]
              have hstk : (Value.ref (ρ a) :: As.map (v_enc ρ)).reverse ++ rr.map (v_enc ρ) = (As.map (v_enc ρ)).reverse ++ .ref (ρ a) :: rr.map (v_enc ρ) := by
                rw [List.reverse_cons, List.append_assoc]
                rfl
              rcases h24 with h24 | h24
              · simp only [v_mw, h24] at hw9
                exact v_callG (va_runI (n := As.length) (b := ρ a) (As := As.map (v_enc ρ)) (rest := rr.map (v_enc ρ)) ⟨hx, hb, hml, hown, hts⟩ (v_met IH k7 h1 hsum k3 k9.2.1 (ws := ws) hXB hca l) (cwI As.length hts (v_goodIn hcode) hwe rfl rfl (hts _ (hw9 _ (by simp))) (hts _ (hw9 _ (by simp))) (hts _ (hw9 _ (by simp))) k51 ⟨k1, k2, k4⟩ ⟨Nat.le_trans hf1 hfr, Nat.le_trans hf2 hlo⟩) ⟨v_blind G ρ V ws _, hPc⟩ rfl (by simp) hl.1 hstk (lv_room hroom) hd hcells) hva hafter
              · simp only [v_mw, h24] at hw9
                have g1 : (Cond.initialized (v_m x.1).2.1.cls).before args s = true := hts _ (hw9 _ (by simp))
                have g2 : (Cond.instanceMethod (v_m x.1).2.1).before args s = true := hts _ (hw9 _ (by simp))
                have g0 := hnl (Or.inr h24)
                have g3 := hWd.1 _ g0
                unfold v_nw at g3
                dsimp only at g3
                have cw : va_CN R s args (v_own (v_cidx mi)) idx (v_m x.1).2.1 "BeeYard" (v_m x.1).2.2.1 (v_m x.1).2.2.2.1 none (v_ws (v_m x.1)) (v_rm (v_m x.1) (V1.2.2.2.2.1 - V.2.2.2.2.1) (V1.2.2.2.2.2 - V.2.2.2.2.2)) (V1.2.2.2.2.1 - V.2.2.2.2.1) (V1.2.2.2.2.2 - V.2.2.2.2.2) As.length := va_cnB As.length hts (v_goodIn hcode) hwe rfl rfl g3 g1 ⟨k1, k2, k4⟩ ⟨Nat.le_trans hf1 hfr, Nat.le_trans hf2 hlo⟩
                exact v_callG (va_runIN (host := "BeeYard") (n := As.length) (b := ρ a) (As := As.map (v_enc ρ)) (rest := rr.map (v_enc ρ)) ⟨hx, hb, hml, hown, hts⟩ (v_met IH k7 h1 hsum k3 k9.2.1 (ws := ws) hXB hca l) ⟨cw, k51, g2⟩ ⟨v_blind G ρ V ws _, hPc⟩ rfl (by simp) hl.1 hstk (lv_room hroom) hd hcells) hva hafter
