/-! ===== returns and calls ===== -/
theorem v_i_ret {i : Instr} {len : Nat} {x : VX} {pc : Nat} {lv : VL} {st : List VV} {V V' : VH} {r : Option VV} (h : v_i i len x pc lv st V = some (.inr (.inl (r, V')))) : V' = V ∧ ((i = .ireturn ∧ ∃ v, st = [.inl v] ∧ r = some (.inl v) ∧ v_ret x.1 v = true) ∨ (i = .lreturn ∧ ∃ v, st = [.inr (.inl v)] ∧ r = some (.inr (.inl v))) ∨ (i = .areturn ∧ ∃ v, st = [.inr (.inr v)] ∧ r = some (.inr (.inr v)) ∧ v.1 ≠ 0) ∨ (i = .return_ ∧ st = [] ∧ r = none)) := by
  have hcall : ∀ {q : Option (List VV × List VV)}, v_call x pc lv V q = some (.inr (.inl (r, V'))) → False := by
    intro q hq
    unfold v_call at hq
    split at hq
    · split at hq <;> (try split at hq) <;> first | (cases hq; done) | (obtain ⟨-, hq⟩ := v_okd hq; cases hq; done)
    · cases hq
  have hnew : ∀ {a : Option VA} {k n : Nat} {st : List VV}, v_new a k n pc len lv st V = some (.inr (.inl (r, V'))) → False := by
    intro a k n st hq
    unfold v_new at hq
    split at hq
    · obtain ⟨-, hq⟩ := v_okd hq; cases hq
    · cases hq
  have hoff : ∀ {d : Option Int} {st : List VV}, v_off pc d lv st V = some (.inr (.inl (r, V'))) → False := by
    intro d st hq
    unfold v_off at hq
    split at hq <;> cases hq
  unfold v_i at h
  split at h <;> (try split at h) <;> (try split at h) <;> (try split at h) <;> first
    | (cases h; done) | exact (hcall h).elim | exact (hnew h).elim | exact (hoff h).elim | (obtain ⟨-, h⟩ := v_okd h; cases h; done)
    | (obtain ⟨hc, h⟩ := v_okd h; cases h; first
        | exact ⟨rfl, Or.inl ⟨rfl, _, rfl, rfl, hc⟩⟩
        | exact ⟨rfl, Or.inr (Or.inr (Or.inl ⟨rfl, _, rfl, rfl, by simpa using hc⟩))⟩)
    | (cases h; exact ⟨rfl, Or.inr (Or.inl ⟨rfl, _, rfl, rfl⟩)⟩)
    | (cases h; exact ⟨rfl, Or.inr (Or.inr (Or.inr ⟨rfl, rfl, rfl⟩))⟩)
theorem v_i_call {i : Instr} {len : Nat} {x : VX} {pc : Nat} {lv : VL} {st : List VV} {V : VH} {m2 : Nat} {as : List VV} {t : VS} (h : v_i i len x pc lv st V = some (.inr (.inr (m2, as, t)))) : (∃ idx, i = .invokevirtual idx ∨ i = .invokestatic idx ∨ i = .invokespecial idx) ∧ ∃ r, v_take x.2.1 [] st = some (as, r) ∧ t = (pc + 3, lv, r, V) ∧ m2 = x.1 ∧ v_sum r ≤ 8 ∧ (x.2.2.1 < 5 ∨ 9 < x.2.2.1) := by
  have hcall : ∀ {q : Option (List VV × List VV)}, v_call x pc lv V q = some (.inr (.inr (m2, as, t))) → ∃ r, q = some (as, r) ∧ t = (pc + 3, lv, r, V) ∧ m2 = x.1 ∧ v_sum r ≤ 8 ∧ (x.2.2.1 < 5 ∨ 9 < x.2.2.1) := by
    intro q hq
    unfold v_call at hq
    split at hq
    · split at hq
      · split at hq <;> first | (cases hq; done) | (obtain ⟨-, hq⟩ := v_okd hq; cases hq; done)
      · split at hq <;> first | (cases hq; done) | (obtain ⟨-, hq⟩ := v_okd hq; cases hq; done)
      · split at hq <;> first | (cases hq; done) | (obtain ⟨-, hq⟩ := v_okd hq; cases hq; done)
      · split at hq <;> first | (cases hq; done) | (obtain ⟨-, hq⟩ := v_okd hq; cases hq; done)
      · split at hq <;> first | (cases hq; done) | (obtain ⟨-, hq⟩ := v_okd hq; cases hq; done)
      · rename_i n5 n6 n7 n8 n9
        obtain ⟨h8, hq⟩ := v_okd hq
        cases hq
        have g5 : x.2.2.1 ≠ 5 := n5
        have g6 : x.2.2.1 ≠ 6 := n6
        have g7 : x.2.2.1 ≠ 7 := n7
        have g8 : x.2.2.1 ≠ 8 := n8
        have g9 : x.2.2.1 ≠ 9 := n9
        exact ⟨_, rfl, rfl, rfl, of_decide_eq_true h8, by omega⟩
    · cases hq
  have hnew : ∀ {a : Option VA} {k n : Nat} {st : List VV}, v_new a k n pc len lv st V = some (.inr (.inr (m2, as, t))) → False := by
    intro a k n st hq
    unfold v_new at hq
    split at hq
    · obtain ⟨-, hq⟩ := v_okd hq; cases hq
    · cases hq
  have hoff : ∀ {d : Option Int} {st : List VV}, v_off pc d lv st V = some (.inr (.inr (m2, as, t))) → False := by
    intro d st hq
    unfold v_off at hq
    split at hq <;> cases hq
  unfold v_i at h
  split at h <;> (try split at h) <;> (try split at h) <;> (try split at h) <;> first
    | (cases h; done) | exact (hnew h).elim | exact (hoff h).elim
    | exact ⟨⟨_, Or.inl rfl⟩, hcall h⟩ | exact ⟨⟨_, Or.inr (Or.inl rfl)⟩, hcall h⟩ | exact ⟨⟨_, Or.inr (Or.inr rfl)⟩, hcall h⟩
    | (obtain ⟨-, h⟩ := v_okd h; cases h; done)
theorem v_char_ok {v : Int32} (h : v_ret 2 v = true) : narrow .char (.int v) = .int v := by
  have h2 : 0 ≤ v ∧ v ≤ 65535 := by simpa [v_ret] using h
  obtain ⟨j, hj, rfl⟩ := nI_of2 (M := 65535) (n := 65535) rfl (by rw [Int32.not_lt]; exact h2.1) h2.2
  exact (pk_charN (by omega)).1
theorem v_retW {p : Program} {l : Launch} {e : Env} {R : Room} {s : State} {mid : MethodId} {args : Array Value} {below : List Frame} {meth : Method} {c : Code} {G : VC} {oi : Nat} {m : VM} {i : Instr} {len : Nat} {x : VX} {pc : Nat} {lv : VL} {st : List VV} {V V' : VH} {r : Option VV} {ρ : VA → Nat} {ws : va_W} {H : Heap} {locs : List Loc} {ls : Array Slot} {cells slots : Nat} {Qc : Array Value → State → Outcome → State → Prop} {free : Addr → Prop}
    (hC : v_CX G oi m p R s mid args meth c) (hd : decode m.2.2.1 pc = .ok (i, len)) (ho : v_okI oi m pc i len x = true) (h : v_i i len x pc lv st V = some (.inr (.inl (r, V')))) (hr : meth.sig.returnType = m.2.2.2.2.1) (hlocks : meth.locks = false)
    (hq : ∀ t : State, t.heap = H → s.WarmedH t.vm → Qc args s (.returned (r.map (v_enc ρ))) t) (hf : ∀ q ∈ locs, free q.base) : W p l e R s mid args below meth c H locs cells slots (MQ below Qc args s cells slots free) (F0 mid pc ls (st.map (v_enc ρ))) := by
  obtain ⟨hx, hb, -⟩ := id hC
  obtain ⟨-, h⟩ := v_i_ret h
  rcases h with ⟨rfl, v, rfl, rfl, hv⟩ | ⟨rfl, v, rfl, rfl⟩ | ⟨rfl, v, rfl, rfl, hv⟩ | ⟨rfl, rfl, rfl⟩
  · simp only [v_okI, Bool.and_eq_true, Bool.or_eq_true, decide_eq_true_eq, beq_iff_eq] at ho
    obtain ⟨rfl, (⟨h0, hm⟩ | ⟨h0, hm⟩) | ⟨h0, hm⟩⟩ := ho
    · exact W.iret (v := v) hx hb (by rw [hr, hm]) hq hf hd
    · rw [h0] at hv
      exact W.zret (v := v) (ty := .boolean) hx hb (by rw [hr, hm]) (v_bool_ok hv).1 hq hf hd
    · rw [h0] at hv
      exact W.zret (v := v) (ty := .char) hx hb (by rw [hr, hm]) (v_char_ok hv) hq hf hd
  · simp only [v_okI, Bool.and_eq_true, decide_eq_true_eq, beq_iff_eq] at ho
    obtain ⟨rfl, hm⟩ := ho
    exact W.lret (v := v) hx hb (by rw [hr, hm]) hq hf hd
  · simp only [v_okI, Bool.and_eq_true, Bool.or_eq_true, decide_eq_true_eq, beq_iff_eq] at ho
    obtain ⟨rfl, hm⟩ := ho
    have hen : v_enc ρ (.inr (.inr v)) = .ref (ρ v) := if_neg hv
    rcases hm with (hm | hm) | hm <;> exact W.aret (v := v_enc ρ (.inr (.inr v))) hx hb (by rw [hr, hm]) (Or.inl ⟨_, rfl⟩) (Or.inr ⟨_, hen⟩) hq hf hd
  · simp only [v_okI, Bool.and_eq_true, decide_eq_true_eq, beq_iff_eq] at ho
    obtain ⟨rfl, hm⟩ := ho
    exact W.vret hx hb (by rw [hr, hm]) hq hf hd
def v_rm (m : VM) (mc ms : Nat) : Room := { frames := m.2.2.2.2.2.1, cells := mc, slots := ms, locals := m.2.2.2.2.2.2.1 }
def v_ws (m : VM) : List Cond := .code m.2.1 m.2.2.1 m.2.2.2.1 m.2.2.2.2.1 :: v_tbl
def v_Pc (G : VC) (ρ : VA → Nat) (V : VH) (ws : va_W) (as : List VV) : Array Value → State → Prop := fun a U => a = (as.map (v_enc ρ)).toArray ∧ v_Rl G ρ V ws U U.heap ∧ v_Wd U ∧ G.2.2.2.2 ≤ U.heap.size ∧ va_X G.2.1 G.2.2.1 G.2.2.2.1 U U.heap ∧ G.2.1 < U.heap.size
def v_Qc (G : VC) (ρ : VA → Nat) (V V1 : VH) (r : Option VV) : Array Value → State → Outcome → State → Prop := fun _ st o t => ∃ (ρ' : VA → Nat) (ws' : va_W), o = .returned (r.map (v_enc ρ')) ∧ v_Rl G ρ' V1 ws' t t.heap ∧ (∀ a, V.2.2.2.1 a = true → ρ' a = ρ a) ∧ (∀ v, r = some v → v_clo G V1 v) ∧ va_F (fun q => G.2.2.2.2 ≤ q) st t
theorem v_Wd.warm {s U : State} (hW : s.WarmedH U.vm) (h : v_Wd s) : v_Wd U := ⟨fun q hq => va_Nw.warmM hW (h.1 q hq), va_AO.moved hW.alike h.2.1, va_AO.moved hW.alike h.2.2.1, va_AO.moved hW.alike h.2.2.2⟩
theorem v_blind (G : VC) (ρ : VA → Nat) (V : VH) (ws : va_W) (as : List VV) : FrameBlind (v_Pc G ρ V ws as) := by
  intro a U g mk h
  obtain ⟨h1, h2, h3, h4, h5, h6⟩ := h
  exact ⟨h1, h2.moved (s := U) (t := U.calling g mk a) (Vm.Alike.refl U.vm), ⟨fun q hq => va_Nw.same rfl rfl (h3.1 q hq), va_AO.moved (u := U) (U := U.calling g mk a) (Vm.Alike.refl U.vm) h3.2.1, va_AO.moved (u := U) (U := U.calling g mk a) (Vm.Alike.refl U.vm) h3.2.2.1, va_AO.moved (u := U) (U := U.calling g mk a) (Vm.Alike.refl U.vm) h3.2.2.2⟩, h4, h5.moved (u := U) (U := U.calling g mk a) (Vm.Alike.refl U.vm), h6⟩
theorem v_args_map (ρ : VA → Nat) : ∀ (as : List VV) (i : Nat), lv_args i (as.map (v_enc ρ)) = (v_args i as).map (fun q => (q.1, v_enc ρ q.2))
  | [], _ => rfl
  | v :: l, i => by
    show (i, v_enc ρ v) :: lv_args (if (v_enc ρ v).category = 2 then i + 2 else i + 1) (l.map (v_enc ρ)) = (i, v_enc ρ v) :: (v_args (i + v_cat v) l).map _
    rw [v_enc_cat, ← v_args_map ρ l]
    match v with
    | .inl _ => rfl
    | .inr (.inl _) => rfl
    | .inr (.inr _) => rfl
theorem v_args_clo {G : VC} {V : VH} : ∀ {as : List VV} {i : Nat}, (∀ v ∈ as, v_clo G V v) → ∀ q ∈ v_args i as, v_clo G V q.2
  | [], _, _, _, h => by cases h
  | v :: l, i, h, q, hq => by
    rcases List.mem_cons.mp hq with rfl | h1
    · exact h v List.mem_cons_self
    · exact v_args_clo (fun w hw => h w (List.mem_cons_of_mem _ hw)) q h1
theorem v_lgsl (ρ : VA → Nat) : ∀ as : List VV, (lg_sl (as.map (v_enc ρ))).length = v_sum as
  | [] => rfl
  | v :: l => by
    have ih := v_lgsl ρ l
    unfold lg_sl at ih ⊢
    rw [List.map_cons, List.flatMap_cons, List.length_append, ih, v_enc_cat]
    match v with
    | .inl _ => rfl
    | .inr (.inl _) => rfl
    | .inr (.inr _) => rfl
theorem v_goodIn {m : VM} (h : Cond.code m.2.1 m.2.2.1 m.2.2.2.1 m.2.2.2.2.1 ∈ v_tbl) : GoodIn v_tbl (v_ws m) := by
  intro w hw
  have hm : w ∈ v_tbl := by
    rcases List.mem_cons.mp hw with rfl | h1
    · exact h
    · exact h1
  exact ⟨hm, good_of_word (List.mem_filter.mp hm).2⟩
section VCALL
variable {p : Program} {l : Launch} {e : Env} {R : Room} {s : State} {mid : MethodId} {args : Array Value} {below : List Frame} {meth : Method} {c : Code} {H : Heap} {locs : List Loc} {cells slots : Nat} {Q : State → Prop} {pc : Nat} {ls : Array Slot} {rest st0 : List Value} {a : Array Value} {mc ms : Nat} {free : Addr → Prop}
theorem v_callG {G : VC} {ρ : VA → Nat} {V V1 : VH} {r : Option VV} {H0 : Heap} (hr : va_Run p l e R s mid args below meth c H locs cells slots mc ms (F0 mid pc ls st0) rest (v_Qc G ρ V V1 r a) (fun q => G.2.2.2.2 ≤ q)) (hS : va_S (fun q => G.2.2.2.2 ≤ q) H0 H locs)
    (kk : ∀ (ρ' : VA → Nat) (ws' : va_W) (H1 : Heap) (locs1 : List Loc), v_Rl G ρ' V1 ws' s H1 → (∀ a, V.2.2.2.1 a = true → ρ' a = ρ a) → (∀ v, r = some v → v_clo G V1 v) → va_S (fun q => G.2.2.2.2 ≤ q) H0 H1 locs1 → W p l e R s mid args below meth c H1 locs1 (cells + mc) (slots + ms) Q (F0 mid (pc + 3) ls ((r.map (v_enc ρ')).toList ++ rest))) : W p l e R s mid args below meth c H locs cells slots Q (F0 mid pc ls st0) := by
  intro T hT X
  obtain ⟨v, st₀, t, T', L, h0, X', hL, e1, e2, ⟨ρ', ws', hv, hRl, hρ, hcl, hz, hk⟩, st⟩ := hr T hT X
  cases hv
  rw [h0] at hz hk
  obtain ⟨t2, a1, b1⟩ := kk ρ' ws' T'.heap (locs ++ L) (by rw [e1]; exact hRl.moved (by rw [← e2]; exact X'.warmed.alike.symm)) hρ hcl
    ⟨Nat.le_trans hS.1 (by rw [e1]; exact hz), fun q h1 h2 => by rw [e1, hk q (Nat.lt_of_lt_of_le h1 hS.1) h2]; exact hS.2.1 q h1 h2, fun q hq => by
      rcases List.mem_append.mp hq with h | h
      · exact hS.2.2 q h
      · exact hL q h⟩ T' rfl X'
  exact ⟨t2, st t2 a1, b1⟩
end VCALL
