/-- the law in the clean interpreter: its start -/
def v_Law2 (L : Nat) (xs : Nat → Int32) : Prop := ∃ (n : Nat) (V' : VH), v_go n 0 (0, [(0, .inr (.inr (60, L, 0)))], [], q_C (q_I0 L xs) (q_R q_D0) [] 0 0) = some (some (.inl 1), V') ∧ V'.2.2.2.2.1 ≤ 600000 ∧ V'.2.2.2.2.2 ≤ 7302250
set_option maxHeartbeats 4000000 in
theorem whole_of2 (hlaw : ∀ (L : Nat) (xs : Nat → Int32), L ≤ 2048 → v_Law2 L xs) {p : Program} {e : Env} {s : State} {m : MethodId} {below : List Frame} {meth : Method} {c : Code} (l : Launch) {b L : Nat} {xs : Nat → Int32} (hL : L ≤ 2048) (C0 : lw_At p s m meth c b L xs) : W p l e room_1 s m #[Value.ref b] below meth c s.heap [] 0 0 (lw_Z below #[Value.ref b] s) (entryFrame m ([Value.ref b] : List Value).toArray 4) := by
  obtain ⟨hx, hb, hr, hml, hown, hts, hX, hbl, hlocks, hgv⟩ := id C0
  obtain ⟨n, V', hgo, hcn, hsn⟩ := hlaw L xs hL
  have htb : ∀ w ∈ v_tbl, w.before #[Value.ref b] s = true := fun w hw => hts w (List.mem_filter.mp hw).1
  obtain ⟨c0, iS0, hKn0⟩ := u_known (C := RX0) (T := TX0) (N := v_nf 0) (n := v_nf 0) htb (fun w h => v_c0_in w (List.mem_append_left _ h)) (htb _ (v_c0_in _ (List.mem_append_right _ (by simp [v_nf, v_nth]))))
  obtain ⟨c1, iS1, hKn1⟩ := u_known (C := RX1) (T := TX1) (N := v_nf 1) (n := v_nf 1) htb (fun w h => v_c1_in w (List.mem_append_left _ h)) (htb _ (v_c1_in _ (List.mem_append_right _ (by simp [v_nf, v_nth]))))
  obtain ⟨c2, iS2, hKn2⟩ := u_known (C := RX2) (T := TX2) (N := v_nf 2) (n := v_nf 2) htb (fun w h => v_c2_in w (List.mem_append_left _ h)) (htb _ (v_c2_in _ (List.mem_append_right _ (by simp [v_nf, v_nth]))))
  obtain ⟨c3, iS3, hKn3⟩ := u_known (C := RX3) (T := TX3) (N := v_nf 3) (n := v_nf 3) htb (fun w h => v_c3_in w (List.mem_append_left _ h)) (htb _ (v_c3_in _ (List.mem_append_right _ (by simp [v_nf, v_nth]))))
  obtain ⟨c4, iS4, hKn4⟩ := u_known (C := RX4) (T := TX4) (N := v_nf 4) (n := v_nf 4) htb (fun w h => v_c4_in w (List.mem_append_left _ h)) (htb _ (v_c4_in _ (List.mem_append_right _ (by simp [v_nf, v_nth]))))
  obtain ⟨c5, iS5, hKn5⟩ := u_known (C := RX5) (T := TX5) (N := v_nf 5) (n := v_nf 5) htb (fun w h => v_c5_in w (List.mem_append_left _ h)) (htb _ (v_c5_in _ (List.mem_append_right _ (by simp [v_nf, v_nth]))))
  obtain ⟨c6, iS6, hKn6⟩ := u_known (C := RX6) (T := TX6) (N := v_nf 6) (n := v_nf 6) htb (fun w h => v_c6_in w (List.mem_append_left _ h)) (htb _ (v_c6_in _ (List.mem_append_right _ (by simp [v_nf, v_nth]))))
  obtain ⟨c7, iS7, hKn7⟩ := u_known (C := RX7) (T := TX7) (N := v_nf 7) (n := v_nf 7) htb (fun w h => v_c7_in w (List.mem_append_left _ h)) (htb _ (v_c7_in _ (List.mem_append_right _ (by simp [v_nf, v_nth]))))
  obtain ⟨c8, iS8, hKn8⟩ := u_known (C := RX8) (T := TX8) (N := v_nf 8) (n := v_nf 8) htb (fun w h => v_c8_in w (List.mem_append_left _ h)) (htb _ (v_c8_in _ (List.mem_append_right _ (by simp [v_nf, v_nth]))))
  obtain ⟨c9, iS9, hKn9⟩ := u_known (C := RX9) (T := TX9) (N := v_nf 9) (n := v_nf 9) htb (fun w h => v_c9_in w (List.mem_append_left _ h)) (htb _ (v_c9_in _ (List.mem_append_right _ (by simp [v_nf, v_nth]))))
  obtain ⟨c10, iS10, hKn10⟩ := u_known (C := RX10) (T := TX10) (N := v_nf 10) (n := v_nf 10) htb (fun w h => v_c10_in w (List.mem_append_left _ h)) (htb _ (v_c10_in _ (List.mem_append_right _ (by simp [v_nf, v_nth]))))
  obtain ⟨dC, dI, hKc⟩ : ∃ (dC : Nat → ClassId) (dI : Nat → Nat → Nat), ∀ (k : Nat) (q : vw_C), vcl[k]? = some q → u_Kn s q.1 q.2.1 q.2.2 (dC k) (dI k) := by
    refine ⟨fun k => if k = 0 then c0 else if k = 1 then c1 else if k = 2 then c2 else if k = 3 then c3 else if k = 4 then c4 else if k = 5 then c5 else if k = 6 then c6 else if k = 7 then c7 else if k = 8 then c8 else if k = 9 then c9 else c10, fun k => if k = 0 then iS0 else if k = 1 then iS1 else if k = 2 then iS2 else if k = 3 then iS3 else if k = 4 then iS4 else if k = 5 then iS5 else if k = 6 then iS6 else if k = 7 then iS7 else if k = 8 then iS8 else if k = 9 then iS9 else iS10, ?_⟩
    intro k q hq
    match k, hq with
    | 0, hq => cases hq; exact hKn0
    | 1, hq => cases hq; exact hKn1
    | 2, hq => cases hq; exact hKn2
    | 3, hq => cases hq; exact hKn3
    | 4, hq => cases hq; exact hKn4
    | 5, hq => cases hq; exact hKn5
    | 6, hq => cases hq; exact hKn6
    | 7, hq => cases hq; exact hKn7
    | 8, hq => cases hq; exact hKn8
    | 9, hq => cases hq; exact hKn9
    | 10, hq => cases hq; exact hKn10
    | k + 11, hq => simp [vcl] at hq
  have hK : va_K (dC, dI) vcl [] s := ⟨hKc, fun k q hq => by simp at hq⟩
  have hWd : v_Wd s := ⟨fun q hq => va_Nw.of rfl (hts _ (v_nest_in q hq)), va_AO.of (hts _ (v_over_in _ (by simp))), va_AO.of (hts _ (v_over_in _ (by simp))), va_AO.of (hts _ (v_over_in _ (by simp)))⟩
  have hl := lv_entry ([Value.ref b]) (n := 4) (Nat.le_of_ble_eq_true rfl)
  rw [lg_entry_eq]
  generalize (lg_sl ([Value.ref b]) ++ List.replicate (4 - (lg_sl ([Value.ref b])).length) Slot.unset).toArray = ls at hl ⊢
  have hl : lv_has ls 4 [(0, .ref b)] := hl
  let G : VC := ((dC, dI), b, L, xs, s.heap.size)
  have hCX : v_CX G (v_cidx 0) (v_m 0) p room_1 s m #[Value.ref b] meth c := ⟨hx, hb, hml, hown, htb, hWd, fun h => absurd h (by decide), by decide, by decide, Nat.le_refl _, hX, hbl, hbl⟩
  have hRl : v_Rl G (fun _ => b) (q_C (q_I0 L xs) (q_R q_D0) [] 0 0) [] s s.heap := by
    refine ⟨fun k q h => (by simp at h), ⟨fun i j p q h => (by simp at h), fun k q h => (by simp at h)⟩, hK, fun a ha => (by cases ha), fun a a' ha => (by cases ha), fun a j ha => (by cases ha), rfl, fun j hj => ?_⟩
    show (if ((60, L, 0) : VA) = (60, L, 0) then xs j else 0) = xs j
    rw [if_pos rfl]
  have hST : v_ST G (v_m 0) s (fun _ => b) (q_C (q_I0 L xs) (q_R q_D0) [] 0 0) [] s.heap [] ls [(0, .inr (.inr (60, L, 0)))] [] := ⟨hRl, hl, fun q hq => (by
      rcases List.mem_cons.mp hq with rfl | h
      · exact Or.inr (Or.inl rfl)
      · cases h), fun _ h => (by cases h), va_S.rf⟩
  have key := v_sound n 0 0 [(0, .inr (.inr (60, L, 0)))] [] (q_C (q_I0 L xs) (q_R q_D0) [] 0 0) (some (.inl 1)) V' (by decide) hgo p l e room_1 s m #[Value.ref b] below meth c (lw_Z below #[Value.ref b] s) G (fun _ => b) [] s.heap [] ls 0 0 hCX hST (Nat.zero_le _) (Nat.zero_le _) (by rw [Nat.sub_zero]; exact hcn) (by rw [Nat.sub_zero]; exact hsn) (by
    intro ρ2 ws2 H2 locs2 ls2 lv2 st2 V2 pc2 i len x hd ho hS2 hi hρ
    obtain ⟨hV, hi2⟩ := v_i_ret hi
    subst hV
    rcases hi2 with ⟨rfl, v, rfl, e2, -⟩ | ⟨-, v, -, e2⟩ | ⟨-, v, -, e2, -⟩ | ⟨-, -, e2⟩
    · cases e2
      have hlen : len = 1 := by
        simp only [v_okI, Bool.and_eq_true, beq_iff_eq] at ho
        exact ho.1
      subst hlen
      refine va_forget (fun q hq => hS2.2.2.2.2.2.2 q hq) ?_
      refine W.widen (k := 600000) (n := 7302250) (by rw [Nat.sub_zero]; exact hcn) (by rw [Nat.sub_zero]; exact hsn) ?_
      exact lw_ret hx hb hr hlocks hd
    · cases e2
    · cases e2
    · cases e2)
  exact key
