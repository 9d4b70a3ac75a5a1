/-! ===== the constructors, from the empty heap on ===== -/
/-- the references as they stand behind the constructors -/
def q_D0 : QD := (0, 1, fun _ _ => false, fun _ _ => false, fun _ _ => false, 16, fun n => n == 16)
def q_z : Nat → VA := fun _ => (0, 0, 0)
def q_ru (R : VA → Nat → VA) (b : VA) (f : Nat → VA) : VA → Nat → VA := fun a => if a = b then f else R a
def q_le (l : List VA) : VA → Bool := fun a => l.elem a
def q_C (I : VA → Nat → Int32) (R : VA → Nat → VA) (l : List VA) (cn sn : Nat) : VH := (I, R, fun _ _ => 0, q_le l, cn, sn)
theorem z_ru_same (R : VA → Nat → VA) (b : VA) (f : Nat → VA) : q_ru R b f b = f := if_pos rfl
theorem z_ru_ne {R : VA → Nat → VA} {a b : VA} {f : Nat → VA} (h : a ≠ b) : q_ru R b f a = R a := if_neg h
theorem z_ru_ru (R : VA → Nat → VA) (b : VA) (f g : Nat → VA) : q_ru (q_ru R b f) b g = q_ru R b g := by
  funext a
  show (if a = b then g else if a = b then f else R a) = if a = b then g else R a
  split <;> rfl
theorem z_ru_id {R : VA → Nat → VA} {b : VA} {f : Nat → VA} (h : R b = f) : q_ru R b f = R := by
  funext a
  show (if a = b then f else R a) = R a
  split
  · rename_i e
    rw [e, h]
  · rfl
theorem z_le (l : List VA) (b : VA) : (fun a => if a = b then true else q_le l a) = q_le (b :: l) := by
  funext a
  show _ = List.elem a (b :: l)
  by_cases h : a = b
  · rw [if_pos h, List.elem_cons, beq_iff_eq.mpr h]
    (try rfl)
  · rw [if_neg h, List.elem_cons, beq_eq_false_iff_ne.mpr h]
    (try rfl)
theorem z_make {I : VA → Nat → Int32} {R : VA → Nat → VA} {l : List VA} {cn sn : Nat} {a : VA} (n : Nat) (h : I a = fun _ => 0) : v_make (q_C I R l cn sn) a n = q_C I (q_ru R a q_z) (a :: l) (cn + 1) (sn + n) := by
  refine Prod.ext ?_ (Prod.ext rfl (Prod.ext ?_ (Prod.ext (z_le l a) (Prod.ext rfl rfl))))
  · funext b
    show (if b = a then fun _ => 0 else I b) = I b
    split
    · rename_i e
      rw [e, h]
    · rfl
  · funext b
    show (if b = a then fun _ => 0 else fun _ => 0) = fun _ => 0
    split <;> rfl
theorem z_arr {I : VA → Nat → Int32} {R : VA → Nat → VA} {l : List VA} {cn sn : Nat} {a : VA} (n : Nat) (h : I a = fun _ => 0) (hR : R a = q_z) : v_make (q_C I R l cn sn) a n = q_C I R (a :: l) (cn + 1) (sn + n) := by
  rw [z_make n h, z_ru_id hR]
theorem z_put0 {I : VA → Nat → Int32} {R : VA → Nat → VA} {l : List VA} {cn sn : Nat} {a : VA} {k : Nat} (h : I a = fun _ => 0) : v_setI (q_C I R l cn sn) a k 0 = q_C I R l cn sn := by
  refine Prod.ext ?_ rfl
  funext b
  show (if b = a then upd (I a) k 0 else I b) = I b
  split
  · rename_i e
    rw [e, h]
    funext j
    unfold upd
    split <;> rfl
  · rfl
theorem z_setR (I : VA → Nat → Int32) (R : VA → Nat → VA) (l : List VA) (cn sn : Nat) (a : VA) (k : Nat) (x : VA) : v_setR (q_C I R l cn sn) a k x = q_C I (q_ru R a (va_up (R a) k x)) l cn sn := rfl
theorem q_run.call {m pc : Nat} {lv : VL} {st : List VV} {V V1 V2 : VH} {r r1 : Option VV} {cd : List VE} (hc : v_code m = cd) {m2 : Nat} {as : List VV} {pc' : Nat} {lv' : VL} {st' : List VV} (h : v_1 cd (pc, lv, st, V) = some (.inr (.inr (m2, as, (pc', lv', st', V))))) (hr : v_rcv m2 as = true) (c : q_run m2 0 (v_args 0 as) [] V r1 V1) (g : q_run m pc' lv' (r1.toList ++ st') V1 r V2) : q_run m pc lv st V r V2 := by
  obtain ⟨n1, h1⟩ := c
  obtain ⟨n2, h2⟩ := g
  refine ⟨n1 + n2 + 1, ?_⟩
  unfold v_go
  rw [hc, h]
  dsimp only
  rw [hr]
  dsimp only
  rw [v_go_mono n2 h1]
  dsimp only
  have h3 := v_go_mono n1 h2
  rw [Nat.add_comm] at h3
  exact h3
