/-! ===== states of the system, and what a piece of code does to them ===== -/
/-- what changes among the references: the yard that is now, the one before; which hives, frames, things are made; the pairs' length, and which lengths were made -/
abbrev QD : Type := Nat × Nat × (Nat → Nat → Bool) × (Nat → Nat → Bool) × (Nat → Nat → Bool) × Nat × (Nat → Bool)
/-- a state: ints, longs, references, cells, slots -/
abbrev QS : Type := (VA → Nat → Int32) × (VA → Nat → Int64) × QD × Nat × Nat
def q_nth : List Nat → Nat → Nat
  | [], _ => 0
  | x :: _, 0 => x
  | _ :: l, n + 1 => q_nth l n
def q_t (l : List Nat) (k : Nat) (i : Nat × Nat) : VA := match q_nth l k == 0 with
  | true => (0, 0, 0)
  | false => (q_nth l k, i)
def q_o (b : Bool) (a : VA) : VA := match b with
  | true => a
  | false => (0, 0, 0)
def q_g (i j : Nat) (a : VA) : VA := match (i == 0) && (j == 0) with
  | true => a
  | false => (0, 0, 0)
def q_R5 (n i j k : Nat) : VA := match k == 5 with
  | true => q_g i j (30, n, 0)
  | false => q_t [26, 27, 28, 29] k (i, j)
def q_R9 (d : QD) (k : Nat) : VA := match k with
  | 0 => (9, d.1, 0)
  | 1 => (9, d.2.1, 0)
  | 6 => (1, 0, 0)
  | 7 => (5, 0, 0)
  | 8 => (6, 0, 0)
  | 9 => (7, 1, 0)
  | 10 => (7, 2, 0)
  | _ => (0, 0, 0)
def q_R (d : QD) (a : VA) (k : Nat) : VA := match a.1 with
  | 1 => q_t [20] k a.2
  | 2 => q_t [21, 22, 23] k a.2
  | 3 => q_t [24] k a.2
  | 4 => q_t [25] k a.2
  | 5 => q_R5 d.2.2.2.2.2.1 a.2.1 a.2.2 k
  | 6 => match k with
    | 0 => (7, 0, 0)
    | _ => q_t [0, 31, 32, 33, 34] k a.2
  | 7 => q_t [35] k a.2
  | 9 => q_t [36, 37, 38, 39, 2] k a.2
  | 10 => q_g a.2.1 a.2.2 (q_R9 d k)
  | 11 => q_t [40, 41, 0, 0, 42, 0, 0, 43, 0, 44, 0, 45, 0, 46, 47, 48, 49, 50, 51, 52] k a.2
  | 36 => q_o ((a.2.2 == 0) && d.2.2.1 a.2.1 k) (4, a.2.1, k)
  | 37 => q_o ((a.2.2 == 0) && d.2.2.2.1 a.2.1 k) (3, a.2.1, k)
  | 38 => q_o ((a.2.2 == 0) && d.2.2.2.2.1 a.2.1 k) (8, a.2.1, k)
  | _ => (0, 0, 0)
def q_static : List VA := [(10, 0, 0), (9, 0, 0), (9, 1, 0), (36, 0, 0), (36, 1, 0), (37, 0, 0), (37, 1, 0), (38, 0, 0), (38, 1, 0), (39, 0, 0), (39, 1, 0), (2, 0, 0), (2, 1, 0), (21, 0, 0), (21, 1, 0), (22, 0, 0), (22, 1, 0), (23, 0, 0), (23, 1, 0), (1, 0, 0), (20, 0, 0), (5, 0, 0), (26, 0, 0), (27, 0, 0), (28, 0, 0), (29, 0, 0), (6, 0, 0), (31, 0, 0), (32, 0, 0), (33, 0, 0), (34, 0, 0), (7, 0, 0), (7, 1, 0), (7, 2, 0), (35, 0, 0), (35, 1, 0), (35, 2, 0), (11, 0, 0), (40, 0, 0), (41, 0, 0), (42, 0, 0), (43, 0, 0), (44, 0, 0), (45, 0, 0), (46, 0, 0), (47, 0, 0), (48, 0, 0), (49, 0, 0), (50, 0, 0), (51, 0, 0), (52, 0, 0)]
def q_al (d : QD) (a : VA) : Bool := match a.1 with
  | 4 => d.2.2.1 a.2.1 a.2.2
  | 25 => d.2.2.1 a.2.1 a.2.2
  | 3 => d.2.2.2.1 a.2.1 a.2.2
  | 24 => d.2.2.2.1 a.2.1 a.2.2
  | 8 => d.2.2.2.2.1 a.2.1 a.2.2
  | 30 => d.2.2.2.2.2.2 a.2.1 && (a.2.2 == 0)
  | _ => q_static.elem a
def q_V (S : QS) : VH := (S.1, q_R S.2.2.1, S.2.1, q_al S.2.2.1, S.2.2.2.1, S.2.2.2.2)
def q_set (S : QS) (a : VA) (k : Nat) (x : Int32) : QS := (fun b => if b = a then upd (S.1 a) k x else S.1 b, S.2)
def q_row (S : QS) (a : VA) (f : Nat → Int32) : QS := (fun b => if b = a then f else S.1 b, S.2)
def q_setL (S : QS) (a : VA) (k : Nat) (x : Int64) : QS := (S.1, fun b => if b = a then vp_updL (S.2.1 a) k x else S.2.1 b, S.2.2)
def q_let {α β : Type} (x : α) (k : α → β) : β := k x
def q_ck {α : Type} (c : Bool) (e : Option α) : Option α := match c with
  | true => e
  | false => none
def q_bd {α β γ : Type} (e : Option (α × β)) (k : α → β → Option γ) : Option γ := match e with
  | some q => k q.1 q.2
  | none => none
/-- from this point on the code does what e says -/
def q_Sim {T : Type} (m pc : Nat) (lv : VL) (st : List VV) (V : VH) (tv : T → Option VV) (e : Option (T × QS)) : Prop := ∀ r S', e = some (r, S') → ∃ n, v_go n m (pc, lv, st, V) = some (tv r, q_V S')
def q_I : Int32 → Option VV := fun x => some (.inl x)
def q_J : Int64 → Option VV := fun x => some (.inr (.inl x))
def q_A (t : Nat) : Nat × Nat → Option VV := fun q => some (.inr (.inr (t, q.1, q.2)))
def q_U : Unit → Option VV := fun _ => none
theorem v_n_go {m : Nat} {cd : List VE} (hc : v_code m = cd) : ∀ {k n : Nat} {s t : VS} {q : Option VV × VH}, v_n k cd s = some t → v_go n m t = some q → v_go (n + k) m s = some q
  | 0, n, s, t, q, h, g => by
    cases h
    exact g
  | k + 1, n, s, t, q, h, g => by
    unfold v_n at h
    split at h
    · rename_i u hu
      have g2 := v_n_go hc (k := k) h g
      show v_go (n + k + 1) m s = some q
      unfold v_go
      rw [hc, hu]
      exact g2
    · cases h
section QSIM
variable {T T2 : Type} {m pc : Nat} {lv : VL} {st : List VV} {V : VH} {tv : T → Option VV} {tv2 : T2 → Option VV} {e e1 e2 : Option (T × QS)} {cd : List VE}
theorem q_Sim.steps (hc : v_code m = cd) (k : Nat) {pc' : Nat} {lv' : VL} {st' : List VV} {V' : VH} (h : v_n k cd (pc, lv, st, V) = some (pc', lv', st', V')) (g : q_Sim m pc' lv' st' V' tv e) : q_Sim m pc lv st V tv e := by
  intro r S' he
  obtain ⟨n, hn⟩ := g r S' he
  exact ⟨n + k, v_n_go hc h hn⟩
theorem q_Sim.one (hc : v_code m = cd) {s' : VS} (h : v_1 cd (pc, lv, st, V) = some (.inl s')) (g : q_Sim m s'.1 s'.2.1 s'.2.2.1 s'.2.2.2 tv e) : q_Sim m pc lv st V tv e := by
  intro r S' he
  obtain ⟨n, hn⟩ := g r S' he
  refine ⟨n + 1, ?_⟩
  unfold v_go
  rw [hc, h]
  exact hn
theorem q_Sim.br (hc : v_code m = cd) {c : Prop} [Decidable c] {t f : Nat} {lv' : VL} {st' : List VV} {V' : VH} (h : v_1 cd (pc, lv, st, V) = some (.inl (v_br (decide c) t f, lv', st', V'))) (g1 : q_Sim m t lv' st' V' tv e1) (g2 : q_Sim m f lv' st' V' tv e2) : q_Sim m pc lv st V tv (if c then e1 else e2) := by
  refine q_Sim.one hc h ?_
  by_cases hcc : c
  · rw [if_pos hcc, decide_eq_true hcc]
    exact g1
  · rw [if_neg hcc, decide_eq_false hcc]
    exact g2
theorem q_Sim.ck (hc : v_code m = cd) {c : Bool} {pc' : Nat} {lv' : VL} {st' : List VV} {V' : VH} (h : v_1 cd (pc, lv, st, V) = v_ok c (.inl (pc', lv', st', V'))) (g : q_Sim m pc' lv' st' V' tv e) : q_Sim m pc lv st V tv (q_ck c e) := by
  cases c with
  | true => exact q_Sim.one hc h g
  | false => intro r S' he; cases he
theorem q_Sim.okd (hc : v_code m = cd) {c : Bool} {pc' : Nat} {lv' : VL} {st' : List VV} {V' : VH} (h : v_1 cd (pc, lv, st, V) = v_ok c (.inl (pc', lv', st', V'))) (hcc : c = true) (g : q_Sim m pc' lv' st' V' tv e) : q_Sim m pc lv st V tv e := by
  subst hcc
  exact q_Sim.one hc h g
theorem q_Sim.call (hc : v_code m = cd) {m2 : Nat} {as : List VV} {pc' : Nat} {lv' : VL} {st' : List VV} {S : QS} {ec : Option (T2 × QS)} {k : T2 → QS → Option (T × QS)} (h : v_1 cd (pc, lv, st, q_V S) = some (.inr (.inr (m2, as, (pc', lv', st', q_V S))))) (hr : v_rcv m2 as = true) (c : q_Sim m2 0 (v_args 0 as) [] (q_V S) tv2 ec) (g : ∀ r S1, q_Sim m pc' lv' ((tv2 r).toList ++ st') (q_V S1) tv (k r S1)) : q_Sim m pc lv st (q_V S) tv (q_bd ec k) := by
  intro r S' he
  unfold q_bd at he
  split at he
  · rename_i q
    obtain ⟨n1, h1⟩ := c q.1 q.2 rfl
    obtain ⟨n2, h2⟩ := g q.1 q.2 r S' he
    refine ⟨n1 + n2 + 1, ?_⟩
    unfold v_go
    rw [hc, h]
    dsimp only
    rw [hr]
    dsimp only
    rw [v_go_mono n2 h1]
    dsimp only
    have h3 := v_go_mono n1 h2
    rw [Nat.add_comm] at h3
    exact h3
  · cases he
theorem q_Sim.ret (hc : v_code m = cd) {r : T} {S : QS} (h : v_1 cd (pc, lv, st, q_V S) = some (.inr (.inl (tv r, q_V S)))) : q_Sim m pc lv st (q_V S) tv (some (r, S)) := by
  intro r' S' he
  cases he
  refine ⟨1, ?_⟩
  unfold v_go
  rw [hc, h]
theorem q_Sim.retc (hc : v_code m = cd) {r : T} {S : QS} {c : Bool} (h : v_1 cd (pc, lv, st, q_V S) = v_ok c (.inr (.inl (tv r, q_V S)))) : q_Sim m pc lv st (q_V S) tv (q_ck c (some (r, S))) := by
  cases c with
  | true => exact q_Sim.ret hc h
  | false => intro r S' he; cases he
theorem q_Sim.letS {S : QS} {k : QS → Option (T × QS)} (g : ∀ S1 : QS, q_Sim m pc lv st (q_V S1) tv (k S1)) : q_Sim m pc lv st (q_V S) tv (q_let S k) := g S
theorem q_Sim.letI {x : Int32} {k : Int32 → Option (T × QS)} (g : ∀ y : Int32, q_Sim m pc lv (.inl y :: st) V tv (k y)) : q_Sim m pc lv (.inl x :: st) V tv (q_let x k) := g x
theorem q_Sim.letJ {x : Int64} {k : Int64 → Option (T × QS)} (g : ∀ y : Int64, q_Sim m pc lv (.inr (.inl y) :: st) V tv (k y)) : q_Sim m pc lv (.inr (.inl x) :: st) V tv (q_let x k) := g x
theorem q_Sim.ite {c : Prop} [Decidable c] (g1 : c → q_Sim m pc lv st V tv e1) (g2 : ¬ c → q_Sim m pc lv st V tv e2) : q_Sim m pc lv st V tv (if c then e1 else e2) := by
  by_cases hc : c
  · rw [if_pos hc]; exact g1 hc
  · rw [if_neg hc]; exact g2 hc
theorem q_Sim.none : q_Sim m pc lv st V tv none := fun _ _ h => by cases h
def q_has (lv : VL) : VL → Prop
  | [] => True
  | q :: l => v_get lv q.1 = some q.2 ∧ q_has lv l
theorem q_has_sub {lv : VL} : ∀ {l : VL}, q_has lv l → ∀ i v, v_get l i = some v → v_get lv i = some v
  | [], _, _, _, h => by cases h
  | (j, w) :: l, h, i, v, hg => by
    unfold v_get at hg
    split at hg
    · rename_i hj
      cases hg
      have e := beq_iff_eq.mp hj
      subst e
      exact h.1
    · exact q_has_sub h.2 i v hg
theorem q_Sim.sub {lv' : VL} (hn : (lv'.map (fun q => q.1)).Nodup) (h : q_has lv lv') (g : q_Sim m pc lv' st V tv e) : q_Sim m pc lv st V tv e := by
  intro r S' he
  obtain ⟨n, h1⟩ := g r S' he
  exact ⟨n, v_go_sub ⟨hn, q_has_sub h⟩ h1⟩
theorem q_Sim.sw (hc : v_code m = cd) {d lo hi : Int} {offs : List Int} {x c : Int32} {o : Int} {lv' : VL} {st' : List VV} {V' : VH} (h : v_1 cd (pc, lv, st, V) = v_off pc (v_tab d lo hi offs x.toInt) lv' st' V') (hx : x = c) (hv : v_tab d lo hi offs c.toInt = some o) {t : Nat} (ht : ((pc : Int) + o).toNat = t) (g : q_Sim m t lv' st' V' tv e) : q_Sim m pc lv st V tv e := by
  subst hx
  rw [hv] at h
  subst ht
  exact q_Sim.one hc h g
theorem v_tab_out {d lo hi : Int} {offs : List Int} {x : Int} (h : ∀ k, lo ≤ k → k ≤ hi → x ≠ k) : v_tab d lo hi offs x = some d := by
  unfold v_tab
  by_cases h1 : x < lo
  · rw [decide_eq_true h1]; rfl
  · by_cases h2 : hi < x
    · rw [decide_eq_true h2, Bool.or_true]
    · exact absurd rfl (h x (by omega) (by omega))
theorem q_Sim.swd (hc : v_code m = cd) {d lo hi : Int} {offs : List Int} {x : Int32} {lv' : VL} {st' : List VV} {V' : VH} (h : v_1 cd (pc, lv, st, V) = v_off pc (v_tab d lo hi offs x.toInt) lv' st' V') (hv : ∀ k, lo ≤ k → k ≤ hi → x.toInt ≠ k) {t : Nat} (ht : ((pc : Int) + d).toNat = t) (g : q_Sim m t lv' st' V' tv e) : q_Sim m pc lv st V tv e := by
  rw [v_tab_out hv] at h
  subst ht
  exact q_Sim.one hc h g
theorem q_Sim.lk (hc : v_code m = cd) {d o : Int} {ps : List (Int × Int)} {x : Int32} {lv' : VL} {st' : List VV} {V' : VH} (h : v_1 cd (pc, lv, st, V) = v_off pc (some (v_look d x.toInt ps)) lv' st' V') (hv : v_look d x.toInt ps = o) {t : Nat} (ht : ((pc : Int) + o).toNat = t) (g : q_Sim m t lv' st' V' tv e) : q_Sim m pc lv st V tv e := by
  rw [hv] at h
  subst ht
  exact q_Sim.one hc h g
theorem v_look_no {d x a o : Int} {l : List (Int × Int)} (h : x ≠ a) : v_look d x ((a, o) :: l) = v_look d x l := by
  rw [v_look, decide_eq_false h]
theorem q_ne {x c : Int32} {k : Int} (h : ¬ x = c) (hc : c.toInt = k) : x.toInt ≠ k := fun e => h (Int32.toInt_inj.mp (e.trans hc.symm))
end QSIM
