/-! ===== the picture's cells: reading and writing, a row each (by genrel.py) ===== -/
theorem c_now {y : Nat} {Y V : GA} {X S : QS} (h : g_C y Y V X S) : S.2.2.1.1 = y := h.1.1
theorem c_bef {y : Nat} {Y V : GA} {X S : QS} (h : g_C y Y V X S) : S.2.2.1.2.1 = 1 - y := h.1.2.1
theorem c_n0 {y : Nat} {Y V : GA} {X S : QS} (h : g_C y Y V X S) : S.1 (9, y, 0) 5 = Y 0 0 0 := h.2.1 0 0 0 (by omega) ⟨by omega, rfl⟩ trivial
theorem c_n1 {y : Nat} {Y V : GA} {X S : QS} (h : g_C y Y V X S) : S.1 (9, y, 0) 6 = Y 0 1 0 := h.2.1 0 1 0 (by omega) ⟨by omega, rfl⟩ trivial
theorem c_n2 {y : Nat} {Y V : GA} {X S : QS} (h : g_C y Y V X S) : S.1 (9, y, 0) 7 = Y 0 2 0 := h.2.1 0 2 0 (by omega) ⟨by omega, rfl⟩ trivial
theorem c_n3 {y : Nat} {Y V : GA} {X S : QS} (h : g_C y Y V X S) : S.1 (9, y, 0) 8 = Y 0 3 0 := h.2.1 0 3 0 (by omega) ⟨by omega, rfl⟩ trivial
theorem cs_n3 {y : Nat} {Y V : GA} {X S : QS} (h : g_C y Y V X S) (v : Int32) : ∃ S1, q_set S (9, y, 0) 8 v = S1 ∧ g_C y (g_up Y 0 3 0 v) V X S1 := ⟨_, rfl, g_C_set (r := 0) (i := 3) (j := 0) v h (by omega) ⟨by omega, rfl⟩ (by omega) ⟨by omega, by omega, by omega⟩⟩
theorem c_n4 {y : Nat} {Y V : GA} {X S : QS} (h : g_C y Y V X S) : S.1 (9, y, 0) 9 = Y 0 4 0 := h.2.1 0 4 0 (by omega) ⟨by omega, rfl⟩ trivial
theorem cs_n4 {y : Nat} {Y V : GA} {X S : QS} (h : g_C y Y V X S) (v : Int32) : ∃ S1, q_set S (9, y, 0) 9 v = S1 ∧ g_C y (g_up Y 0 4 0 v) V X S1 := ⟨_, rfl, g_C_set (r := 0) (i := 4) (j := 0) v h (by omega) ⟨by omega, rfl⟩ (by omega) ⟨by omega, by omega, by omega⟩⟩
theorem c_n5 {y : Nat} {Y V : GA} {X S : QS} (h : g_C y Y V X S) : S.1 (9, y, 0) 10 = Y 0 5 0 := h.2.1 0 5 0 (by omega) ⟨by omega, rfl⟩ trivial
theorem cs_n5 {y : Nat} {Y V : GA} {X S : QS} (h : g_C y Y V X S) (v : Int32) : ∃ S1, q_set S (9, y, 0) 10 v = S1 ∧ g_C y (g_up Y 0 5 0 v) V X S1 := ⟨_, rfl, g_C_set (r := 0) (i := 5) (j := 0) v h (by omega) ⟨by omega, rfl⟩ (by omega) ⟨by omega, by omega, by omega⟩⟩
theorem c_n6 {y : Nat} {Y V : GA} {X S : QS} (h : g_C y Y V X S) : S.1 (9, y, 0) 11 = Y 0 6 0 := h.2.1 0 6 0 (by omega) ⟨by omega, rfl⟩ trivial
theorem cs_n6 {y : Nat} {Y V : GA} {X S : QS} (h : g_C y Y V X S) (v : Int32) : ∃ S1, q_set S (9, y, 0) 11 v = S1 ∧ g_C y (g_up Y 0 6 0 v) V X S1 := ⟨_, rfl, g_C_set (r := 0) (i := 6) (j := 0) v h (by omega) ⟨by omega, rfl⟩ (by omega) ⟨by omega, by omega, by omega⟩⟩
theorem c_n7 {y : Nat} {Y V : GA} {X S : QS} (h : g_C y Y V X S) : S.1 (9, y, 0) 12 = Y 0 7 0 := h.2.1 0 7 0 (by omega) ⟨by omega, rfl⟩ trivial
theorem cs_n7 {y : Nat} {Y V : GA} {X S : QS} (h : g_C y Y V X S) (v : Int32) : ∃ S1, q_set S (9, y, 0) 12 v = S1 ∧ g_C y (g_up Y 0 7 0 v) V X S1 := ⟨_, rfl, g_C_set (r := 0) (i := 7) (j := 0) v h (by omega) ⟨by omega, rfl⟩ (by omega) ⟨by omega, by omega, by omega⟩⟩
theorem c_n8 {y : Nat} {Y V : GA} {X S : QS} (h : g_C y Y V X S) : S.1 (2, y, 0) 3 = Y 0 8 0 := h.2.1 0 8 0 (by omega) ⟨by omega, rfl⟩ trivial
theorem c_h0 {y : Nat} {Y V : GA} {X S : QS} (h : g_C y Y V X S) {k : Nat} (hk : k < g_n (Y 0 0 0)) (h4 : k < 40) : S.1 (4, y, k) 2 = Y 1 k 0 := h.2.1 1 k 0 (by omega) ⟨by omega, by omega⟩ hk
theorem cs_h0 {y : Nat} {Y V : GA} {X S : QS} (h : g_C y Y V X S) {k : Nat} (h4 : k < 40) (v : Int32) : ∃ S1, q_set S (4, y, k) 2 v = S1 ∧ g_C y (g_up Y 1 k 0 v) V X S1 := ⟨_, rfl, g_C_set (r := 1) (i := k) (j := 0) v h (by omega) ⟨by omega, by omega⟩ (by omega) ⟨by omega, by omega, by omega⟩⟩
theorem c_h1 {y : Nat} {Y V : GA} {X S : QS} (h : g_C y Y V X S) {k : Nat} (hk : k < g_n (Y 0 0 0)) (h4 : k < 40) : S.1 (4, y, k) 3 = Y 1 k 1 := h.2.1 1 k 1 (by omega) ⟨by omega, by omega⟩ hk
theorem cs_h1 {y : Nat} {Y V : GA} {X S : QS} (h : g_C y Y V X S) {k : Nat} (h4 : k < 40) (v : Int32) : ∃ S1, q_set S (4, y, k) 3 v = S1 ∧ g_C y (g_up Y 1 k 1 v) V X S1 := ⟨_, rfl, g_C_set (r := 1) (i := k) (j := 1) v h (by omega) ⟨by omega, by omega⟩ (by omega) ⟨by omega, by omega, by omega⟩⟩
theorem c_h2 {y : Nat} {Y V : GA} {X S : QS} (h : g_C y Y V X S) {k : Nat} (hk : k < g_n (Y 0 0 0)) (h4 : k < 40) : S.1 (4, y, k) 4 = Y 1 k 2 := h.2.1 1 k 2 (by omega) ⟨by omega, by omega⟩ hk
theorem cs_h2 {y : Nat} {Y V : GA} {X S : QS} (h : g_C y Y V X S) {k : Nat} (h4 : k < 40) (v : Int32) : ∃ S1, q_set S (4, y, k) 4 v = S1 ∧ g_C y (g_up Y 1 k 2 v) V X S1 := ⟨_, rfl, g_C_set (r := 1) (i := k) (j := 2) v h (by omega) ⟨by omega, by omega⟩ (by omega) ⟨by omega, by omega, by omega⟩⟩
theorem c_h3 {y : Nat} {Y V : GA} {X S : QS} (h : g_C y Y V X S) {k : Nat} (hk : k < g_n (Y 0 0 0)) (h4 : k < 40) : S.1 (4, y, k) 5 = Y 1 k 3 := h.2.1 1 k 3 (by omega) ⟨by omega, by omega⟩ hk
theorem cs_h3 {y : Nat} {Y V : GA} {X S : QS} (h : g_C y Y V X S) {k : Nat} (h4 : k < 40) (v : Int32) : ∃ S1, q_set S (4, y, k) 5 v = S1 ∧ g_C y (g_up Y 1 k 3 v) V X S1 := ⟨_, rfl, g_C_set (r := 1) (i := k) (j := 3) v h (by omega) ⟨by omega, by omega⟩ (by omega) ⟨by omega, by omega, by omega⟩⟩
theorem c_h4 {y : Nat} {Y V : GA} {X S : QS} (h : g_C y Y V X S) {k : Nat} (hk : k < g_n (Y 0 0 0)) (h4 : k < 40) : S.1 (4, y, k) 6 = Y 1 k 4 := h.2.1 1 k 4 (by omega) ⟨by omega, by omega⟩ hk
theorem cs_h4 {y : Nat} {Y V : GA} {X S : QS} (h : g_C y Y V X S) {k : Nat} (h4 : k < 40) (v : Int32) : ∃ S1, q_set S (4, y, k) 6 v = S1 ∧ g_C y (g_up Y 1 k 4 v) V X S1 := ⟨_, rfl, g_C_set (r := 1) (i := k) (j := 4) v h (by omega) ⟨by omega, by omega⟩ (by omega) ⟨by omega, by omega, by omega⟩⟩
theorem c_h5 {y : Nat} {Y V : GA} {X S : QS} (h : g_C y Y V X S) {k : Nat} (hk : k < g_n (Y 0 0 0)) (h4 : k < 40) : S.1 (4, y, k) 7 = Y 1 k 5 := h.2.1 1 k 5 (by omega) ⟨by omega, by omega⟩ hk
theorem cs_h5 {y : Nat} {Y V : GA} {X S : QS} (h : g_C y Y V X S) {k : Nat} (h4 : k < 40) (v : Int32) : ∃ S1, q_set S (4, y, k) 7 v = S1 ∧ g_C y (g_up Y 1 k 5 v) V X S1 := ⟨_, rfl, g_C_set (r := 1) (i := k) (j := 5) v h (by omega) ⟨by omega, by omega⟩ (by omega) ⟨by omega, by omega, by omega⟩⟩
theorem c_h6 {y : Nat} {Y V : GA} {X S : QS} (h : g_C y Y V X S) {k : Nat} (hk : k < g_n (Y 0 0 0)) (h4 : k < 40) : S.1 (4, y, k) 8 = Y 1 k 6 := h.2.1 1 k 6 (by omega) ⟨by omega, by omega⟩ hk
theorem cs_h6 {y : Nat} {Y V : GA} {X S : QS} (h : g_C y Y V X S) {k : Nat} (h4 : k < 40) (v : Int32) : ∃ S1, q_set S (4, y, k) 8 v = S1 ∧ g_C y (g_up Y 1 k 6 v) V X S1 := ⟨_, rfl, g_C_set (r := 1) (i := k) (j := 6) v h (by omega) ⟨by omega, by omega⟩ (by omega) ⟨by omega, by omega, by omega⟩⟩
theorem c_h7 {y : Nat} {Y V : GA} {X S : QS} (h : g_C y Y V X S) {k : Nat} (hk : k < g_n (Y 0 0 0)) (h4 : k < 40) : S.1 (4, y, k) 9 = Y 1 k 7 := h.2.1 1 k 7 (by omega) ⟨by omega, by omega⟩ hk
theorem cs_h7 {y : Nat} {Y V : GA} {X S : QS} (h : g_C y Y V X S) {k : Nat} (h4 : k < 40) (v : Int32) : ∃ S1, q_set S (4, y, k) 9 v = S1 ∧ g_C y (g_up Y 1 k 7 v) V X S1 := ⟨_, rfl, g_C_set (r := 1) (i := k) (j := 7) v h (by omega) ⟨by omega, by omega⟩ (by omega) ⟨by omega, by omega, by omega⟩⟩
theorem c_h8 {y : Nat} {Y V : GA} {X S : QS} (h : g_C y Y V X S) {k : Nat} (hk : k < g_n (Y 0 0 0)) (h4 : k < 40) : S.1 (4, y, k) 10 = Y 1 k 8 := h.2.1 1 k 8 (by omega) ⟨by omega, by omega⟩ hk
theorem cs_h8 {y : Nat} {Y V : GA} {X S : QS} (h : g_C y Y V X S) {k : Nat} (h4 : k < 40) (v : Int32) : ∃ S1, q_set S (4, y, k) 10 v = S1 ∧ g_C y (g_up Y 1 k 8 v) V X S1 := ⟨_, rfl, g_C_set (r := 1) (i := k) (j := 8) v h (by omega) ⟨by omega, by omega⟩ (by omega) ⟨by omega, by omega, by omega⟩⟩
theorem c_h9 {y : Nat} {Y V : GA} {X S : QS} (h : g_C y Y V X S) {k : Nat} (hk : k < g_n (Y 0 0 0)) (h4 : k < 40) : S.1 (4, y, k) 11 = Y 1 k 9 := h.2.1 1 k 9 (by omega) ⟨by omega, by omega⟩ hk
theorem cs_h9 {y : Nat} {Y V : GA} {X S : QS} (h : g_C y Y V X S) {k : Nat} (h4 : k < 40) (v : Int32) : ∃ S1, q_set S (4, y, k) 11 v = S1 ∧ g_C y (g_up Y 1 k 9 v) V X S1 := ⟨_, rfl, g_C_set (r := 1) (i := k) (j := 9) v h (by omega) ⟨by omega, by omega⟩ (by omega) ⟨by omega, by omega, by omega⟩⟩
theorem c_h10 {y : Nat} {Y V : GA} {X S : QS} (h : g_C y Y V X S) {k : Nat} (hk : k < g_n (Y 0 0 0)) (h4 : k < 40) : S.1 (4, y, k) 1 = Y 1 k 10 := h.2.1 1 k 10 (by omega) ⟨by omega, by omega⟩ hk
theorem c_t0 {y : Nat} {Y V : GA} {X S : QS} (h : g_C y Y V X S) {k : Nat} (hk : k < g_n (Y 0 2 0)) (h4 : k < 200) : S.1 (8, y, k) 0 = Y 6 k 0 := h.2.1 6 k 0 (by omega) ⟨by omega, by omega⟩ hk
theorem cs_t0 {y : Nat} {Y V : GA} {X S : QS} (h : g_C y Y V X S) {k : Nat} (h4 : k < 200) (v : Int32) : ∃ S1, q_set S (8, y, k) 0 v = S1 ∧ g_C y (g_up Y 6 k 0 v) V X S1 := ⟨_, rfl, g_C_set (r := 6) (i := k) (j := 0) v h (by omega) ⟨by omega, by omega⟩ (by omega) ⟨by omega, by omega, by omega⟩⟩
theorem c_t1 {y : Nat} {Y V : GA} {X S : QS} (h : g_C y Y V X S) {k : Nat} (hk : k < g_n (Y 0 2 0)) (h4 : k < 200) : S.1 (8, y, k) 1 = Y 6 k 1 := h.2.1 6 k 1 (by omega) ⟨by omega, by omega⟩ hk
theorem cs_t1 {y : Nat} {Y V : GA} {X S : QS} (h : g_C y Y V X S) {k : Nat} (h4 : k < 200) (v : Int32) : ∃ S1, q_set S (8, y, k) 1 v = S1 ∧ g_C y (g_up Y 6 k 1 v) V X S1 := ⟨_, rfl, g_C_set (r := 6) (i := k) (j := 1) v h (by omega) ⟨by omega, by omega⟩ (by omega) ⟨by omega, by omega, by omega⟩⟩
theorem c_t2 {y : Nat} {Y V : GA} {X S : QS} (h : g_C y Y V X S) {k : Nat} (hk : k < g_n (Y 0 2 0)) (h4 : k < 200) : S.1 (8, y, k) 2 = Y 6 k 2 := h.2.1 6 k 2 (by omega) ⟨by omega, by omega⟩ hk
theorem cs_t2 {y : Nat} {Y V : GA} {X S : QS} (h : g_C y Y V X S) {k : Nat} (h4 : k < 200) (v : Int32) : ∃ S1, q_set S (8, y, k) 2 v = S1 ∧ g_C y (g_up Y 6 k 2 v) V X S1 := ⟨_, rfl, g_C_set (r := 6) (i := k) (j := 2) v h (by omega) ⟨by omega, by omega⟩ (by omega) ⟨by omega, by omega, by omega⟩⟩
theorem c_t3 {y : Nat} {Y V : GA} {X S : QS} (h : g_C y Y V X S) {k : Nat} (hk : k < g_n (Y 0 2 0)) (h4 : k < 200) : S.1 (8, y, k) 3 = Y 6 k 3 := h.2.1 6 k 3 (by omega) ⟨by omega, by omega⟩ hk
theorem cs_t3 {y : Nat} {Y V : GA} {X S : QS} (h : g_C y Y V X S) {k : Nat} (h4 : k < 200) (v : Int32) : ∃ S1, q_set S (8, y, k) 3 v = S1 ∧ g_C y (g_up Y 6 k 3 v) V X S1 := ⟨_, rfl, g_C_set (r := 6) (i := k) (j := 3) v h (by omega) ⟨by omega, by omega⟩ (by omega) ⟨by omega, by omega, by omega⟩⟩
theorem c_t4 {y : Nat} {Y V : GA} {X S : QS} (h : g_C y Y V X S) {k : Nat} (hk : k < g_n (Y 0 2 0)) (h4 : k < 200) : S.1 (8, y, k) 5 = Y 6 k 4 := h.2.1 6 k 4 (by omega) ⟨by omega, by omega⟩ hk
theorem cs_t4 {y : Nat} {Y V : GA} {X S : QS} (h : g_C y Y V X S) {k : Nat} (h4 : k < 200) (v : Int32) : ∃ S1, q_set S (8, y, k) 5 v = S1 ∧ g_C y (g_up Y 6 k 4 v) V X S1 := ⟨_, rfl, g_C_set (r := 6) (i := k) (j := 4) v h (by omega) ⟨by omega, by omega⟩ (by omega) ⟨by omega, by omega, by omega⟩⟩
theorem c_t5 {y : Nat} {Y V : GA} {X S : QS} (h : g_C y Y V X S) {k : Nat} (hk : k < g_n (Y 0 2 0)) (h4 : k < 200) : S.1 (8, y, k) 6 = Y 6 k 5 := h.2.1 6 k 5 (by omega) ⟨by omega, by omega⟩ hk
theorem cs_t5 {y : Nat} {Y V : GA} {X S : QS} (h : g_C y Y V X S) {k : Nat} (h4 : k < 200) (v : Int32) : ∃ S1, q_set S (8, y, k) 6 v = S1 ∧ g_C y (g_up Y 6 k 5 v) V X S1 := ⟨_, rfl, g_C_set (r := 6) (i := k) (j := 5) v h (by omega) ⟨by omega, by omega⟩ (by omega) ⟨by omega, by omega, by omega⟩⟩
theorem c_t6 {y : Nat} {Y V : GA} {X S : QS} (h : g_C y Y V X S) {k : Nat} (hk : k < g_n (Y 0 2 0)) (h4 : k < 200) : S.1 (8, y, k) 7 = Y 6 k 6 := h.2.1 6 k 6 (by omega) ⟨by omega, by omega⟩ hk
theorem cs_t6 {y : Nat} {Y V : GA} {X S : QS} (h : g_C y Y V X S) {k : Nat} (h4 : k < 200) (v : Int32) : ∃ S1, q_set S (8, y, k) 7 v = S1 ∧ g_C y (g_up Y 6 k 6 v) V X S1 := ⟨_, rfl, g_C_set (r := 6) (i := k) (j := 6) v h (by omega) ⟨by omega, by omega⟩ (by omega) ⟨by omega, by omega, by omega⟩⟩
theorem c_t7 {y : Nat} {Y V : GA} {X S : QS} (h : g_C y Y V X S) {k : Nat} (hk : k < g_n (Y 0 2 0)) (h4 : k < 200) : S.1 (8, y, k) 8 = Y 6 k 7 := h.2.1 6 k 7 (by omega) ⟨by omega, by omega⟩ hk
theorem cs_t7 {y : Nat} {Y V : GA} {X S : QS} (h : g_C y Y V X S) {k : Nat} (h4 : k < 200) (v : Int32) : ∃ S1, q_set S (8, y, k) 8 v = S1 ∧ g_C y (g_up Y 6 k 7 v) V X S1 := ⟨_, rfl, g_C_set (r := 6) (i := k) (j := 7) v h (by omega) ⟨by omega, by omega⟩ (by omega) ⟨by omega, by omega, by omega⟩⟩
theorem c_d {y : Nat} {Y V : GA} {X S : QS} (h : g_C y Y V X S) {k : Nat} (hk : k < g_n (Y 0 2 0)) (h4 : k < 200) : S.1 (8, y, k) 4 = Y 8 k 0 := h.2.1 8 k 0 (by omega) ⟨by omega, rfl⟩ hk
theorem cs_d {y : Nat} {Y V : GA} {X S : QS} (h : g_C y Y V X S) {k : Nat} (h4 : k < 200) (v : Int32) : ∃ S1, q_set S (8, y, k) 4 v = S1 ∧ g_C y (g_up Y 8 k 0 v) V X S1 := ⟨_, rfl, g_C_set (r := 8) (i := k) (j := 0) v h (by omega) ⟨by omega, rfl⟩ (by omega) ⟨by omega, by omega, by omega⟩⟩
theorem c_p {y : Nat} {Y V : GA} {X S : QS} (h : g_C y Y V X S) {k i : Nat} (hk : k < g_n (Y 0 0 0)) (h4 : k < 40) (hi : i < 12 * g_n (Y 1 k 10)) (hi9 : i < 96) : S.1 (25, y, k) i = Y 2 k i := h.2.1 2 k i (by omega) ⟨h4, hi9⟩ ⟨hk, hi⟩
theorem cs_p {y : Nat} {Y V : GA} {X S : QS} (h : g_C y Y V X S) {k i : Nat} (h4 : k < 40) (hi9 : i < 96) (v : Int32) : ∃ S1, q_set S (25, y, k) i v = S1 ∧ g_C y (g_up Y 2 k i v) V X S1 := ⟨_, rfl, g_C_set (r := 2) (i := k) (j := i) v h (by omega) ⟨h4, hi9⟩ (by omega) ⟨by omega, by omega, by omega⟩⟩
theorem c_l {y : Nat} {Y V : GA} {X S : QS} (h : g_C y Y V X S) {k : Nat} (hk : k < g_n (Y 0 1 0)) (h4 : k < 200) : S.1 (3, y, k) 1 = Y 3 k 0 := h.2.1 3 k 0 (by omega) ⟨by omega, rfl⟩ hk
theorem c_f {y : Nat} {Y V : GA} {X S : QS} (h : g_C y Y V X S) {k i : Nat} (hk : k < g_n (Y 0 1 0)) (h4 : k < 200) (hi : i < g_n (Y 3 k 0)) (hi6 : i < 64) : S.1 (24, y, k) i = Y 4 k i := h.2.1 4 k i (by omega) ⟨h4, hi6⟩ ⟨hk, hi⟩
theorem cs_f {y : Nat} {Y V : GA} {X S : QS} (h : g_C y Y V X S) {k i : Nat} (h4 : k < 200) (hi6 : i < 64) (v : Int32) : ∃ S1, q_set S (24, y, k) i v = S1 ∧ g_C y (g_up Y 4 k i v) V X S1 := ⟨_, rfl, g_C_set (r := 4) (i := k) (j := i) v h (by omega) ⟨h4, hi6⟩ (by omega) ⟨by omega, by omega, by omega⟩⟩
theorem c_b {y : Nat} {Y V : GA} {X S : QS} (h : g_C y Y V X S) {k : Nat} (h4 : k < 24) : S.1 (39, y, 0) k = Y 5 k 0 := h.2.1 5 k 0 (by omega) ⟨by omega, rfl⟩ trivial
theorem cs_b {y : Nat} {Y V : GA} {X S : QS} (h : g_C y Y V X S) {k : Nat} (h4 : k < 24) (v : Int32) : ∃ S1, q_set S (39, y, 0) k v = S1 ∧ g_C y (g_up Y 5 k 0 v) V X S1 := ⟨_, rfl, g_C_set (r := 5) (i := k) (j := 0) v h (by omega) ⟨by omega, rfl⟩ (by omega) ⟨by omega, by omega, by omega⟩⟩
theorem c_e0 {y : Nat} {Y V : GA} {X S : QS} (h : g_C y Y V X S) {k : Nat} (hk : k < g_n (Y 0 8 0)) (h4 : k < 200) : S.1 (21, y, 0) k = Y 7 k 0 := h.2.1 7 k 0 (by omega) ⟨by omega, by omega⟩ hk
theorem cs_e0 {y : Nat} {Y V : GA} {X S : QS} (h : g_C y Y V X S) {k : Nat} (h4 : k < 200) (v : Int32) : ∃ S1, q_set S (21, y, 0) k v = S1 ∧ g_C y (g_up Y 7 k 0 v) V X S1 := ⟨_, rfl, g_C_set (r := 7) (i := k) (j := 0) v h (by omega) ⟨by omega, by omega⟩ (by omega) ⟨by omega, by omega, by omega⟩⟩
theorem c_e1 {y : Nat} {Y V : GA} {X S : QS} (h : g_C y Y V X S) {k : Nat} (hk : k < g_n (Y 0 8 0)) (h4 : k < 200) : S.1 (22, y, 0) k = Y 7 k 1 := h.2.1 7 k 1 (by omega) ⟨by omega, by omega⟩ hk
theorem cs_e1 {y : Nat} {Y V : GA} {X S : QS} (h : g_C y Y V X S) {k : Nat} (h4 : k < 200) (v : Int32) : ∃ S1, q_set S (22, y, 0) k v = S1 ∧ g_C y (g_up Y 7 k 1 v) V X S1 := ⟨_, rfl, g_C_set (r := 7) (i := k) (j := 1) v h (by omega) ⟨by omega, by omega⟩ (by omega) ⟨by omega, by omega, by omega⟩⟩
theorem c_e2 {y : Nat} {Y V : GA} {X S : QS} (h : g_C y Y V X S) {k : Nat} (hk : k < g_n (Y 0 8 0)) (h4 : k < 200) : S.1 (23, y, 0) k = Y 7 k 2 := h.2.1 7 k 2 (by omega) ⟨by omega, by omega⟩ hk
theorem cs_e2 {y : Nat} {Y V : GA} {X S : QS} (h : g_C y Y V X S) {k : Nat} (h4 : k < 200) (v : Int32) : ∃ S1, q_set S (23, y, 0) k v = S1 ∧ g_C y (g_up Y 7 k 2 v) V X S1 := ⟨_, rfl, g_C_set (r := 7) (i := k) (j := 2) v h (by omega) ⟨by omega, by omega⟩ (by omega) ⟨by omega, by omega, by omega⟩⟩
theorem c_r {y : Nat} {Y V : GA} {X S : QS} (h : g_C y Y V X S) {k : Nat} (h4 : k < 17) : S.1 (20, 0, 0) k = Y 9 k 0 := h.2.1 9 k 0 (by omega) ⟨by omega, rfl⟩ trivial
theorem cs_r {y : Nat} {Y V : GA} {X S : QS} (h : g_C y Y V X S) {k : Nat} (h4 : k < 17) (v : Int32) : ∃ S1, q_set S (20, 0, 0) k v = S1 ∧ g_C y (g_up Y 9 k 0 v) V X S1 := ⟨_, rfl, g_C_set (r := 9) (i := k) (j := 0) v h (by omega) ⟨by omega, rfl⟩ (by omega) ⟨by omega, by omega, by omega⟩⟩
theorem c_z0 {y : Nat} {Y V : GA} {X S : QS} (h : g_C y Y V X S) : S.1 (10, 0, 0) 3 = Y 10 0 0 := h.2.1 10 0 0 (by omega) ⟨by omega, rfl⟩ trivial
theorem cs_z0 {y : Nat} {Y V : GA} {X S : QS} (h : g_C y Y V X S) (v : Int32) : ∃ S1, q_set S (10, 0, 0) 3 v = S1 ∧ g_C y (g_up Y 10 0 0 v) V X S1 := ⟨_, rfl, g_C_set (r := 10) (i := 0) (j := 0) v h (by omega) ⟨by omega, rfl⟩ (by omega) ⟨by omega, by omega, by omega⟩⟩
theorem c_z1 {y : Nat} {Y V : GA} {X S : QS} (h : g_C y Y V X S) : S.1 (10, 0, 0) 4 = Y 10 1 0 := h.2.1 10 1 0 (by omega) ⟨by omega, rfl⟩ trivial
theorem cs_z1 {y : Nat} {Y V : GA} {X S : QS} (h : g_C y Y V X S) (v : Int32) : ∃ S1, q_set S (10, 0, 0) 4 v = S1 ∧ g_C y (g_up Y 10 1 0 v) V X S1 := ⟨_, rfl, g_C_set (r := 10) (i := 1) (j := 0) v h (by omega) ⟨by omega, rfl⟩ (by omega) ⟨by omega, by omega, by omega⟩⟩
theorem c_z2 {y : Nat} {Y V : GA} {X S : QS} (h : g_C y Y V X S) : S.1 (10, 0, 0) 5 = Y 10 2 0 := h.2.1 10 2 0 (by omega) ⟨by omega, rfl⟩ trivial
theorem cs_z2 {y : Nat} {Y V : GA} {X S : QS} (h : g_C y Y V X S) (v : Int32) : ∃ S1, q_set S (10, 0, 0) 5 v = S1 ∧ g_C y (g_up Y 10 2 0 v) V X S1 := ⟨_, rfl, g_C_set (r := 10) (i := 2) (j := 0) v h (by omega) ⟨by omega, rfl⟩ (by omega) ⟨by omega, by omega, by omega⟩⟩
theorem c_z3 {y : Nat} {Y V : GA} {X S : QS} (h : g_C y Y V X S) : S.1 (10, 0, 0) 2 = Y 10 3 0 := h.2.1 10 3 0 (by omega) ⟨by omega, rfl⟩ trivial
theorem c_q11 {y : Nat} {Y V : GA} {X S : QS} (h : g_C y Y V X S) {k : Nat} (h4 : k < 100) : S.1 (35, 1, 0) k = Y 11 k 0 := h.2.1 11 k 0 (by omega) ⟨by omega, rfl⟩ trivial
theorem cs_q11 {y : Nat} {Y V : GA} {X S : QS} (h : g_C y Y V X S) {k : Nat} (h4 : k < 100) (v : Int32) : ∃ S1, q_set S (35, 1, 0) k v = S1 ∧ g_C y (g_up Y 11 k 0 v) V X S1 := ⟨_, rfl, g_C_set (r := 11) (i := k) (j := 0) v h (by omega) ⟨by omega, rfl⟩ (by omega) ⟨by omega, by omega, by omega⟩⟩
theorem c_q12 {y : Nat} {Y V : GA} {X S : QS} (h : g_C y Y V X S) {k : Nat} (h4 : k < 64) : S.1 (35, 2, 0) k = Y 12 k 0 := h.2.1 12 k 0 (by omega) ⟨by omega, rfl⟩ trivial
theorem cs_q12 {y : Nat} {Y V : GA} {X S : QS} (h : g_C y Y V X S) {k : Nat} (h4 : k < 64) (v : Int32) : ∃ S1, q_set S (35, 2, 0) k v = S1 ∧ g_C y (g_up Y 12 k 0 v) V X S1 := ⟨_, rfl, g_C_set (r := 12) (i := k) (j := 0) v h (by omega) ⟨by omega, rfl⟩ (by omega) ⟨by omega, by omega, by omega⟩⟩
theorem c_q13 {y : Nat} {Y V : GA} {X S : QS} (h : g_C y Y V X S) {k : Nat} (h4 : k < 8) : S.1 (35, 0, 0) k = Y 13 k 0 := h.2.1 13 k 0 (by omega) ⟨by omega, rfl⟩ trivial
theorem cs_q13 {y : Nat} {Y V : GA} {X S : QS} (h : g_C y Y V X S) {k : Nat} (h4 : k < 8) (v : Int32) : ∃ S1, q_set S (35, 0, 0) k v = S1 ∧ g_C y (g_up Y 13 k 0 v) V X S1 := ⟨_, rfl, g_C_set (r := 13) (i := k) (j := 0) v h (by omega) ⟨by omega, rfl⟩ (by omega) ⟨by omega, by omega, by omega⟩⟩
theorem c_91 {y : Nat} {Y V : GA} {X S : QS} (h : g_C y Y V X S) {k : Nat} (hk : k < g_n (Y 0 0 0)) (h4 : k < 40) : f_91 y (nI k) S = some ((y, k), S) := by
  unfold f_91
  rw [w_in h4 (by omega), nI_clamp (by omega), h.2.2.2.1.1 k hk]
  rfl
theorem c_92 {y : Nat} {Y V : GA} {X S : QS} (h : g_C y Y V X S) {k : Nat} (hk : k < g_n (Y 0 1 0)) (h4 : k < 200) : f_92 y (nI k) S = some ((y, k), S) := by
  unfold f_92
  rw [w_in h4 (by omega), nI_clamp (by omega), h.2.2.2.1.2.1 k hk]
  rfl
theorem c_93 {y : Nat} {Y V : GA} {X S : QS} (h : g_C y Y V X S) {k : Nat} (hk : k < g_n (Y 0 2 0)) (h4 : k < 200) : f_93 y (nI k) S = some ((y, k), S) := by
  unfold f_93
  rw [w_in h4 (by omega), nI_clamp (by omega), h.2.2.2.1.2.2 k hk]
  rfl
theorem t_n0 {Y V : GA} {Z T : QS} (h : g_T Y V Z T) : T.1 (40, 0, 0) 0 = Y 0 0 0 := h.1 0 0 0 (by omega) ⟨by omega, rfl⟩
theorem ts_n0 {Y V : GA} {Z T : QS} (h : g_T Y V Z T) (v : Int32) : ∃ T1, q_set T (40, 0, 0) 0 v = T1 ∧ g_T (g_up Y 0 0 0 v) V Z T1 := ⟨_, rfl, g_T_set (r := 0) (i := 0) (j := 0) v h (by omega) ⟨by omega, rfl⟩ (by omega)⟩
theorem t_n1 {Y V : GA} {Z T : QS} (h : g_T Y V Z T) : T.1 (40, 0, 0) 1 = Y 0 1 0 := h.1 0 1 0 (by omega) ⟨by omega, rfl⟩
theorem ts_n1 {Y V : GA} {Z T : QS} (h : g_T Y V Z T) (v : Int32) : ∃ T1, q_set T (40, 0, 0) 1 v = T1 ∧ g_T (g_up Y 0 1 0 v) V Z T1 := ⟨_, rfl, g_T_set (r := 0) (i := 1) (j := 0) v h (by omega) ⟨by omega, rfl⟩ (by omega)⟩
theorem t_n2 {Y V : GA} {Z T : QS} (h : g_T Y V Z T) : T.1 (40, 0, 0) 2 = Y 0 2 0 := h.1 0 2 0 (by omega) ⟨by omega, rfl⟩
theorem ts_n2 {Y V : GA} {Z T : QS} (h : g_T Y V Z T) (v : Int32) : ∃ T1, q_set T (40, 0, 0) 2 v = T1 ∧ g_T (g_up Y 0 2 0 v) V Z T1 := ⟨_, rfl, g_T_set (r := 0) (i := 2) (j := 0) v h (by omega) ⟨by omega, rfl⟩ (by omega)⟩
theorem t_n3 {Y V : GA} {Z T : QS} (h : g_T Y V Z T) : T.1 (40, 0, 0) 3 = Y 0 3 0 := h.1 0 3 0 (by omega) ⟨by omega, rfl⟩
theorem ts_n3 {Y V : GA} {Z T : QS} (h : g_T Y V Z T) (v : Int32) : ∃ T1, q_set T (40, 0, 0) 3 v = T1 ∧ g_T (g_up Y 0 3 0 v) V Z T1 := ⟨_, rfl, g_T_set (r := 0) (i := 3) (j := 0) v h (by omega) ⟨by omega, rfl⟩ (by omega)⟩
theorem t_n4 {Y V : GA} {Z T : QS} (h : g_T Y V Z T) : T.1 (40, 0, 0) 4 = Y 0 4 0 := h.1 0 4 0 (by omega) ⟨by omega, rfl⟩
theorem ts_n4 {Y V : GA} {Z T : QS} (h : g_T Y V Z T) (v : Int32) : ∃ T1, q_set T (40, 0, 0) 4 v = T1 ∧ g_T (g_up Y 0 4 0 v) V Z T1 := ⟨_, rfl, g_T_set (r := 0) (i := 4) (j := 0) v h (by omega) ⟨by omega, rfl⟩ (by omega)⟩
theorem t_n5 {Y V : GA} {Z T : QS} (h : g_T Y V Z T) : T.1 (40, 0, 0) 5 = Y 0 5 0 := h.1 0 5 0 (by omega) ⟨by omega, rfl⟩
theorem ts_n5 {Y V : GA} {Z T : QS} (h : g_T Y V Z T) (v : Int32) : ∃ T1, q_set T (40, 0, 0) 5 v = T1 ∧ g_T (g_up Y 0 5 0 v) V Z T1 := ⟨_, rfl, g_T_set (r := 0) (i := 5) (j := 0) v h (by omega) ⟨by omega, rfl⟩ (by omega)⟩
theorem t_n6 {Y V : GA} {Z T : QS} (h : g_T Y V Z T) : T.1 (40, 0, 0) 6 = Y 0 6 0 := h.1 0 6 0 (by omega) ⟨by omega, rfl⟩
theorem ts_n6 {Y V : GA} {Z T : QS} (h : g_T Y V Z T) (v : Int32) : ∃ T1, q_set T (40, 0, 0) 6 v = T1 ∧ g_T (g_up Y 0 6 0 v) V Z T1 := ⟨_, rfl, g_T_set (r := 0) (i := 6) (j := 0) v h (by omega) ⟨by omega, rfl⟩ (by omega)⟩
theorem t_n7 {Y V : GA} {Z T : QS} (h : g_T Y V Z T) : T.1 (40, 0, 0) 7 = Y 0 7 0 := h.1 0 7 0 (by omega) ⟨by omega, rfl⟩
theorem ts_n7 {Y V : GA} {Z T : QS} (h : g_T Y V Z T) (v : Int32) : ∃ T1, q_set T (40, 0, 0) 7 v = T1 ∧ g_T (g_up Y 0 7 0 v) V Z T1 := ⟨_, rfl, g_T_set (r := 0) (i := 7) (j := 0) v h (by omega) ⟨by omega, rfl⟩ (by omega)⟩
theorem t_n8 {Y V : GA} {Z T : QS} (h : g_T Y V Z T) : T.1 (40, 0, 0) 8 = Y 0 8 0 := h.1 0 8 0 (by omega) ⟨by omega, rfl⟩
theorem ts_n8 {Y V : GA} {Z T : QS} (h : g_T Y V Z T) (v : Int32) : ∃ T1, q_set T (40, 0, 0) 8 v = T1 ∧ g_T (g_up Y 0 8 0 v) V Z T1 := ⟨_, rfl, g_T_set (r := 0) (i := 8) (j := 0) v h (by omega) ⟨by omega, rfl⟩ (by omega)⟩
theorem t_b {Y V : GA} {Z T : QS} (h : g_T Y V Z T) {k : Nat} (h4 : k < 24) : T.1 (40, 0, 0) (16850 + k) = Y 5 k 0 := h.1 5 k 0 (by omega) ⟨by omega, rfl⟩
theorem ts_b {Y V : GA} {Z T : QS} (h : g_T Y V Z T) {k : Nat} (h4 : k < 24) (v : Int32) : ∃ T1, q_set T (40, 0, 0) (16850 + k) v = T1 ∧ g_T (g_up Y 5 k 0 v) V Z T1 := ⟨_, rfl, g_T_set (r := 5) (i := k) (j := 0) v h (by omega) ⟨by omega, rfl⟩ (by omega)⟩
theorem t_p {Y V : GA} {Z T : QS} (h : g_T Y V Z T) {k i : Nat} (h4 : k < 40) (hi9 : i < 96) : T.1 (40, 0, 0) (10 + (96 * k + i)) = Y 2 k i := h.1 2 k i (by omega) ⟨h4, hi9⟩
theorem ts_p {Y V : GA} {Z T : QS} (h : g_T Y V Z T) {k i : Nat} (h4 : k < 40) (hi9 : i < 96) (v : Int32) : ∃ T1, q_set T (40, 0, 0) (10 + (96 * k + i)) v = T1 ∧ g_T (g_up Y 2 k i v) V Z T1 := ⟨_, rfl, g_T_set (r := 2) (i := k) (j := i) v h (by omega) ⟨h4, hi9⟩ (by omega)⟩
theorem t_l {Y V : GA} {Z T : QS} (h : g_T Y V Z T) {k : Nat} (h4 : k < 200) : T.1 (40, 0, 0) (3850 + k) = Y 3 k 0 := h.1 3 k 0 (by omega) ⟨by omega, rfl⟩
theorem ts_l {Y V : GA} {Z T : QS} (h : g_T Y V Z T) {k : Nat} (h4 : k < 200) (v : Int32) : ∃ T1, q_set T (40, 0, 0) (3850 + k) v = T1 ∧ g_T (g_up Y 3 k 0 v) V Z T1 := ⟨_, rfl, g_T_set (r := 3) (i := k) (j := 0) v h (by omega) ⟨by omega, rfl⟩ (by omega)⟩
theorem t_e {Y V : GA} {Z T : QS} (h : g_T Y V Z T) {k i : Nat} (h4 : k < 200) (hi : i < 3) : T.1 (40, 0, 0) (18920 + 3 * k + i) = Y 7 k i := h.1 7 k i (by omega) ⟨h4, hi⟩
theorem ts_e {Y V : GA} {Z T : QS} (h : g_T Y V Z T) {k i : Nat} (h4 : k < 200) (hi : i < 3) (v : Int32) : ∃ T1, q_set T (40, 0, 0) (18920 + 3 * k + i) v = T1 ∧ g_T (g_up Y 7 k i v) V Z T1 := ⟨_, rfl, g_T_set (r := 7) (i := k) (j := i) v h (by omega) ⟨h4, hi⟩ (by omega)⟩
theorem t_r {Y V : GA} {Z T : QS} (h : g_T Y V Z T) {k : Nat} (h4 : k < 17) : T.1 (42, 0, 0) k = Y 9 k 0 := h.1 9 k 0 (by omega) ⟨by omega, rfl⟩
theorem t_z0 {Y V : GA} {Z T : QS} (h : g_T Y V Z T) : T.1 (11, 0, 0) 5 = Y 10 0 0 := h.1 10 0 0 (by omega) ⟨by omega, rfl⟩
theorem ts_z0 {Y V : GA} {Z T : QS} (h : g_T Y V Z T) (v : Int32) : ∃ T1, q_set T (11, 0, 0) 5 v = T1 ∧ g_T (g_up Y 10 0 0 v) V Z T1 := ⟨_, rfl, g_T_set (r := 10) (i := 0) (j := 0) v h (by omega) ⟨by omega, rfl⟩ (by omega)⟩
theorem t_z1 {Y V : GA} {Z T : QS} (h : g_T Y V Z T) : T.1 (11, 0, 0) 6 = Y 10 1 0 := h.1 10 1 0 (by omega) ⟨by omega, rfl⟩
theorem ts_z1 {Y V : GA} {Z T : QS} (h : g_T Y V Z T) (v : Int32) : ∃ T1, q_set T (11, 0, 0) 6 v = T1 ∧ g_T (g_up Y 10 1 0 v) V Z T1 := ⟨_, rfl, g_T_set (r := 10) (i := 1) (j := 0) v h (by omega) ⟨by omega, rfl⟩ (by omega)⟩
theorem t_z2 {Y V : GA} {Z T : QS} (h : g_T Y V Z T) : T.1 (11, 0, 0) 3 = Y 10 2 0 := h.1 10 2 0 (by omega) ⟨by omega, rfl⟩
theorem ts_z2 {Y V : GA} {Z T : QS} (h : g_T Y V Z T) (v : Int32) : ∃ T1, q_set T (11, 0, 0) 3 v = T1 ∧ g_T (g_up Y 10 2 0 v) V Z T1 := ⟨_, rfl, g_T_set (r := 10) (i := 2) (j := 0) v h (by omega) ⟨by omega, rfl⟩ (by omega)⟩
theorem t_z3 {Y V : GA} {Z T : QS} (h : g_T Y V Z T) : T.1 (11, 0, 0) 2 = Y 10 3 0 := h.1 10 3 0 (by omega) ⟨by omega, rfl⟩
theorem t_m0 {Y V : GA} {Z T : QS} (h : g_T Y V Z T) : T.1 (11, 0, 0) 8 = Y 14 0 0 := h.1 14 0 0 (by omega) ⟨by omega, rfl⟩
theorem t_m1 {Y V : GA} {Z T : QS} (h : g_T Y V Z T) : T.1 (11, 0, 0) 10 = Y 14 1 0 := h.1 14 1 0 (by omega) ⟨by omega, rfl⟩
theorem t_m2 {Y V : GA} {Z T : QS} (h : g_T Y V Z T) : T.1 (11, 0, 0) 12 = Y 14 2 0 := h.1 14 2 0 (by omega) ⟨by omega, rfl⟩
theorem t_q11 {Y V : GA} {Z T : QS} (h : g_T Y V Z T) {k : Nat} (h4 : k < 100) : T.1 (43, 0, 0) k = Y 11 k 0 := h.1 11 k 0 (by omega) ⟨by omega, rfl⟩
theorem ts_q11 {Y V : GA} {Z T : QS} (h : g_T Y V Z T) {k : Nat} (h4 : k < 100) (v : Int32) : ∃ T1, q_set T (43, 0, 0) k v = T1 ∧ g_T (g_up Y 11 k 0 v) V Z T1 := ⟨_, rfl, g_T_set (r := 11) (i := k) (j := 0) v h (by omega) ⟨by omega, rfl⟩ (by omega)⟩
theorem t_q12 {Y V : GA} {Z T : QS} (h : g_T Y V Z T) {k : Nat} (h4 : k < 64) : T.1 (44, 0, 0) k = Y 12 k 0 := h.1 12 k 0 (by omega) ⟨by omega, rfl⟩
theorem ts_q12 {Y V : GA} {Z T : QS} (h : g_T Y V Z T) {k : Nat} (h4 : k < 64) (v : Int32) : ∃ T1, q_set T (44, 0, 0) k v = T1 ∧ g_T (g_up Y 12 k 0 v) V Z T1 := ⟨_, rfl, g_T_set (r := 12) (i := k) (j := 0) v h (by omega) ⟨by omega, rfl⟩ (by omega)⟩
theorem t_q13 {Y V : GA} {Z T : QS} (h : g_T Y V Z T) {k : Nat} (h4 : k < 8) : T.1 (45, 0, 0) k = Y 13 k 0 := h.1 13 k 0 (by omega) ⟨by omega, rfl⟩
theorem ts_q13 {Y V : GA} {Z T : QS} (h : g_T Y V Z T) {k : Nat} (h4 : k < 8) (v : Int32) : ∃ T1, q_set T (45, 0, 0) k v = T1 ∧ g_T (g_up Y 13 k 0 v) V Z T1 := ⟨_, rfl, g_T_set (r := 13) (i := k) (j := 0) v h (by omega) ⟨by omega, rfl⟩ (by omega)⟩
theorem t_190_0 {Y V : GA} {Z T : QS} (h : g_T Y V Z T) {k : Nat} (h4 : k < 40) : f_190 (nI k) 0 T = some (Y 1 k 0, T) := (r_190 (h := k) (w := 0) h4 (by omega) T).trans (by rw [h.1 1 k 0 (by omega) ⟨h4, by omega⟩ |> (fun q => (show T.1 (40, 0, 0) (16880 + 11 * k + 0) = Y 1 k 0 from q))])
theorem t_190_1 {Y V : GA} {Z T : QS} (h : g_T Y V Z T) {k : Nat} (h4 : k < 40) : f_190 (nI k) 1 T = some (Y 1 k 1, T) := (r_190 (h := k) (w := 1) h4 (by omega) T).trans (by rw [h.1 1 k 1 (by omega) ⟨h4, by omega⟩ |> (fun q => (show T.1 (40, 0, 0) (16880 + 11 * k + 1) = Y 1 k 1 from q))])
theorem t_190_2 {Y V : GA} {Z T : QS} (h : g_T Y V Z T) {k : Nat} (h4 : k < 40) : f_190 (nI k) 2 T = some (Y 1 k 2, T) := (r_190 (h := k) (w := 2) h4 (by omega) T).trans (by rw [h.1 1 k 2 (by omega) ⟨h4, by omega⟩ |> (fun q => (show T.1 (40, 0, 0) (16880 + 11 * k + 2) = Y 1 k 2 from q))])
theorem t_190_3 {Y V : GA} {Z T : QS} (h : g_T Y V Z T) {k : Nat} (h4 : k < 40) : f_190 (nI k) 3 T = some (Y 1 k 3, T) := (r_190 (h := k) (w := 3) h4 (by omega) T).trans (by rw [h.1 1 k 3 (by omega) ⟨h4, by omega⟩ |> (fun q => (show T.1 (40, 0, 0) (16880 + 11 * k + 3) = Y 1 k 3 from q))])
theorem t_190_4 {Y V : GA} {Z T : QS} (h : g_T Y V Z T) {k : Nat} (h4 : k < 40) : f_190 (nI k) 4 T = some (Y 1 k 4, T) := (r_190 (h := k) (w := 4) h4 (by omega) T).trans (by rw [h.1 1 k 4 (by omega) ⟨h4, by omega⟩ |> (fun q => (show T.1 (40, 0, 0) (16880 + 11 * k + 4) = Y 1 k 4 from q))])
theorem t_190_5 {Y V : GA} {Z T : QS} (h : g_T Y V Z T) {k : Nat} (h4 : k < 40) : f_190 (nI k) 5 T = some (Y 1 k 5, T) := (r_190 (h := k) (w := 5) h4 (by omega) T).trans (by rw [h.1 1 k 5 (by omega) ⟨h4, by omega⟩ |> (fun q => (show T.1 (40, 0, 0) (16880 + 11 * k + 5) = Y 1 k 5 from q))])
theorem t_190_6 {Y V : GA} {Z T : QS} (h : g_T Y V Z T) {k : Nat} (h4 : k < 40) : f_190 (nI k) 6 T = some (Y 1 k 6, T) := (r_190 (h := k) (w := 6) h4 (by omega) T).trans (by rw [h.1 1 k 6 (by omega) ⟨h4, by omega⟩ |> (fun q => (show T.1 (40, 0, 0) (16880 + 11 * k + 6) = Y 1 k 6 from q))])
theorem t_190_7 {Y V : GA} {Z T : QS} (h : g_T Y V Z T) {k : Nat} (h4 : k < 40) : f_190 (nI k) 7 T = some (Y 1 k 7, T) := (r_190 (h := k) (w := 7) h4 (by omega) T).trans (by rw [h.1 1 k 7 (by omega) ⟨h4, by omega⟩ |> (fun q => (show T.1 (40, 0, 0) (16880 + 11 * k + 7) = Y 1 k 7 from q))])
theorem t_190_8 {Y V : GA} {Z T : QS} (h : g_T Y V Z T) {k : Nat} (h4 : k < 40) : f_190 (nI k) 8 T = some (Y 1 k 8, T) := (r_190 (h := k) (w := 8) h4 (by omega) T).trans (by rw [h.1 1 k 8 (by omega) ⟨h4, by omega⟩ |> (fun q => (show T.1 (40, 0, 0) (16880 + 11 * k + 8) = Y 1 k 8 from q))])
theorem t_190_9 {Y V : GA} {Z T : QS} (h : g_T Y V Z T) {k : Nat} (h4 : k < 40) : f_190 (nI k) 9 T = some (Y 1 k 9, T) := (r_190 (h := k) (w := 9) h4 (by omega) T).trans (by rw [h.1 1 k 9 (by omega) ⟨h4, by omega⟩ |> (fun q => (show T.1 (40, 0, 0) (16880 + 11 * k + 9) = Y 1 k 9 from q))])
theorem t_190_10 {Y V : GA} {Z T : QS} (h : g_T Y V Z T) {k : Nat} (h4 : k < 40) : f_190 (nI k) 10 T = some (Y 1 k 10, T) := (r_190 (h := k) (w := 10) h4 (by omega) T).trans (by rw [h.1 1 k 10 (by omega) ⟨h4, by omega⟩ |> (fun q => (show T.1 (40, 0, 0) (16880 + 11 * k + 10) = Y 1 k 10 from q))])
theorem t_190 {Y V : GA} {Z T : QS} (h : g_T Y V Z T) {k w : Nat} (h4 : k < 40) (hw : w < 11) : f_190 (nI k) (nI w) T = some (Y 1 k w, T) := (r_190 (h := k) (w := w) h4 hw T).trans (by rw [show T.1 (40, 0, 0) (16880 + 11 * k + w) = Y 1 k w from h.1 1 k w (by omega) ⟨h4, hw⟩])
theorem t_191_0 {Y V : GA} {Z T : QS} (h : g_T Y V Z T) {k : Nat} (h4 : k < 40) (v : Int32) : ∃ T1, f_191 (nI k) 0 v T = some ((), T1) ∧ g_T (g_up Y 1 k 0 v) V Z T1 := ⟨_, r_191 (h := k) (w := 0) h4 (by omega) v T, g_T_set (r := 1) (i := k) (j := 0) v h (by omega) ⟨h4, by omega⟩ (by omega)⟩
theorem t_191_1 {Y V : GA} {Z T : QS} (h : g_T Y V Z T) {k : Nat} (h4 : k < 40) (v : Int32) : ∃ T1, f_191 (nI k) 1 v T = some ((), T1) ∧ g_T (g_up Y 1 k 1 v) V Z T1 := ⟨_, r_191 (h := k) (w := 1) h4 (by omega) v T, g_T_set (r := 1) (i := k) (j := 1) v h (by omega) ⟨h4, by omega⟩ (by omega)⟩
theorem t_191_2 {Y V : GA} {Z T : QS} (h : g_T Y V Z T) {k : Nat} (h4 : k < 40) (v : Int32) : ∃ T1, f_191 (nI k) 2 v T = some ((), T1) ∧ g_T (g_up Y 1 k 2 v) V Z T1 := ⟨_, r_191 (h := k) (w := 2) h4 (by omega) v T, g_T_set (r := 1) (i := k) (j := 2) v h (by omega) ⟨h4, by omega⟩ (by omega)⟩
theorem t_191_3 {Y V : GA} {Z T : QS} (h : g_T Y V Z T) {k : Nat} (h4 : k < 40) (v : Int32) : ∃ T1, f_191 (nI k) 3 v T = some ((), T1) ∧ g_T (g_up Y 1 k 3 v) V Z T1 := ⟨_, r_191 (h := k) (w := 3) h4 (by omega) v T, g_T_set (r := 1) (i := k) (j := 3) v h (by omega) ⟨h4, by omega⟩ (by omega)⟩
theorem t_191_4 {Y V : GA} {Z T : QS} (h : g_T Y V Z T) {k : Nat} (h4 : k < 40) (v : Int32) : ∃ T1, f_191 (nI k) 4 v T = some ((), T1) ∧ g_T (g_up Y 1 k 4 v) V Z T1 := ⟨_, r_191 (h := k) (w := 4) h4 (by omega) v T, g_T_set (r := 1) (i := k) (j := 4) v h (by omega) ⟨h4, by omega⟩ (by omega)⟩
theorem t_191_5 {Y V : GA} {Z T : QS} (h : g_T Y V Z T) {k : Nat} (h4 : k < 40) (v : Int32) : ∃ T1, f_191 (nI k) 5 v T = some ((), T1) ∧ g_T (g_up Y 1 k 5 v) V Z T1 := ⟨_, r_191 (h := k) (w := 5) h4 (by omega) v T, g_T_set (r := 1) (i := k) (j := 5) v h (by omega) ⟨h4, by omega⟩ (by omega)⟩
theorem t_191_6 {Y V : GA} {Z T : QS} (h : g_T Y V Z T) {k : Nat} (h4 : k < 40) (v : Int32) : ∃ T1, f_191 (nI k) 6 v T = some ((), T1) ∧ g_T (g_up Y 1 k 6 v) V Z T1 := ⟨_, r_191 (h := k) (w := 6) h4 (by omega) v T, g_T_set (r := 1) (i := k) (j := 6) v h (by omega) ⟨h4, by omega⟩ (by omega)⟩
theorem t_191_7 {Y V : GA} {Z T : QS} (h : g_T Y V Z T) {k : Nat} (h4 : k < 40) (v : Int32) : ∃ T1, f_191 (nI k) 7 v T = some ((), T1) ∧ g_T (g_up Y 1 k 7 v) V Z T1 := ⟨_, r_191 (h := k) (w := 7) h4 (by omega) v T, g_T_set (r := 1) (i := k) (j := 7) v h (by omega) ⟨h4, by omega⟩ (by omega)⟩
theorem t_191_8 {Y V : GA} {Z T : QS} (h : g_T Y V Z T) {k : Nat} (h4 : k < 40) (v : Int32) : ∃ T1, f_191 (nI k) 8 v T = some ((), T1) ∧ g_T (g_up Y 1 k 8 v) V Z T1 := ⟨_, r_191 (h := k) (w := 8) h4 (by omega) v T, g_T_set (r := 1) (i := k) (j := 8) v h (by omega) ⟨h4, by omega⟩ (by omega)⟩
theorem t_191_9 {Y V : GA} {Z T : QS} (h : g_T Y V Z T) {k : Nat} (h4 : k < 40) (v : Int32) : ∃ T1, f_191 (nI k) 9 v T = some ((), T1) ∧ g_T (g_up Y 1 k 9 v) V Z T1 := ⟨_, r_191 (h := k) (w := 9) h4 (by omega) v T, g_T_set (r := 1) (i := k) (j := 9) v h (by omega) ⟨h4, by omega⟩ (by omega)⟩
theorem t_191_10 {Y V : GA} {Z T : QS} (h : g_T Y V Z T) {k : Nat} (h4 : k < 40) (v : Int32) : ∃ T1, f_191 (nI k) 10 v T = some ((), T1) ∧ g_T (g_up Y 1 k 10 v) V Z T1 := ⟨_, r_191 (h := k) (w := 10) h4 (by omega) v T, g_T_set (r := 1) (i := k) (j := 10) v h (by omega) ⟨h4, by omega⟩ (by omega)⟩
theorem t_191 {Y V : GA} {Z T : QS} (h : g_T Y V Z T) {k w : Nat} (h4 : k < 40) (hw : w < 11) (v : Int32) : ∃ T1, f_191 (nI k) (nI w) v T = some ((), T1) ∧ g_T (g_up Y 1 k w v) V Z T1 := ⟨_, r_191 (h := k) (w := w) h4 hw v T, g_T_set (r := 1) (i := k) (j := w) v h (by omega) ⟨h4, hw⟩ (by omega)⟩
theorem t_192_0 {Y V : GA} {Z T : QS} (h : g_T Y V Z T) {k : Nat} (h4 : k < 200) : f_192 (nI k) 0 T = some (Y 6 k 0, T) := (r_192 (h := k) (w := 0) h4 (by omega) T).trans (by rw [h.1 6 k 0 (by omega) ⟨h4, by omega⟩ |> (fun q => (show T.1 (40, 0, 0) (17320 + 8 * k + 0) = Y 6 k 0 from q))])
theorem t_192_1 {Y V : GA} {Z T : QS} (h : g_T Y V Z T) {k : Nat} (h4 : k < 200) : f_192 (nI k) 1 T = some (Y 6 k 1, T) := (r_192 (h := k) (w := 1) h4 (by omega) T).trans (by rw [h.1 6 k 1 (by omega) ⟨h4, by omega⟩ |> (fun q => (show T.1 (40, 0, 0) (17320 + 8 * k + 1) = Y 6 k 1 from q))])
theorem t_192_2 {Y V : GA} {Z T : QS} (h : g_T Y V Z T) {k : Nat} (h4 : k < 200) : f_192 (nI k) 2 T = some (Y 6 k 2, T) := (r_192 (h := k) (w := 2) h4 (by omega) T).trans (by rw [h.1 6 k 2 (by omega) ⟨h4, by omega⟩ |> (fun q => (show T.1 (40, 0, 0) (17320 + 8 * k + 2) = Y 6 k 2 from q))])
theorem t_192_3 {Y V : GA} {Z T : QS} (h : g_T Y V Z T) {k : Nat} (h4 : k < 200) : f_192 (nI k) 3 T = some (Y 6 k 3, T) := (r_192 (h := k) (w := 3) h4 (by omega) T).trans (by rw [h.1 6 k 3 (by omega) ⟨h4, by omega⟩ |> (fun q => (show T.1 (40, 0, 0) (17320 + 8 * k + 3) = Y 6 k 3 from q))])
theorem t_192_4 {Y V : GA} {Z T : QS} (h : g_T Y V Z T) {k : Nat} (h4 : k < 200) : f_192 (nI k) 4 T = some (Y 6 k 4, T) := (r_192 (h := k) (w := 4) h4 (by omega) T).trans (by rw [h.1 6 k 4 (by omega) ⟨h4, by omega⟩ |> (fun q => (show T.1 (40, 0, 0) (17320 + 8 * k + 4) = Y 6 k 4 from q))])
theorem t_192_5 {Y V : GA} {Z T : QS} (h : g_T Y V Z T) {k : Nat} (h4 : k < 200) : f_192 (nI k) 5 T = some (Y 6 k 5, T) := (r_192 (h := k) (w := 5) h4 (by omega) T).trans (by rw [h.1 6 k 5 (by omega) ⟨h4, by omega⟩ |> (fun q => (show T.1 (40, 0, 0) (17320 + 8 * k + 5) = Y 6 k 5 from q))])
theorem t_192_6 {Y V : GA} {Z T : QS} (h : g_T Y V Z T) {k : Nat} (h4 : k < 200) : f_192 (nI k) 6 T = some (Y 6 k 6, T) := (r_192 (h := k) (w := 6) h4 (by omega) T).trans (by rw [h.1 6 k 6 (by omega) ⟨h4, by omega⟩ |> (fun q => (show T.1 (40, 0, 0) (17320 + 8 * k + 6) = Y 6 k 6 from q))])
theorem t_192_7 {Y V : GA} {Z T : QS} (h : g_T Y V Z T) {k : Nat} (h4 : k < 200) : f_192 (nI k) 7 T = some (Y 6 k 7, T) := (r_192 (h := k) (w := 7) h4 (by omega) T).trans (by rw [h.1 6 k 7 (by omega) ⟨h4, by omega⟩ |> (fun q => (show T.1 (40, 0, 0) (17320 + 8 * k + 7) = Y 6 k 7 from q))])
theorem t_192 {Y V : GA} {Z T : QS} (h : g_T Y V Z T) {k w : Nat} (h4 : k < 200) (hw : w < 8) : f_192 (nI k) (nI w) T = some (Y 6 k w, T) := (r_192 (h := k) (w := w) h4 hw T).trans (by rw [show T.1 (40, 0, 0) (17320 + 8 * k + w) = Y 6 k w from h.1 6 k w (by omega) ⟨h4, hw⟩])
theorem t_193_0 {Y V : GA} {Z T : QS} (h : g_T Y V Z T) {k : Nat} (h4 : k < 200) (v : Int32) : ∃ T1, f_193 (nI k) 0 v T = some ((), T1) ∧ g_T (g_up Y 6 k 0 v) V Z T1 := ⟨_, r_193 (h := k) (w := 0) h4 (by omega) v T, g_T_set (r := 6) (i := k) (j := 0) v h (by omega) ⟨h4, by omega⟩ (by omega)⟩
theorem t_193_1 {Y V : GA} {Z T : QS} (h : g_T Y V Z T) {k : Nat} (h4 : k < 200) (v : Int32) : ∃ T1, f_193 (nI k) 1 v T = some ((), T1) ∧ g_T (g_up Y 6 k 1 v) V Z T1 := ⟨_, r_193 (h := k) (w := 1) h4 (by omega) v T, g_T_set (r := 6) (i := k) (j := 1) v h (by omega) ⟨h4, by omega⟩ (by omega)⟩
theorem t_193_2 {Y V : GA} {Z T : QS} (h : g_T Y V Z T) {k : Nat} (h4 : k < 200) (v : Int32) : ∃ T1, f_193 (nI k) 2 v T = some ((), T1) ∧ g_T (g_up Y 6 k 2 v) V Z T1 := ⟨_, r_193 (h := k) (w := 2) h4 (by omega) v T, g_T_set (r := 6) (i := k) (j := 2) v h (by omega) ⟨h4, by omega⟩ (by omega)⟩
theorem t_193_3 {Y V : GA} {Z T : QS} (h : g_T Y V Z T) {k : Nat} (h4 : k < 200) (v : Int32) : ∃ T1, f_193 (nI k) 3 v T = some ((), T1) ∧ g_T (g_up Y 6 k 3 v) V Z T1 := ⟨_, r_193 (h := k) (w := 3) h4 (by omega) v T, g_T_set (r := 6) (i := k) (j := 3) v h (by omega) ⟨h4, by omega⟩ (by omega)⟩
theorem t_193_4 {Y V : GA} {Z T : QS} (h : g_T Y V Z T) {k : Nat} (h4 : k < 200) (v : Int32) : ∃ T1, f_193 (nI k) 4 v T = some ((), T1) ∧ g_T (g_up Y 6 k 4 v) V Z T1 := ⟨_, r_193 (h := k) (w := 4) h4 (by omega) v T, g_T_set (r := 6) (i := k) (j := 4) v h (by omega) ⟨h4, by omega⟩ (by omega)⟩
theorem t_193_5 {Y V : GA} {Z T : QS} (h : g_T Y V Z T) {k : Nat} (h4 : k < 200) (v : Int32) : ∃ T1, f_193 (nI k) 5 v T = some ((), T1) ∧ g_T (g_up Y 6 k 5 v) V Z T1 := ⟨_, r_193 (h := k) (w := 5) h4 (by omega) v T, g_T_set (r := 6) (i := k) (j := 5) v h (by omega) ⟨h4, by omega⟩ (by omega)⟩
theorem t_193_6 {Y V : GA} {Z T : QS} (h : g_T Y V Z T) {k : Nat} (h4 : k < 200) (v : Int32) : ∃ T1, f_193 (nI k) 6 v T = some ((), T1) ∧ g_T (g_up Y 6 k 6 v) V Z T1 := ⟨_, r_193 (h := k) (w := 6) h4 (by omega) v T, g_T_set (r := 6) (i := k) (j := 6) v h (by omega) ⟨h4, by omega⟩ (by omega)⟩
theorem t_193_7 {Y V : GA} {Z T : QS} (h : g_T Y V Z T) {k : Nat} (h4 : k < 200) (v : Int32) : ∃ T1, f_193 (nI k) 7 v T = some ((), T1) ∧ g_T (g_up Y 6 k 7 v) V Z T1 := ⟨_, r_193 (h := k) (w := 7) h4 (by omega) v T, g_T_set (r := 6) (i := k) (j := 7) v h (by omega) ⟨h4, by omega⟩ (by omega)⟩
theorem t_193 {Y V : GA} {Z T : QS} (h : g_T Y V Z T) {k w : Nat} (h4 : k < 200) (hw : w < 8) (v : Int32) : ∃ T1, f_193 (nI k) (nI w) v T = some ((), T1) ∧ g_T (g_up Y 6 k w v) V Z T1 := ⟨_, r_193 (h := k) (w := w) h4 hw v T, g_T_set (r := 6) (i := k) (j := w) v h (by omega) ⟨h4, hw⟩ (by omega)⟩
theorem t_194 {Y V : GA} {Z T : QS} (h : g_T Y V Z T) {k i : Nat} (h4 : k < 40) (hi : i < 96) : f_194 (nI (96 * k + i)) T = some (Y 2 k i, T) := (r_194 (p := 96 * k + i) (by omega) T).trans (by rw [t_p h h4 hi])
theorem t_195 {Y V : GA} {Z T : QS} (h : g_T Y V Z T) {k : Nat} (h4 : k < 200) : f_195 (nI k) T = some (Y 3 k 0, T) := (r_195 h4 T).trans (by rw [t_l h h4])
theorem t_196 {Y V : GA} {Z T : QS} (h : g_T Y V Z T) {k i : Nat} (h4 : k < 200) (hi : i < 64) : f_196 (nI k) (nI i) T = some (Y 4 k i, T) := (r_196 h4 hi T).trans (by rw [show T.1 (40, 0, 0) (4050 + 64 * k + i) = Y 4 k i from h.1 4 k i (by omega) ⟨h4, hi⟩])
theorem t_197 {Y V : GA} {Z T : QS} (h : g_T Y V Z T) {k i : Nat} (h4 : k < 200) (hi : i < 64) (v : Int32) : ∃ T1, f_197 (nI k) (nI i) v T = some ((), T1) ∧ g_T (g_up Y 4 k i v) V Z T1 := ⟨_, r_197 h4 hi v T, g_T_set (r := 4) (i := k) (j := i) v h (by omega) ⟨h4, hi⟩ (by omega)⟩
theorem t_205_0 {Y V : GA} {Z T : QS} (h : g_T Y V Z T) : ∃ T1, f_205 0 T = some ((), T1) ∧ g_T (g_up Y 9 0 0 (Y 9 0 0 + 1)) V Z T1 := ⟨_, r_205 (b := 0) (by omega) T, by rw [t_r h (k := 0) (by omega)]; exact g_T_set (r := 9) (i := 0) (j := 0) _ h (by omega) ⟨by omega, rfl⟩ (by omega)⟩
theorem t_205_1 {Y V : GA} {Z T : QS} (h : g_T Y V Z T) : ∃ T1, f_205 1 T = some ((), T1) ∧ g_T (g_up Y 9 1 0 (Y 9 1 0 + 1)) V Z T1 := ⟨_, r_205 (b := 1) (by omega) T, by rw [t_r h (k := 1) (by omega)]; exact g_T_set (r := 9) (i := 1) (j := 0) _ h (by omega) ⟨by omega, rfl⟩ (by omega)⟩
theorem t_205_2 {Y V : GA} {Z T : QS} (h : g_T Y V Z T) : ∃ T1, f_205 2 T = some ((), T1) ∧ g_T (g_up Y 9 2 0 (Y 9 2 0 + 1)) V Z T1 := ⟨_, r_205 (b := 2) (by omega) T, by rw [t_r h (k := 2) (by omega)]; exact g_T_set (r := 9) (i := 2) (j := 0) _ h (by omega) ⟨by omega, rfl⟩ (by omega)⟩
theorem t_205_3 {Y V : GA} {Z T : QS} (h : g_T Y V Z T) : ∃ T1, f_205 3 T = some ((), T1) ∧ g_T (g_up Y 9 3 0 (Y 9 3 0 + 1)) V Z T1 := ⟨_, r_205 (b := 3) (by omega) T, by rw [t_r h (k := 3) (by omega)]; exact g_T_set (r := 9) (i := 3) (j := 0) _ h (by omega) ⟨by omega, rfl⟩ (by omega)⟩
theorem t_205_4 {Y V : GA} {Z T : QS} (h : g_T Y V Z T) : ∃ T1, f_205 4 T = some ((), T1) ∧ g_T (g_up Y 9 4 0 (Y 9 4 0 + 1)) V Z T1 := ⟨_, r_205 (b := 4) (by omega) T, by rw [t_r h (k := 4) (by omega)]; exact g_T_set (r := 9) (i := 4) (j := 0) _ h (by omega) ⟨by omega, rfl⟩ (by omega)⟩
theorem t_205_5 {Y V : GA} {Z T : QS} (h : g_T Y V Z T) : ∃ T1, f_205 5 T = some ((), T1) ∧ g_T (g_up Y 9 5 0 (Y 9 5 0 + 1)) V Z T1 := ⟨_, r_205 (b := 5) (by omega) T, by rw [t_r h (k := 5) (by omega)]; exact g_T_set (r := 9) (i := 5) (j := 0) _ h (by omega) ⟨by omega, rfl⟩ (by omega)⟩
theorem t_205_6 {Y V : GA} {Z T : QS} (h : g_T Y V Z T) : ∃ T1, f_205 6 T = some ((), T1) ∧ g_T (g_up Y 9 6 0 (Y 9 6 0 + 1)) V Z T1 := ⟨_, r_205 (b := 6) (by omega) T, by rw [t_r h (k := 6) (by omega)]; exact g_T_set (r := 9) (i := 6) (j := 0) _ h (by omega) ⟨by omega, rfl⟩ (by omega)⟩
theorem t_205_7 {Y V : GA} {Z T : QS} (h : g_T Y V Z T) : ∃ T1, f_205 7 T = some ((), T1) ∧ g_T (g_up Y 9 7 0 (Y 9 7 0 + 1)) V Z T1 := ⟨_, r_205 (b := 7) (by omega) T, by rw [t_r h (k := 7) (by omega)]; exact g_T_set (r := 9) (i := 7) (j := 0) _ h (by omega) ⟨by omega, rfl⟩ (by omega)⟩
theorem t_205_8 {Y V : GA} {Z T : QS} (h : g_T Y V Z T) : ∃ T1, f_205 8 T = some ((), T1) ∧ g_T (g_up Y 9 8 0 (Y 9 8 0 + 1)) V Z T1 := ⟨_, r_205 (b := 8) (by omega) T, by rw [t_r h (k := 8) (by omega)]; exact g_T_set (r := 9) (i := 8) (j := 0) _ h (by omega) ⟨by omega, rfl⟩ (by omega)⟩
theorem t_205_9 {Y V : GA} {Z T : QS} (h : g_T Y V Z T) : ∃ T1, f_205 9 T = some ((), T1) ∧ g_T (g_up Y 9 9 0 (Y 9 9 0 + 1)) V Z T1 := ⟨_, r_205 (b := 9) (by omega) T, by rw [t_r h (k := 9) (by omega)]; exact g_T_set (r := 9) (i := 9) (j := 0) _ h (by omega) ⟨by omega, rfl⟩ (by omega)⟩
theorem t_205_10 {Y V : GA} {Z T : QS} (h : g_T Y V Z T) : ∃ T1, f_205 10 T = some ((), T1) ∧ g_T (g_up Y 9 10 0 (Y 9 10 0 + 1)) V Z T1 := ⟨_, r_205 (b := 10) (by omega) T, by rw [t_r h (k := 10) (by omega)]; exact g_T_set (r := 9) (i := 10) (j := 0) _ h (by omega) ⟨by omega, rfl⟩ (by omega)⟩
theorem t_205_11 {Y V : GA} {Z T : QS} (h : g_T Y V Z T) : ∃ T1, f_205 11 T = some ((), T1) ∧ g_T (g_up Y 9 11 0 (Y 9 11 0 + 1)) V Z T1 := ⟨_, r_205 (b := 11) (by omega) T, by rw [t_r h (k := 11) (by omega)]; exact g_T_set (r := 9) (i := 11) (j := 0) _ h (by omega) ⟨by omega, rfl⟩ (by omega)⟩
theorem t_205_12 {Y V : GA} {Z T : QS} (h : g_T Y V Z T) : ∃ T1, f_205 12 T = some ((), T1) ∧ g_T (g_up Y 9 12 0 (Y 9 12 0 + 1)) V Z T1 := ⟨_, r_205 (b := 12) (by omega) T, by rw [t_r h (k := 12) (by omega)]; exact g_T_set (r := 9) (i := 12) (j := 0) _ h (by omega) ⟨by omega, rfl⟩ (by omega)⟩
theorem t_205_13 {Y V : GA} {Z T : QS} (h : g_T Y V Z T) : ∃ T1, f_205 13 T = some ((), T1) ∧ g_T (g_up Y 9 13 0 (Y 9 13 0 + 1)) V Z T1 := ⟨_, r_205 (b := 13) (by omega) T, by rw [t_r h (k := 13) (by omega)]; exact g_T_set (r := 9) (i := 13) (j := 0) _ h (by omega) ⟨by omega, rfl⟩ (by omega)⟩
theorem t_205_14 {Y V : GA} {Z T : QS} (h : g_T Y V Z T) : ∃ T1, f_205 14 T = some ((), T1) ∧ g_T (g_up Y 9 14 0 (Y 9 14 0 + 1)) V Z T1 := ⟨_, r_205 (b := 14) (by omega) T, by rw [t_r h (k := 14) (by omega)]; exact g_T_set (r := 9) (i := 14) (j := 0) _ h (by omega) ⟨by omega, rfl⟩ (by omega)⟩
theorem t_205_15 {Y V : GA} {Z T : QS} (h : g_T Y V Z T) : ∃ T1, f_205 15 T = some ((), T1) ∧ g_T (g_up Y 9 15 0 (Y 9 15 0 + 1)) V Z T1 := ⟨_, r_205 (b := 15) (by omega) T, by rw [t_r h (k := 15) (by omega)]; exact g_T_set (r := 9) (i := 15) (j := 0) _ h (by omega) ⟨by omega, rfl⟩ (by omega)⟩
theorem t_205_16 {Y V : GA} {Z T : QS} (h : g_T Y V Z T) : ∃ T1, f_205 16 T = some ((), T1) ∧ g_T (g_up Y 9 16 0 (Y 9 16 0 + 1)) V Z T1 := ⟨_, r_205 (b := 16) (by omega) T, by rw [t_r h (k := 16) (by omega)]; exact g_T_set (r := 9) (i := 16) (j := 0) _ h (by omega) ⟨by omega, rfl⟩ (by omega)⟩
theorem w_c0 : (0 : Int32).toNatClampNeg = 0 := rfl
theorem w_v0 : v_in 0 17 = true := by decide
theorem w_c1 : (1 : Int32).toNatClampNeg = 1 := rfl
theorem w_v1 : v_in 1 17 = true := by decide
theorem w_c2 : (2 : Int32).toNatClampNeg = 2 := rfl
theorem w_v2 : v_in 2 17 = true := by decide
theorem w_c3 : (3 : Int32).toNatClampNeg = 3 := rfl
theorem w_v3 : v_in 3 17 = true := by decide
theorem w_c4 : (4 : Int32).toNatClampNeg = 4 := rfl
theorem w_v4 : v_in 4 17 = true := by decide
theorem w_c5 : (5 : Int32).toNatClampNeg = 5 := rfl
theorem w_v5 : v_in 5 17 = true := by decide
theorem w_c6 : (6 : Int32).toNatClampNeg = 6 := rfl
theorem w_v6 : v_in 6 17 = true := by decide
theorem w_c7 : (7 : Int32).toNatClampNeg = 7 := rfl
theorem w_v7 : v_in 7 17 = true := by decide
theorem w_c8 : (8 : Int32).toNatClampNeg = 8 := rfl
theorem w_v8 : v_in 8 17 = true := by decide
theorem w_c9 : (9 : Int32).toNatClampNeg = 9 := rfl
theorem w_v9 : v_in 9 17 = true := by decide
theorem w_c10 : (10 : Int32).toNatClampNeg = 10 := rfl
theorem w_v10 : v_in 10 17 = true := by decide
theorem w_c11 : (11 : Int32).toNatClampNeg = 11 := rfl
theorem w_v11 : v_in 11 17 = true := by decide
theorem w_c12 : (12 : Int32).toNatClampNeg = 12 := rfl
theorem w_v12 : v_in 12 17 = true := by decide
theorem w_c13 : (13 : Int32).toNatClampNeg = 13 := rfl
theorem w_v13 : v_in 13 17 = true := by decide
theorem w_c14 : (14 : Int32).toNatClampNeg = 14 := rfl
theorem w_v14 : v_in 14 17 = true := by decide
theorem w_c15 : (15 : Int32).toNatClampNeg = 15 := rfl
theorem w_v15 : v_in 15 17 = true := by decide
theorem w_c16 : (16 : Int32).toNatClampNeg = 16 := rfl
theorem w_v16 : v_in 16 17 = true := by decide
theorem w_i0 : v_in 0 19520 = true := by decide
theorem w_i1 : v_in 1 19520 = true := by decide
theorem w_i2 : v_in 2 19520 = true := by decide
theorem w_i3 : v_in 3 19520 = true := by decide
theorem w_i4 : v_in 4 19520 = true := by decide
theorem w_i5 : v_in 5 19520 = true := by decide
theorem w_i6 : v_in 6 19520 = true := by decide
theorem w_i7 : v_in 7 19520 = true := by decide
theorem w_i8 : v_in 8 19520 = true := by decide
