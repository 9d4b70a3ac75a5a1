/-! ===== the class's count of days goes ahead of the reference's by one: reading and writing then (by gend.py) ===== -/
def g_Cw (wd : Int32) (y : Nat) (Y V : GA) (X S : QS) : Prop := g_C y (g_up Y 0 3 0 wd) V X S
theorem d_now {wd : Int32} {y : Nat} {Y V : GA} {X S : QS} (h : g_Cw wd y Y V X S)  : S.2.2.1.1 = y := c_now (Y := g_up Y 0 3 0 wd) h 
theorem d_bef {wd : Int32} {y : Nat} {Y V : GA} {X S : QS} (h : g_Cw wd y Y V X S)  : S.2.2.1.2.1 = 1 - y := c_bef (Y := g_up Y 0 3 0 wd) h 
theorem d_n0 {wd : Int32} {y : Nat} {Y V : GA} {X S : QS} (h : g_Cw wd y Y V X S)  : S.1 (9, y, 0) 5 = Y 0 0 0 := c_n0 (Y := g_up Y 0 3 0 wd) h 
theorem d_n1 {wd : Int32} {y : Nat} {Y V : GA} {X S : QS} (h : g_Cw wd y Y V X S)  : S.1 (9, y, 0) 6 = Y 0 1 0 := c_n1 (Y := g_up Y 0 3 0 wd) h 
theorem d_n2 {wd : Int32} {y : Nat} {Y V : GA} {X S : QS} (h : g_Cw wd y Y V X S)  : S.1 (9, y, 0) 7 = Y 0 2 0 := c_n2 (Y := g_up Y 0 3 0 wd) h 
theorem d_n4 {wd : Int32} {y : Nat} {Y V : GA} {X S : QS} (h : g_Cw wd y Y V X S)  : S.1 (9, y, 0) 9 = Y 0 4 0 := c_n4 (Y := g_up Y 0 3 0 wd) h 
theorem ds_n4 {wd : Int32} {y : Nat} {Y V : GA} {X S : QS} (h : g_Cw wd y Y V X S) (v : Int32) : ∃ S1, q_set S (9, y, 0) 9 v = S1 ∧ g_Cw wd y (g_up Y 0 4 0 v) V X S1 := by
  obtain ⟨S1, e1, h1⟩ := cs_n4 (Y := g_up Y 0 3 0 wd) h v
  rw [g_up_comm (fun q => by omega)] at h1
  exact ⟨S1, e1, h1⟩
theorem d_n5 {wd : Int32} {y : Nat} {Y V : GA} {X S : QS} (h : g_Cw wd y Y V X S)  : S.1 (9, y, 0) 10 = Y 0 5 0 := c_n5 (Y := g_up Y 0 3 0 wd) h 
theorem ds_n5 {wd : Int32} {y : Nat} {Y V : GA} {X S : QS} (h : g_Cw wd y Y V X S) (v : Int32) : ∃ S1, q_set S (9, y, 0) 10 v = S1 ∧ g_Cw wd y (g_up Y 0 5 0 v) V X S1 := by
  obtain ⟨S1, e1, h1⟩ := cs_n5 (Y := g_up Y 0 3 0 wd) h v
  rw [g_up_comm (fun q => by omega)] at h1
  exact ⟨S1, e1, h1⟩
theorem d_n6 {wd : Int32} {y : Nat} {Y V : GA} {X S : QS} (h : g_Cw wd y Y V X S)  : S.1 (9, y, 0) 11 = Y 0 6 0 := c_n6 (Y := g_up Y 0 3 0 wd) h 
theorem ds_n6 {wd : Int32} {y : Nat} {Y V : GA} {X S : QS} (h : g_Cw wd y Y V X S) (v : Int32) : ∃ S1, q_set S (9, y, 0) 11 v = S1 ∧ g_Cw wd y (g_up Y 0 6 0 v) V X S1 := by
  obtain ⟨S1, e1, h1⟩ := cs_n6 (Y := g_up Y 0 3 0 wd) h v
  rw [g_up_comm (fun q => by omega)] at h1
  exact ⟨S1, e1, h1⟩
theorem d_n7 {wd : Int32} {y : Nat} {Y V : GA} {X S : QS} (h : g_Cw wd y Y V X S)  : S.1 (9, y, 0) 12 = Y 0 7 0 := c_n7 (Y := g_up Y 0 3 0 wd) h 
theorem ds_n7 {wd : Int32} {y : Nat} {Y V : GA} {X S : QS} (h : g_Cw wd y Y V X S) (v : Int32) : ∃ S1, q_set S (9, y, 0) 12 v = S1 ∧ g_Cw wd y (g_up Y 0 7 0 v) V X S1 := by
  obtain ⟨S1, e1, h1⟩ := cs_n7 (Y := g_up Y 0 3 0 wd) h v
  rw [g_up_comm (fun q => by omega)] at h1
  exact ⟨S1, e1, h1⟩
theorem d_n8 {wd : Int32} {y : Nat} {Y V : GA} {X S : QS} (h : g_Cw wd y Y V X S)  : S.1 (2, y, 0) 3 = Y 0 8 0 := c_n8 (Y := g_up Y 0 3 0 wd) h 
theorem d_h0 {wd : Int32} {y : Nat} {Y V : GA} {X S : QS} (h : g_Cw wd y Y V X S) {k : Nat} (hk : k < g_n (Y 0 0 0)) (h4 : k < 40) : S.1 (4, y, k) 2 = Y 1 k 0 := c_h0 (Y := g_up Y 0 3 0 wd) h hk h4
theorem ds_h0 {wd : Int32} {y : Nat} {Y V : GA} {X S : QS} (h : g_Cw wd y Y V X S) {k : Nat} (h4 : k < 40) (v : Int32) : ∃ S1, q_set S (4, y, k) 2 v = S1 ∧ g_Cw wd y (g_up Y 1 k 0 v) V X S1 := by
  obtain ⟨S1, e1, h1⟩ := cs_h0 (Y := g_up Y 0 3 0 wd) h h4 v
  rw [g_up_comm (fun q => by omega)] at h1
  exact ⟨S1, e1, h1⟩
theorem d_h1 {wd : Int32} {y : Nat} {Y V : GA} {X S : QS} (h : g_Cw wd y Y V X S) {k : Nat} (hk : k < g_n (Y 0 0 0)) (h4 : k < 40) : S.1 (4, y, k) 3 = Y 1 k 1 := c_h1 (Y := g_up Y 0 3 0 wd) h hk h4
theorem ds_h1 {wd : Int32} {y : Nat} {Y V : GA} {X S : QS} (h : g_Cw wd y Y V X S) {k : Nat} (h4 : k < 40) (v : Int32) : ∃ S1, q_set S (4, y, k) 3 v = S1 ∧ g_Cw wd y (g_up Y 1 k 1 v) V X S1 := by
  obtain ⟨S1, e1, h1⟩ := cs_h1 (Y := g_up Y 0 3 0 wd) h h4 v
  rw [g_up_comm (fun q => by omega)] at h1
  exact ⟨S1, e1, h1⟩
theorem d_h2 {wd : Int32} {y : Nat} {Y V : GA} {X S : QS} (h : g_Cw wd y Y V X S) {k : Nat} (hk : k < g_n (Y 0 0 0)) (h4 : k < 40) : S.1 (4, y, k) 4 = Y 1 k 2 := c_h2 (Y := g_up Y 0 3 0 wd) h hk h4
theorem ds_h2 {wd : Int32} {y : Nat} {Y V : GA} {X S : QS} (h : g_Cw wd y Y V X S) {k : Nat} (h4 : k < 40) (v : Int32) : ∃ S1, q_set S (4, y, k) 4 v = S1 ∧ g_Cw wd y (g_up Y 1 k 2 v) V X S1 := by
  obtain ⟨S1, e1, h1⟩ := cs_h2 (Y := g_up Y 0 3 0 wd) h h4 v
  rw [g_up_comm (fun q => by omega)] at h1
  exact ⟨S1, e1, h1⟩
theorem d_h3 {wd : Int32} {y : Nat} {Y V : GA} {X S : QS} (h : g_Cw wd y Y V X S) {k : Nat} (hk : k < g_n (Y 0 0 0)) (h4 : k < 40) : S.1 (4, y, k) 5 = Y 1 k 3 := c_h3 (Y := g_up Y 0 3 0 wd) h hk h4
theorem ds_h3 {wd : Int32} {y : Nat} {Y V : GA} {X S : QS} (h : g_Cw wd y Y V X S) {k : Nat} (h4 : k < 40) (v : Int32) : ∃ S1, q_set S (4, y, k) 5 v = S1 ∧ g_Cw wd y (g_up Y 1 k 3 v) V X S1 := by
  obtain ⟨S1, e1, h1⟩ := cs_h3 (Y := g_up Y 0 3 0 wd) h h4 v
  rw [g_up_comm (fun q => by omega)] at h1
  exact ⟨S1, e1, h1⟩
theorem d_h4 {wd : Int32} {y : Nat} {Y V : GA} {X S : QS} (h : g_Cw wd y Y V X S) {k : Nat} (hk : k < g_n (Y 0 0 0)) (h4 : k < 40) : S.1 (4, y, k) 6 = Y 1 k 4 := c_h4 (Y := g_up Y 0 3 0 wd) h hk h4
theorem ds_h4 {wd : Int32} {y : Nat} {Y V : GA} {X S : QS} (h : g_Cw wd y Y V X S) {k : Nat} (h4 : k < 40) (v : Int32) : ∃ S1, q_set S (4, y, k) 6 v = S1 ∧ g_Cw wd y (g_up Y 1 k 4 v) V X S1 := by
  obtain ⟨S1, e1, h1⟩ := cs_h4 (Y := g_up Y 0 3 0 wd) h h4 v
  rw [g_up_comm (fun q => by omega)] at h1
  exact ⟨S1, e1, h1⟩
theorem d_h5 {wd : Int32} {y : Nat} {Y V : GA} {X S : QS} (h : g_Cw wd y Y V X S) {k : Nat} (hk : k < g_n (Y 0 0 0)) (h4 : k < 40) : S.1 (4, y, k) 7 = Y 1 k 5 := c_h5 (Y := g_up Y 0 3 0 wd) h hk h4
theorem ds_h5 {wd : Int32} {y : Nat} {Y V : GA} {X S : QS} (h : g_Cw wd y Y V X S) {k : Nat} (h4 : k < 40) (v : Int32) : ∃ S1, q_set S (4, y, k) 7 v = S1 ∧ g_Cw wd y (g_up Y 1 k 5 v) V X S1 := by
  obtain ⟨S1, e1, h1⟩ := cs_h5 (Y := g_up Y 0 3 0 wd) h h4 v
  rw [g_up_comm (fun q => by omega)] at h1
  exact ⟨S1, e1, h1⟩
theorem d_h6 {wd : Int32} {y : Nat} {Y V : GA} {X S : QS} (h : g_Cw wd y Y V X S) {k : Nat} (hk : k < g_n (Y 0 0 0)) (h4 : k < 40) : S.1 (4, y, k) 8 = Y 1 k 6 := c_h6 (Y := g_up Y 0 3 0 wd) h hk h4
theorem ds_h6 {wd : Int32} {y : Nat} {Y V : GA} {X S : QS} (h : g_Cw wd y Y V X S) {k : Nat} (h4 : k < 40) (v : Int32) : ∃ S1, q_set S (4, y, k) 8 v = S1 ∧ g_Cw wd y (g_up Y 1 k 6 v) V X S1 := by
  obtain ⟨S1, e1, h1⟩ := cs_h6 (Y := g_up Y 0 3 0 wd) h h4 v
  rw [g_up_comm (fun q => by omega)] at h1
  exact ⟨S1, e1, h1⟩
theorem d_h7 {wd : Int32} {y : Nat} {Y V : GA} {X S : QS} (h : g_Cw wd y Y V X S) {k : Nat} (hk : k < g_n (Y 0 0 0)) (h4 : k < 40) : S.1 (4, y, k) 9 = Y 1 k 7 := c_h7 (Y := g_up Y 0 3 0 wd) h hk h4
theorem ds_h7 {wd : Int32} {y : Nat} {Y V : GA} {X S : QS} (h : g_Cw wd y Y V X S) {k : Nat} (h4 : k < 40) (v : Int32) : ∃ S1, q_set S (4, y, k) 9 v = S1 ∧ g_Cw wd y (g_up Y 1 k 7 v) V X S1 := by
  obtain ⟨S1, e1, h1⟩ := cs_h7 (Y := g_up Y 0 3 0 wd) h h4 v
  rw [g_up_comm (fun q => by omega)] at h1
  exact ⟨S1, e1, h1⟩
theorem d_h8 {wd : Int32} {y : Nat} {Y V : GA} {X S : QS} (h : g_Cw wd y Y V X S) {k : Nat} (hk : k < g_n (Y 0 0 0)) (h4 : k < 40) : S.1 (4, y, k) 10 = Y 1 k 8 := c_h8 (Y := g_up Y 0 3 0 wd) h hk h4
theorem ds_h8 {wd : Int32} {y : Nat} {Y V : GA} {X S : QS} (h : g_Cw wd y Y V X S) {k : Nat} (h4 : k < 40) (v : Int32) : ∃ S1, q_set S (4, y, k) 10 v = S1 ∧ g_Cw wd y (g_up Y 1 k 8 v) V X S1 := by
  obtain ⟨S1, e1, h1⟩ := cs_h8 (Y := g_up Y 0 3 0 wd) h h4 v
  rw [g_up_comm (fun q => by omega)] at h1
  exact ⟨S1, e1, h1⟩
theorem d_h9 {wd : Int32} {y : Nat} {Y V : GA} {X S : QS} (h : g_Cw wd y Y V X S) {k : Nat} (hk : k < g_n (Y 0 0 0)) (h4 : k < 40) : S.1 (4, y, k) 11 = Y 1 k 9 := c_h9 (Y := g_up Y 0 3 0 wd) h hk h4
theorem ds_h9 {wd : Int32} {y : Nat} {Y V : GA} {X S : QS} (h : g_Cw wd y Y V X S) {k : Nat} (h4 : k < 40) (v : Int32) : ∃ S1, q_set S (4, y, k) 11 v = S1 ∧ g_Cw wd y (g_up Y 1 k 9 v) V X S1 := by
  obtain ⟨S1, e1, h1⟩ := cs_h9 (Y := g_up Y 0 3 0 wd) h h4 v
  rw [g_up_comm (fun q => by omega)] at h1
  exact ⟨S1, e1, h1⟩
theorem d_h10 {wd : Int32} {y : Nat} {Y V : GA} {X S : QS} (h : g_Cw wd y Y V X S) {k : Nat} (hk : k < g_n (Y 0 0 0)) (h4 : k < 40) : S.1 (4, y, k) 1 = Y 1 k 10 := c_h10 (Y := g_up Y 0 3 0 wd) h hk h4
theorem d_t0 {wd : Int32} {y : Nat} {Y V : GA} {X S : QS} (h : g_Cw wd y Y V X S) {k : Nat} (hk : k < g_n (Y 0 2 0)) (h4 : k < 200) : S.1 (8, y, k) 0 = Y 6 k 0 := c_t0 (Y := g_up Y 0 3 0 wd) h hk h4
theorem ds_t0 {wd : Int32} {y : Nat} {Y V : GA} {X S : QS} (h : g_Cw wd y Y V X S) {k : Nat} (h4 : k < 200) (v : Int32) : ∃ S1, q_set S (8, y, k) 0 v = S1 ∧ g_Cw wd y (g_up Y 6 k 0 v) V X S1 := by
  obtain ⟨S1, e1, h1⟩ := cs_t0 (Y := g_up Y 0 3 0 wd) h h4 v
  rw [g_up_comm (fun q => by omega)] at h1
  exact ⟨S1, e1, h1⟩
theorem d_t1 {wd : Int32} {y : Nat} {Y V : GA} {X S : QS} (h : g_Cw wd y Y V X S) {k : Nat} (hk : k < g_n (Y 0 2 0)) (h4 : k < 200) : S.1 (8, y, k) 1 = Y 6 k 1 := c_t1 (Y := g_up Y 0 3 0 wd) h hk h4
theorem ds_t1 {wd : Int32} {y : Nat} {Y V : GA} {X S : QS} (h : g_Cw wd y Y V X S) {k : Nat} (h4 : k < 200) (v : Int32) : ∃ S1, q_set S (8, y, k) 1 v = S1 ∧ g_Cw wd y (g_up Y 6 k 1 v) V X S1 := by
  obtain ⟨S1, e1, h1⟩ := cs_t1 (Y := g_up Y 0 3 0 wd) h h4 v
  rw [g_up_comm (fun q => by omega)] at h1
  exact ⟨S1, e1, h1⟩
theorem d_t2 {wd : Int32} {y : Nat} {Y V : GA} {X S : QS} (h : g_Cw wd y Y V X S) {k : Nat} (hk : k < g_n (Y 0 2 0)) (h4 : k < 200) : S.1 (8, y, k) 2 = Y 6 k 2 := c_t2 (Y := g_up Y 0 3 0 wd) h hk h4
theorem ds_t2 {wd : Int32} {y : Nat} {Y V : GA} {X S : QS} (h : g_Cw wd y Y V X S) {k : Nat} (h4 : k < 200) (v : Int32) : ∃ S1, q_set S (8, y, k) 2 v = S1 ∧ g_Cw wd y (g_up Y 6 k 2 v) V X S1 := by
  obtain ⟨S1, e1, h1⟩ := cs_t2 (Y := g_up Y 0 3 0 wd) h h4 v
  rw [g_up_comm (fun q => by omega)] at h1
  exact ⟨S1, e1, h1⟩
theorem d_t3 {wd : Int32} {y : Nat} {Y V : GA} {X S : QS} (h : g_Cw wd y Y V X S) {k : Nat} (hk : k < g_n (Y 0 2 0)) (h4 : k < 200) : S.1 (8, y, k) 3 = Y 6 k 3 := c_t3 (Y := g_up Y 0 3 0 wd) h hk h4
theorem ds_t3 {wd : Int32} {y : Nat} {Y V : GA} {X S : QS} (h : g_Cw wd y Y V X S) {k : Nat} (h4 : k < 200) (v : Int32) : ∃ S1, q_set S (8, y, k) 3 v = S1 ∧ g_Cw wd y (g_up Y 6 k 3 v) V X S1 := by
  obtain ⟨S1, e1, h1⟩ := cs_t3 (Y := g_up Y 0 3 0 wd) h h4 v
  rw [g_up_comm (fun q => by omega)] at h1
  exact ⟨S1, e1, h1⟩
theorem d_t4 {wd : Int32} {y : Nat} {Y V : GA} {X S : QS} (h : g_Cw wd y Y V X S) {k : Nat} (hk : k < g_n (Y 0 2 0)) (h4 : k < 200) : S.1 (8, y, k) 5 = Y 6 k 4 := c_t4 (Y := g_up Y 0 3 0 wd) h hk h4
theorem ds_t4 {wd : Int32} {y : Nat} {Y V : GA} {X S : QS} (h : g_Cw wd y Y V X S) {k : Nat} (h4 : k < 200) (v : Int32) : ∃ S1, q_set S (8, y, k) 5 v = S1 ∧ g_Cw wd y (g_up Y 6 k 4 v) V X S1 := by
  obtain ⟨S1, e1, h1⟩ := cs_t4 (Y := g_up Y 0 3 0 wd) h h4 v
  rw [g_up_comm (fun q => by omega)] at h1
  exact ⟨S1, e1, h1⟩
theorem d_t5 {wd : Int32} {y : Nat} {Y V : GA} {X S : QS} (h : g_Cw wd y Y V X S) {k : Nat} (hk : k < g_n (Y 0 2 0)) (h4 : k < 200) : S.1 (8, y, k) 6 = Y 6 k 5 := c_t5 (Y := g_up Y 0 3 0 wd) h hk h4
theorem ds_t5 {wd : Int32} {y : Nat} {Y V : GA} {X S : QS} (h : g_Cw wd y Y V X S) {k : Nat} (h4 : k < 200) (v : Int32) : ∃ S1, q_set S (8, y, k) 6 v = S1 ∧ g_Cw wd y (g_up Y 6 k 5 v) V X S1 := by
  obtain ⟨S1, e1, h1⟩ := cs_t5 (Y := g_up Y 0 3 0 wd) h h4 v
  rw [g_up_comm (fun q => by omega)] at h1
  exact ⟨S1, e1, h1⟩
theorem d_t6 {wd : Int32} {y : Nat} {Y V : GA} {X S : QS} (h : g_Cw wd y Y V X S) {k : Nat} (hk : k < g_n (Y 0 2 0)) (h4 : k < 200) : S.1 (8, y, k) 7 = Y 6 k 6 := c_t6 (Y := g_up Y 0 3 0 wd) h hk h4
theorem ds_t6 {wd : Int32} {y : Nat} {Y V : GA} {X S : QS} (h : g_Cw wd y Y V X S) {k : Nat} (h4 : k < 200) (v : Int32) : ∃ S1, q_set S (8, y, k) 7 v = S1 ∧ g_Cw wd y (g_up Y 6 k 6 v) V X S1 := by
  obtain ⟨S1, e1, h1⟩ := cs_t6 (Y := g_up Y 0 3 0 wd) h h4 v
  rw [g_up_comm (fun q => by omega)] at h1
  exact ⟨S1, e1, h1⟩
theorem d_t7 {wd : Int32} {y : Nat} {Y V : GA} {X S : QS} (h : g_Cw wd y Y V X S) {k : Nat} (hk : k < g_n (Y 0 2 0)) (h4 : k < 200) : S.1 (8, y, k) 8 = Y 6 k 7 := c_t7 (Y := g_up Y 0 3 0 wd) h hk h4
theorem ds_t7 {wd : Int32} {y : Nat} {Y V : GA} {X S : QS} (h : g_Cw wd y Y V X S) {k : Nat} (h4 : k < 200) (v : Int32) : ∃ S1, q_set S (8, y, k) 8 v = S1 ∧ g_Cw wd y (g_up Y 6 k 7 v) V X S1 := by
  obtain ⟨S1, e1, h1⟩ := cs_t7 (Y := g_up Y 0 3 0 wd) h h4 v
  rw [g_up_comm (fun q => by omega)] at h1
  exact ⟨S1, e1, h1⟩
theorem d_d {wd : Int32} {y : Nat} {Y V : GA} {X S : QS} (h : g_Cw wd y Y V X S) {k : Nat} (hk : k < g_n (Y 0 2 0)) (h4 : k < 200) : S.1 (8, y, k) 4 = Y 8 k 0 := c_d (Y := g_up Y 0 3 0 wd) h hk h4
theorem ds_d {wd : Int32} {y : Nat} {Y V : GA} {X S : QS} (h : g_Cw wd y Y V X S) {k : Nat} (h4 : k < 200) (v : Int32) : ∃ S1, q_set S (8, y, k) 4 v = S1 ∧ g_Cw wd y (g_up Y 8 k 0 v) V X S1 := by
  obtain ⟨S1, e1, h1⟩ := cs_d (Y := g_up Y 0 3 0 wd) h h4 v
  rw [g_up_comm (fun q => by omega)] at h1
  exact ⟨S1, e1, h1⟩
theorem d_p {wd : Int32} {y : Nat} {Y V : GA} {X S : QS} (h : g_Cw wd y Y V X S) {k i : Nat} (hk : k < g_n (Y 0 0 0)) (h4 : k < 40) (hi : i < 12 * g_n (Y 1 k 10)) (hi9 : i < 96) : S.1 (25, y, k) i = Y 2 k i := c_p (Y := g_up Y 0 3 0 wd) h hk h4 hi hi9
theorem ds_p {wd : Int32} {y : Nat} {Y V : GA} {X S : QS} (h : g_Cw wd y Y V X S) {k i : Nat} (h4 : k < 40) (hi9 : i < 96) (v : Int32) : ∃ S1, q_set S (25, y, k) i v = S1 ∧ g_Cw wd y (g_up Y 2 k i v) V X S1 := by
  obtain ⟨S1, e1, h1⟩ := cs_p (Y := g_up Y 0 3 0 wd) h h4 hi9 v
  rw [g_up_comm (fun q => by omega)] at h1
  exact ⟨S1, e1, h1⟩
theorem d_l {wd : Int32} {y : Nat} {Y V : GA} {X S : QS} (h : g_Cw wd y Y V X S) {k : Nat} (hk : k < g_n (Y 0 1 0)) (h4 : k < 200) : S.1 (3, y, k) 1 = Y 3 k 0 := c_l (Y := g_up Y 0 3 0 wd) h hk h4
theorem d_f {wd : Int32} {y : Nat} {Y V : GA} {X S : QS} (h : g_Cw wd y Y V X S) {k i : Nat} (hk : k < g_n (Y 0 1 0)) (h4 : k < 200) (hi : i < g_n (Y 3 k 0)) (hi6 : i < 64) : S.1 (24, y, k) i = Y 4 k i := c_f (Y := g_up Y 0 3 0 wd) h hk h4 hi hi6
theorem ds_f {wd : Int32} {y : Nat} {Y V : GA} {X S : QS} (h : g_Cw wd y Y V X S) {k i : Nat} (h4 : k < 200) (hi6 : i < 64) (v : Int32) : ∃ S1, q_set S (24, y, k) i v = S1 ∧ g_Cw wd y (g_up Y 4 k i v) V X S1 := by
  obtain ⟨S1, e1, h1⟩ := cs_f (Y := g_up Y 0 3 0 wd) h h4 hi6 v
  rw [g_up_comm (fun q => by omega)] at h1
  exact ⟨S1, e1, h1⟩
theorem d_b {wd : Int32} {y : Nat} {Y V : GA} {X S : QS} (h : g_Cw wd y Y V X S) {k : Nat} (h4 : k < 24) : S.1 (39, y, 0) k = Y 5 k 0 := c_b (Y := g_up Y 0 3 0 wd) h h4
theorem ds_b {wd : Int32} {y : Nat} {Y V : GA} {X S : QS} (h : g_Cw wd y Y V X S) {k : Nat} (h4 : k < 24) (v : Int32) : ∃ S1, q_set S (39, y, 0) k v = S1 ∧ g_Cw wd y (g_up Y 5 k 0 v) V X S1 := by
  obtain ⟨S1, e1, h1⟩ := cs_b (Y := g_up Y 0 3 0 wd) h h4 v
  rw [g_up_comm (fun q => by omega)] at h1
  exact ⟨S1, e1, h1⟩
theorem d_e0 {wd : Int32} {y : Nat} {Y V : GA} {X S : QS} (h : g_Cw wd y Y V X S) {k : Nat} (hk : k < g_n (Y 0 8 0)) (h4 : k < 200) : S.1 (21, y, 0) k = Y 7 k 0 := c_e0 (Y := g_up Y 0 3 0 wd) h hk h4
theorem ds_e0 {wd : Int32} {y : Nat} {Y V : GA} {X S : QS} (h : g_Cw wd y Y V X S) {k : Nat} (h4 : k < 200) (v : Int32) : ∃ S1, q_set S (21, y, 0) k v = S1 ∧ g_Cw wd y (g_up Y 7 k 0 v) V X S1 := by
  obtain ⟨S1, e1, h1⟩ := cs_e0 (Y := g_up Y 0 3 0 wd) h h4 v
  rw [g_up_comm (fun q => by omega)] at h1
  exact ⟨S1, e1, h1⟩
theorem d_e1 {wd : Int32} {y : Nat} {Y V : GA} {X S : QS} (h : g_Cw wd y Y V X S) {k : Nat} (hk : k < g_n (Y 0 8 0)) (h4 : k < 200) : S.1 (22, y, 0) k = Y 7 k 1 := c_e1 (Y := g_up Y 0 3 0 wd) h hk h4
theorem ds_e1 {wd : Int32} {y : Nat} {Y V : GA} {X S : QS} (h : g_Cw wd y Y V X S) {k : Nat} (h4 : k < 200) (v : Int32) : ∃ S1, q_set S (22, y, 0) k v = S1 ∧ g_Cw wd y (g_up Y 7 k 1 v) V X S1 := by
  obtain ⟨S1, e1, h1⟩ := cs_e1 (Y := g_up Y 0 3 0 wd) h h4 v
  rw [g_up_comm (fun q => by omega)] at h1
  exact ⟨S1, e1, h1⟩
theorem d_e2 {wd : Int32} {y : Nat} {Y V : GA} {X S : QS} (h : g_Cw wd y Y V X S) {k : Nat} (hk : k < g_n (Y 0 8 0)) (h4 : k < 200) : S.1 (23, y, 0) k = Y 7 k 2 := c_e2 (Y := g_up Y 0 3 0 wd) h hk h4
theorem ds_e2 {wd : Int32} {y : Nat} {Y V : GA} {X S : QS} (h : g_Cw wd y Y V X S) {k : Nat} (h4 : k < 200) (v : Int32) : ∃ S1, q_set S (23, y, 0) k v = S1 ∧ g_Cw wd y (g_up Y 7 k 2 v) V X S1 := by
  obtain ⟨S1, e1, h1⟩ := cs_e2 (Y := g_up Y 0 3 0 wd) h h4 v
  rw [g_up_comm (fun q => by omega)] at h1
  exact ⟨S1, e1, h1⟩
theorem d_r {wd : Int32} {y : Nat} {Y V : GA} {X S : QS} (h : g_Cw wd y Y V X S) {k : Nat} (h4 : k < 17) : S.1 (20, 0, 0) k = Y 9 k 0 := c_r (Y := g_up Y 0 3 0 wd) h h4
theorem ds_r {wd : Int32} {y : Nat} {Y V : GA} {X S : QS} (h : g_Cw wd y Y V X S) {k : Nat} (h4 : k < 17) (v : Int32) : ∃ S1, q_set S (20, 0, 0) k v = S1 ∧ g_Cw wd y (g_up Y 9 k 0 v) V X S1 := by
  obtain ⟨S1, e1, h1⟩ := cs_r (Y := g_up Y 0 3 0 wd) h h4 v
  rw [g_up_comm (fun q => by omega)] at h1
  exact ⟨S1, e1, h1⟩
theorem d_z0 {wd : Int32} {y : Nat} {Y V : GA} {X S : QS} (h : g_Cw wd y Y V X S)  : S.1 (10, 0, 0) 3 = Y 10 0 0 := c_z0 (Y := g_up Y 0 3 0 wd) h 
theorem ds_z0 {wd : Int32} {y : Nat} {Y V : GA} {X S : QS} (h : g_Cw wd y Y V X S) (v : Int32) : ∃ S1, q_set S (10, 0, 0) 3 v = S1 ∧ g_Cw wd y (g_up Y 10 0 0 v) V X S1 := by
  obtain ⟨S1, e1, h1⟩ := cs_z0 (Y := g_up Y 0 3 0 wd) h v
  rw [g_up_comm (fun q => by omega)] at h1
  exact ⟨S1, e1, h1⟩
theorem d_z1 {wd : Int32} {y : Nat} {Y V : GA} {X S : QS} (h : g_Cw wd y Y V X S)  : S.1 (10, 0, 0) 4 = Y 10 1 0 := c_z1 (Y := g_up Y 0 3 0 wd) h 
theorem ds_z1 {wd : Int32} {y : Nat} {Y V : GA} {X S : QS} (h : g_Cw wd y Y V X S) (v : Int32) : ∃ S1, q_set S (10, 0, 0) 4 v = S1 ∧ g_Cw wd y (g_up Y 10 1 0 v) V X S1 := by
  obtain ⟨S1, e1, h1⟩ := cs_z1 (Y := g_up Y 0 3 0 wd) h v
  rw [g_up_comm (fun q => by omega)] at h1
  exact ⟨S1, e1, h1⟩
theorem d_z2 {wd : Int32} {y : Nat} {Y V : GA} {X S : QS} (h : g_Cw wd y Y V X S)  : S.1 (10, 0, 0) 5 = Y 10 2 0 := c_z2 (Y := g_up Y 0 3 0 wd) h 
theorem ds_z2 {wd : Int32} {y : Nat} {Y V : GA} {X S : QS} (h : g_Cw wd y Y V X S) (v : Int32) : ∃ S1, q_set S (10, 0, 0) 5 v = S1 ∧ g_Cw wd y (g_up Y 10 2 0 v) V X S1 := by
  obtain ⟨S1, e1, h1⟩ := cs_z2 (Y := g_up Y 0 3 0 wd) h v
  rw [g_up_comm (fun q => by omega)] at h1
  exact ⟨S1, e1, h1⟩
theorem d_z3 {wd : Int32} {y : Nat} {Y V : GA} {X S : QS} (h : g_Cw wd y Y V X S)  : S.1 (10, 0, 0) 2 = Y 10 3 0 := c_z3 (Y := g_up Y 0 3 0 wd) h 
theorem d_q11 {wd : Int32} {y : Nat} {Y V : GA} {X S : QS} (h : g_Cw wd y Y V X S) {k : Nat} (h4 : k < 100) : S.1 (35, 1, 0) k = Y 11 k 0 := c_q11 (Y := g_up Y 0 3 0 wd) h h4
theorem ds_q11 {wd : Int32} {y : Nat} {Y V : GA} {X S : QS} (h : g_Cw wd y Y V X S) {k : Nat} (h4 : k < 100) (v : Int32) : ∃ S1, q_set S (35, 1, 0) k v = S1 ∧ g_Cw wd y (g_up Y 11 k 0 v) V X S1 := by
  obtain ⟨S1, e1, h1⟩ := cs_q11 (Y := g_up Y 0 3 0 wd) h h4 v
  rw [g_up_comm (fun q => by omega)] at h1
  exact ⟨S1, e1, h1⟩
theorem d_q12 {wd : Int32} {y : Nat} {Y V : GA} {X S : QS} (h : g_Cw wd y Y V X S) {k : Nat} (h4 : k < 64) : S.1 (35, 2, 0) k = Y 12 k 0 := c_q12 (Y := g_up Y 0 3 0 wd) h h4
theorem ds_q12 {wd : Int32} {y : Nat} {Y V : GA} {X S : QS} (h : g_Cw wd y Y V X S) {k : Nat} (h4 : k < 64) (v : Int32) : ∃ S1, q_set S (35, 2, 0) k v = S1 ∧ g_Cw wd y (g_up Y 12 k 0 v) V X S1 := by
  obtain ⟨S1, e1, h1⟩ := cs_q12 (Y := g_up Y 0 3 0 wd) h h4 v
  rw [g_up_comm (fun q => by omega)] at h1
  exact ⟨S1, e1, h1⟩
theorem d_q13 {wd : Int32} {y : Nat} {Y V : GA} {X S : QS} (h : g_Cw wd y Y V X S) {k : Nat} (h4 : k < 8) : S.1 (35, 0, 0) k = Y 13 k 0 := c_q13 (Y := g_up Y 0 3 0 wd) h h4
theorem ds_q13 {wd : Int32} {y : Nat} {Y V : GA} {X S : QS} (h : g_Cw wd y Y V X S) {k : Nat} (h4 : k < 8) (v : Int32) : ∃ S1, q_set S (35, 0, 0) k v = S1 ∧ g_Cw wd y (g_up Y 13 k 0 v) V X S1 := by
  obtain ⟨S1, e1, h1⟩ := cs_q13 (Y := g_up Y 0 3 0 wd) h h4 v
  rw [g_up_comm (fun q => by omega)] at h1
  exact ⟨S1, e1, h1⟩
theorem d_91 {wd : Int32} {y : Nat} {Y V : GA} {X S : QS} (h : g_Cw wd y Y V X S) {k : Nat} (hk : k < g_n (Y 0 0 0)) (h4 : k < 40) : f_91 y (nI k) S = some ((y, k), S) := c_91 (Y := g_up Y 0 3 0 wd) h hk h4
theorem d_92 {wd : Int32} {y : Nat} {Y V : GA} {X S : QS} (h : g_Cw wd y Y V X S) {k : Nat} (hk : k < g_n (Y 0 1 0)) (h4 : k < 200) : f_92 y (nI k) S = some ((y, k), S) := c_92 (Y := g_up Y 0 3 0 wd) h hk h4
theorem d_93 {wd : Int32} {y : Nat} {Y V : GA} {X S : QS} (h : g_Cw wd y Y V X S) {k : Nat} (hk : k < g_n (Y 0 2 0)) (h4 : k < 200) : f_93 y (nI k) S = some ((y, k), S) := c_93 (Y := g_up Y 0 3 0 wd) h hk h4
theorem g_W_3 {c : Nat} {Y : GA} {wd : Int32} (hW : g_W c Y) : g_W c (g_up Y 0 3 0 wd) := g_W_0 hW (by omega) (by omega)
theorem d_45 {c y : Nat} {wd : Int32} {Y V : GA} {X S : QS} (hC : g_Cw wd y Y V X S) (hW : g_W c Y) {k : Nat} (hk : k < g_n (Y 0 0 0)) (h4 : k < 40) : f_45 y k S = some (nI (12 * g_n (Y 1 k 10)), S) := c_45 (Y := g_up Y 0 3 0 wd) hC (g_W_3 hW) hk h4
theorem d_run {α : Type} {wd : Int32} {y : Nat} {Y V : GA} {X Z S T : QS} (hC : g_Cw wd y Y V X S) (hT : g_T Y V Z T) (b : Nat) (hb : b < 17) : ∃ S' T', (∀ K : QS → Option (α × QS), q_ck (v_in (nI b) 17) (q_let (S.1 (20, 0, 0) (nI b).toNatClampNeg) (fun y_1 => q_ck (v_in (nI b) 17) (q_let (q_set S (20, 0, 0) (nI b).toNatClampNeg (y_1 + 1)) (fun S_2 => K S_2)))) = K S') ∧ f_205 (nI b) T = some ((), T') ∧ g_Cw wd y (g_up Y 9 b 0 (Y 9 b 0 + 1)) V X S' ∧ g_T (g_up Y 9 b 0 (Y 9 b 0 + 1)) V Z T' := by
  obtain ⟨S1, e1, h1⟩ := ds_r hC hb (Y 9 b 0 + 1)
  have e2 := r_205 hb T
  rw [t_r hT hb] at e2
  refine ⟨S1, _, ?_, e2, h1, g_T_set (r := 9) (i := b) (j := 0) _ hT (by omega) ⟨hb, rfl⟩ (by omega)⟩
  intro K
  rw [w_in hb (by omega), nI_clamp (by omega), d_r hC hb, x_ck, x_let, x_ck, e1, x_let]
theorem d_e5 {wd : Int32} {y : Nat} {Y V : GA} {X Z S T : QS} (hC : g_Cw wd y Y V X S) (hT : g_T Y V Z T) {t : Nat} (ht : t < g_n (Y 0 2 0)) (h2 : t < 200) (hk : Y 6 t 0 = 0 ∨ Y 6 t 0 = 1 ∨ Y 6 t 0 = 2) : ∃ Y' S' T', f_5 y t S = some (g_lay (Y 6 t 0) (Y 6 t 1) (Y 6 t 4), S') ∧ f_209 (nI t) T = some (g_lay (Y 6 t 0) (Y 6 t 1) (Y 6 t 4), T') ∧ g_Cw wd y Y' V X S' ∧ g_T Y' V Z T' ∧ g_o9 Y Y' := by
  unfold f_5 f_209 g_lay
  rw [d_t0 hC ht h2, t_192_0 hT h2, x_let, x_bd, t_192_1 hT h2, x_bd]
  simp only [w_eta]
  unfold b_209_52
  rcases hk with e | e | e <;> rw [e]
  · obtain ⟨S1, T1, e1, e2, hC1, hT1⟩ := d_run (α := Int32) hC hT 4 (by omega)
    have ec : f_15 S = some (5, S1) := e1 (fun S_2 => some (5, S_2))
    rw [if_neg (show ¬ (0 : Int32) = 1 from by decide), if_neg (show ¬ (0 : Int32) = 2 from by decide), ec, if_neg (show ¬ (0 : Int32) = 1 from by decide), if_neg (show ¬ (0 : Int32) = 2 from by decide)]
    rw [if_pos (show ¬ (0 : Int32) = 1 from by decide), if_pos (show ¬ (0 : Int32) = 2 from by decide), show f_205 4 T = some ((), T1) from e2, x_bd, t_192_4 hT1 h2, x_bd, x_let, if_neg (show ¬ ¬ (0 : Int32) = 0 from by decide)]
    exact ⟨_, S1, T1, rfl, rfl, hC1, hT1, g_o9_1 (g_o9_0 Y) _ _⟩
  · obtain ⟨S1, T1, e1, e2, hC1, hT1⟩ := d_run (α := Int32) hC hT 6 (by omega)
    have ec : f_17 y t S = if 30 < (S1.1 (8, y, t) 1) then (q_bd (f_15 S1) (fun r_3 S_4 => some (-r_3, S_4))) else (some (0, S1)) := e1 (fun S_2 => if 30 < (S_2.1 (8, y, t) 1) then (q_bd (f_15 S_2) (fun r_3 S_4 => some (-r_3, S_4))) else (some (0, S_2)))
    have ed : g_up Y 9 6 0 (Y 9 6 0 + 1) 6 t 1 = Y 6 t 1 := rfl
    rw [if_pos (show (1 : Int32) = 1 from rfl), ec, d_t1 hC1 ht h2, ed, if_pos (show (1 : Int32) = 1 from rfl)]
    rw [if_neg (show ¬ ¬ (1 : Int32) = 1 from by decide), show f_205 6 T = some ((), T1) from e2, x_bd]
    by_cases q : 30 < Y 6 t 1
    · obtain ⟨S2, T2, e3, e4, hC2, hT2⟩ := d_run (α := Int32) hC1 hT1 4 (by omega)
      have ee : f_15 S1 = some (5, S2) := e3 (fun S_2 => some (5, S_2))
      rw [if_pos q, if_pos q, if_pos q, ee, x_bd, show f_205 4 T1 = some ((), T2) from e4, x_bd]
      exact ⟨_, S2, T2, rfl, rfl, hC2, hT2, g_o9_1 (g_o9_1 (g_o9_0 Y) _ _) _ _⟩
    · rw [if_neg q, if_neg q, if_neg q]
      exact ⟨_, S1, T1, rfl, rfl, hC1, hT1, g_o9_1 (g_o9_0 Y) _ _⟩
  · obtain ⟨S1, T1, e1, e2, hC1, hT1⟩ := d_run (α := Int32) hC hT 7 (by omega)
    obtain ⟨S2, T2, e3, e4, hC2, hT2⟩ := d_run (α := Int32) hC1 hT1 4 (by omega)
    have ec : f_18 y t S = q_bd (f_15 S1) (fun r_3 S_4 => q_let (if 0 < ((r_3 + (S_4.1 (8, y, t) 5)) - ((S_4.1 (8, y, t) 1) / 100)) then ((r_3 + (S_4.1 (8, y, t) 5)) - ((S_4.1 (8, y, t) 1) / 100)) else 0) (fun y_5 => some (y_5, S_4))) := e1 (fun S_2 => q_bd (f_15 S_2) (fun r_3 S_4 => q_let (if 0 < ((r_3 + (S_4.1 (8, y, t) 5)) - ((S_4.1 (8, y, t) 1) / 100)) then ((r_3 + (S_4.1 (8, y, t) 5)) - ((S_4.1 (8, y, t) 1) / 100)) else 0) (fun y_5 => some (y_5, S_4))))
    have ee : f_15 S1 = some (5, S2) := e3 (fun S_2 => some (5, S_2))
    have ed : ∀ b v, g_up (g_up Y 9 7 0 (Y 9 7 0 + 1)) 9 4 b v 6 t 1 = Y 6 t 1 := fun _ _ => rfl
    have ef : ∀ b v, g_up (g_up Y 9 7 0 (Y 9 7 0 + 1)) 9 4 b v 6 t 4 = Y 6 t 4 := fun _ _ => rfl
    rw [if_neg (show ¬ (2 : Int32) = 1 from by decide), if_pos (show (2 : Int32) = 2 from rfl), ec, ee, x_bd, x_let, d_t1 hC2 ht h2, d_t4 hC2 ht h2, ed, ef, if_neg (show ¬ (2 : Int32) = 1 from by decide), if_pos (show (2 : Int32) = 2 from rfl), g_max0]
    rw [if_pos (show ¬ (2 : Int32) = 1 from by decide), if_neg (show ¬ ¬ (2 : Int32) = 2 from by decide), show f_205 7 T = some ((), T1) from e2, x_bd, show f_205 4 T1 = some ((), T2) from e4, x_bd, t_192_4 hT2 h2, x_bd, ef, x_let, if_pos (show ¬ (2 : Int32) = 0 from by decide)]
    have fin : (if 0 ≤ 5 + Y 6 t 4 - Y 6 t 1 / 100 then some (5 + Y 6 t 4 - Y 6 t 1 / 100, T2) else some (0, T2)) = some ((if 0 ≤ 5 + Y 6 t 4 - Y 6 t 1 / 100 then 5 + Y 6 t 4 - Y 6 t 1 / 100 else 0), T2) := by
      split <;> rfl
    rw [fin]
    exact ⟨_, S2, T2, rfl, rfl, hC2, hT2, g_o9_1 (g_o9_1 (g_o9_0 Y) _ _) _ _⟩
