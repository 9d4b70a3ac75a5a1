/-! ===== swarm, settle ===== -/
def g_tot (Y : GA) : Int := g_su (fun h => Y 1 h 0) (g_n (Y 0 0 0)) + g_su (fun k => Y 6 k 6) (g_n (Y 0 2 0)) + g_ph (Y 3) (Y 4) (g_n (Y 0 1 0))
theorem g_W_tot {c : Nat} {Y : GA} (hW : g_W c Y) : g_tot Y ≤ 400000 * c := hW.2.2.2.2.2.2.2.2.2.2.2.2.1
theorem g_tot_b {Y : GA} {h : Nat} {v : Int32} (hh : h < g_n (Y 0 0 0)) : g_tot (g_up Y 1 h 0 v) = g_tot Y + v.toInt - (Y 1 h 0).toInt := by
  have q := g_su_up (f := fun k => Y 1 k 0) (g := fun k => g_up Y 1 h 0 v 1 k 0) (k := h) (fun j hj => g_up_ne (fun q => hj q.2.1)) (g_n (Y 0 0 0)) hh
  rw [g_up_same] at q
  unfold g_tot
  rw [show g_up Y 1 h 0 v 0 = Y 0 from g_up_r (by omega), show g_up Y 1 h 0 v 6 = Y 6 from g_up_r (by omega), show g_up Y 1 h 0 v 3 = Y 3 from g_up_r (by omega), show g_up Y 1 h 0 v 4 = Y 4 from g_up_r (by omega)]
  omega
theorem g_tot_l {Y : GA} {t : Nat} {v : Int32} (hh : t < g_n (Y 0 2 0)) : g_tot (g_up Y 6 t 6 v) = g_tot Y + v.toInt - (Y 6 t 6).toInt := by
  have q := g_su_up (f := fun k => Y 6 k 6) (g := fun k => g_up Y 6 t 6 v 6 k 6) (k := t) (fun j hj => g_up_ne (fun q => hj q.2.1)) (g_n (Y 0 2 0)) hh
  rw [g_up_same] at q
  unfold g_tot
  rw [show g_up Y 6 t 6 v 0 = Y 0 from g_up_r (by omega), show g_up Y 6 t 6 v 1 = Y 1 from g_up_r (by omega), show g_up Y 6 t 6 v 3 = Y 3 from g_up_r (by omega), show g_up Y 6 t 6 v 4 = Y 4 from g_up_r (by omega)]
  omega
/-- drones and young -/
def g_to4 (Y : GA) : Int := g_su (fun h => Y 1 h 1) (g_n (Y 0 0 0)) + g_ph (Y 3) (Y 4) (g_n (Y 0 1 0))
theorem g_W_to4 {c : Nat} {Y : GA} (hW : g_W c Y) : g_to4 Y ≤ 400000 * c := hW.2.2.2.2.2.2.2.2.2.2.2.2.2.2.2.1
theorem g_to4_d {Y : GA} {h : Nat} {v : Int32} (hh : h < g_n (Y 0 0 0)) : g_to4 (g_up Y 1 h 1 v) = g_to4 Y + v.toInt - (Y 1 h 1).toInt := by
  have q := g_su_up (f := fun k => Y 1 k 1) (g := fun k => g_up Y 1 h 1 v 1 k 1) (k := h) (fun j hj => g_up_ne (fun q => hj q.2.1)) (g_n (Y 0 0 0)) hh
  rw [g_up_same] at q
  unfold g_to4
  rw [show g_up Y 1 h 1 v 0 = Y 0 from g_up_r (by omega), show g_up Y 1 h 1 v 3 = Y 3 from g_up_r (by omega), show g_up Y 1 h 1 v 4 = Y 4 from g_up_r (by omega)]
  omega
theorem g_W_d1 {c c' : Nat} {Y : GA} {h : Nat} {v : Int32} (hW : g_W c Y) (hh : h < g_n (Y 0 0 0)) (hc : c ≤ c') (hc5 : c' ≤ 512) (hv : 0 ≤ v) (ht : g_to4 Y + v.toInt - (Y 1 h 1).toInt ≤ 400000 * c') : g_W c' (g_up Y 1 h 1 v) := by
  unfold g_to4 at ht
  exact g_W_h12 hW hh (by omega) hc hc5 hv (fun _ => by omega) (fun q => by omega)
theorem g_W_b0 {c c' : Nat} {Y : GA} {h : Nat} {v : Int32} (hW : g_W c Y) (hh : h < g_n (Y 0 0 0)) (hc : c ≤ c') (hc5 : c' ≤ 512) (hv : 0 ≤ v) (ht : g_tot Y + v.toInt - (Y 1 h 0).toInt ≤ 400000 * c') : g_W c' (g_up Y 1 h 0 v) := by
  unfold g_tot at ht
  exact g_W_h hW hh (by omega) hc hc5 (fun _ => hv) (fun _ => by omega) (fun q => by omega) (fun q => by omega)
theorem g_W_l6 {c c' : Nat} {Y : GA} {t : Nat} {v : Int32} (hW : g_W c Y) (hh : t < g_n (Y 0 2 0)) (hc : c ≤ c') (hc5 : c' ≤ 512) (hv : 0 ≤ v) (ht : g_tot Y + v.toInt - (Y 6 t 6).toInt ≤ 400000 * c') : g_W c' (g_up Y 6 t 6 v) := by
  unfold g_tot at ht
  exact g_W_t hW hh (by omega) hc hc5 (fun q => by omega) (fun q => by omega) (fun _ => ⟨hv, by omega⟩) (fun q => by omega)
theorem g_lo {c : Nat} {Y : GA} (hW : g_W c Y) {t : Nat} (ht : t < g_n (Y 0 2 0)) : g_N (Y 6 t 6) (400000 * c) := by
  obtain ⟨w5, w0, wB, wL, wP, wK, wU, wF, wT, wS, wI, wD, wN⟩ := hW
  have t1 := g_su_one (f := fun k => Y 6 k 6) (g_n (Y 0 2 0)) t (fun j hj => (wT j hj).2.2.2.2.2.1) ht
  have t2 := g_su_nn (f := fun h => Y 1 h 0) (g_n (Y 0 0 0)) (fun j hj => (wS j hj).1)
  have t3 := g_ph_nn (Y 3) (Y 4) (g_n (Y 0 1 0))
  exact g_N_int (wT t ht).2.2.2.2.2.1 (by have := wN.1; omega) (by omega)
theorem g_divN {x : Int32} {m d : Nat} (h : g_N x m) (hm : m < 2 ^ 31) (hd : 0 < d) (hd2 : d < 2 ^ 31) : g_N (x / nI d) m ∧ g_N (x - x / nI d) m ∧ (x - x / nI d).toInt = x.toInt - (x / nI d).toInt := by
  obtain ⟨e, b⟩ := h
  generalize g_n x = a at e b
  subst e
  have h1 : a / d ≤ a := Nat.div_le_self a d
  rw [pk_div (by omega) hd hd2]
  generalize a / d = q at h1 ⊢
  rw [pk_sub h1, nI_toInt (by omega), nI_toInt (by omega), nI_toInt (by omega)]
  exact ⟨g_N_nI (by omega) hm, g_N_nI (by omega) hm, by omega⟩
theorem p_50 {c y : Nat} {Y V : GA} {X Z S T : QS} {h t : Nat} (x : Int32) (d : Nat) (hd : 0 < d) (hd2 : d < 10) (hxd : d = if x = 4 then 2 else 3) (hC : g_C y Y V X S) (hT : g_T Y V Z T) (hW : g_W c Y) (hW0 : g_W c V) (h10 : Y 10 3 0 = 1) (a1 : h < g_n (Y 0 0 0)) (a2 : h < 40) (b1 : t < g_n (Y 0 2 0)) (b2 : t < 200) (ek : Y 6 t 0 = x) (e6 : Y 6 t 6 = 0) (e7 : Y 6 t 7 = -1) : g_Ok c X Z (q_bd (b_50_23 y h y t (Y 1 h 0 / nI d) S) fun _ S_12 => f_169 (nI t) S_12) (b_258_72 (nI h) x (nI t) (Y 1 h 0) (nI d) T) := by
  unfold b_50_23 b_258_72 b_258_126
  simp only [w_eta]
  have hb := (g_bees hW a1).1
  have hc5 := hW.1
  obtain ⟨l1, l2, l3⟩ := g_divN (d := d) hb (by omega) hd (by omega)
  obtain ⟨L, hL⟩ : ∃ L, L = Y 1 h 0 / nI d := ⟨_, rfl⟩
  rw [← hL] at l1 l2 l3 ⊢
  rw [decide_eq_true (nI_ne0 hd (by omega)), x_ck, x_let L, c_h0 hC a1 a2]
  obtain ⟨S1, e1, hC1⟩ := cs_h0 hC a2 (Y 1 h 0 - L)
  obtain ⟨S2, e2, hC2⟩ := cs_t6 hC1 b2 L
  obtain ⟨T1, f1, hT1⟩ := t_193_6 hT b2 L
  have fb : g_up Y 6 t 6 L 1 h 0 = Y 1 h 0 := rfl
  obtain ⟨T2, f2, hT2⟩ := t_191_0 hT1 a2 (Y 1 h 0 - L)
  rw [e1, x_let, e2, x_let, f1, x_bd, t_190_0 hT1 a2, x_bd, fb, f2, x_bd]
  rw [g_up_comm (fun q => by omega)] at hT2
  have w1 : g_W c (g_up Y 1 h 0 (Y 1 h 0 - L)) := g_W_b0 hW a1 (Nat.le_refl c) hc5 (g_N_nn l2 (by omega)) (by
    have := g_W_tot hW
    have := g_N_ti l1 (by omega)
    omega)
  have w2 : g_W c (g_up (g_up Y 1 h 0 (Y 1 h 0 - L)) 6 t 6 L) := g_W_l6 w1 b1 (Nat.le_refl c) hc5 (g_N_nn l1 (by omega)) (by
    rw [g_tot_b a1]
    have := g_W_tot hW
    have e6' : (g_up Y 1 h 0 (Y 1 h 0 - L) 6 t 6).toInt = 0 := by
      rw [show g_up Y 1 h 0 (Y 1 h 0 - L) 6 t 6 = Y 6 t 6 from rfl, e6]
      decide
    omega)
  have ek2 : g_up (g_up Y 1 h 0 (Y 1 h 0 - L)) 6 t 6 L 6 t 0 = x := ek
  have es2 : g_up (g_up Y 1 h 0 (Y 1 h 0 - L)) 6 t 6 L 1 h 3 = Y 1 h 3 := rfl
  rw [c_t0 hC2 b1 b2, ek2]
  by_cases hx : x = 4
  · rw [if_neg (fun p => p hx), if_neg (fun p => p hx), c_h3 hC2 a1 a2, es2, t_190_3 hT2 a2, x_bd, es2]
    obtain ⟨S3, e3, hC3⟩ := cs_t7 hC2 b2 (Y 1 h 3)
    obtain ⟨S4, e4, hC4⟩ := cs_h3 hC3 a2 (-1)
    obtain ⟨T3, f3, hT3⟩ := t_193_7 hT2 b2 (Y 1 h 3)
    obtain ⟨T4, f4, hT4⟩ := t_191_3 hT3 a2 (-1)
    rw [e3, x_let, e4, x_let, x_bd, f3, x_bd, f4, x_bd]
    rw [g_up_comm (fun q => by omega)] at hC4 hT4
    have w3 := g_W_sl (h := h) w2 a1 (v := -1) (Or.inl rfl)
    have wI := hW.2.2.2.2.2.2.2.2.2.2.1
    have wS := hW.2.2.2.2.2.2.2.2.2.1 h a1
    have w4 : g_W c (g_up (g_up (g_up (g_up Y 1 h 0 (Y 1 h 0 - L)) 6 t 6 L) 1 h 3 (-1)) 6 t 7 (Y 1 h 3)) := by
      refine g_W_t w3 b1 (by omega) (Nat.le_refl c) hc5 (fun q => by omega) (fun q => by omega) (fun q => by omega) (fun _ => ?_)
      by_cases es : Y 1 h 3 = -1
      · exact Or.inl es
      · refine Or.inr ⟨g_M_of wS.2.1 es, ?_, ?_⟩
        · intro k hk q
          by_cases ekh : k = h
          · subst ekh
            rw [g_up_same] at q
            exact es q.symm
          · rw [g_up_ne (fun p => ekh p.2.1)] at q
            exact ekh (wI.1 k h hk a1 q (by rw [show Y 1 k 3 = Y 1 h 3 from q]; exact es))
        · intro s hs hne q
          have q2 : Y 6 s 7 = Y 1 h 3 := q
          exact es (wI.2.2 h s a1 hs q2.symm)
    exact g_fin hC4 hT4 w4 hW0 (Nat.le_refl c) h10 _
  · rw [if_pos hx, if_pos hx, x_bd]
    exact g_fin hC2 hT2 w2 hW0 (Nat.le_refl c) h10 _
theorem jj_151 {c y : Nat} {Y V : GA} {X Z S T : QS} (h : g_R c y Y V X Z S T) (x z : Int32) : g_Ok c X Z (f_151 x z S) (f_258 x z T) := by
  obtain ⟨hC, hT, hW, hV, hU⟩ := id h
  have n2 := hW.2.1.2.2.1
  unfold f_151 f_258 b_258_32 b_151_39
  rw [c_172 hC, t_198 hT]
  simp only [x_bd, w_eta]
  have no : ∀ e, ¬ e ≤ 0 → b_258_35 x z e T = f_186 e T := by
    intro e h2
    unfold b_258_35
    rw [if_neg h2, w_eta]
  rcases g_hw_cases hW x with q | ⟨q, k, a1, a2, rfl⟩
  · rw [if_neg (g_12a q), if_pos (g_12a q), no _ (g_12b q)]
    exact g_refuse h _
  · rw [if_pos q, if_neg (show ¬ ¬ g_hw Y (nI k) = 0 from fun p => p q)]
    have go : (z = 4 ∨ z = 5) → g_Ok c X Z (b_151_26 (nI k) z S) (b_258_20 (nI k) z (g_hw Y (nI k)) T) := by
      intro hz
      unfold b_151_26 b_258_20 b_151_39 b_258_32
      simp only [w_eta]
      rw [c_now hC, c_n2 hC, w_i2, w_c2, t_n2 hT, x_ck, x_let]
      by_cases h3 : g_n (Y 0 2 0) < 200
      · rw [if_pos (show Y 0 2 0 < 200 from (g_N_lt (k := 200) n2 (by omega) (by omega)).2 h3), if_pos (show ¬ Y 0 2 0 = 200 from fun q => by rw [show (200 : Int32) = nI 200 from rfl, g_N_eq n2 (by omega) (by omega)] at q; omega)]
        unfold b_258_35
        rw [if_pos (g_12c q)]
        obtain ⟨S1, T1, e1, e2, hk⟩ := k_keep h
        obtain ⟨kC, kT, kW, _, _⟩ := id hk
        obtain ⟨S2, e3, hC2⟩ := c_96 kC kW h3 z
        obtain ⟨T2, e4, hT2⟩ := t_235 kT kW h3 z
        have hz5 : g_N z 5 := by
          rcases hz with e | e
          · rw [e]; exact g_N_nI (a := 4) (by omega) (by omega)
          · rw [e]; exact g_N_nI (a := 5) (by omega) (by omega)
        have w2 := g_W_nt kW h3 hz5
        have tn : g_n (g_up Y 10 3 0 1 0 2 0) = g_n (Y 0 2 0) := rfl
        rw [tn] at e3 e4
        obtain ⟨t, et⟩ : ∃ t, t = g_n (Y 0 2 0) := ⟨_, rfl⟩
        have ek : g_nt (g_up Y 10 3 0 1) z 6 t 0 = z := by
          unfold g_nt
          rw [tn, ← et, g_up_ne (fun q => by omega), g_up_ne (fun q => by omega), g_rs_same]
          rfl
        have e6 : g_nt (g_up Y 10 3 0 1) z 6 t 6 = 0 := by
          unfold g_nt
          rw [tn, ← et, g_up_ne (fun q => by omega), g_up_ne (fun q => by omega), g_rs_same]
          rfl
        have e7 : g_nt (g_up Y 10 3 0 1) z 6 t 7 = -1 := by
          unfold g_nt
          rw [tn, ← et, g_up_ne (fun q => by omega), g_up_ne (fun q => by omega), g_rs_same]
          rfl
        have b1 : t < g_n (g_nt (g_up Y 10 3 0 1) z 0 2 0) := by
          unfold g_nt
          rw [g_up_same, tn, ← et, g_n_nI (by omega)]
          omega
        have a1' : k < g_n (g_nt (g_up Y 10 3 0 1) z 0 0 0) := a1
        have h10 : g_nt (g_up Y 10 3 0 1) z 10 3 0 = 1 := rfl
        rw [← et] at e3 e4 h3
        generalize g_nt (g_up Y 10 3 0 1) z = Y2 at hC2 hT2 w2 ek e6 e7 b1 a1' h10
        rw [e1, e2, x_bd, x_bd, c_now kC, e3, e4, x_bd, x_bd, c_now hC2, c_91 hC2 a1' a2, x_bd, c_now hC2, c_93 hC2 b1 h3, x_bd, t_190_0 hT2 a2, x_bd]
        unfold f_50
        dsimp only
        rw [c_t0 hC2 b1 h3, ek, c_h0 hC2 a1' a2]
        by_cases hz4 : z = 4
        · rw [if_neg (fun p => p hz4), if_neg (fun p => p hz4)]
          exact p_50 z 2 (by omega) (by omega) (by rw [if_pos hz4]) hC2 hT2 w2 hW h10 a1' a2 b1 h3 ek e6 e7
        · rw [if_pos hz4, if_pos hz4]
          exact p_50 z 3 (by omega) (by omega) (by rw [if_neg hz4]) hC2 hT2 w2 hW h10 a1' a2 b1 h3 ek e6 e7
      · have e : g_n (Y 0 2 0) = 200 := by have := n2.2; omega
        rw [if_neg (show ¬ Y 0 2 0 < 200 from fun q => h3 ((g_N_lt (k := 200) n2 (by omega) (by omega)).1 q)), if_neg (show ¬ ¬ Y 0 2 0 = 200 from fun q => q ((g_N_eq (k := 200) n2 (by omega) (by omega)).2 e)), no 6 (by decide)]
        exact g_refuse h _
    by_cases hz4 : z = 4
    · rw [if_pos hz4, if_pos hz4]
      exact go (Or.inl hz4)
    · rw [if_neg hz4, if_neg hz4]
      by_cases hz5 : z = 5
      · rw [if_neg (fun p => p hz5), if_neg (fun p => p hz5)]
        exact go (Or.inr hz5)
      · rw [if_pos hz5, if_pos hz5, no 6 (by decide)]
        exact g_refuse h _
