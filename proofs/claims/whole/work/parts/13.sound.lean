/-! ===== the run: what the clean interpreter answers, the machine answers ===== -/
def v_stats : List Nat := [0, 180, 181, 182, 183, 184, 189, 202, 203, 246, 253, 263, 273, 279]
/-- the receiver is of the callee's class; the arguments fit its locals -/
def v_rcv (m2 : Nat) (as : List VV) : Bool := decide (v_sum as ≤ (v_m m2).2.2.2.1) && (v_stats.elem m2 || match as with
  | .inr (.inr a) :: _ => (v_kind a == v_cidx m2)
  | _ => false)
def v_go : Nat → Nat → VS → Option (Option VV × VH)
  | 0, _, _ => none
  | n + 1, m, s => match v_1 (v_code m) s with
    | none => none
    | some (.inl t) => v_go n m t
    | some (.inr (.inl r)) => some r
    | some (.inr (.inr (m2, as, t))) => match v_rcv m2 as with
      | false => none
      | true => match v_go n m2 (0, v_args 0 as, [], t.2.2.2) with
        | none => none
        | some (r, V) => v_go n m (t.1, t.2.1, r.toList ++ t.2.2.1, V)
theorem v_step (i : Instr) : v_SP i := by
  cases i
  case aaload => apply v_s_aaload
  case aastore => apply v_s_aastore
  case aload => apply v_s_aload
  case aload_n => apply v_s_aload_n
  case anewarray => apply v_s_anewarray
  case arraylength => apply v_s_arraylength
  case astore => apply v_s_astore
  case astore_n => apply v_s_astore_n
  case baload => apply v_s_baload
  case bastore => apply v_s_bastore
  case bipush => apply v_s_bipush
  case dup => apply v_s_dup
  case dup2 => apply v_s_dup2
  case getfield => apply v_s_getfield
  case goto => apply v_s_goto
  case i2l => apply v_s_i2l
  case iadd => apply v_s_iadd
  case iaload => apply v_s_iaload
  case iand => apply v_s_iand
  case iastore => apply v_s_iastore
  case iconst => apply v_s_iconst
  case idiv => apply v_s_idiv
  case ifCond => apply v_s_ifCond
  case if_icmp => apply v_s_if_icmp
  case ifnonnull => apply v_s_ifnonnull
  case iinc => apply v_s_iinc
  case iload => apply v_s_iload
  case iload_n => apply v_s_iload_n
  case imul => apply v_s_imul
  case ineg => apply v_s_ineg
  case invokespecial => apply v_s_invokespecial
  case invokestatic => apply v_s_invokestatic
  case invokevirtual => apply v_s_invokevirtual
  case ior => apply v_s_ior
  case irem => apply v_s_irem
  case ishl => apply v_s_ishl
  case ishr => apply v_s_ishr
  case istore => apply v_s_istore
  case istore_n => apply v_s_istore_n
  case isub => apply v_s_isub
  case l2i => apply v_s_l2i
  case ladd => apply v_s_ladd
  case laload => apply v_s_laload
  case lastore => apply v_s_lastore
  case lcmp => apply v_s_lcmp
  case lconst => apply v_s_lconst
  case ldc => apply v_s_ldc
  case ldc2_w => apply v_s_ldc2_w
  case ldiv => apply v_s_ldiv
  case lload => apply v_s_lload
  case lload_n => apply v_s_lload_n
  case lmul => apply v_s_lmul
  case lookupswitch => apply v_s_lookupswitch
  case lstore => apply v_s_lstore
  case lstore_n => apply v_s_lstore_n
  case lsub => apply v_s_lsub
  case new => apply v_s_new
  case newarray => apply v_s_newarray
  case putfield => apply v_s_putfield
  case sipush => apply v_s_sipush
  case tableswitch => apply v_s_tableswitch
  all_goals (intro p l e R s mid args below meth c Q G oi m len x pc lv st V pc2 lv2 st2 V2 ρ ws H locs ls c0 s0 hC hd ho hS h; exfalso; simp only [v_i] at h; first | (cases h; done) | (split at h <;> first | (cases h; done) | (obtain ⟨-, h⟩ := v_okd h; cases h; done)))
def v_le (V V' : VH) : Prop := V.2.2.2.2.1 ≤ V'.2.2.2.2.1 ∧ V.2.2.2.2.2 ≤ V'.2.2.2.2.2 ∧ ∀ a, V.2.2.2.1 a = true → V'.2.2.2.1 a = true
theorem v_le_of {V V' : VH} (h : V'.2.2.2 = V.2.2.2) : v_le V V' := ⟨Nat.le_of_eq (by rw [h]), Nat.le_of_eq (by rw [h]), fun a ha => by rw [h]; exact ha⟩
theorem v_le_tr {A B C : VH} (h : v_le A B) (k : v_le B C) : v_le A C := ⟨Nat.le_trans h.1 k.1, Nat.le_trans h.2.1 k.2.1, fun a ha => k.2.2 a (h.2.2 a ha)⟩
def v_hp : VO → VH
  | .inl t => t.2.2.2
  | .inr (.inl r) => r.2
  | .inr (.inr t) => t.2.2.2.2.2
theorem v_new_le {a : Option VA} {k n pc len : Nat} {lv : VL} {st : List VV} {V : VH} {o : VO} (h : v_new a k n pc len lv st V = some o) : v_le V (v_hp o) := by
  unfold v_new at h
  split at h
  · obtain ⟨-, h⟩ := v_okd h
    cases h
    exact ⟨Nat.le_succ _, Nat.le_add_right _ _, v_le_make V _ n⟩
  · cases h
theorem v_off_le {pc : Nat} {d : Option Int} {lv : VL} {st : List VV} {V : VH} {o : VO} (h : v_off pc d lv st V = some o) : v_le V (v_hp o) := by
  unfold v_off at h
  split at h
  · cases h; exact v_le_of rfl
  · cases h
theorem v_call_le {x : VX} {pc : Nat} {lv : VL} {V : VH} {q : Option (List VV × List VV)} {o : VO} (h : v_call x pc lv V q = some o) : v_le V (v_hp o) := by
  unfold v_call at h
  split at h
  · split at h <;> (try split at h) <;> first | (cases h; done) | (obtain ⟨-, h⟩ := v_okd h; cases h; exact v_le_of rfl)
  · cases h
theorem v_i_le {i : Instr} {len : Nat} {x : VX} {pc : Nat} {lv : VL} {st : List VV} {V : VH} {o : VO} (h : v_i i len x pc lv st V = some o) : v_le V (v_hp o) := by
  unfold v_i at h
  split at h <;> (try split at h) <;> (try split at h) <;> (try split at h) <;> first | exact v_new_le h | exact v_call_le h | exact v_off_le h | (cases h; done) | (cases h; exact v_le_of rfl) | (obtain ⟨-, h⟩ := v_okd h; cases h; exact v_le_of rfl)
theorem v_1_le {cd : List VE} {s : VS} {o : VO} (h : v_1 cd s = some o) : v_le s.2.2.2 (v_hp o) := by
  unfold v_1 at h
  split at h
  · exact v_i_le h
  · cases h
theorem v_go_le : ∀ {n m : Nat} {s : VS} {r : Option VV} {V : VH}, v_go n m s = some (r, V) → v_le s.2.2.2 V
  | 0, _, _, _, _, h => by cases h
  | n + 1, m, s, r, V, h => by
    unfold v_go at h
    split at h
    · cases h
    · rename_i t ht
      exact v_le_tr (v_1_le ht) (v_go_le h)
    · rename_i q ht
      cases h
      exact v_1_le ht
    · rename_i m2 as t ht
      split at h
      · cases h
      · split at h
        · cases h
        · rename_i q V1 h1
          have g1 : v_le s.2.2.2 t.2.2.2 := v_1_le ht
          have g2 : v_le t.2.2.2 V1 := v_go_le (s := (0, v_args 0 as, [], t.2.2.2)) h1
          have g3 : v_le V1 V := v_go_le (s := (t.1, t.2.1, q.toList ++ t.2.2.1, V1)) h
          exact v_le_tr g1 (v_le_tr g2 g3)
theorem v_go_mono : ∀ {n m : Nat} {s : VS} {q : Option VV × VH} (k : Nat), v_go n m s = some q → v_go (n + k) m s = some q
  | 0, _, _, _, _, h => by cases h
  | n + 1, m, s, q, k, h => by
    rw [Nat.add_right_comm]
    unfold v_go at h ⊢
    split at h
    · cases h
    · exact v_go_mono k h
    · exact h
    · split at h
      · cases h
      · rename_i hr
        split at h
        · cases h
        · rename_i h1
          simp only [hr, v_go_mono k h1]
          exact v_go_mono k h
def v_OKm (oi : Nat) (m : VM) : Prop := ∀ e ∈ m.2.2.2.2.2.2.2, decode m.2.2.1 e.1 = .ok (e.2.1, e.2.2.1) ∧ v_okI oi m e.1 e.2.1 e.2.2.1 e.2.2.2 = true
theorem v_OK_of {oi : Nat} {m : VM} (h1 : ∀ e ∈ m.2.2.2.2.2.2.2, decode m.2.2.1 e.1 = .ok (e.2.1, e.2.2.1)) (h2 : m.2.2.2.2.2.2.2.all (fun e => v_okI oi m e.1 e.2.1 e.2.2.1 e.2.2.2) = true) : v_OKm oi m := fun e he => ⟨h1 e he, List.all_eq_true.mp h2 e he⟩
def v_all2 : List VM → List Nat → Prop
  | m :: ms, o :: os => v_OKm o m ∧ v_all2 ms os
  | [], [] => True
  | _, _ => False
theorem v_all2_app : ∀ {a : List VM} {oa : List Nat} {b : List VM} {ob : List Nat}, v_all2 a oa → v_all2 b ob → v_all2 (a ++ b) (oa ++ ob)
  | [], [], _, _, _, h => h
  | _ :: _, _ :: _, _, _, h, k => ⟨h.1, v_all2_app h.2 k⟩
  | [], _ :: _, _, _, h, _ => h.elim
  | _ :: _, [], _, _, h, _ => h.elim
theorem v_all2_get : ∀ {ms : List VM} {os : List Nat}, v_all2 ms os → ∀ i, i < ms.length → v_OKm (v_nth os i) (v_mth ms i)
  | [], _, _, i, h => absurd h (Nat.not_lt_zero _)
  | m :: ms, [], h, _, _ => h.elim
  | m :: ms, o :: os, h, 0, _ => h.1
  | m :: ms, o :: os, h, i + 1, hi => v_all2_get h.2 i (Nat.lt_of_succ_lt_succ hi)
theorem v_mth_mem : ∀ {ms : List VM} {i : Nat}, i < ms.length → v_mth ms i ∈ ms
  | [], _, h => absurd h (Nat.not_lt_zero _)
  | m :: ms, 0, _ => List.mem_cons_self
  | m :: ms, i + 1, h => List.mem_cons_of_mem _ (v_mth_mem (Nat.lt_of_succ_lt_succ h))
theorem v_ft_mem : ∀ {cd : List VE} {pc : Nat} {q : Instr × Nat × VX}, v_ft cd pc = some q → (pc, q) ∈ cd
  | [], _, _, h => by cases h
  | (p, i) :: l, pc, q, h => by
    unfold v_ft at h
    split at h
    · rename_i hp
      cases h
      rw [beq_iff_eq] at hp
      subst hp
      exact List.mem_cons_self
    · exact List.mem_cons_of_mem _ (v_ft_mem h)
theorem v_okc0 : v_all2 [m_0, m_1, m_2, m_3, m_4, m_5, m_6, m_7, m_8, m_9, m_10, m_11, m_12, m_13, m_14, m_15, m_16, m_17, m_18, m_19, m_20, m_21, m_22, m_23] [11, 0, 0, 0, 0, 0, 0, 0, 0, 0, 0, 0, 0, 0, 0, 0, 0, 0, 0, 0, 0, 0, 0, 0] := ⟨v_OK_of dk_0 ok_0, ⟨v_OK_of dk_1 ok_1, ⟨v_OK_of dk_2 ok_2, ⟨v_OK_of dk_3 ok_3, ⟨v_OK_of dk_4 ok_4, ⟨v_OK_of dk_5 ok_5, ⟨v_OK_of dk_6 ok_6, ⟨v_OK_of dk_7 ok_7, ⟨v_OK_of dk_8 ok_8, ⟨v_OK_of dk_9 ok_9, ⟨v_OK_of dk_10 ok_10, ⟨v_OK_of dk_11 ok_11, ⟨v_OK_of dk_12 ok_12, ⟨v_OK_of dk_13 ok_13, ⟨v_OK_of dk_14 ok_14, ⟨v_OK_of dk_15 ok_15, ⟨v_OK_of dk_16 ok_16, ⟨v_OK_of dk_17 ok_17, ⟨v_OK_of dk_18 ok_18, ⟨v_OK_of dk_19 ok_19, ⟨v_OK_of dk_20 ok_20, ⟨v_OK_of dk_21 ok_21, ⟨v_OK_of dk_22 ok_22, ⟨v_OK_of dk_23 ok_23, trivial⟩⟩⟩⟩⟩⟩⟩⟩⟩⟩⟩⟩⟩⟩⟩⟩⟩⟩⟩⟩⟩⟩⟩⟩
theorem v_okc1 : v_all2 [m_24, m_25, m_26, m_27, m_28, m_29, m_30, m_31, m_32, m_33, m_34, m_35, m_36, m_37, m_38, m_39, m_40, m_41, m_42, m_43, m_44, m_45, m_46, m_47] [1, 1, 1, 1, 2, 2, 2, 2, 2, 2, 2, 2, 2, 2, 2, 2, 2, 2, 3, 3, 3, 3, 3, 3] := ⟨v_OK_of dk_24 ok_24, ⟨v_OK_of dk_25 ok_25, ⟨v_OK_of dk_26 ok_26, ⟨v_OK_of dk_27 ok_27, ⟨v_OK_of dk_28 ok_28, ⟨v_OK_of dk_29 ok_29, ⟨v_OK_of dk_30 ok_30, ⟨v_OK_of dk_31 ok_31, ⟨v_OK_of dk_32 ok_32, ⟨v_OK_of dk_33 ok_33, ⟨v_OK_of dk_34 ok_34, ⟨v_OK_of dk_35 ok_35, ⟨v_OK_of dk_36 ok_36, ⟨v_OK_of dk_37 ok_37, ⟨v_OK_of dk_38 ok_38, ⟨v_OK_of dk_39 ok_39, ⟨v_OK_of dk_40 ok_40, ⟨v_OK_of dk_41 ok_41, ⟨v_OK_of dk_42 ok_42, ⟨v_OK_of dk_43 ok_43, ⟨v_OK_of dk_44 ok_44, ⟨v_OK_of dk_45 ok_45, ⟨v_OK_of dk_46 ok_46, ⟨v_OK_of dk_47 ok_47, trivial⟩⟩⟩⟩⟩⟩⟩⟩⟩⟩⟩⟩⟩⟩⟩⟩⟩⟩⟩⟩⟩⟩⟩⟩
theorem v_okc2 : v_all2 [m_48, m_49, m_50, m_51, m_52, m_53, m_54, m_55, m_56, m_57, m_58, m_59, m_60, m_61, m_62, m_63, m_64, m_65, m_66, m_67, m_68, m_69, m_70, m_71] [3, 3, 3, 3, 3, 3, 3, 3, 3, 4, 4, 4, 4, 4, 4, 4, 4, 4, 4, 4, 4, 4, 4, 4] := ⟨v_OK_of dk_48 ok_48, ⟨v_OK_of dk_49 ok_49, ⟨v_OK_of dk_50 ok_50, ⟨v_OK_of dk_51 ok_51, ⟨v_OK_of dk_52 ok_52, ⟨v_OK_of dk_53 ok_53, ⟨v_OK_of dk_54 ok_54, ⟨v_OK_of dk_55 ok_55, ⟨v_OK_of dk_56 ok_56, ⟨v_OK_of dk_57 ok_57, ⟨v_OK_of dk_58 ok_58, ⟨v_OK_of dk_59 ok_59, ⟨v_OK_of dk_60 ok_60, ⟨v_OK_of dk_61 ok_61, ⟨v_OK_of dk_62 ok_62, ⟨v_OK_of dk_63 ok_63, ⟨v_OK_of dk_64 ok_64, ⟨v_OK_of dk_65 ok_65, ⟨v_OK_of dk_66 ok_66, ⟨v_OK_of dk_67 ok_67, ⟨v_OK_of dk_68 ok_68, ⟨v_OK_of dk_69 ok_69, ⟨v_OK_of dk_70 ok_70, ⟨v_OK_of dk_71 ok_71, trivial⟩⟩⟩⟩⟩⟩⟩⟩⟩⟩⟩⟩⟩⟩⟩⟩⟩⟩⟩⟩⟩⟩⟩⟩
theorem v_okc3 : v_all2 [m_72, m_73, m_74, m_75, m_76, m_77, m_78, m_79, m_80, m_81, m_82, m_83, m_84, m_85, m_86, m_87, m_88, m_89, m_90, m_91, m_92, m_93, m_94, m_95] [4, 5, 5, 5, 5, 5, 5, 6, 6, 6, 7, 7, 7, 7, 7, 7, 7, 8, 8, 8, 8, 8, 8, 8] := ⟨v_OK_of dk_72 ok_72, ⟨v_OK_of dk_73 ok_73, ⟨v_OK_of dk_74 ok_74, ⟨v_OK_of dk_75 ok_75, ⟨v_OK_of dk_76 ok_76, ⟨v_OK_of dk_77 ok_77, ⟨v_OK_of dk_78 ok_78, ⟨v_OK_of dk_79 ok_79, ⟨v_OK_of dk_80 ok_80, ⟨v_OK_of dk_81 ok_81, ⟨v_OK_of dk_82 ok_82, ⟨v_OK_of dk_83 ok_83, ⟨v_OK_of dk_84 ok_84, ⟨v_OK_of dk_85 ok_85, ⟨v_OK_of dk_86 ok_86, ⟨v_OK_of dk_87 ok_87, ⟨v_OK_of dk_88 ok_88, ⟨v_OK_of dk_89 ok_89, ⟨v_OK_of dk_90 ok_90, ⟨v_OK_of dk_91 ok_91, ⟨v_OK_of dk_92 ok_92, ⟨v_OK_of dk_93 ok_93, ⟨v_OK_of dk_94 ok_94, ⟨v_OK_of dk_95 ok_95, trivial⟩⟩⟩⟩⟩⟩⟩⟩⟩⟩⟩⟩⟩⟩⟩⟩⟩⟩⟩⟩⟩⟩⟩⟩
theorem v_okc4 : v_all2 [m_96, m_97, m_98, m_99, m_100, m_101, m_102, m_103, m_104, m_105, m_106, m_107, m_108, m_109, m_110, m_111, m_112, m_113, m_114, m_115, m_116, m_117, m_118, m_119] [8, 8, 8, 8, 8, 8, 8, 8, 8, 8, 8, 8, 8, 8, 8, 8, 8, 8, 8, 8, 8, 8, 8, 8] := ⟨v_OK_of dk_96 ok_96, ⟨v_OK_of dk_97 ok_97, ⟨v_OK_of dk_98 ok_98, ⟨v_OK_of dk_99 ok_99, ⟨v_OK_of dk_100 ok_100, ⟨v_OK_of dk_101 ok_101, ⟨v_OK_of dk_102 ok_102, ⟨v_OK_of dk_103 ok_103, ⟨v_OK_of dk_104 ok_104, ⟨v_OK_of dk_105 ok_105, ⟨v_OK_of dk_106 ok_106, ⟨v_OK_of dk_107 ok_107, ⟨v_OK_of dk_108 ok_108, ⟨v_OK_of dk_109 ok_109, ⟨v_OK_of dk_110 ok_110, ⟨v_OK_of dk_111 ok_111, ⟨v_OK_of dk_112 ok_112, ⟨v_OK_of dk_113 ok_113, ⟨v_OK_of dk_114 ok_114, ⟨v_OK_of dk_115 ok_115, ⟨v_OK_of dk_116 ok_116, ⟨v_OK_of dk_117 ok_117, ⟨v_OK_of dk_118 ok_118, ⟨v_OK_of dk_119 ok_119, trivial⟩⟩⟩⟩⟩⟩⟩⟩⟩⟩⟩⟩⟩⟩⟩⟩⟩⟩⟩⟩⟩⟩⟩⟩
theorem v_okc5 : v_all2 [m_120, m_121, m_122, m_123, m_124, m_125, m_126, m_127, m_128, m_129, m_130, m_131, m_132, m_133, m_134, m_135, m_136, m_137, m_138, m_139, m_140, m_141, m_142, m_143] [8, 9, 9, 9, 9, 9, 9, 9, 9, 9, 9, 9, 9, 9, 9, 9, 9, 9, 9, 9, 9, 9, 9, 9] := ⟨v_OK_of dk_120 ok_120, ⟨v_OK_of dk_121 ok_121, ⟨v_OK_of dk_122 ok_122, ⟨v_OK_of dk_123 ok_123, ⟨v_OK_of dk_124 ok_124, ⟨v_OK_of dk_125 ok_125, ⟨v_OK_of dk_126 ok_126, ⟨v_OK_of dk_127 ok_127, ⟨v_OK_of dk_128 ok_128, ⟨v_OK_of dk_129 ok_129, ⟨v_OK_of dk_130 ok_130, ⟨v_OK_of dk_131 ok_131, ⟨v_OK_of dk_132 ok_132, ⟨v_OK_of dk_133 ok_133, ⟨v_OK_of dk_134 ok_134, ⟨v_OK_of dk_135 ok_135, ⟨v_OK_of dk_136 ok_136, ⟨v_OK_of dk_137 ok_137, ⟨v_OK_of dk_138 ok_138, ⟨v_OK_of dk_139 ok_139, ⟨v_OK_of dk_140 ok_140, ⟨v_OK_of dk_141 ok_141, ⟨v_OK_of dk_142 ok_142, ⟨v_OK_of dk_143 ok_143, trivial⟩⟩⟩⟩⟩⟩⟩⟩⟩⟩⟩⟩⟩⟩⟩⟩⟩⟩⟩⟩⟩⟩⟩⟩
theorem v_okc6 : v_all2 [m_144, m_145, m_146, m_147, m_148, m_149, m_150, m_151, m_152, m_153, m_154, m_155, m_156, m_157, m_158, m_159, m_160, m_161, m_162, m_163, m_164, m_165, m_166, m_167] [9, 9, 9, 9, 9, 9, 9, 9, 9, 9, 9, 9, 9, 9, 9, 9, 9, 9, 9, 9, 9, 9, 9, 9] := ⟨v_OK_of dk_144 ok_144, ⟨v_OK_of dk_145 ok_145, ⟨v_OK_of dk_146 ok_146, ⟨v_OK_of dk_147 ok_147, ⟨v_OK_of dk_148 ok_148, ⟨v_OK_of dk_149 ok_149, ⟨v_OK_of dk_150 ok_150, ⟨v_OK_of dk_151 ok_151, ⟨v_OK_of dk_152 ok_152, ⟨v_OK_of dk_153 ok_153, ⟨v_OK_of dk_154 ok_154, ⟨v_OK_of dk_155 ok_155, ⟨v_OK_of dk_156 ok_156, ⟨v_OK_of dk_157 ok_157, ⟨v_OK_of dk_158 ok_158, ⟨v_OK_of dk_159 ok_159, ⟨v_OK_of dk_160 ok_160, ⟨v_OK_of dk_161 ok_161, ⟨v_OK_of dk_162 ok_162, ⟨v_OK_of dk_163 ok_163, ⟨v_OK_of dk_164 ok_164, ⟨v_OK_of dk_165 ok_165, ⟨v_OK_of dk_166 ok_166, ⟨v_OK_of dk_167 ok_167, trivial⟩⟩⟩⟩⟩⟩⟩⟩⟩⟩⟩⟩⟩⟩⟩⟩⟩⟩⟩⟩⟩⟩⟩⟩
theorem v_okc7 : v_all2 [m_168, m_169, m_170, m_171, m_172, m_173, m_174, m_175, m_176, m_177, m_178, m_179, m_180, m_181, m_182, m_183, m_184, m_185, m_186, m_187, m_188, m_189, m_190, m_191] [9, 9, 9, 9, 9, 9, 9, 9, 9, 9, 9, 9, 9, 9, 9, 9, 9, 10, 10, 10, 10, 10, 10, 10] := ⟨v_OK_of dk_168 ok_168, ⟨v_OK_of dk_169 ok_169, ⟨v_OK_of dk_170 ok_170, ⟨v_OK_of dk_171 ok_171, ⟨v_OK_of dk_172 ok_172, ⟨v_OK_of dk_173 ok_173, ⟨v_OK_of dk_174 ok_174, ⟨v_OK_of dk_175 ok_175, ⟨v_OK_of dk_176 ok_176, ⟨v_OK_of dk_177 ok_177, ⟨v_OK_of dk_178 ok_178, ⟨v_OK_of dk_179 ok_179, ⟨v_OK_of dk_180 ok_180, ⟨v_OK_of dk_181 ok_181, ⟨v_OK_of dk_182 ok_182, ⟨v_OK_of dk_183 ok_183, ⟨v_OK_of dk_184 ok_184, ⟨v_OK_of dk_185 ok_185, ⟨v_OK_of dk_186 ok_186, ⟨v_OK_of dk_187 ok_187, ⟨v_OK_of dk_188 ok_188, ⟨v_OK_of dk_189 ok_189, ⟨v_OK_of dk_190 ok_190, ⟨v_OK_of dk_191 ok_191, trivial⟩⟩⟩⟩⟩⟩⟩⟩⟩⟩⟩⟩⟩⟩⟩⟩⟩⟩⟩⟩⟩⟩⟩⟩
theorem v_okc8 : v_all2 [m_192, m_193, m_194, m_195, m_196, m_197, m_198, m_199, m_200, m_201, m_202, m_203, m_204, m_205, m_206, m_207, m_208, m_209, m_210, m_211, m_212, m_213, m_214, m_215] [10, 10, 10, 10, 10, 10, 10, 10, 10, 10, 10, 10, 10, 10, 10, 10, 10, 10, 10, 10, 10, 10, 10, 10] := ⟨v_OK_of dk_192 ok_192, ⟨v_OK_of dk_193 ok_193, ⟨v_OK_of dk_194 ok_194, ⟨v_OK_of dk_195 ok_195, ⟨v_OK_of dk_196 ok_196, ⟨v_OK_of dk_197 ok_197, ⟨v_OK_of dk_198 ok_198, ⟨v_OK_of dk_199 ok_199, ⟨v_OK_of dk_200 ok_200, ⟨v_OK_of dk_201 ok_201, ⟨v_OK_of dk_202 ok_202, ⟨v_OK_of dk_203 ok_203, ⟨v_OK_of dk_204 ok_204, ⟨v_OK_of dk_205 ok_205, ⟨v_OK_of dk_206 ok_206, ⟨v_OK_of dk_207 ok_207, ⟨v_OK_of dk_208 ok_208, ⟨v_OK_of dk_209 ok_209, ⟨v_OK_of dk_210 ok_210, ⟨v_OK_of dk_211 ok_211, ⟨v_OK_of dk_212 ok_212, ⟨v_OK_of dk_213 ok_213, ⟨v_OK_of dk_214 ok_214, ⟨v_OK_of dk_215 ok_215, trivial⟩⟩⟩⟩⟩⟩⟩⟩⟩⟩⟩⟩⟩⟩⟩⟩⟩⟩⟩⟩⟩⟩⟩⟩
theorem v_okc9 : v_all2 [m_216, m_217, m_218, m_219, m_220, m_221, m_222, m_223, m_224, m_225, m_226, m_227, m_228, m_229, m_230, m_231, m_232, m_233, m_234, m_235, m_236, m_237, m_238, m_239] [10, 10, 10, 10, 10, 10, 10, 10, 10, 10, 10, 10, 10, 10, 10, 10, 10, 10, 10, 10, 10, 10, 10, 10] := ⟨v_OK_of dk_216 ok_216, ⟨v_OK_of dk_217 ok_217, ⟨v_OK_of dk_218 ok_218, ⟨v_OK_of dk_219 ok_219, ⟨v_OK_of dk_220 ok_220, ⟨v_OK_of dk_221 ok_221, ⟨v_OK_of dk_222 ok_222, ⟨v_OK_of dk_223 ok_223, ⟨v_OK_of dk_224 ok_224, ⟨v_OK_of dk_225 ok_225, ⟨v_OK_of dk_226 ok_226, ⟨v_OK_of dk_227 ok_227, ⟨v_OK_of dk_228 ok_228, ⟨v_OK_of dk_229 ok_229, ⟨v_OK_of dk_230 ok_230, ⟨v_OK_of dk_231 ok_231, ⟨v_OK_of dk_232 ok_232, ⟨v_OK_of dk_233 ok_233, ⟨v_OK_of dk_234 ok_234, ⟨v_OK_of dk_235 ok_235, ⟨v_OK_of dk_236 ok_236, ⟨v_OK_of dk_237 ok_237, ⟨v_OK_of dk_238 ok_238, ⟨v_OK_of dk_239 ok_239, trivial⟩⟩⟩⟩⟩⟩⟩⟩⟩⟩⟩⟩⟩⟩⟩⟩⟩⟩⟩⟩⟩⟩⟩⟩
theorem v_okc10 : v_all2 [m_240, m_241, m_242, m_243, m_244, m_245, m_246, m_247, m_248, m_249, m_250, m_251, m_252, m_253, m_254, m_255, m_256, m_257, m_258, m_259, m_260, m_261, m_262, m_263] [10, 10, 10, 10, 10, 10, 10, 10, 10, 10, 10, 10, 10, 10, 10, 10, 10, 10, 10, 10, 10, 10, 10, 10] := ⟨v_OK_of dk_240 ok_240, ⟨v_OK_of dk_241 ok_241, ⟨v_OK_of dk_242 ok_242, ⟨v_OK_of dk_243 ok_243, ⟨v_OK_of dk_244 ok_244, ⟨v_OK_of dk_245 ok_245, ⟨v_OK_of dk_246 ok_246, ⟨v_OK_of dk_247 ok_247, ⟨v_OK_of dk_248 ok_248, ⟨v_OK_of dk_249 ok_249, ⟨v_OK_of dk_250 ok_250, ⟨v_OK_of dk_251 ok_251, ⟨v_OK_of dk_252 ok_252, ⟨v_OK_of dk_253 ok_253, ⟨v_OK_of dk_254 ok_254, ⟨v_OK_of dk_255 ok_255, ⟨v_OK_of dk_256 ok_256, ⟨v_OK_of dk_257 ok_257, ⟨v_OK_of dk_258 ok_258, ⟨v_OK_of dk_259 ok_259, ⟨v_OK_of dk_260 ok_260, ⟨v_OK_of dk_261 ok_261, ⟨v_OK_of dk_262 ok_262, ⟨v_OK_of dk_263 ok_263, trivial⟩⟩⟩⟩⟩⟩⟩⟩⟩⟩⟩⟩⟩⟩⟩⟩⟩⟩⟩⟩⟩⟩⟩⟩
theorem v_okc11 : v_all2 [m_264, m_265, m_266, m_267, m_268, m_269, m_270, m_271, m_272, m_273, m_274, m_275, m_276, m_277, m_278, m_279, m_280, m_281, m_282, m_283, m_284, m_285, m_286] [10, 10, 10, 10, 10, 10, 10, 10, 10, 10, 10, 10, 10, 10, 10, 10, 10, 10, 10, 10, 10, 10, 10] := ⟨v_OK_of dk_264 ok_264, ⟨v_OK_of dk_265 ok_265, ⟨v_OK_of dk_266 ok_266, ⟨v_OK_of dk_267 ok_267, ⟨v_OK_of dk_268 ok_268, ⟨v_OK_of dk_269 ok_269, ⟨v_OK_of dk_270 ok_270, ⟨v_OK_of dk_271 ok_271, ⟨v_OK_of dk_272 ok_272, ⟨v_OK_of dk_273 ok_273, ⟨v_OK_of dk_274 ok_274, ⟨v_OK_of dk_275 ok_275, ⟨v_OK_of dk_276 ok_276, ⟨v_OK_of dk_277 ok_277, ⟨v_OK_of dk_278 ok_278, ⟨v_OK_of dk_279 ok_279, ⟨v_OK_of dk_280 ok_280, ⟨v_OK_of dk_281 ok_281, ⟨v_OK_of dk_282 ok_282, ⟨v_OK_of dk_283 ok_283, ⟨v_OK_of dk_284 ok_284, ⟨v_OK_of dk_285 ok_285, ⟨v_OK_of dk_286 ok_286, trivial⟩⟩⟩⟩⟩⟩⟩⟩⟩⟩⟩⟩⟩⟩⟩⟩⟩⟩⟩⟩⟩⟩⟩
theorem v_okall : v_all2 v_ms [11, 0, 0, 0, 0, 0, 0, 0, 0, 0, 0, 0, 0, 0, 0, 0, 0, 0, 0, 0, 0, 0, 0, 0, 1, 1, 1, 1, 2, 2, 2, 2, 2, 2, 2, 2, 2, 2, 2, 2, 2, 2, 3, 3, 3, 3, 3, 3, 3, 3, 3, 3, 3, 3, 3, 3, 3, 4, 4, 4, 4, 4, 4, 4, 4, 4, 4, 4, 4, 4, 4, 4, 4, 5, 5, 5, 5, 5, 5, 6, 6, 6, 7, 7, 7, 7, 7, 7, 7, 8, 8, 8, 8, 8, 8, 8, 8, 8, 8, 8, 8, 8, 8, 8, 8, 8, 8, 8, 8, 8, 8, 8, 8, 8, 8, 8, 8, 8, 8, 8, 8, 9, 9, 9, 9, 9, 9, 9, 9, 9, 9, 9, 9, 9, 9, 9, 9, 9, 9, 9, 9, 9, 9, 9, 9, 9, 9, 9, 9, 9, 9, 9, 9, 9, 9, 9, 9, 9, 9, 9, 9, 9, 9, 9, 9, 9, 9, 9, 9, 9, 9, 9, 9, 9, 9, 9, 9, 9, 9, 9, 9, 9, 9, 9, 9, 10, 10, 10, 10, 10, 10, 10, 10, 10, 10, 10, 10, 10, 10, 10, 10, 10, 10, 10, 10, 10, 10, 10, 10, 10, 10, 10, 10, 10, 10, 10, 10, 10, 10, 10, 10, 10, 10, 10, 10, 10, 10, 10, 10, 10, 10, 10, 10, 10, 10, 10, 10, 10, 10, 10, 10, 10, 10, 10, 10, 10, 10, 10, 10, 10, 10, 10, 10, 10, 10, 10, 10, 10, 10, 10, 10, 10, 10, 10, 10, 10, 10, 10, 10, 10, 10, 10, 10, 10, 10, 10, 10, 10, 10, 10, 10, 10, 10, 10, 10, 10, 10] := v_all2_app v_okc0 (v_all2_app v_okc1 (v_all2_app v_okc2 (v_all2_app v_okc3 (v_all2_app v_okc4 (v_all2_app v_okc5 (v_all2_app v_okc6 (v_all2_app v_okc7 (v_all2_app v_okc8 (v_all2_app v_okc9 (v_all2_app v_okc10 (v_okc11)))))))))))
theorem v_ms_len : v_ms.length = 287 := by decide +kernel
theorem v_okm {i : Nat} (h : i < 287) : v_OKm (v_cidx i) (v_m i) := v_all2_get v_okall i (by rw [v_ms_len]; exact h)
