section
-- ===== PART A: goes FIRST, ahead of the names: the tables' words, and 'selects' of the private methods out of them =====
/-- a private method of a class that the tables say can be made, by its rows of tables_1 -/
def lw_okq (q : MethodName × Nat) : Prop := (q.1.cls ≠ "java/lang/invoke/MethodHandle" ∧ q.1.cls ≠ "java/lang/invoke/VarHandle") ∧ Cond.instantiable q.1.cls q.2 ∈ tables_1 ∧ Cond.privateMethod q.1 ∈ tables_1 ∧ Cond.instanceMethod q.1 ∈ tables_1
theorem lw_p0 : lw_okq (⟨"BeeYard", "refuse", "(I)I"⟩, 11) := ⟨⟨by decide +kernel, by decide +kernel⟩, List.mem_of_getElem? (i := 15) (by decide +kernel), List.mem_of_getElem? (i := 231) (by decide +kernel), List.mem_of_getElem? (i := 232) (by decide +kernel)⟩
theorem lw_p1 : lw_okq (⟨"BeeYard", "beginChange", "()V"⟩, 11) := ⟨⟨by decide +kernel, by decide +kernel⟩, List.mem_of_getElem? (i := 15) (by decide +kernel), List.mem_of_getElem? (i := 235) (by decide +kernel), List.mem_of_getElem? (i := 236) (by decide +kernel)⟩
theorem lw_p2 : lw_okq (⟨"BeeYard", "accept", "(I)I"⟩, 11) := ⟨⟨by decide +kernel, by decide +kernel⟩, List.mem_of_getElem? (i := 15) (by decide +kernel), List.mem_of_getElem? (i := 418) (by decide +kernel), List.mem_of_getElem? (i := 419) (by decide +kernel)⟩
theorem lw_p3 : lw_okq (⟨"BeeYard", "hiveFault", "(I)I"⟩, 11) := ⟨⟨by decide +kernel, by decide +kernel⟩, List.mem_of_getElem? (i := 15) (by decide +kernel), List.mem_of_getElem? (i := 426) (by decide +kernel), List.mem_of_getElem? (i := 427) (by decide +kernel)⟩
theorem lw_p4 : lw_okq (⟨"BeeYard", "placeFault", "(I)I"⟩, 11) := ⟨⟨by decide +kernel, by decide +kernel⟩, List.mem_of_getElem? (i := 15) (by decide +kernel), List.mem_of_getElem? (i := 443) (by decide +kernel), List.mem_of_getElem? (i := 444) (by decide +kernel)⟩
theorem lw_p5 : lw_okq (⟨"BeeYard", "frameFault", "(I)I"⟩, 11) := ⟨⟨by decide +kernel, by decide +kernel⟩, List.mem_of_getElem? (i := 15) (by decide +kernel), List.mem_of_getElem? (i := 472) (by decide +kernel), List.mem_of_getElem? (i := 473) (by decide +kernel)⟩
theorem lw_p6 : lw_okq (⟨"BeeYard", "fieldFault", "(II)I"⟩, 11) := ⟨⟨by decide +kernel, by decide +kernel⟩, List.mem_of_getElem? (i := 15) (by decide +kernel), List.mem_of_getElem? (i := 506) (by decide +kernel), List.mem_of_getElem? (i := 507) (by decide +kernel)⟩
theorem lw_p7 : lw_okq (⟨"BeeYard", "moveFault", "(II)I"⟩, 11) := ⟨⟨by decide +kernel, by decide +kernel⟩, List.mem_of_getElem? (i := 15) (by decide +kernel), List.mem_of_getElem? (i := 632) (by decide +kernel), List.mem_of_getElem? (i := 633) (by decide +kernel)⟩
theorem lw_p8 : lw_okq (⟨"BeeYard", "twoHivesFault", "(II)I"⟩, 11) := ⟨⟨by decide +kernel, by decide +kernel⟩, List.mem_of_getElem? (i := 15) (by decide +kernel), List.mem_of_getElem? (i := 652) (by decide +kernel), List.mem_of_getElem? (i := 653) (by decide +kernel)⟩
theorem lw_p9 : lw_okq (⟨"BeeYard", "lineFault", "(III)I"⟩, 11) := ⟨⟨by decide +kernel, by decide +kernel⟩, List.mem_of_getElem? (i := 15) (by decide +kernel), List.mem_of_getElem? (i := 692) (by decide +kernel), List.mem_of_getElem? (i := 693) (by decide +kernel)⟩
theorem lw_p10 : lw_okq (⟨"BeeYard", "thingFault", "(I)I"⟩, 11) := ⟨⟨by decide +kernel, by decide +kernel⟩, List.mem_of_getElem? (i := 15) (by decide +kernel), List.mem_of_getElem? (i := 696) (by decide +kernel), List.mem_of_getElem? (i := 697) (by decide +kernel)⟩
theorem lw_p11 : lw_okq (⟨"BeeYard$Bodies", "droneTells", "(LBeeYard$Thing;)I"⟩, 1) := ⟨⟨by decide +kernel, by decide +kernel⟩, List.mem_of_getElem? (i := 108) (by decide +kernel), List.mem_of_getElem? (i := 797) (by decide +kernel), List.mem_of_getElem? (i := 798) (by decide +kernel)⟩
theorem lw_p12 : lw_okq (⟨"BeeYard$Bodies", "thingTells", "(LBeeYard$Thing;)I"⟩, 1) := ⟨⟨by decide +kernel, by decide +kernel⟩, List.mem_of_getElem? (i := 108) (by decide +kernel), List.mem_of_getElem? (i := 801) (by decide +kernel), List.mem_of_getElem? (i := 802) (by decide +kernel)⟩
theorem lw_p13 : lw_okq (⟨"BeeYard$Bodies", "nucleusTells", "(LBeeYard$Thing;)I"⟩, 1) := ⟨⟨by decide +kernel, by decide +kernel⟩, List.mem_of_getElem? (i := 108) (by decide +kernel), List.mem_of_getElem? (i := 805) (by decide +kernel), List.mem_of_getElem? (i := 806) (by decide +kernel)⟩
theorem lw_p14 : lw_okq (⟨"BeeYard$Bodies", "queenTells", "(LBeeYard$Thing;)I"⟩, 1) := ⟨⟨by decide +kernel, by decide +kernel⟩, List.mem_of_getElem? (i := 108) (by decide +kernel), List.mem_of_getElem? (i := 809) (by decide +kernel), List.mem_of_getElem? (i := 810) (by decide +kernel)⟩
theorem lw_p15 : lw_okq (⟨"BeeYard$Bodies", "swarmCarries", "(LBeeYard$Thing;)I"⟩, 1) := ⟨⟨by decide +kernel, by decide +kernel⟩, List.mem_of_getElem? (i := 108) (by decide +kernel), List.mem_of_getElem? (i := 817) (by decide +kernel), List.mem_of_getElem? (i := 818) (by decide +kernel)⟩
def lw_privs_1 : List (MethodName × Nat) := [(⟨"BeeYard", "refuse", "(I)I"⟩, 11), (⟨"BeeYard", "beginChange", "()V"⟩, 11), (⟨"BeeYard", "accept", "(I)I"⟩, 11), (⟨"BeeYard", "hiveFault", "(I)I"⟩, 11), (⟨"BeeYard", "placeFault", "(I)I"⟩, 11), (⟨"BeeYard", "frameFault", "(I)I"⟩, 11), (⟨"BeeYard", "fieldFault", "(II)I"⟩, 11), (⟨"BeeYard", "moveFault", "(II)I"⟩, 11), (⟨"BeeYard", "twoHivesFault", "(II)I"⟩, 11), (⟨"BeeYard", "lineFault", "(III)I"⟩, 11), (⟨"BeeYard", "thingFault", "(I)I"⟩, 11), (⟨"BeeYard$Bodies", "droneTells", "(LBeeYard$Thing;)I"⟩, 1), (⟨"BeeYard$Bodies", "thingTells", "(LBeeYard$Thing;)I"⟩, 1), (⟨"BeeYard$Bodies", "nucleusTells", "(LBeeYard$Thing;)I"⟩, 1), (⟨"BeeYard$Bodies", "queenTells", "(LBeeYard$Thing;)I"⟩, 1), (⟨"BeeYard$Bodies", "swarmCarries", "(LBeeYard$Thing;)I"⟩, 1)]
theorem lw_r1 : ∀ q ∈ lw_privs_1, lw_okq q := List.forall_mem_cons.mpr ⟨lw_p0, List.forall_mem_cons.mpr ⟨lw_p1, List.forall_mem_cons.mpr ⟨lw_p2, List.forall_mem_cons.mpr ⟨lw_p3, List.forall_mem_cons.mpr ⟨lw_p4, List.forall_mem_cons.mpr ⟨lw_p5, List.forall_mem_cons.mpr ⟨lw_p6, List.forall_mem_cons.mpr ⟨lw_p7, List.forall_mem_cons.mpr ⟨lw_p8, List.forall_mem_cons.mpr ⟨lw_p9, List.forall_mem_cons.mpr ⟨lw_p10, List.forall_mem_cons.mpr ⟨lw_p11, List.forall_mem_cons.mpr ⟨lw_p12, List.forall_mem_cons.mpr ⟨lw_p13, List.forall_mem_cons.mpr ⟨lw_p14, List.forall_mem_cons.mpr ⟨lw_p15, fun _ h => absurd h List.not_mem_nil⟩⟩⟩⟩⟩⟩⟩⟩⟩⟩⟩⟩⟩⟩⟩⟩
theorem lw_p16 : lw_okq (⟨"BeeYard$Bodies", "nucleusCarries", "(LBeeYard$Thing;)I"⟩, 1) := ⟨⟨by decide +kernel, by decide +kernel⟩, List.mem_of_getElem? (i := 108) (by decide +kernel), List.mem_of_getElem? (i := 821) (by decide +kernel), List.mem_of_getElem? (i := 822) (by decide +kernel)⟩
theorem lw_p17 : lw_okq (⟨"BeeYard$Bodies", "thingCarries", "()I"⟩, 1) := ⟨⟨by decide +kernel, by decide +kernel⟩, List.mem_of_getElem? (i := 108) (by decide +kernel), List.mem_of_getElem? (i := 826) (by decide +kernel), List.mem_of_getElem? (i := 827) (by decide +kernel)⟩
theorem lw_p18 : lw_okq (⟨"BeeYard$Bodies", "virginLays", "(LBeeYard$Thing;)I"⟩, 1) := ⟨⟨by decide +kernel, by decide +kernel⟩, List.mem_of_getElem? (i := 108) (by decide +kernel), List.mem_of_getElem? (i := 834) (by decide +kernel), List.mem_of_getElem? (i := 835) (by decide +kernel)⟩
theorem lw_p19 : lw_okq (⟨"BeeYard$Bodies", "queenLays", "()I"⟩, 1) := ⟨⟨by decide +kernel, by decide +kernel⟩, List.mem_of_getElem? (i := 108) (by decide +kernel), List.mem_of_getElem? (i := 838) (by decide +kernel), List.mem_of_getElem? (i := 839) (by decide +kernel)⟩
theorem lw_p20 : lw_okq (⟨"BeeYard$Bodies", "matedLays", "(LBeeYard$Thing;)I"⟩, 1) := ⟨⟨by decide +kernel, by decide +kernel⟩, List.mem_of_getElem? (i := 108) (by decide +kernel), List.mem_of_getElem? (i := 842) (by decide +kernel), List.mem_of_getElem? (i := 843) (by decide +kernel)⟩
theorem lw_p21 : lw_okq (⟨"BeeYard$Bodies", "virginAges", "(LBeeYard$Thing;)V"⟩, 1) := ⟨⟨by decide +kernel, by decide +kernel⟩, List.mem_of_getElem? (i := 108) (by decide +kernel), List.mem_of_getElem? (i := 901) (by decide +kernel), List.mem_of_getElem? (i := 902) (by decide +kernel)⟩
theorem lw_p22 : lw_okq (⟨"BeeYard$Bodies", "thingAges", "(LBeeYard$Thing;)V"⟩, 1) := ⟨⟨by decide +kernel, by decide +kernel⟩, List.mem_of_getElem? (i := 108) (by decide +kernel), List.mem_of_getElem? (i := 905) (by decide +kernel), List.mem_of_getElem? (i := 906) (by decide +kernel)⟩
theorem lw_p23 : lw_okq (⟨"BeeYard$Bodies", "swarmAges", "(LBeeYard$Thing;)V"⟩, 1) := ⟨⟨by decide +kernel, by decide +kernel⟩, List.mem_of_getElem? (i := 108) (by decide +kernel), List.mem_of_getElem? (i := 909) (by decide +kernel), List.mem_of_getElem? (i := 910) (by decide +kernel)⟩
theorem lw_p24 : lw_okq (⟨"BeeYardModel", "no", "(I)I"⟩, 20) := ⟨⟨by decide +kernel, by decide +kernel⟩, List.mem_of_getElem? (i := 1095) (by decide +kernel), List.mem_of_getElem? (i := 1171) (by decide +kernel), List.mem_of_getElem? (i := 1172) (by decide +kernel)⟩
theorem lw_p25 : lw_okq (⟨"BeeYardModel", "keep", "()V"⟩, 20) := ⟨⟨by decide +kernel, by decide +kernel⟩, List.mem_of_getElem? (i := 1095) (by decide +kernel), List.mem_of_getElem? (i := 1175) (by decide +kernel), List.mem_of_getElem? (i := 1176) (by decide +kernel)⟩
theorem lw_p26 : lw_okq (⟨"BeeYardModel", "setHive", "(III)V"⟩, 20) := ⟨⟨by decide +kernel, by decide +kernel⟩, List.mem_of_getElem? (i := 1095) (by decide +kernel), List.mem_of_getElem? (i := 1179) (by decide +kernel), List.mem_of_getElem? (i := 1180) (by decide +kernel)⟩
theorem lw_p27 : lw_okq (⟨"BeeYardModel", "yes", "(I)I"⟩, 20) := ⟨⟨by decide +kernel, by decide +kernel⟩, List.mem_of_getElem? (i := 1095) (by decide +kernel), List.mem_of_getElem? (i := 1183) (by decide +kernel), List.mem_of_getElem? (i := 1184) (by decide +kernel)⟩
theorem lw_p28 : lw_okq (⟨"BeeYardModel", "hiveWhy", "(I)I"⟩, 20) := ⟨⟨by decide +kernel, by decide +kernel⟩, List.mem_of_getElem? (i := 1095) (by decide +kernel), List.mem_of_getElem? (i := 1191) (by decide +kernel), List.mem_of_getElem? (i := 1192) (by decide +kernel)⟩
theorem lw_p29 : lw_okq (⟨"BeeYardModel", "hiveAt", "(II)I"⟩, 20) := ⟨⟨by decide +kernel, by decide +kernel⟩, List.mem_of_getElem? (i := 1095) (by decide +kernel), List.mem_of_getElem? (i := 1195) (by decide +kernel), List.mem_of_getElem? (i := 1196) (by decide +kernel)⟩
theorem lw_p30 : lw_okq (⟨"BeeYardModel", "placeWhy", "(I)I"⟩, 20) := ⟨⟨by decide +kernel, by decide +kernel⟩, List.mem_of_getElem? (i := 1095) (by decide +kernel), List.mem_of_getElem? (i := 1203) (by decide +kernel), List.mem_of_getElem? (i := 1204) (by decide +kernel)⟩
theorem lw_p31 : lw_okq (⟨"BeeYardModel", "frameAt", "(I)I"⟩, 20) := ⟨⟨by decide +kernel, by decide +kernel⟩, List.mem_of_getElem? (i := 1095) (by decide +kernel), List.mem_of_getElem? (i := 1207) (by decide +kernel), List.mem_of_getElem? (i := 1208) (by decide +kernel)⟩
def lw_privs_2 : List (MethodName × Nat) := [(⟨"BeeYard$Bodies", "nucleusCarries", "(LBeeYard$Thing;)I"⟩, 1), (⟨"BeeYard$Bodies", "thingCarries", "()I"⟩, 1), (⟨"BeeYard$Bodies", "virginLays", "(LBeeYard$Thing;)I"⟩, 1), (⟨"BeeYard$Bodies", "queenLays", "()I"⟩, 1), (⟨"BeeYard$Bodies", "matedLays", "(LBeeYard$Thing;)I"⟩, 1), (⟨"BeeYard$Bodies", "virginAges", "(LBeeYard$Thing;)V"⟩, 1), (⟨"BeeYard$Bodies", "thingAges", "(LBeeYard$Thing;)V"⟩, 1), (⟨"BeeYard$Bodies", "swarmAges", "(LBeeYard$Thing;)V"⟩, 1), (⟨"BeeYardModel", "no", "(I)I"⟩, 20), (⟨"BeeYardModel", "keep", "()V"⟩, 20), (⟨"BeeYardModel", "setHive", "(III)V"⟩, 20), (⟨"BeeYardModel", "yes", "(I)I"⟩, 20), (⟨"BeeYardModel", "hiveWhy", "(I)I"⟩, 20), (⟨"BeeYardModel", "hiveAt", "(II)I"⟩, 20), (⟨"BeeYardModel", "placeWhy", "(I)I"⟩, 20), (⟨"BeeYardModel", "frameAt", "(I)I"⟩, 20)]
theorem lw_r2 : ∀ q ∈ lw_privs_2, lw_okq q := List.forall_mem_cons.mpr ⟨lw_p16, List.forall_mem_cons.mpr ⟨lw_p17, List.forall_mem_cons.mpr ⟨lw_p18, List.forall_mem_cons.mpr ⟨lw_p19, List.forall_mem_cons.mpr ⟨lw_p20, List.forall_mem_cons.mpr ⟨lw_p21, List.forall_mem_cons.mpr ⟨lw_p22, List.forall_mem_cons.mpr ⟨lw_p23, List.forall_mem_cons.mpr ⟨lw_p24, List.forall_mem_cons.mpr ⟨lw_p25, List.forall_mem_cons.mpr ⟨lw_p26, List.forall_mem_cons.mpr ⟨lw_p27, List.forall_mem_cons.mpr ⟨lw_p28, List.forall_mem_cons.mpr ⟨lw_p29, List.forall_mem_cons.mpr ⟨lw_p30, List.forall_mem_cons.mpr ⟨lw_p31, fun _ h => absurd h List.not_mem_nil⟩⟩⟩⟩⟩⟩⟩⟩⟩⟩⟩⟩⟩⟩⟩⟩
theorem lw_p32 : lw_okq (⟨"BeeYardModel", "setField", "(III)V"⟩, 20) := ⟨⟨by decide +kernel, by decide +kernel⟩, List.mem_of_getElem? (i := 1095) (by decide +kernel), List.mem_of_getElem? (i := 1211) (by decide +kernel), List.mem_of_getElem? (i := 1212) (by decide +kernel)⟩
theorem lw_p33 : lw_okq (⟨"BeeYardModel", "frameWhy", "(I)I"⟩, 20) := ⟨⟨by decide +kernel, by decide +kernel⟩, List.mem_of_getElem? (i := 1095) (by decide +kernel), List.mem_of_getElem? (i := 1219) (by decide +kernel), List.mem_of_getElem? (i := 1220) (by decide +kernel)⟩
theorem lw_p34 : lw_okq (⟨"BeeYardModel", "fieldWhy", "(II)I"⟩, 20) := ⟨⟨by decide +kernel, by decide +kernel⟩, List.mem_of_getElem? (i := 1095) (by decide +kernel), List.mem_of_getElem? (i := 1239) (by decide +kernel), List.mem_of_getElem? (i := 1240) (by decide +kernel)⟩
theorem lw_p35 : lw_okq (⟨"BeeYardModel", "fieldsOf", "(I)I"⟩, 20) := ⟨⟨by decide +kernel, by decide +kernel⟩, List.mem_of_getElem? (i := 1095) (by decide +kernel), List.mem_of_getElem? (i := 1243) (by decide +kernel), List.mem_of_getElem? (i := 1244) (by decide +kernel)⟩
theorem lw_p36 : lw_okq (⟨"BeeYardModel", "fieldAt", "(II)I"⟩, 20) := ⟨⟨by decide +kernel, by decide +kernel⟩, List.mem_of_getElem? (i := 1095) (by decide +kernel), List.mem_of_getElem? (i := 1247) (by decide +kernel), List.mem_of_getElem? (i := 1248) (by decide +kernel)⟩
theorem lw_p37 : lw_okq (⟨"BeeYardModel", "honeyIn", "(I)I"⟩, 20) := ⟨⟨by decide +kernel, by decide +kernel⟩, List.mem_of_getElem? (i := 1095) (by decide +kernel), List.mem_of_getElem? (i := 1266) (by decide +kernel), List.mem_of_getElem? (i := 1267) (by decide +kernel)⟩
theorem lw_p38 : lw_okq (⟨"BeeYardModel", "honeyOf", "(I)I"⟩, 20) := ⟨⟨by decide +kernel, by decide +kernel⟩, List.mem_of_getElem? (i := 1095) (by decide +kernel), List.mem_of_getElem? (i := 1278) (by decide +kernel), List.mem_of_getElem? (i := 1279) (by decide +kernel)⟩
theorem lw_p39 : lw_okq (⟨"BeeYardModel", "moveWhy", "(II)I"⟩, 20) := ⟨⟨by decide +kernel, by decide +kernel⟩, List.mem_of_getElem? (i := 1095) (by decide +kernel), List.mem_of_getElem? (i := 1286) (by decide +kernel), List.mem_of_getElem? (i := 1287) (by decide +kernel)⟩
theorem lw_p40 : lw_okq (⟨"BeeYardModel", "moveOne", "(II)V"⟩, 20) := ⟨⟨by decide +kernel, by decide +kernel⟩, List.mem_of_getElem? (i := 1095) (by decide +kernel), List.mem_of_getElem? (i := 1293) (by decide +kernel), List.mem_of_getElem? (i := 1294) (by decide +kernel)⟩
theorem lw_p41 : lw_okq (⟨"BeeYardModel", "carryFrom", "(III)V"⟩, 20) := ⟨⟨by decide +kernel, by decide +kernel⟩, List.mem_of_getElem? (i := 1095) (by decide +kernel), List.mem_of_getElem? (i := 1305) (by decide +kernel), List.mem_of_getElem? (i := 1306) (by decide +kernel)⟩
theorem lw_p42 : lw_okq (⟨"BeeYardModel", "carry", "(II)V"⟩, 20) := ⟨⟨by decide +kernel, by decide +kernel⟩, List.mem_of_getElem? (i := 1095) (by decide +kernel), List.mem_of_getElem? (i := 1309) (by decide +kernel), List.mem_of_getElem? (i := 1310) (by decide +kernel)⟩
theorem lw_p43 : lw_okq (⟨"BeeYardModel", "newThing", "(I)I"⟩, 20) := ⟨⟨by decide +kernel, by decide +kernel⟩, List.mem_of_getElem? (i := 1095) (by decide +kernel), List.mem_of_getElem? (i := 1325) (by decide +kernel), List.mem_of_getElem? (i := 1326) (by decide +kernel)⟩
theorem lw_p44 : lw_okq (⟨"BeeYardModel", "setThing", "(III)V"⟩, 20) := ⟨⟨by decide +kernel, by decide +kernel⟩, List.mem_of_getElem? (i := 1095) (by decide +kernel), List.mem_of_getElem? (i := 1329) (by decide +kernel), List.mem_of_getElem? (i := 1330) (by decide +kernel)⟩
theorem lw_p45 : lw_okq (⟨"BeeYardModel", "thingWhy", "(I)I"⟩, 20) := ⟨⟨by decide +kernel, by decide +kernel⟩, List.mem_of_getElem? (i := 1095) (by decide +kernel), List.mem_of_getElem? (i := 1337) (by decide +kernel), List.mem_of_getElem? (i := 1338) (by decide +kernel)⟩
theorem lw_p46 : lw_okq (⟨"BeeYardModel", "parentWhy", "(IZ)I"⟩, 20) := ⟨⟨by decide +kernel, by decide +kernel⟩, List.mem_of_getElem? (i := 1095) (by decide +kernel), List.mem_of_getElem? (i := 1341) (by decide +kernel), List.mem_of_getElem? (i := 1342) (by decide +kernel)⟩
theorem lw_p47 : lw_okq (⟨"BeeYardModel", "isQueen", "(I)Z"⟩, 20) := ⟨⟨by decide +kernel, by decide +kernel⟩, List.mem_of_getElem? (i := 1095) (by decide +kernel), List.mem_of_getElem? (i := 1345) (by decide +kernel), List.mem_of_getElem? (i := 1346) (by decide +kernel)⟩
def lw_privs_3 : List (MethodName × Nat) := [(⟨"BeeYardModel", "setField", "(III)V"⟩, 20), (⟨"BeeYardModel", "frameWhy", "(I)I"⟩, 20), (⟨"BeeYardModel", "fieldWhy", "(II)I"⟩, 20), (⟨"BeeYardModel", "fieldsOf", "(I)I"⟩, 20), (⟨"BeeYardModel", "fieldAt", "(II)I"⟩, 20), (⟨"BeeYardModel", "honeyIn", "(I)I"⟩, 20), (⟨"BeeYardModel", "honeyOf", "(I)I"⟩, 20), (⟨"BeeYardModel", "moveWhy", "(II)I"⟩, 20), (⟨"BeeYardModel", "moveOne", "(II)V"⟩, 20), (⟨"BeeYardModel", "carryFrom", "(III)V"⟩, 20), (⟨"BeeYardModel", "carry", "(II)V"⟩, 20), (⟨"BeeYardModel", "newThing", "(I)I"⟩, 20), (⟨"BeeYardModel", "setThing", "(III)V"⟩, 20), (⟨"BeeYardModel", "thingWhy", "(I)I"⟩, 20), (⟨"BeeYardModel", "parentWhy", "(IZ)I"⟩, 20), (⟨"BeeYardModel", "isQueen", "(I)Z"⟩, 20)]
theorem lw_r3 : ∀ q ∈ lw_privs_3, lw_okq q := List.forall_mem_cons.mpr ⟨lw_p32, List.forall_mem_cons.mpr ⟨lw_p33, List.forall_mem_cons.mpr ⟨lw_p34, List.forall_mem_cons.mpr ⟨lw_p35, List.forall_mem_cons.mpr ⟨lw_p36, List.forall_mem_cons.mpr ⟨lw_p37, List.forall_mem_cons.mpr ⟨lw_p38, List.forall_mem_cons.mpr ⟨lw_p39, List.forall_mem_cons.mpr ⟨lw_p40, List.forall_mem_cons.mpr ⟨lw_p41, List.forall_mem_cons.mpr ⟨lw_p42, List.forall_mem_cons.mpr ⟨lw_p43, List.forall_mem_cons.mpr ⟨lw_p44, List.forall_mem_cons.mpr ⟨lw_p45, List.forall_mem_cons.mpr ⟨lw_p46, List.forall_mem_cons.mpr ⟨lw_p47, fun _ h => absurd h List.not_mem_nil⟩⟩⟩⟩⟩⟩⟩⟩⟩⟩⟩⟩⟩⟩⟩⟩
theorem lw_p48 : lw_okq (⟨"BeeYardModel", "thingAt", "(II)I"⟩, 20) := ⟨⟨by decide +kernel, by decide +kernel⟩, List.mem_of_getElem? (i := 1095) (by decide +kernel), List.mem_of_getElem? (i := 1349) (by decide +kernel), List.mem_of_getElem? (i := 1350) (by decide +kernel)⟩
theorem lw_p49 : lw_okq (⟨"BeeYardModel", "markFrom", "(I)V"⟩, 20) := ⟨⟨by decide +kernel, by decide +kernel⟩, List.mem_of_getElem? (i := 1095) (by decide +kernel), List.mem_of_getElem? (i := 1353) (by decide +kernel), List.mem_of_getElem? (i := 1354) (by decide +kernel)⟩
theorem lw_p50 : lw_okq (⟨"BeeYardModel", "reckonDepths", "(I)V"⟩, 20) := ⟨⟨by decide +kernel, by decide +kernel⟩, List.mem_of_getElem? (i := 1095) (by decide +kernel), List.mem_of_getElem? (i := 1357) (by decide +kernel), List.mem_of_getElem? (i := 1358) (by decide +kernel)⟩
theorem lw_p51 : lw_okq (⟨"BeeYardModel", "reckonKin", "()V"⟩, 20) := ⟨⟨by decide +kernel, by decide +kernel⟩, List.mem_of_getElem? (i := 1095) (by decide +kernel), List.mem_of_getElem? (i := 1365) (by decide +kernel), List.mem_of_getElem? (i := 1366) (by decide +kernel)⟩
theorem lw_p52 : lw_okq (⟨"BeeYardModel", "kinAt", "(II)I"⟩, 20) := ⟨⟨by decide +kernel, by decide +kernel⟩, List.mem_of_getElem? (i := 1095) (by decide +kernel), List.mem_of_getElem? (i := 1369) (by decide +kernel), List.mem_of_getElem? (i := 1370) (by decide +kernel)⟩
theorem lw_p53 : lw_okq (⟨"BeeYardModel", "asked", "(II)I"⟩, 20) := ⟨⟨by decide +kernel, by decide +kernel⟩, List.mem_of_getElem? (i := 1095) (by decide +kernel), List.mem_of_getElem? (i := 1378) (by decide +kernel), List.mem_of_getElem? (i := 1379) (by decide +kernel)⟩
theorem lw_p54 : lw_okq (⟨"BeeYardModel", "run", "(I)V"⟩, 20) := ⟨⟨by decide +kernel, by decide +kernel⟩, List.mem_of_getElem? (i := 1095) (by decide +kernel), List.mem_of_getElem? (i := 1382) (by decide +kernel), List.mem_of_getElem? (i := 1383) (by decide +kernel)⟩
theorem lw_p55 : lw_okq (⟨"BeeYardModel", "tells", "(I)I"⟩, 20) := ⟨⟨by decide +kernel, by decide +kernel⟩, List.mem_of_getElem? (i := 1095) (by decide +kernel), List.mem_of_getElem? (i := 1386) (by decide +kernel), List.mem_of_getElem? (i := 1387) (by decide +kernel)⟩
theorem lw_p56 : lw_okq (⟨"BeeYardModel", "carries", "(I)I"⟩, 20) := ⟨⟨by decide +kernel, by decide +kernel⟩, List.mem_of_getElem? (i := 1095) (by decide +kernel), List.mem_of_getElem? (i := 1390) (by decide +kernel), List.mem_of_getElem? (i := 1391) (by decide +kernel)⟩
theorem lw_p57 : lw_okq (⟨"BeeYardModel", "lays", "(I)I"⟩, 20) := ⟨⟨by decide +kernel, by decide +kernel⟩, List.mem_of_getElem? (i := 1095) (by decide +kernel), List.mem_of_getElem? (i := 1394) (by decide +kernel), List.mem_of_getElem? (i := 1395) (by decide +kernel)⟩
theorem lw_p58 : lw_okq (⟨"BeeYardModel", "hiveOf", "(I)I"⟩, 20) := ⟨⟨by decide +kernel, by decide +kernel⟩, List.mem_of_getElem? (i := 1095) (by decide +kernel), List.mem_of_getElem? (i := 1401) (by decide +kernel), List.mem_of_getElem? (i := 1402) (by decide +kernel)⟩
theorem lw_p59 : lw_okq (⟨"BeeYardModel", "swarmOf", "(I)I"⟩, 20) := ⟨⟨by decide +kernel, by decide +kernel⟩, List.mem_of_getElem? (i := 1095) (by decide +kernel), List.mem_of_getElem? (i := 1405) (by decide +kernel), List.mem_of_getElem? (i := 1406) (by decide +kernel)⟩
theorem lw_p60 : lw_okq (⟨"BeeYardModel", "ages", "(I)V"⟩, 20) := ⟨⟨by decide +kernel, by decide +kernel⟩, List.mem_of_getElem? (i := 1095) (by decide +kernel), List.mem_of_getElem? (i := 1425) (by decide +kernel), List.mem_of_getElem? (i := 1426) (by decide +kernel)⟩
theorem lw_p61 : lw_okq (⟨"BeeYardModel", "grow", "(I)V"⟩, 20) := ⟨⟨by decide +kernel, by decide +kernel⟩, List.mem_of_getElem? (i := 1095) (by decide +kernel), List.mem_of_getElem? (i := 1429) (by decide +kernel), List.mem_of_getElem? (i := 1430) (by decide +kernel)⟩
theorem lw_p62 : lw_okq (⟨"BeeYardModel", "layIn", "(I)V"⟩, 20) := ⟨⟨by decide +kernel, by decide +kernel⟩, List.mem_of_getElem? (i := 1095) (by decide +kernel), List.mem_of_getElem? (i := 1433) (by decide +kernel), List.mem_of_getElem? (i := 1434) (by decide +kernel)⟩
theorem lw_p63 : lw_okq (⟨"BeeYardModel", "fill", "(III)V"⟩, 20) := ⟨⟨by decide +kernel, by decide +kernel⟩, List.mem_of_getElem? (i := 1095) (by decide +kernel), List.mem_of_getElem? (i := 1437) (by decide +kernel), List.mem_of_getElem? (i := 1438) (by decide +kernel)⟩
def lw_privs_4 : List (MethodName × Nat) := [(⟨"BeeYardModel", "thingAt", "(II)I"⟩, 20), (⟨"BeeYardModel", "markFrom", "(I)V"⟩, 20), (⟨"BeeYardModel", "reckonDepths", "(I)V"⟩, 20), (⟨"BeeYardModel", "reckonKin", "()V"⟩, 20), (⟨"BeeYardModel", "kinAt", "(II)I"⟩, 20), (⟨"BeeYardModel", "asked", "(II)I"⟩, 20), (⟨"BeeYardModel", "run", "(I)V"⟩, 20), (⟨"BeeYardModel", "tells", "(I)I"⟩, 20), (⟨"BeeYardModel", "carries", "(I)I"⟩, 20), (⟨"BeeYardModel", "lays", "(I)I"⟩, 20), (⟨"BeeYardModel", "hiveOf", "(I)I"⟩, 20), (⟨"BeeYardModel", "swarmOf", "(I)I"⟩, 20), (⟨"BeeYardModel", "ages", "(I)V"⟩, 20), (⟨"BeeYardModel", "grow", "(I)V"⟩, 20), (⟨"BeeYardModel", "layIn", "(I)V"⟩, 20), (⟨"BeeYardModel", "fill", "(III)V"⟩, 20)]
theorem lw_r4 : ∀ q ∈ lw_privs_4, lw_okq q := List.forall_mem_cons.mpr ⟨lw_p48, List.forall_mem_cons.mpr ⟨lw_p49, List.forall_mem_cons.mpr ⟨lw_p50, List.forall_mem_cons.mpr ⟨lw_p51, List.forall_mem_cons.mpr ⟨lw_p52, List.forall_mem_cons.mpr ⟨lw_p53, List.forall_mem_cons.mpr ⟨lw_p54, List.forall_mem_cons.mpr ⟨lw_p55, List.forall_mem_cons.mpr ⟨lw_p56, List.forall_mem_cons.mpr ⟨lw_p57, List.forall_mem_cons.mpr ⟨lw_p58, List.forall_mem_cons.mpr ⟨lw_p59, List.forall_mem_cons.mpr ⟨lw_p60, List.forall_mem_cons.mpr ⟨lw_p61, List.forall_mem_cons.mpr ⟨lw_p62, List.forall_mem_cons.mpr ⟨lw_p63, fun _ h => absurd h List.not_mem_nil⟩⟩⟩⟩⟩⟩⟩⟩⟩⟩⟩⟩⟩⟩⟩⟩
theorem lw_p64 : lw_okq (⟨"BeeYardModel", "eat", "(I)V"⟩, 20) := ⟨⟨by decide +kernel, by decide +kernel⟩, List.mem_of_getElem? (i := 1095) (by decide +kernel), List.mem_of_getElem? (i := 1444) (by decide +kernel), List.mem_of_getElem? (i := 1445) (by decide +kernel)⟩
theorem lw_p65 : lw_okq (⟨"BeeYardModel", "overFrom", "(III)J"⟩, 20) := ⟨⟨by decide +kernel, by decide +kernel⟩, List.mem_of_getElem? (i := 1095) (by decide +kernel), List.mem_of_getElem? (i := 1492) (by decide +kernel), List.mem_of_getElem? (i := 1493) (by decide +kernel)⟩
theorem lw_p66 : lw_okq (⟨"BeeYardModel", "reckonLeast", "(I)V"⟩, 20) := ⟨⟨by decide +kernel, by decide +kernel⟩, List.mem_of_getElem? (i := 1095) (by decide +kernel), List.mem_of_getElem? (i := 1496) (by decide +kernel), List.mem_of_getElem? (i := 1497) (by decide +kernel)⟩
theorem lw_p67 : lw_okq (⟨"BeeYardModel", "lateness", "(II)J"⟩, 20) := ⟨⟨by decide +kernel, by decide +kernel⟩, List.mem_of_getElem? (i := 1095) (by decide +kernel), List.mem_of_getElem? (i := 1501) (by decide +kernel), List.mem_of_getElem? (i := 1502) (by decide +kernel)⟩
theorem lw_p68 : lw_okq (⟨"BeeYardModel", "countIn", "(II)I"⟩, 20) := ⟨⟨by decide +kernel, by decide +kernel⟩, List.mem_of_getElem? (i := 1095) (by decide +kernel), List.mem_of_getElem? (i := 1513) (by decide +kernel), List.mem_of_getElem? (i := 1514) (by decide +kernel)⟩
theorem lw_p69 : lw_okq (⟨"BeeYardModel", "hasValue", "(II)Z"⟩, 20) := ⟨⟨by decide +kernel, by decide +kernel⟩, List.mem_of_getElem? (i := 1095) (by decide +kernel), List.mem_of_getElem? (i := 1528) (by decide +kernel), List.mem_of_getElem? (i := 1529) (by decide +kernel)⟩
def lw_privs_5 : List (MethodName × Nat) := [(⟨"BeeYardModel", "eat", "(I)V"⟩, 20), (⟨"BeeYardModel", "overFrom", "(III)J"⟩, 20), (⟨"BeeYardModel", "reckonLeast", "(I)V"⟩, 20), (⟨"BeeYardModel", "lateness", "(II)J"⟩, 20), (⟨"BeeYardModel", "countIn", "(II)I"⟩, 20), (⟨"BeeYardModel", "hasValue", "(II)Z"⟩, 20)]
theorem lw_r5 : ∀ q ∈ lw_privs_5, lw_okq q := List.forall_mem_cons.mpr ⟨lw_p64, List.forall_mem_cons.mpr ⟨lw_p65, List.forall_mem_cons.mpr ⟨lw_p66, List.forall_mem_cons.mpr ⟨lw_p67, List.forall_mem_cons.mpr ⟨lw_p68, List.forall_mem_cons.mpr ⟨lw_p69, fun _ h => absurd h List.not_mem_nil⟩⟩⟩⟩⟩⟩
def lw_privs : List (MethodName × Nat) := lw_privs_1 ++ (lw_privs_2 ++ (lw_privs_3 ++ (lw_privs_4 ++ (lw_privs_5))))
def lw_tbl : List Cond := k2_sels lw_privs ++ tables_1
theorem lw_privs_ok : ∀ q ∈ lw_privs, lw_okq q := by
  show ∀ q ∈ lw_privs_1 ++ (lw_privs_2 ++ (lw_privs_3 ++ (lw_privs_4 ++ (lw_privs_5)))), lw_okq q
  exact List.forall_mem_append.mpr ⟨lw_r1, List.forall_mem_append.mpr ⟨lw_r2, List.forall_mem_append.mpr ⟨lw_r3, List.forall_mem_append.mpr ⟨lw_r4, lw_r5⟩⟩⟩⟩
end
section
def RX0 : String := "BeeYard$Bodies"
def TX0 : u_T := fun k => match k with
  | _ => ("BeeYard$Bodies", "runs", "[I", true)
def tyX0 : Nat → FieldType := fun k => match k with
  | _ => .array .int
abbrev wsX00 : List Cond := u_ws RX0 TX0 1
theorem nmX0 : ∀ a, a < 1 → ∀ b, b < 1 → a ≠ b → (TX0 a).2.1 ≠ (TX0 b).2.1 := by decide +kernel
theorem tyX0_ok : ∀ k, k < 1 → parseFieldDescriptor (TX0 k).2.2.1 = some (tyX0 k) := by decide +kernel
abbrev cX0_init : ByteArray := prog_2_method_1_code
def yX0_init : MethodName := ⟨RX0, "<init>", "()V"⟩
abbrev cX0_act : ByteArray := prog_2_method_2_code
def yX0_act : MethodName := ⟨RX0, "act", "(LBeeYard$Thing;I)I"⟩
abbrev cX0_tells : ByteArray := prog_2_method_3_code
def yX0_tells : MethodName := ⟨RX0, "tells", "(LBeeYard$Thing;)I"⟩
abbrev cX0_carries : ByteArray := prog_2_method_4_code
def yX0_carries : MethodName := ⟨RX0, "carries", "(LBeeYard$Thing;)I"⟩
abbrev cX0_lays : ByteArray := prog_2_method_5_code
def yX0_lays : MethodName := ⟨RX0, "lays", "(LBeeYard$Thing;)I"⟩
abbrev cX0_ages : ByteArray := prog_2_method_6_code
def yX0_ages : MethodName := ⟨RX0, "ages", "(LBeeYard$Thing;)V"⟩
abbrev cX0_laying : ByteArray := prog_2_method_7_code
def yX0_laying : MethodName := ⟨RX0, "laying", "(LBeeYard$Thing;)Z"⟩
abbrev cX0_old : ByteArray := prog_2_method_8_code
def yX0_old : MethodName := ⟨RX0, "old", "(LBeeYard$Thing;)Z"⟩
abbrev cX0_loaded : ByteArray := prog_2_method_9_code
def yX0_loaded : MethodName := ⟨RX0, "loaded", "(LBeeYard$Thing;)Z"⟩
abbrev cX0_passes : ByteArray := prog_2_method_10_code
def yX0_passes : MethodName := ⟨RX0, "passes", "(LBeeYard$Thing;)V"⟩
abbrev cX0_thingAges : ByteArray := prog_2_method_11_code
def yX0_thingAges : MethodName := ⟨RX0, "thingAges", "(LBeeYard$Thing;)V"⟩
abbrev cX0_thingTells : ByteArray := prog_2_method_12_code
def yX0_thingTells : MethodName := ⟨RX0, "thingTells", "(LBeeYard$Thing;)I"⟩
abbrev cX0_thingCarries : ByteArray := prog_2_method_13_code
def yX0_thingCarries : MethodName := ⟨RX0, "thingCarries", "()I"⟩
abbrev cX0_queenTells : ByteArray := prog_2_method_14_code
def yX0_queenTells : MethodName := ⟨RX0, "queenTells", "(LBeeYard$Thing;)I"⟩
abbrev cX0_queenLays : ByteArray := prog_2_method_15_code
def yX0_queenLays : MethodName := ⟨RX0, "queenLays", "()I"⟩
abbrev cX0_virginAges : ByteArray := prog_2_method_16_code
def yX0_virginAges : MethodName := ⟨RX0, "virginAges", "(LBeeYard$Thing;)V"⟩
abbrev cX0_virginLays : ByteArray := prog_2_method_17_code
def yX0_virginLays : MethodName := ⟨RX0, "virginLays", "(LBeeYard$Thing;)I"⟩
abbrev cX0_matedLays : ByteArray := prog_2_method_18_code
def yX0_matedLays : MethodName := ⟨RX0, "matedLays", "(LBeeYard$Thing;)I"⟩
abbrev cX0_droneTells : ByteArray := prog_2_method_19_code
def yX0_droneTells : MethodName := ⟨RX0, "droneTells", "(LBeeYard$Thing;)I"⟩
abbrev cX0_swarmAges : ByteArray := prog_2_method_20_code
def yX0_swarmAges : MethodName := ⟨RX0, "swarmAges", "(LBeeYard$Thing;)V"⟩
abbrev cX0_swarmCarries : ByteArray := prog_2_method_21_code
def yX0_swarmCarries : MethodName := ⟨RX0, "swarmCarries", "(LBeeYard$Thing;)I"⟩
abbrev cX0_nucleusTells : ByteArray := prog_2_method_22_code
def yX0_nucleusTells : MethodName := ⟨RX0, "nucleusTells", "(LBeeYard$Thing;)I"⟩
abbrev cX0_nucleusCarries : ByteArray := prog_2_method_23_code
def yX0_nucleusCarries : MethodName := ⟨RX0, "nucleusCarries", "(LBeeYard$Thing;)I"⟩
def RX1 : String := "BeeYard$Book"
def TX1 : u_T := fun k => match k with
  | 0 => ("BeeYard$Book", "numbers", "[I", true)
  | 1 => ("BeeYard$Book", "places", "[I", true)
  | 2 => ("BeeYard$Book", "tenths", "[I", true)
  | _ => ("BeeYard$Book", "count", "I", false)
def tyX1 : Nat → FieldType := fun k => match k with
  | 0 => .array .int
  | 1 => .array .int
  | 2 => .array .int
  | _ => .int
abbrev wsX10 : List Cond := u_ws RX1 TX1 4
theorem nmX1 : ∀ a, a < 4 → ∀ b, b < 4 → a ≠ b → (TX1 a).2.1 ≠ (TX1 b).2.1 := by decide +kernel
theorem tyX1_ok : ∀ k, k < 4 → parseFieldDescriptor (TX1 k).2.2.1 = some (tyX1 k) := by decide +kernel
abbrev cX1_init : ByteArray := prog_3_method_1_code
def yX1_init : MethodName := ⟨RX1, "<init>", "()V"⟩
abbrev cX1_addEntry : ByteArray := prog_3_method_2_code
def yX1_addEntry : MethodName := ⟨RX1, "addEntry", "(III)V"⟩
abbrev cX1_entry : ByteArray := prog_3_method_3_code
def yX1_entry : MethodName := ⟨RX1, "entry", "(II)I"⟩
abbrev cX1_become : ByteArray := prog_3_method_4_code
def yX1_become : MethodName := ⟨RX1, "become", "(LBeeYard$Book;)V"⟩
def RX2 : String := "BeeYard$Frame"
def TX2 : u_T := fun k => match k with
  | 0 => ("BeeYard$Frame", "fields", "[I", true)
  | _ => ("BeeYard$Frame", "size", "I", false)
def tyX2 : Nat → FieldType := fun k => match k with
  | 0 => .array .int
  | _ => .int
abbrev wsX20 : List Cond := u_ws RX2 TX2 2
theorem nmX2 : ∀ a, a < 2 → ∀ b, b < 2 → a ≠ b → (TX2 a).2.1 ≠ (TX2 b).2.1 := by decide +kernel
theorem tyX2_ok : ∀ k, k < 2 → parseFieldDescriptor (TX2 k).2.2.1 = some (tyX2 k) := by decide +kernel
abbrev cX2_init : ByteArray := prog_4_method_1_code
def yX2_init : MethodName := ⟨RX2, "<init>", "()V"⟩
abbrev cX2_begin : ByteArray := prog_4_method_2_code
def yX2_begin : MethodName := ⟨RX2, "begin", "(I)V"⟩
abbrev cX2_become : ByteArray := prog_4_method_3_code
def yX2_become : MethodName := ⟨RX2, "become", "(LBeeYard$Frame;)V"⟩
abbrev cX2_holds : ByteArray := prog_4_method_4_code
def yX2_holds : MethodName := ⟨RX2, "holds", "(I)Z"⟩
abbrev cX2_honeyTenths : ByteArray := prog_4_method_5_code
def yX2_honeyTenths : MethodName := ⟨RX2, "honeyTenths", "()I"⟩
abbrev cX2_addHoney : ByteArray := prog_4_method_6_code
def yX2_addHoney : MethodName := ⟨RX2, "addHoney", "(I)I"⟩
abbrev cX2_takeHoney : ByteArray := prog_4_method_7_code
def yX2_takeHoney : MethodName := ⟨RX2, "takeHoney", "(I)I"⟩
abbrev cX2_takeAllHoney : ByteArray := prog_4_method_8_code
def yX2_takeAllHoney : MethodName := ⟨RX2, "takeAllHoney", "()I"⟩
abbrev cX2_pourInto : ByteArray := prog_4_method_9_code
def yX2_pourInto : MethodName := ⟨RX2, "pourInto", "(LBeeYard$Frame;)I"⟩
abbrev cX2_growYoung : ByteArray := prog_4_method_10_code
def yX2_growYoung : MethodName := ⟨RX2, "growYoung", "(LBeeYard$Hive;)V"⟩
abbrev cX2_addYoung : ByteArray := prog_4_method_11_code
def yX2_addYoung : MethodName := ⟨RX2, "addYoung", "(II)I"⟩
abbrev cX2_number : ByteArray := prog_4_method_12_code
def yX2_number : MethodName := ⟨RX2, "number", "(I)I"⟩
abbrev cX2_countLetters : ByteArray := prog_4_method_13_code
def yX2_countLetters : MethodName := ⟨RX2, "countLetters", "(CC)I"⟩
abbrev cX2_digestFrom : ByteArray := prog_4_method_14_code
def yX2_digestFrom : MethodName := ⟨RX2, "digestFrom", "(I)I"⟩
def RX3 : String := "BeeYard$Hive"
def TX3 : u_T := fun k => match k with
  | 0 => ("BeeYard$Hive", "places", "[I", true)
  | 1 => ("BeeYard$Hive", "boxes", "I", false)
  | 2 => ("BeeYard$Hive", "bees", "I", false)
  | 3 => ("BeeYard$Hive", "drones", "I", false)
  | 4 => ("BeeYard$Hive", "hunger", "I", false)
  | 5 => ("BeeYard$Hive", "inSlot", "I", false)
  | 6 => ("BeeYard$Hive", "washings", "I", false)
  | 7 => ("BeeYard$Hive", "mites", "I", false)
  | 8 => ("BeeYard$Hive", "washed", "I", false)
  | 9 => ("BeeYard$Hive", "treatDays", "I", false)
  | 10 => ("BeeYard$Hive", "treatGrowth", "I", false)
  | _ => ("BeeYard$Hive", "finding", "I", false)
def tyX3 : Nat → FieldType := fun k => match k with
  | 0 => .array .int
  | 1 => .int
  | 2 => .int
  | 3 => .int
  | 4 => .int
  | 5 => .int
  | 6 => .int
  | 7 => .int
  | 8 => .int
  | 9 => .int
  | 10 => .int
  | _ => .int
abbrev wsX30 : List Cond := u_ws RX3 TX3 12
theorem nmX3 : ∀ a, a < 12 → ∀ b, b < 12 → a ≠ b → (TX3 a).2.1 ≠ (TX3 b).2.1 := by decide +kernel
theorem tyX3_ok : ∀ k, k < 12 → parseFieldDescriptor (TX3 k).2.2.1 = some (tyX3 k) := by decide +kernel
abbrev cX3_init : ByteArray := prog_5_method_1_code
def yX3_init : MethodName := ⟨RX3, "<init>", "()V"⟩
abbrev cX3_begin : ByteArray := prog_5_method_2_code
def yX3_begin : MethodName := ⟨RX3, "begin", "(I)V"⟩
abbrev cX3_become : ByteArray := prog_5_method_3_code
def yX3_become : MethodName := ⟨RX3, "become", "(LBeeYard$Hive;)V"⟩
abbrev cX3_placeCount : ByteArray := prog_5_method_4_code
def yX3_placeCount : MethodName := ⟨RX3, "placeCount", "()I"⟩
abbrev cX3_addBox : ByteArray := prog_5_method_5_code
def yX3_addBox : MethodName := ⟨RX3, "addBox", "()I"⟩
abbrev cX3_takeBoxes : ByteArray := prog_5_method_6_code
def yX3_takeBoxes : MethodName := ⟨RX3, "takeBoxes", "(LBeeYard$Hive;I)V"⟩
abbrev cX3_takeRest : ByteArray := prog_5_method_7_code
def yX3_takeRest : MethodName := ⟨RX3, "takeRest", "(LBeeYard$Hive;)V"⟩
abbrev cX3_takePart : ByteArray := prog_5_method_8_code
def yX3_takePart : MethodName := ⟨RX3, "takePart", "(LBeeYard$Hive;II)V"⟩
abbrev cX3_sendOff : ByteArray := prog_5_method_9_code
def yX3_sendOff : MethodName := ⟨RX3, "sendOff", "(LBeeYard$Thing;)V"⟩
abbrev cX3_takeIn : ByteArray := prog_5_method_10_code
def yX3_takeIn : MethodName := ⟨RX3, "takeIn", "(LBeeYard$Thing;I)V"⟩
abbrev cX3_forgetWashings : ByteArray := prog_5_method_11_code
def yX3_forgetWashings : MethodName := ⟨RX3, "forgetWashings", "()V"⟩
abbrev cX3_freePlace : ByteArray := prog_5_method_12_code
def yX3_freePlace : MethodName := ⟨RX3, "freePlace", "()I"⟩
abbrev cX3_countFreePlaces : ByteArray := prog_5_method_13_code
def yX3_countFreePlaces : MethodName := ⟨RX3, "countFreePlaces", "()I"⟩
abbrev cX3_number : ByteArray := prog_5_method_14_code
def yX3_number : MethodName := ⟨RX3, "number", "(I)I"⟩
abbrev cX3_digestFrom : ByteArray := prog_5_method_15_code
def yX3_digestFrom : MethodName := ⟨RX3, "digestFrom", "(I)I"⟩
def RX4 : String := "BeeYard$Lines"
def TX4 : u_T := fun k => match k with
  | 0 => ("BeeYard$Lines", "marked", "[Z", true)
  | 1 => ("BeeYard$Lines", "depths", "[I", true)
  | 2 => ("BeeYard$Lines", "order", "[I", true)
  | 3 => ("BeeYard$Lines", "ranks", "[I", true)
  | 4 => ("BeeYard$Lines", "ordered", "I", false)
  | _ => ("BeeYard$Lines", "pairs", "[I", false)
def tyX4 : Nat → FieldType := fun k => match k with
  | 0 => .array .boolean
  | 1 => .array .int
  | 2 => .array .int
  | 3 => .array .int
  | 4 => .int
  | _ => .array .int
abbrev wsX40 : List Cond := u_ws RX4 TX4 6
theorem nmX4 : ∀ a, a < 6 → ∀ b, b < 6 → a ≠ b → (TX4 a).2.1 ≠ (TX4 b).2.1 := by decide +kernel
theorem tyX4_ok : ∀ k, k < 6 → parseFieldDescriptor (TX4 k).2.2.1 = some (tyX4 k) := by decide +kernel
abbrev cX4_init : ByteArray := prog_6_method_1_code
def yX4_init : MethodName := ⟨RX4, "<init>", "()V"⟩
abbrev cX4_isMarked : ByteArray := prog_6_method_2_code
def yX4_isMarked : MethodName := ⟨RX4, "isMarked", "(I)Z"⟩
abbrev cX4_clearMarks : ByteArray := prog_6_method_3_code
def yX4_clearMarks : MethodName := ⟨RX4, "clearMarks", "()V"⟩
abbrev cX4_markFrom : ByteArray := prog_6_method_4_code
def yX4_markFrom : MethodName := ⟨RX4, "markFrom", "(LBeeYard$Yard;I)V"⟩
abbrev cX4_deepestWith : ByteArray := prog_6_method_5_code
def yX4_deepestWith : MethodName := ⟨RX4, "deepestWith", "(LBeeYard$Yard;III)I"⟩
abbrev cX4_depthBelow : ByteArray := prog_6_method_6_code
def yX4_depthBelow : MethodName := ⟨RX4, "depthBelow", "(II)I"⟩
abbrev cX4_writeDepths : ByteArray := prog_6_method_7_code
def yX4_writeDepths : MethodName := ⟨RX4, "writeDepths", "(LBeeYard$Yard;)V"⟩
abbrev cX4_kinParts : ByteArray := prog_6_method_8_code
def yX4_kinParts : MethodName := ⟨RX4, "kinParts", "(LBeeYard$Yard;II)I"⟩
abbrev cX4_gatherAncestors : ByteArray := prog_6_method_9_code
def yX4_gatherAncestors : MethodName := ⟨RX4, "gatherAncestors", "(LBeeYard$Yard;II)V"⟩
abbrev cX4_gather : ByteArray := prog_6_method_10_code
def yX4_gather : MethodName := ⟨RX4, "gather", "(I)V"⟩
abbrev cX4_sortByDepth : ByteArray := prog_6_method_11_code
def yX4_sortByDepth : MethodName := ⟨RX4, "sortByDepth", "(LBeeYard$Yard;)V"⟩
abbrev cX4_isBehind : ByteArray := prog_6_method_12_code
def yX4_isBehind : MethodName := ⟨RX4, "isBehind", "(LBeeYard$Yard;II)Z"⟩
abbrev cX4_makePairs : ByteArray := prog_6_method_13_code
def yX4_makePairs : MethodName := ⟨RX4, "makePairs", "()V"⟩
abbrev cX4_pairIndex : ByteArray := prog_6_method_14_code
def yX4_pairIndex : MethodName := ⟨RX4, "pairIndex", "(II)I"⟩
abbrev cX4_parentParts : ByteArray := prog_6_method_15_code
def yX4_parentParts : MethodName := ⟨RX4, "parentParts", "(II)I"⟩
abbrev cX4_partsOf : ByteArray := prog_6_method_16_code
def yX4_partsOf : MethodName := ⟨RX4, "partsOf", "(II)I"⟩
def RX5 : String := "BeeYard$Plan"
def TX5 : u_T := fun k => match k with
  | 0 => ("BeeYard$Plan", "order", "LBeeYard$Row;", true)
  | 1 => ("BeeYard$Plan", "hives", "[I", true)
  | 2 => ("BeeYard$Plan", "days", "[I", true)
  | 3 => ("BeeYard$Plan", "over", "[I", true)
  | 4 => ("BeeYard$Plan", "fewest", "[I", true)
  | _ => ("BeeYard$Plan", "count", "I", false)
def tyX5 : Nat → FieldType := fun k => match k with
  | 0 => .object "BeeYard$Row"
  | 1 => .array .int
  | 2 => .array .int
  | 3 => .array .int
  | 4 => .array .int
  | _ => .int
abbrev wsX50 : List Cond := u_ws RX5 TX5 6
theorem nmX5 : ∀ a, a < 6 → ∀ b, b < 6 → a ≠ b → (TX5 a).2.1 ≠ (TX5 b).2.1 := by decide +kernel
theorem tyX5_ok : ∀ k, k < 6 → parseFieldDescriptor (TX5 k).2.2.1 = some (tyX5 k) := by decide +kernel
abbrev cX5_init : ByteArray := prog_7_method_1_code
def yX5_init : MethodName := ⟨RX5, "<init>", "()V"⟩
abbrev cX5_make : ByteArray := prog_7_method_2_code
def yX5_make : MethodName := ⟨RX5, "make", "(LBeeYard$Yard;II)I"⟩
abbrev cX5_gather : ByteArray := prog_7_method_3_code
def yX5_gather : MethodName := ⟨RX5, "gather", "(LBeeYard$Yard;II)V"⟩
abbrev cX5_overFrom : ByteArray := prog_7_method_4_code
def yX5_overFrom : MethodName := ⟨RX5, "overFrom", "(LBeeYard$Hive;II)I"⟩
abbrev cX5_bestNext : ByteArray := prog_7_method_5_code
def yX5_bestNext : MethodName := ⟨RX5, "bestNext", "(I)I"⟩
abbrev cX5_daysWith : ByteArray := prog_7_method_6_code
def yX5_daysWith : MethodName := ⟨RX5, "daysWith", "(II)I"⟩
def RX6 : String := "BeeYard$Row"
def TX6 : u_T := fun k => match k with
  | 0 => ("BeeYard$Row", "items", "[I", true)
  | 1 => ("BeeYard$Row", "count", "I", false)
  | _ => ("BeeYard$Row", "made", "Z", false)
def tyX6 : Nat → FieldType := fun k => match k with
  | 0 => .array .int
  | 1 => .int
  | _ => .boolean
abbrev wsX60 : List Cond := u_ws RX6 TX6 3
theorem nmX6 : ∀ a, a < 3 → ∀ b, b < 3 → a ≠ b → (TX6 a).2.1 ≠ (TX6 b).2.1 := by decide +kernel
theorem tyX6_ok : ∀ k, k < 3 → parseFieldDescriptor (TX6 k).2.2.1 = some (tyX6 k) := by decide +kernel
abbrev cX6_init : ByteArray := prog_8_method_1_code
def yX6_init : MethodName := ⟨RX6, "<init>", "(I)V"⟩
abbrev cX6_begin : ByteArray := prog_8_method_2_code
def yX6_begin : MethodName := ⟨RX6, "begin", "(I)V"⟩
abbrev cX6_fault : ByteArray := prog_8_method_3_code
def yX6_fault : MethodName := ⟨RX6, "fault", "(I)I"⟩
def RX7 : String := "BeeYard$Thing"
def TX7 : u_T := fun k => match k with
  | 0 => ("BeeYard$Thing", "kind", "I", false)
  | 1 => ("BeeYard$Thing", "days", "I", false)
  | 2 => ("BeeYard$Thing", "mother", "I", false)
  | 3 => ("BeeYard$Thing", "father", "I", false)
  | 4 => ("BeeYard$Thing", "depth", "I", false)
  | 5 => ("BeeYard$Thing", "rate", "I", false)
  | 6 => ("BeeYard$Thing", "sire", "I", false)
  | 7 => ("BeeYard$Thing", "load", "I", false)
  | _ => ("BeeYard$Thing", "inside", "I", false)
def tyX7 : Nat → FieldType := fun k => match k with
  | 0 => .int
  | 1 => .int
  | 2 => .int
  | 3 => .int
  | 4 => .int
  | 5 => .int
  | 6 => .int
  | 7 => .int
  | _ => .int
abbrev wsX70 : List Cond := u_ws RX7 TX7 9
theorem nmX7 : ∀ a, a < 9 → ∀ b, b < 9 → a ≠ b → (TX7 a).2.1 ≠ (TX7 b).2.1 := by decide +kernel
theorem tyX7_ok : ∀ k, k < 9 → parseFieldDescriptor (TX7 k).2.2.1 = some (tyX7 k) := by decide +kernel
abbrev cX7_init : ByteArray := prog_9_method_1_code
def yX7_init : MethodName := ⟨RX7, "<init>", "()V"⟩
abbrev cX7_begin : ByteArray := prog_9_method_2_code
def yX7_begin : MethodName := ⟨RX7, "begin", "(I)V"⟩
abbrev cX7_become : ByteArray := prog_9_method_3_code
def yX7_become : MethodName := ⟨RX7, "become", "(LBeeYard$Thing;)V"⟩
abbrev cX7_becomeMated : ByteArray := prog_9_method_4_code
def yX7_becomeMated : MethodName := ⟨RX7, "becomeMated", "(I)V"⟩
abbrev cX7_isQueen : ByteArray := prog_9_method_5_code
def yX7_isQueen : MethodName := ⟨RX7, "isQueen", "()Z"⟩
abbrev cX7_isSwarm : ByteArray := prog_9_method_6_code
def yX7_isSwarm : MethodName := ⟨RX7, "isSwarm", "()Z"⟩
abbrev cX7_number : ByteArray := prog_9_method_7_code
def yX7_number : MethodName := ⟨RX7, "number", "(I)I"⟩
def RX8 : String := "BeeYard$Yard"
def TX8 : u_T := fun k => match k with
  | 0 => ("BeeYard$Yard", "hives", "[LBeeYard$Hive;", true)
  | 1 => ("BeeYard$Yard", "frames", "[LBeeYard$Frame;", true)
  | 2 => ("BeeYard$Yard", "things", "[LBeeYard$Thing;", true)
  | 3 => ("BeeYard$Yard", "bench", "[I", true)
  | 4 => ("BeeYard$Yard", "book", "LBeeYard$Book;", true)
  | 5 => ("BeeYard$Yard", "hiveCount", "I", false)
  | 6 => ("BeeYard$Yard", "frameCount", "I", false)
  | 7 => ("BeeYard$Yard", "thingCount", "I", false)
  | 8 => ("BeeYard$Yard", "days", "I", false)
  | 9 => ("BeeYard$Yard", "harvested", "I", false)
  | 10 => ("BeeYard$Yard", "eaten", "I", false)
  | 11 => ("BeeYard$Yard", "spilt", "I", false)
  | _ => ("BeeYard$Yard", "brought", "I", false)
def tyX8 : Nat → FieldType := fun k => match k with
  | 0 => .array (.object "BeeYard$Hive")
  | 1 => .array (.object "BeeYard$Frame")
  | 2 => .array (.object "BeeYard$Thing")
  | 3 => .array .int
  | 4 => .object "BeeYard$Book"
  | 5 => .int
  | 6 => .int
  | 7 => .int
  | 8 => .int
  | 9 => .int
  | 10 => .int
  | 11 => .int
  | _ => .int
abbrev wsX80 : List Cond := u_ws RX8 TX8 13
theorem nmX8 : ∀ a, a < 13 → ∀ b, b < 13 → a ≠ b → (TX8 a).2.1 ≠ (TX8 b).2.1 := by decide +kernel
theorem tyX8_ok : ∀ k, k < 13 → parseFieldDescriptor (TX8 k).2.2.1 = some (tyX8 k) := by decide +kernel
abbrev cX8_init : ByteArray := prog_10_method_1_code
def yX8_init : MethodName := ⟨RX8, "<init>", "()V"⟩
abbrev cX8_become : ByteArray := prog_10_method_2_code
def yX8_become : MethodName := ⟨RX8, "become", "(LBeeYard$Yard;)V"⟩
abbrev cX8_hiveOf : ByteArray := prog_10_method_3_code
def yX8_hiveOf : MethodName := ⟨RX8, "hiveOf", "(I)LBeeYard$Hive;"⟩
abbrev cX8_frameOf : ByteArray := prog_10_method_4_code
def yX8_frameOf : MethodName := ⟨RX8, "frameOf", "(I)LBeeYard$Frame;"⟩
abbrev cX8_thingOf : ByteArray := prog_10_method_5_code
def yX8_thingOf : MethodName := ⟨RX8, "thingOf", "(I)LBeeYard$Thing;"⟩
abbrev cX8_addHive : ByteArray := prog_10_method_6_code
def yX8_addHive : MethodName := ⟨RX8, "addHive", "(I)I"⟩
abbrev cX8_addFrame : ByteArray := prog_10_method_7_code
def yX8_addFrame : MethodName := ⟨RX8, "addFrame", "(II)I"⟩
abbrev cX8_addThing : ByteArray := prog_10_method_8_code
def yX8_addThing : MethodName := ⟨RX8, "addThing", "(I)I"⟩
abbrev cX8_hasPlace : ByteArray := prog_10_method_9_code
def yX8_hasPlace : MethodName := ⟨RX8, "hasPlace", "(I)Z"⟩
abbrev cX8_frameNumberAt : ByteArray := prog_10_method_10_code
def yX8_frameNumberAt : MethodName := ⟨RX8, "frameNumberAt", "(I)I"⟩
abbrev cX8_setFrameNumberAt : ByteArray := prog_10_method_11_code
def yX8_setFrameNumberAt : MethodName := ⟨RX8, "setFrameNumberAt", "(II)V"⟩
abbrev cX8_frameAt : ByteArray := prog_10_method_12_code
def yX8_frameAt : MethodName := ⟨RX8, "frameAt", "(I)LBeeYard$Frame;"⟩
abbrev cX8_freeBenchPlace : ByteArray := prog_10_method_13_code
def yX8_freeBenchPlace : MethodName := ⟨RX8, "freeBenchPlace", "()I"⟩
abbrev cX8_benchPlaceOf : ByteArray := prog_10_method_14_code
def yX8_benchPlaceOf : MethodName := ⟨RX8, "benchPlaceOf", "(I)I"⟩
abbrev cX8_placeOf : ByteArray := prog_10_method_15_code
def yX8_placeOf : MethodName := ⟨RX8, "placeOf", "(I)I"⟩
abbrev cX8_placeWithValue : ByteArray := prog_10_method_16_code
def yX8_placeWithValue : MethodName := ⟨RX8, "placeWithValue", "(II)I"⟩
abbrev cX8_moveFields : ByteArray := prog_10_method_17_code
def yX8_moveFields : MethodName := ⟨RX8, "moveFields", "(II)V"⟩
abbrev cX8_fillHoney : ByteArray := prog_10_method_18_code
def yX8_fillHoney : MethodName := ⟨RX8, "fillHoney", "(LBeeYard$Hive;I)I"⟩
abbrev cX8_honeyNumber : ByteArray := prog_10_method_19_code
def yX8_honeyNumber : MethodName := ⟨RX8, "honeyNumber", "(I)I"⟩
abbrev cX8_honeyInAllFrames : ByteArray := prog_10_method_20_code
def yX8_honeyInAllFrames : MethodName := ⟨RX8, "honeyInAllFrames", "()I"⟩
abbrev cX8_fieldsNumber : ByteArray := prog_10_method_21_code
def yX8_fieldsNumber : MethodName := ⟨RX8, "fieldsNumber", "(LBeeYard$Hive;I)I"⟩
abbrev cX8_hiveWithInSlot : ByteArray := prog_10_method_22_code
def yX8_hiveWithInSlot : MethodName := ⟨RX8, "hiveWithInSlot", "(I)I"⟩
abbrev cX8_swarmAround : ByteArray := prog_10_method_23_code
def yX8_swarmAround : MethodName := ⟨RX8, "swarmAround", "(I)I"⟩
abbrev cX8_isHeld : ByteArray := prog_10_method_24_code
def yX8_isHeld : MethodName := ⟨RX8, "isHeld", "(I)Z"⟩
abbrev cX8_countTreated : ByteArray := prog_10_method_25_code
def yX8_countTreated : MethodName := ⟨RX8, "countTreated", "()I"⟩
abbrev cX8_lacksWashedTreated : ByteArray := prog_10_method_26_code
def yX8_lacksWashedTreated : MethodName := ⟨RX8, "lacksWashedTreated", "()Z"⟩
abbrev cX8_passDay : ByteArray := prog_10_method_27_code
def yX8_passDay : MethodName := ⟨RX8, "passDay", "(LBeeYard$Bodies;)V"⟩
abbrev cX8_growYoung : ByteArray := prog_10_method_28_code
def yX8_growYoung : MethodName := ⟨RX8, "growYoung", "(LBeeYard$Hive;)V"⟩
abbrev cX8_eggsOf : ByteArray := prog_10_method_29_code
def yX8_eggsOf : MethodName := ⟨RX8, "eggsOf", "(LBeeYard$Hive;LBeeYard$Bodies;)I"⟩
abbrev cX8_layYoung : ByteArray := prog_10_method_30_code
def yX8_layYoung : MethodName := ⟨RX8, "layYoung", "(LBeeYard$Hive;I)V"⟩
abbrev cX8_eatHoney : ByteArray := prog_10_method_31_code
def yX8_eatHoney : MethodName := ⟨RX8, "eatHoney", "(LBeeYard$Hive;)V"⟩
abbrev cX8_digestFrom : ByteArray := prog_10_method_32_code
def yX8_digestFrom : MethodName := ⟨RX8, "digestFrom", "(I)I"⟩
def RX9 : String := "BeeYard"
def TX9 : u_T := fun k => match k with
  | 0 => ("BeeYard", "now", "LBeeYard$Yard;", false)
  | 1 => ("BeeYard", "before", "LBeeYard$Yard;", false)
  | 2 => ("BeeYard", "canGoBack", "Z", false)
  | 3 => ("BeeYard", "latestStatus", "I", false)
  | 4 => ("BeeYard", "latestMoved", "I", false)
  | 5 => ("BeeYard", "nextEntry", "I", false)
  | 6 => ("BeeYard", "bodies", "LBeeYard$Bodies;", true)
  | 7 => ("BeeYard", "lines", "LBeeYard$Lines;", true)
  | 8 => ("BeeYard", "latestPlan", "LBeeYard$Plan;", true)
  | 9 => ("BeeYard", "shares", "LBeeYard$Row;", true)
  | _ => ("BeeYard", "letters", "LBeeYard$Row;", true)
def tyX9 : Nat → FieldType := fun k => match k with
  | 0 => .object "BeeYard$Yard"
  | 1 => .object "BeeYard$Yard"
  | 2 => .boolean
  | 3 => .int
  | 4 => .int
  | 5 => .int
  | 6 => .object "BeeYard$Bodies"
  | 7 => .object "BeeYard$Lines"
  | 8 => .object "BeeYard$Plan"
  | 9 => .object "BeeYard$Row"
  | _ => .object "BeeYard$Row"
abbrev wsX90 : List Cond := u_ws RX9 TX9 11
theorem nmX9 : ∀ a, a < 11 → ∀ b, b < 11 → a ≠ b → (TX9 a).2.1 ≠ (TX9 b).2.1 := by decide +kernel
theorem tyX9_ok : ∀ k, k < 11 → parseFieldDescriptor (TX9 k).2.2.1 = some (tyX9 k) := by decide +kernel
abbrev cX9_init : ByteArray := prog_1_method_1_code
def yX9_init : MethodName := ⟨RX9, "<init>", "()V"⟩
abbrev cX9_hive : ByteArray := prog_1_method_2_code
def yX9_hive : MethodName := ⟨RX9, "hive", "(I)I"⟩
abbrev cX9_box : ByteArray := prog_1_method_3_code
def yX9_box : MethodName := ⟨RX9, "box", "(I)I"⟩
abbrev cX9_frame : ByteArray := prog_1_method_4_code
def yX9_frame : MethodName := ⟨RX9, "frame", "(II)I"⟩
abbrev cX9_out : ByteArray := prog_1_method_5_code
def yX9_out : MethodName := ⟨RX9, "out", "(I)I"⟩
abbrev cX9_back : ByteArray := prog_1_method_6_code
def yX9_back : MethodName := ⟨RX9, "back", "(II)I"⟩
abbrev cX9_at : ByteArray := prog_1_method_7_code
def yX9_at : MethodName := ⟨RX9, "at", "(I)I"⟩
abbrev cX9_where : ByteArray := prog_1_method_8_code
def yX9_where : MethodName := ⟨RX9, "where", "(I)I"⟩
abbrev cX9_field : ByteArray := prog_1_method_9_code
def yX9_field : MethodName := ⟨RX9, "field", "(II)I"⟩
abbrev cX9_put : ByteArray := prog_1_method_10_code
def yX9_put : MethodName := ⟨RX9, "put", "(III)I"⟩
abbrev cX9_find : ByteArray := prog_1_method_11_code
def yX9_find : MethodName := ⟨RX9, "find", "(II)I"⟩
abbrev cX9_gap : ByteArray := prog_1_method_12_code
def yX9_gap : MethodName := ⟨RX9, "gap", "(I)I"⟩
abbrev cX9_inspect : ByteArray := prog_1_method_13_code
def yX9_inspect : MethodName := ⟨RX9, "inspect", "(II)I"⟩
abbrev cX9_bring : ByteArray := prog_1_method_14_code
def yX9_bring : MethodName := ⟨RX9, "bring", "(II)I"⟩
abbrev cX9_harvest : ByteArray := prog_1_method_15_code
def yX9_harvest : MethodName := ⟨RX9, "harvest", "(I)I"⟩
abbrev cX9_ledger : ByteArray := prog_1_method_16_code
def yX9_ledger : MethodName := ⟨RX9, "ledger", "(II)I"⟩
abbrev cX9_honey : ByteArray := prog_1_method_17_code
def yX9_honey : MethodName := ⟨RX9, "honey", "(I)I"⟩
abbrev cX9_move : ByteArray := prog_1_method_18_code
def yX9_move : MethodName := ⟨RX9, "move", "(III)I"⟩
abbrev cX9_moved : ByteArray := prog_1_method_19_code
def yX9_moved : MethodName := ⟨RX9, "moved", "()I"⟩
abbrev cX9_stack : ByteArray := prog_1_method_20_code
def yX9_stack : MethodName := ⟨RX9, "stack", "(II)I"⟩
abbrev cX9_join : ByteArray := prog_1_method_21_code
def yX9_join : MethodName := ⟨RX9, "join", "(II)I"⟩
abbrev cX9_split : ByteArray := prog_1_method_22_code
def yX9_split : MethodName := ⟨RX9, "split", "(III)I"⟩
abbrev cX9_thing : ByteArray := prog_1_method_23_code
def yX9_thing : MethodName := ⟨RX9, "thing", "(I)I"⟩
abbrev cX9_line : ByteArray := prog_1_method_24_code
def yX9_line : MethodName := ⟨RX9, "line", "(III)I"⟩
abbrev cX9_kin : ByteArray := prog_1_method_25_code
def yX9_kin : MethodName := ⟨RX9, "kin", "(II)I"⟩
abbrev cX9_ask : ByteArray := prog_1_method_26_code
def yX9_ask : MethodName := ⟨RX9, "ask", "(II)I"⟩
abbrev cX9_slot : ByteArray := prog_1_method_27_code
def yX9_slot : MethodName := ⟨RX9, "slot", "(II)I"⟩
abbrev cX9_lay : ByteArray := prog_1_method_28_code
def yX9_lay : MethodName := ⟨RX9, "lay", "(II)I"⟩
abbrev cX9_mate : ByteArray := prog_1_method_29_code
def yX9_mate : MethodName := ⟨RX9, "mate", "(II)I"⟩
abbrev cX9_day : ByteArray := prog_1_method_30_code
def yX9_day : MethodName := ⟨RX9, "day", "(I)I"⟩
abbrev cX9_swarm : ByteArray := prog_1_method_31_code
def yX9_swarm : MethodName := ⟨RX9, "swarm", "(II)I"⟩
abbrev cX9_settle : ByteArray := prog_1_method_32_code
def yX9_settle : MethodName := ⟨RX9, "settle", "(II)I"⟩
abbrev cX9_share : ByteArray := prog_1_method_33_code
def yX9_share : MethodName := ⟨RX9, "share", "(II)I"⟩
abbrev cX9_shared : ByteArray := prog_1_method_34_code
def yX9_shared : MethodName := ⟨RX9, "shared", "(I)I"⟩
abbrev cX9_sample : ByteArray := prog_1_method_35_code
def yX9_sample : MethodName := ⟨RX9, "sample", "(III)I"⟩
abbrev cX9_mites : ByteArray := prog_1_method_36_code
def yX9_mites : MethodName := ⟨RX9, "mites", "(II)I"⟩
abbrev cX9_compare : ByteArray := prog_1_method_37_code
def yX9_compare : MethodName := ⟨RX9, "compare", "(II)I"⟩
abbrev cX9_treat : ByteArray := prog_1_method_38_code
def yX9_treat : MethodName := ⟨RX9, "treat", "(I)I"⟩
abbrev cX9_due : ByteArray := prog_1_method_39_code
def yX9_due : MethodName := ⟨RX9, "due", "(III)I"⟩
abbrev cX9_plan : ByteArray := prog_1_method_40_code
def yX9_plan : MethodName := ⟨RX9, "plan", "(II)I"⟩
abbrev cX9_chosen : ByteArray := prog_1_method_41_code
def yX9_chosen : MethodName := ⟨RX9, "chosen", "(I)I"⟩
abbrev cX9_export : ByteArray := prog_1_method_42_code
def yX9_export : MethodName := ⟨RX9, "export", "(I)I"⟩
abbrev cX9_letter : ByteArray := prog_1_method_43_code
def yX9_letter : MethodName := ⟨RX9, "letter", "(I)I"⟩
abbrev cX9_copy : ByteArray := prog_1_method_44_code
def yX9_copy : MethodName := ⟨RX9, "copy", "(III)I"⟩
abbrev cX9_trace : ByteArray := prog_1_method_45_code
def yX9_trace : MethodName := ⟨RX9, "trace", "(I)I"⟩
abbrev cX9_undo : ByteArray := prog_1_method_46_code
def yX9_undo : MethodName := ⟨RX9, "undo", "()I"⟩
abbrev cX9_digest : ByteArray := prog_1_method_47_code
def yX9_digest : MethodName := ⟨RX9, "digest", "()I"⟩
abbrev cX9_status : ByteArray := prog_1_method_48_code
def yX9_status : MethodName := ⟨RX9, "status", "()I"⟩
abbrev cX9_accept : ByteArray := prog_1_method_49_code
def yX9_accept : MethodName := ⟨RX9, "accept", "(I)I"⟩
abbrev cX9_refuse : ByteArray := prog_1_method_50_code
def yX9_refuse : MethodName := ⟨RX9, "refuse", "(I)I"⟩
abbrev cX9_beginChange : ByteArray := prog_1_method_51_code
def yX9_beginChange : MethodName := ⟨RX9, "beginChange", "()V"⟩
abbrev cX9_hiveFault : ByteArray := prog_1_method_52_code
def yX9_hiveFault : MethodName := ⟨RX9, "hiveFault", "(I)I"⟩
abbrev cX9_twoHivesFault : ByteArray := prog_1_method_53_code
def yX9_twoHivesFault : MethodName := ⟨RX9, "twoHivesFault", "(II)I"⟩
abbrev cX9_thingFault : ByteArray := prog_1_method_54_code
def yX9_thingFault : MethodName := ⟨RX9, "thingFault", "(I)I"⟩
abbrev cX9_placeFault : ByteArray := prog_1_method_55_code
def yX9_placeFault : MethodName := ⟨RX9, "placeFault", "(I)I"⟩
abbrev cX9_frameFault : ByteArray := prog_1_method_56_code
def yX9_frameFault : MethodName := ⟨RX9, "frameFault", "(I)I"⟩
abbrev cX9_fieldFault : ByteArray := prog_1_method_57_code
def yX9_fieldFault : MethodName := ⟨RX9, "fieldFault", "(II)I"⟩
abbrev cX9_moveFault : ByteArray := prog_1_method_58_code
def yX9_moveFault : MethodName := ⟨RX9, "moveFault", "(II)I"⟩
abbrev cX9_lineFault : ByteArray := prog_1_method_59_code
def yX9_lineFault : MethodName := ⟨RX9, "lineFault", "(III)I"⟩
abbrev cX9_honeyIn : ByteArray := prog_1_method_60_code
def yX9_honeyIn : MethodName := ⟨RX9, "honeyIn", "(I)I"⟩
abbrev cX9_isYoung : ByteArray := prog_1_method_61_code
def yX9_isYoung : MethodName := ⟨RX9, "isYoung", "(I)Z"⟩
abbrev cX9_letterOf : ByteArray := prog_1_method_62_code
def yX9_letterOf : MethodName := ⟨RX9, "letterOf", "(I)C"⟩
abbrev cX9_fromMiddle : ByteArray := prog_1_method_63_code
def yX9_fromMiddle : MethodName := ⟨RX9, "fromMiddle", "(II)I"⟩
abbrev cX9_commonDivisor : ByteArray := prog_1_method_64_code
def yX9_commonDivisor : MethodName := ⟨RX9, "commonDivisor", "(II)I"⟩
def RX10 : String := "BeeYardModel"
def TX10 : u_T := fun k => match k with
  | 0 => ("BeeYardModel", "now", "[I", true)
  | 1 => ("BeeYardModel", "was", "[I", true)
  | 2 => ("BeeYardModel", "canUndo", "Z", false)
  | 3 => ("BeeYardModel", "nextNumber", "I", false)
  | 4 => ("BeeYardModel", "runs", "[I", true)
  | 5 => ("BeeYardModel", "status", "I", false)
  | 6 => ("BeeYardModel", "moved", "I", false)
  | 7 => ("BeeYardModel", "parts", "[I", true)
  | 8 => ("BeeYardModel", "partMany", "I", false)
  | 9 => ("BeeYardModel", "letters", "[I", true)
  | 10 => ("BeeYardModel", "letterMany", "I", false)
  | 11 => ("BeeYardModel", "order", "[I", true)
  | 12 => ("BeeYardModel", "orderMany", "I", false)
  | 13 => ("BeeYardModel", "depths", "[I", true)
  | 14 => ("BeeYardModel", "kins", "[I", true)
  | 15 => ("BeeYardModel", "marks", "[I", true)
  | 16 => ("BeeYardModel", "treated", "[I", true)
  | 17 => ("BeeYardModel", "overs", "[J", true)
  | 18 => ("BeeYardModel", "least", "[J", true)
  | _ => ("BeeYardModel", "spans", "[I", true)
def tyX10 : Nat → FieldType := fun k => match k with
  | 0 => .array .int
  | 1 => .array .int
  | 2 => .boolean
  | 3 => .int
  | 4 => .array .int
  | 5 => .int
  | 6 => .int
  | 7 => .array .int
  | 8 => .int
  | 9 => .array .int
  | 10 => .int
  | 11 => .array .int
  | 12 => .int
  | 13 => .array .int
  | 14 => .array .int
  | 15 => .array .int
  | 16 => .array .int
  | 17 => .array .long
  | 18 => .array .long
  | _ => .array .int
abbrev wsX100 : List Cond := u_ws RX10 TX10 20
theorem nmX10 : ∀ a, a < 20 → ∀ b, b < 20 → a ≠ b → (TX10 a).2.1 ≠ (TX10 b).2.1 := by decide +kernel
theorem tyX10_ok : ∀ k, k < 20 → parseFieldDescriptor (TX10 k).2.2.1 = some (tyX10 k) := by decide +kernel
abbrev cX10_init : ByteArray := prog_12_method_1_code
def yX10_init : MethodName := ⟨RX10, "<init>", "()V"⟩
abbrev cX10_no : ByteArray := prog_12_method_2_code
def yX10_no : MethodName := ⟨RX10, "no", "(I)I"⟩
abbrev cX10_yes : ByteArray := prog_12_method_3_code
def yX10_yes : MethodName := ⟨RX10, "yes", "(I)I"⟩
abbrev cX10_keep : ByteArray := prog_12_method_4_code
def yX10_keep : MethodName := ⟨RX10, "keep", "()V"⟩
abbrev cX10_isIn : ByteArray := prog_12_method_5_code
def yX10_isIn : MethodName := ⟨RX10, "isIn", "(III)Z"⟩
abbrev cX10_hiveAt : ByteArray := prog_12_method_6_code
def yX10_hiveAt : MethodName := ⟨RX10, "hiveAt", "(II)I"⟩
abbrev cX10_setHive : ByteArray := prog_12_method_7_code
def yX10_setHive : MethodName := ⟨RX10, "setHive", "(III)V"⟩
abbrev cX10_thingAt : ByteArray := prog_12_method_8_code
def yX10_thingAt : MethodName := ⟨RX10, "thingAt", "(II)I"⟩
abbrev cX10_setThing : ByteArray := prog_12_method_9_code
def yX10_setThing : MethodName := ⟨RX10, "setThing", "(III)V"⟩
abbrev cX10_frameAt : ByteArray := prog_12_method_10_code
def yX10_frameAt : MethodName := ⟨RX10, "frameAt", "(I)I"⟩
abbrev cX10_fieldsOf : ByteArray := prog_12_method_11_code
def yX10_fieldsOf : MethodName := ⟨RX10, "fieldsOf", "(I)I"⟩
abbrev cX10_fieldAt : ByteArray := prog_12_method_12_code
def yX10_fieldAt : MethodName := ⟨RX10, "fieldAt", "(II)I"⟩
abbrev cX10_setField : ByteArray := prog_12_method_13_code
def yX10_setField : MethodName := ⟨RX10, "setField", "(III)V"⟩
abbrev cX10_hiveWhy : ByteArray := prog_12_method_14_code
def yX10_hiveWhy : MethodName := ⟨RX10, "hiveWhy", "(I)I"⟩
abbrev cX10_thingWhy : ByteArray := prog_12_method_15_code
def yX10_thingWhy : MethodName := ⟨RX10, "thingWhy", "(I)I"⟩
abbrev cX10_placeWhy : ByteArray := prog_12_method_16_code
def yX10_placeWhy : MethodName := ⟨RX10, "placeWhy", "(I)I"⟩
abbrev cX10_frameWhy : ByteArray := prog_12_method_17_code
def yX10_frameWhy : MethodName := ⟨RX10, "frameWhy", "(I)I"⟩
abbrev cX10_first : ByteArray := prog_12_method_18_code
def yX10_first : MethodName := ⟨RX10, "first", "(II)I"⟩
abbrev cX10_isHoney : ByteArray := prog_12_method_19_code
def yX10_isHoney : MethodName := ⟨RX10, "isHoney", "(I)Z"⟩
abbrev cX10_isQueen : ByteArray := prog_12_method_20_code
def yX10_isQueen : MethodName := ⟨RX10, "isQueen", "(I)Z"⟩
abbrev cX10_run : ByteArray := prog_12_method_21_code
def yX10_run : MethodName := ⟨RX10, "run", "(I)V"⟩
abbrev cX10_tells : ByteArray := prog_12_method_22_code
def yX10_tells : MethodName := ⟨RX10, "tells", "(I)I"⟩
abbrev cX10_ages : ByteArray := prog_12_method_23_code
def yX10_ages : MethodName := ⟨RX10, "ages", "(I)V"⟩
abbrev cX10_carries : ByteArray := prog_12_method_24_code
def yX10_carries : MethodName := ⟨RX10, "carries", "(I)I"⟩
abbrev cX10_lays : ByteArray := prog_12_method_25_code
def yX10_lays : MethodName := ⟨RX10, "lays", "(I)I"⟩
abbrev cX10_hive : ByteArray := prog_12_method_26_code
def yX10_hive : MethodName := ⟨RX10, "hive", "(I)I"⟩
abbrev cX10_box : ByteArray := prog_12_method_27_code
def yX10_box : MethodName := ⟨RX10, "box", "(I)I"⟩
abbrev cX10_frame : ByteArray := prog_12_method_28_code
def yX10_frame : MethodName := ⟨RX10, "frame", "(II)I"⟩
abbrev cX10_out : ByteArray := prog_12_method_29_code
def yX10_out : MethodName := ⟨RX10, "out", "(I)I"⟩
abbrev cX10_back : ByteArray := prog_12_method_30_code
def yX10_back : MethodName := ⟨RX10, "back", "(II)I"⟩
abbrev cX10_at : ByteArray := prog_12_method_31_code
def yX10_at : MethodName := ⟨RX10, "at", "(I)I"⟩
abbrev cX10_where : ByteArray := prog_12_method_32_code
def yX10_where : MethodName := ⟨RX10, "where", "(I)I"⟩
abbrev cX10_fieldWhy : ByteArray := prog_12_method_33_code
def yX10_fieldWhy : MethodName := ⟨RX10, "fieldWhy", "(II)I"⟩
abbrev cX10_field : ByteArray := prog_12_method_34_code
def yX10_field : MethodName := ⟨RX10, "field", "(II)I"⟩
abbrev cX10_put : ByteArray := prog_12_method_35_code
def yX10_put : MethodName := ⟨RX10, "put", "(III)I"⟩
abbrev cX10_bring : ByteArray := prog_12_method_36_code
def yX10_bring : MethodName := ⟨RX10, "bring", "(II)I"⟩
abbrev cX10_honeyIn : ByteArray := prog_12_method_37_code
def yX10_honeyIn : MethodName := ⟨RX10, "honeyIn", "(I)I"⟩
abbrev cX10_harvest : ByteArray := prog_12_method_38_code
def yX10_harvest : MethodName := ⟨RX10, "harvest", "(I)I"⟩
abbrev cX10_ledger : ByteArray := prog_12_method_39_code
def yX10_ledger : MethodName := ⟨RX10, "ledger", "(II)I"⟩
abbrev cX10_honeyOf : ByteArray := prog_12_method_40_code
def yX10_honeyOf : MethodName := ⟨RX10, "honeyOf", "(I)I"⟩
abbrev cX10_honey : ByteArray := prog_12_method_41_code
def yX10_honey : MethodName := ⟨RX10, "honey", "(I)I"⟩
abbrev cX10_moveWhy : ByteArray := prog_12_method_42_code
def yX10_moveWhy : MethodName := ⟨RX10, "moveWhy", "(II)I"⟩
abbrev cX10_moveOne : ByteArray := prog_12_method_43_code
def yX10_moveOne : MethodName := ⟨RX10, "moveOne", "(II)V"⟩
abbrev cX10_move : ByteArray := prog_12_method_44_code
def yX10_move : MethodName := ⟨RX10, "move", "(III)I"⟩
abbrev cX10_moved : ByteArray := prog_12_method_45_code
def yX10_moved : MethodName := ⟨RX10, "moved", "()I"⟩
abbrev cX10_carry : ByteArray := prog_12_method_46_code
def yX10_carry : MethodName := ⟨RX10, "carry", "(II)V"⟩
abbrev cX10_carryFrom : ByteArray := prog_12_method_47_code
def yX10_carryFrom : MethodName := ⟨RX10, "carryFrom", "(III)V"⟩
abbrev cX10_stack : ByteArray := prog_12_method_48_code
def yX10_stack : MethodName := ⟨RX10, "stack", "(II)I"⟩
abbrev cX10_join : ByteArray := prog_12_method_49_code
def yX10_join : MethodName := ⟨RX10, "join", "(II)I"⟩
abbrev cX10_split : ByteArray := prog_12_method_50_code
def yX10_split : MethodName := ⟨RX10, "split", "(III)I"⟩
abbrev cX10_newThing : ByteArray := prog_12_method_51_code
def yX10_newThing : MethodName := ⟨RX10, "newThing", "(I)I"⟩
abbrev cX10_thing : ByteArray := prog_12_method_52_code
def yX10_thing : MethodName := ⟨RX10, "thing", "(I)I"⟩
abbrev cX10_reckonDepths : ByteArray := prog_12_method_53_code
def yX10_reckonDepths : MethodName := ⟨RX10, "reckonDepths", "(I)V"⟩
abbrev cX10_markFrom : ByteArray := prog_12_method_54_code
def yX10_markFrom : MethodName := ⟨RX10, "markFrom", "(I)V"⟩
abbrev cX10_parentWhy : ByteArray := prog_12_method_55_code
def yX10_parentWhy : MethodName := ⟨RX10, "parentWhy", "(IZ)I"⟩
abbrev cX10_line : ByteArray := prog_12_method_56_code
def yX10_line : MethodName := ⟨RX10, "line", "(III)I"⟩
abbrev cX10_kinAt : ByteArray := prog_12_method_57_code
def yX10_kinAt : MethodName := ⟨RX10, "kinAt", "(II)I"⟩
abbrev cX10_reckonKin : ByteArray := prog_12_method_58_code
def yX10_reckonKin : MethodName := ⟨RX10, "reckonKin", "()V"⟩
abbrev cX10_kin : ByteArray := prog_12_method_59_code
def yX10_kin : MethodName := ⟨RX10, "kin", "(II)I"⟩
abbrev cX10_hiveOf : ByteArray := prog_12_method_60_code
def yX10_hiveOf : MethodName := ⟨RX10, "hiveOf", "(I)I"⟩
abbrev cX10_swarmOf : ByteArray := prog_12_method_61_code
def yX10_swarmOf : MethodName := ⟨RX10, "swarmOf", "(I)I"⟩
abbrev cX10_truth : ByteArray := prog_12_method_62_code
def yX10_truth : MethodName := ⟨RX10, "truth", "(Z)I"⟩
abbrev cX10_asked : ByteArray := prog_12_method_63_code
def yX10_asked : MethodName := ⟨RX10, "asked", "(II)I"⟩
abbrev cX10_ask : ByteArray := prog_12_method_64_code
def yX10_ask : MethodName := ⟨RX10, "ask", "(II)I"⟩
abbrev cX10_slot : ByteArray := prog_12_method_65_code
def yX10_slot : MethodName := ⟨RX10, "slot", "(II)I"⟩
abbrev cX10_lay : ByteArray := prog_12_method_66_code
def yX10_lay : MethodName := ⟨RX10, "lay", "(II)I"⟩
abbrev cX10_mate : ByteArray := prog_12_method_67_code
def yX10_mate : MethodName := ⟨RX10, "mate", "(II)I"⟩
abbrev cX10_grow : ByteArray := prog_12_method_68_code
def yX10_grow : MethodName := ⟨RX10, "grow", "(I)V"⟩
abbrev cX10_fromMiddle : ByteArray := prog_12_method_69_code
def yX10_fromMiddle : MethodName := ⟨RX10, "fromMiddle", "(II)I"⟩
abbrev cX10_fill : ByteArray := prog_12_method_70_code
def yX10_fill : MethodName := ⟨RX10, "fill", "(III)V"⟩
abbrev cX10_layIn : ByteArray := prog_12_method_71_code
def yX10_layIn : MethodName := ⟨RX10, "layIn", "(I)V"⟩
abbrev cX10_eat : ByteArray := prog_12_method_72_code
def yX10_eat : MethodName := ⟨RX10, "eat", "(I)V"⟩
abbrev cX10_day : ByteArray := prog_12_method_73_code
def yX10_day : MethodName := ⟨RX10, "day", "(I)I"⟩
abbrev cX10_swarm : ByteArray := prog_12_method_74_code
def yX10_swarm : MethodName := ⟨RX10, "swarm", "(II)I"⟩
abbrev cX10_settle : ByteArray := prog_12_method_75_code
def yX10_settle : MethodName := ⟨RX10, "settle", "(II)I"⟩
abbrev cX10_share : ByteArray := prog_12_method_76_code
def yX10_share : MethodName := ⟨RX10, "share", "(II)I"⟩
abbrev cX10_shared : ByteArray := prog_12_method_77_code
def yX10_shared : MethodName := ⟨RX10, "shared", "(I)I"⟩
abbrev cX10_sample : ByteArray := prog_12_method_78_code
def yX10_sample : MethodName := ⟨RX10, "sample", "(III)I"⟩
abbrev cX10_divisor : ByteArray := prog_12_method_79_code
def yX10_divisor : MethodName := ⟨RX10, "divisor", "(II)I"⟩
abbrev cX10_mites : ByteArray := prog_12_method_80_code
def yX10_mites : MethodName := ⟨RX10, "mites", "(II)I"⟩
abbrev cX10_compare : ByteArray := prog_12_method_81_code
def yX10_compare : MethodName := ⟨RX10, "compare", "(II)I"⟩
abbrev cX10_treat : ByteArray := prog_12_method_82_code
def yX10_treat : MethodName := ⟨RX10, "treat", "(I)I"⟩
abbrev cX10_due : ByteArray := prog_12_method_83_code
def yX10_due : MethodName := ⟨RX10, "due", "(III)I"⟩
abbrev cX10_overFrom : ByteArray := prog_12_method_84_code
def yX10_overFrom : MethodName := ⟨RX10, "overFrom", "(III)J"⟩
abbrev cX10_lateness : ByteArray := prog_12_method_85_code
def yX10_lateness : MethodName := ⟨RX10, "lateness", "(II)J"⟩
abbrev cX10_reckonLeast : ByteArray := prog_12_method_86_code
def yX10_reckonLeast : MethodName := ⟨RX10, "reckonLeast", "(I)V"⟩
abbrev cX10_plan : ByteArray := prog_12_method_87_code
def yX10_plan : MethodName := ⟨RX10, "plan", "(II)I"⟩
abbrev cX10_chosen : ByteArray := prog_12_method_88_code
def yX10_chosen : MethodName := ⟨RX10, "chosen", "(I)I"⟩
abbrev cX10_sortOf : ByteArray := prog_12_method_89_code
def yX10_sortOf : MethodName := ⟨RX10, "sortOf", "(I)I"⟩
abbrev cX10_countIn : ByteArray := prog_12_method_90_code
def yX10_countIn : MethodName := ⟨RX10, "countIn", "(II)I"⟩
abbrev cX10_inspect : ByteArray := prog_12_method_91_code
def yX10_inspect : MethodName := ⟨RX10, "inspect", "(II)I"⟩
abbrev cX10_gap : ByteArray := prog_12_method_92_code
def yX10_gap : MethodName := ⟨RX10, "gap", "(I)I"⟩
abbrev cX10_hasValue : ByteArray := prog_12_method_93_code
def yX10_hasValue : MethodName := ⟨RX10, "hasValue", "(II)Z"⟩
abbrev cX10_find : ByteArray := prog_12_method_94_code
def yX10_find : MethodName := ⟨RX10, "find", "(II)I"⟩
abbrev cX10_letterOf : ByteArray := prog_12_method_95_code
def yX10_letterOf : MethodName := ⟨RX10, "letterOf", "(I)I"⟩
abbrev cX10_export : ByteArray := prog_12_method_96_code
def yX10_export : MethodName := ⟨RX10, "export", "(I)I"⟩
abbrev cX10_letter : ByteArray := prog_12_method_97_code
def yX10_letter : MethodName := ⟨RX10, "letter", "(I)I"⟩
abbrev cX10_copy : ByteArray := prog_12_method_98_code
def yX10_copy : MethodName := ⟨RX10, "copy", "(III)I"⟩
abbrev cX10_trace : ByteArray := prog_12_method_99_code
def yX10_trace : MethodName := ⟨RX10, "trace", "(I)I"⟩
abbrev cX10_undo : ByteArray := prog_12_method_100_code
def yX10_undo : MethodName := ⟨RX10, "undo", "()I"⟩
abbrev cX10_digest : ByteArray := prog_12_method_101_code
def yX10_digest : MethodName := ⟨RX10, "digest", "()I"⟩
abbrev cX10_status : ByteArray := prog_12_method_102_code
def yX10_status : MethodName := ⟨RX10, "status", "()I"⟩
def RJ9 : String := "java/lang/Math"
abbrev cJ9_max_7cf53 : ByteArray := prog_13_method_65_code
def yJ9_max_7cf53 : MethodName := ⟨RJ9, "max", "(II)I"⟩
abbrev cJ9_min_7cf53 : ByteArray := prog_13_method_69_code
def yJ9_min_7cf53 : MethodName := ⟨RJ9, "min", "(II)I"⟩
abbrev cJ9_min_f86c9 : ByteArray := prog_13_method_70_code
def yJ9_min_f86c9 : MethodName := ⟨RJ9, "min", "(JJ)J"⟩
def RJ10 : String := "java/lang/System"
def RL : String := "BeeYardLaw"
abbrev cL_law : ByteArray := code
def yL_law : MethodName := ⟨RL, "law", "([I)Z"⟩
abbrev vcl : List vw_C := [(RX0, TX0, 1), (RX1, TX1, 4), (RX2, TX2, 2), (RX3, TX3, 12), (RX4, TX4, 6), (RX5, TX5, 6), (RX6, TX6, 3), (RX7, TX7, 9), (RX8, TX8, 13), (RX9, TX9, 11), (RX10, TX10, 20)]
end
section
/-! ===== the clean interpreter: virtual addresses, values, heap, one step, a run ===== -/
/-- a virtual address: tag (0: null), and two indices -/
abbrev VA : Type := Nat × Nat × Nat
/-- a virtual value: an int, a long, a reference -/
abbrev VV : Type := Int32 ⊕ (Int64 ⊕ VA)
/-- the virtual heap: ints, references, longs by address and place; which addresses are made; how many cells and slots -/
abbrev VH : Type := (VA → Nat → Int32) × (VA → Nat → VA) × (VA → Nat → Int64) × (VA → Bool) × Nat × Nat
/-- an instruction's resolved data -/
abbrev VX : Type := Nat × Nat × Nat × Int
abbrev VE : Type := Nat × Instr × Nat × VX
abbrev VL : Type := List (Nat × VV)
abbrev VS : Type := Nat × VL × List VV × VH
abbrev VO : Type := VS ⊕ ((Option VV × VH) ⊕ (Nat × List VV × VS))
def v_nth : List Nat → Nat → Nat
  | [], _ => 99
  | x :: _, 0 => x
  | _ :: l, n + 1 => v_nth l n
def v_kinds : List Nat := [99, 0, 1, 2, 3, 4, 5, 6, 7, 8, 9, 10, 99, 99, 99, 99, 99, 99, 99, 99, 11, 11, 11, 11, 11, 11, 12, 11, 11, 11, 11, 11, 11, 11, 11, 11, 14, 15, 16, 11, 11, 11, 11, 11, 11, 11, 11, 11, 11, 11, 13, 13, 11, 99, 99, 99, 99, 99, 99, 99, 17]
def v_kind (a : VA) : Nat := v_nth v_kinds a.1
def v_lens : List Nat := [0, 0, 0, 0, 0, 0, 0, 0, 0, 0, 0, 0, 0, 0, 0, 0, 0, 0, 0, 0, 17, 200, 200, 200, 64, 96, 200, 200, 200, 200, 0, 8, 8, 8, 256, 0, 40, 200, 200, 24, 19520, 19520, 17, 100, 64, 8, 200, 40000, 200, 40, 8, 256, 256]
def v_len (a : VA) : Nat := match a.1 == 30 || a.1 == 60 with
  | true => a.2.1
  | false => match a.1 == 35 with
    | true => v_nth [8, 100, 64] a.2.1
    | false => v_nth v_lens a.1
/-- how many fields a class has -/
def v_nf (k : Nat) : Nat := v_nth [1, 4, 2, 12, 6, 6, 3, 9, 13, 11, 20] k
def v_cat : VV → Nat
  | .inl _ => 1
  | .inr (.inl _) => 2
  | .inr (.inr _) => 1
def v_rowI (V : VH) (a : VA) (f : Nat → Int32) : VH := (fun b => if b = a then f else V.1 b, V.2)
def v_rowR (V : VH) (a : VA) (f : Nat → VA) : VH := (V.1, fun b => if b = a then f else V.2.1 b, V.2.2)
def v_rowL (V : VH) (a : VA) (f : Nat → Int64) : VH := (V.1, V.2.1, fun b => if b = a then f else V.2.2.1 b, V.2.2.2)
def v_setI (V : VH) (a : VA) (k : Nat) (x : Int32) : VH := v_rowI V a (upd (V.1 a) k x)
def v_setR (V : VH) (a : VA) (k : Nat) (x : VA) : VH := v_rowR V a (va_up (V.2.1 a) k x)
def v_setL (V : VH) (a : VA) (k : Nat) (x : Int64) : VH := v_rowL V a (vp_updL (V.2.2.1 a) k x)
/-- a new cell at a, of n slots, all nought -/
def v_make (V : VH) (a : VA) (n : Nat) : VH := (fun b => if b = a then fun _ => 0 else V.1 b, fun b => if b = a then fun _ => (0, 0, 0) else V.2.1 b, fun b => if b = a then fun _ => 0 else V.2.2.1 b, fun b => if b = a then true else V.2.2.2.1 b, V.2.2.2.2.1 + 1, V.2.2.2.2.2 + n)
def v_get : VL → Nat → Option VV
  | [], _ => none
  | (j, v) :: l, i => match j == i with
    | true => some v
    | false => v_get l i
def v_put1 (lv : VL) (i : Nat) (v : VV) : VL := (i, v) :: lv.filter (fun q => !(q.1 == i) && !(q.1 + 1 == i && v_cat q.2 == 2))
def v_put2 (lv : VL) (i : Nat) (v : VV) : VL := (i, v) :: lv.filter (fun q => !(q.1 == i) && (!(q.1 == i + 1) && !(q.1 + 1 == i && v_cat q.2 == 2)))
def v_args : Nat → List VV → VL
  | _, [] => []
  | i, v :: l => (i, v) :: v_args (i + v_cat v) l
def v_ft : List VE → Nat → Option (Instr × Nat × VX)
  | [], _ => none
  | (p, i) :: l, pc => match p == pc with
    | true => some i
    | false => v_ft l pc
/-- which address a new cell takes: mode 0 (tag, j, 0); 1 as 'this'; 2 (tag, this' first index, the first argument); 3 (tag, length, 0) -/
def v_fresh (lv : VL) (mode tag : Nat) (j : Int) (n : Int32) : Option VA := match mode with
  | 0 => some (tag, j.toNat, 0)
  | 1 => match v_get lv 0 with
    | some (.inr (.inr t)) => some (tag, t.2)
    | _ => none
  | 2 => match v_get lv 0, v_get lv 1 with
    | some (.inr (.inr t)), some (.inl x) => some (tag, t.2.1, x.toNatClampNeg)
    | _, _ => none
  | _ => some (tag, n.toNatClampNeg, 0)
def v_ok (c : Bool) (o : VO) : Option VO := match c with
  | true => some o
  | false => none
def v_in (i : Int32) (n : Nat) : Bool := !(decide (i < 0) || decide (n ≤ i.toNatClampNeg))
def v_sum (st : List VV) : Nat := match st with
  | [] => 0
  | v :: l => v_cat v + v_sum l
def v_cmp (c : Jvm.ClassFile.Cond) (x y : Int32) : Bool := match c with
  | .eq => decide (x = y)
  | .ne => decide (¬ x = y)
  | .lt => decide (x < y)
  | .ge => decide (y ≤ x)
  | .gt => decide (y < x)
  | .le => decide (x ≤ y)
def v_br (b : Bool) (t f : Nat) : Nat := match b with
  | true => t
  | false => f
def v_off (pc : Nat) (o : Option Int) (lv : VL) (st : List VV) (V : VH) : Option VO := match o with
  | some d => some (.inl (((pc : Int) + d).toNat, lv, st, V))
  | none => none
def v_tab (d lo hi : Int) (offs : List Int) (x : Int) : Option Int := match decide (x < lo) || decide (hi < x) with
  | true => some d
  | false => offs[(x - lo).toNat]?
def v_look (d : Int) (x : Int) : List (Int × Int) → Int
  | [] => d
  | (a, o) :: l => match decide (x = a) with
    | true => o
    | false => v_look d x l
def v_bool (v : Int32) : Bool := decide (v = 0) || decide (v = 1)
def v_ret (k : Nat) (v : Int32) : Bool := match k with
  | 0 => true
  | 1 => v_bool v
  | _ => decide (0 ≤ v) && decide (v ≤ 65535)
def v_rev : List VV → List VV → List VV
  | [], r => r
  | a :: l, r => v_rev l (a :: r)
def v_take : Nat → List VV → List VV → Option (List VV × List VV)
  | 0, acc, st => some (acc, st)
  | n + 1, acc, v :: st => v_take n (v :: acc) st
  | _ + 1, _, [] => none
def v_call (x : VX) (pc : Nat) (lv : VL) (V : VH) : Option (List VV × List VV) → Option VO
  | some (as, st) => match x.2.2.1 with
    | 5 => match as with
      | [.inr (.inr a)] => v_ok (decide (v_sum st ≤ 8) && !(a.1 == 0)) (.inl (pc + 3, lv, st, V))
      | _ => none
    | 6 => match as with
      | [.inr (.inr a), .inl sp, .inr (.inr b), .inl dp, .inl n] => v_ok (decide (v_sum st ≤ 8) && (v_kind a == 11) && (v_kind b == 11) && decide (¬ sp < 0) && decide (¬ dp < 0) && decide (¬ n < 0) && decide (sp.toNatClampNeg + n.toNatClampNeg ≤ v_len a) && decide (dp.toNatClampNeg + n.toNatClampNeg ≤ v_len b)) (.inl (pc + 3, lv, st, v_rowI V b (va_cpy (V.1 a) (V.1 b) sp.toNatClampNeg dp.toNatClampNeg n.toNatClampNeg)))
      | _ => none
    | 7 => match as with
      | [.inl a, .inl b] => v_ok (decide (v_sum st ≤ 8)) (.inl (pc + 3, lv, .inl (if a < b then b else a) :: st, V))
      | _ => none
    | 8 => match as with
      | [.inl a, .inl b] => v_ok (decide (v_sum st ≤ 8)) (.inl (pc + 3, lv, .inl (if b < a then b else a) :: st, V))
      | _ => none
    | 9 => match as with
      | [.inr (.inl a), .inr (.inl b)] => v_ok (decide (v_sum st ≤ 8)) (.inl (pc + 3, lv, .inr (.inl (if b < a then b else a)) :: st, V))
      | _ => none
    | _ => v_ok (decide (v_sum st ≤ 8)) (.inr (.inr (x.1, as, (pc + 3, lv, st, V))))
  | none => none
def v_new (a : Option VA) (k n : Nat) (pc len : Nat) (lv : VL) (st : List VV) (V : VH) : Option VO := match a with
  | some b => v_ok (!(V.2.2.2.1 b) && (v_kind b == k) && !(b.1 == 0)) (.inl (pc + len, lv, .inr (.inr b) :: st, v_make V b n))
  | none => none
def v_i (i : Instr) (len : Nat) (x : VX) (pc : Nat) (lv : VL) (st : List VV) (V : VH) : Option VO := match i with
  | .iconst n => some (.inl (pc + len, lv, .inl (Int32.ofInt n) :: st, V))
  | .bipush n => some (.inl (pc + len, lv, .inl ((Int8.ofInt n).toInt32) :: st, V))
  | .sipush n => some (.inl (pc + len, lv, .inl ((Int16.ofInt n).toInt32) :: st, V))
  | .ldc _ => some (.inl (pc + len, lv, .inl (Int32.ofInt x.2.2.2) :: st, V))
  | .ldc2_w _ => some (.inl (pc + len, lv, .inr (.inl (Int64.ofInt x.2.2.2)) :: st, V))
  | .lconst n => some (.inl (pc + len, lv, .inr (.inl (Int64.ofNat n)) :: st, V))
  | .iload k => match v_get lv k with
    | some (.inl v) => some (.inl (pc + len, lv, .inl v :: st, V))
    | _ => none
  | .iload_n k => match v_get lv k with
    | some (.inl v) => some (.inl (pc + len, lv, .inl v :: st, V))
    | _ => none
  | .lload k => match v_get lv k with
    | some (.inr (.inl v)) => some (.inl (pc + len, lv, .inr (.inl v) :: st, V))
    | _ => none
  | .lload_n k => match v_get lv k with
    | some (.inr (.inl v)) => some (.inl (pc + len, lv, .inr (.inl v) :: st, V))
    | _ => none
  | .aload k => match v_get lv k with
    | some (.inr (.inr v)) => some (.inl (pc + len, lv, .inr (.inr v) :: st, V))
    | _ => none
  | .aload_n k => match v_get lv k with
    | some (.inr (.inr v)) => some (.inl (pc + len, lv, .inr (.inr v) :: st, V))
    | _ => none
  | .istore k => match st with
    | .inl v :: r => some (.inl (pc + len, v_put1 lv k (.inl v), r, V))
    | _ => none
  | .istore_n k => match st with
    | .inl v :: r => some (.inl (pc + len, v_put1 lv k (.inl v), r, V))
    | _ => none
  | .astore k => match st with
    | .inr (.inr v) :: r => some (.inl (pc + len, v_put1 lv k (.inr (.inr v)), r, V))
    | _ => none
  | .astore_n k => match st with
    | .inr (.inr v) :: r => some (.inl (pc + len, v_put1 lv k (.inr (.inr v)), r, V))
    | _ => none
  | .lstore k => match st with
    | .inr (.inl v) :: r => some (.inl (pc + len, v_put2 lv k (.inr (.inl v)), r, V))
    | _ => none
  | .lstore_n k => match st with
    | .inr (.inl v) :: r => some (.inl (pc + len, v_put2 lv k (.inr (.inl v)), r, V))
    | _ => none
  | .iinc k n => match v_get lv k with
    | some (.inl v) => some (.inl (pc + len, v_put1 lv k (.inl (v + Int32.ofInt n)), st, V))
    | _ => none
  | .iadd => match st with
    | .inl b :: .inl a :: r => some (.inl (pc + len, lv, .inl (a + b) :: r, V))
    | _ => none
  | .isub => match st with
    | .inl b :: .inl a :: r => some (.inl (pc + len, lv, .inl (a - b) :: r, V))
    | _ => none
  | .imul => match st with
    | .inl b :: .inl a :: r => some (.inl (pc + len, lv, .inl (a * b) :: r, V))
    | _ => none
  | .idiv => match st with
    | .inl b :: .inl a :: r => v_ok (decide (¬ b = 0)) (.inl (pc + len, lv, .inl (a / b) :: r, V))
    | _ => none
  | .irem => match st with
    | .inl b :: .inl a :: r => v_ok (decide (¬ b = 0)) (.inl (pc + len, lv, .inl (a - a / b * b) :: r, V))
    | _ => none
  | .iand => match st with
    | .inl b :: .inl a :: r => some (.inl (pc + len, lv, .inl (a &&& b) :: r, V))
    | _ => none
  | .ior => match st with
    | .inl b :: .inl a :: r => some (.inl (pc + len, lv, .inl (a ||| b) :: r, V))
    | _ => none
  | .ishl => match st with
    | .inl b :: .inl a :: r => some (.inl (pc + len, lv, .inl (a <<< (b &&& 31)) :: r, V))
    | _ => none
  | .ishr => match st with
    | .inl b :: .inl a :: r => some (.inl (pc + len, lv, .inl (a >>> (b &&& 31)) :: r, V))
    | _ => none
  | .ineg => match st with
    | .inl a :: r => some (.inl (pc + len, lv, .inl (-a) :: r, V))
    | _ => none
  | .ladd => match st with
    | .inr (.inl b) :: .inr (.inl a) :: r => some (.inl (pc + len, lv, .inr (.inl (a + b)) :: r, V))
    | _ => none
  | .lsub => match st with
    | .inr (.inl b) :: .inr (.inl a) :: r => some (.inl (pc + len, lv, .inr (.inl (a - b)) :: r, V))
    | _ => none
  | .lmul => match st with
    | .inr (.inl b) :: .inr (.inl a) :: r => some (.inl (pc + len, lv, .inr (.inl (a * b)) :: r, V))
    | _ => none
  | .ldiv => match st with
    | .inr (.inl b) :: .inr (.inl a) :: r => v_ok (decide (¬ b = 0)) (.inl (pc + len, lv, .inr (.inl (a / b)) :: r, V))
    | _ => none
  | .lcmp => match st with
    | .inr (.inl b) :: .inr (.inl a) :: r => some (.inl (pc + len, lv, .inl (lg_cmp a b) :: r, V))
    | _ => none
  | .i2l => match st with
    | .inl a :: r => some (.inl (pc + len, lv, .inr (.inl a.toInt64) :: r, V))
    | _ => none
  | .l2i => match st with
    | .inr (.inl a) :: r => some (.inl (pc + len, lv, .inl a.toInt32 :: r, V))
    | _ => none
  | .dup => match st with
    | .inl a :: r => some (.inl (pc + len, lv, .inl a :: .inl a :: r, V))
    | .inr (.inr a) :: r => some (.inl (pc + len, lv, .inr (.inr a) :: .inr (.inr a) :: r, V))
    | _ => none
  | .dup2 => match st with
    | .inl a :: .inr (.inr b) :: r => some (.inl (pc + len, lv, .inl a :: .inr (.inr b) :: .inl a :: .inr (.inr b) :: r, V))
    | _ => none
  | .if_icmp c _ => match st with
    | .inl b :: .inl a :: r => some (.inl (v_br (v_cmp c a b) x.1 (pc + 3), lv, r, V))
    | _ => none
  | .ifCond c _ => match st with
    | .inl a :: r => some (.inl (v_br (v_cmp c a 0) x.1 (pc + 3), lv, r, V))
    | _ => none
  | .ifnonnull _ => match st with
    | .inr (.inr a) :: r => some (.inl (v_br (!(a.1 == 0)) x.1 (pc + 3), lv, r, V))
    | _ => none
  | .goto _ => some (.inl (x.1, lv, st, V))
  | .tableswitch d lo hi offs => match st with
    | .inl a :: r => v_off pc (v_tab d lo hi offs.toList a.toInt) lv r V
    | _ => none
  | .lookupswitch d ps => match st with
    | .inl a :: r => v_off pc (some (v_look d a.toInt ps.toList)) lv r V
    | _ => none
  | .getfield _ => match st with
    | .inr (.inr a) :: r => match x.2.2.1 with
      | 0 => v_ok (v_kind a == x.1) (.inl (pc + len, lv, .inl (V.1 a x.2.1) :: r, V))
      | _ => v_ok (v_kind a == x.1) (.inl (pc + len, lv, .inr (.inr (V.2.1 a x.2.1)) :: r, V))
    | _ => none
  | .putfield _ => match x.2.2.1 with
    | 1 => match st with
      | .inr (.inr v) :: .inr (.inr a) :: r => v_ok (v_kind a == x.1) (.inl (pc + len, lv, r, v_setR V a x.2.1 v))
      | _ => none
    | 0 => match st with
      | .inl v :: .inr (.inr a) :: r => v_ok (v_kind a == x.1) (.inl (pc + len, lv, r, v_setI V a x.2.1 v))
      | _ => none
    | _ => match st with
      | .inl v :: .inr (.inr a) :: r => v_ok ((v_kind a == x.1) && v_bool v) (.inl (pc + len, lv, r, v_setI V a x.2.1 v))
      | _ => none
  | .new _ => v_new (v_fresh lv x.2.1 x.2.2.1 x.2.2.2 0) x.1 (v_nf x.1) pc len lv st V
  | .newarray _ => match st with
    | .inl n :: r => match v_fresh lv x.2.1 x.2.2.1 x.2.2.2 n with
      | some b => match decide (¬ n < 0) && (v_len b == n.toNatClampNeg) && decide (n.toNatClampNeg ≤ 50000) with
        | true => v_new (some b) x.1 n.toNatClampNeg pc len lv r V
        | false => none
      | none => none
    | _ => none
  | .anewarray _ => match st with
    | .inl n :: r => match v_fresh lv x.2.1 x.2.2.1 x.2.2.2 n with
      | some b => match decide (¬ n < 0) && (v_len b == n.toNatClampNeg) && decide (n.toNatClampNeg ≤ 50000) with
        | true => v_new (some b) x.1 n.toNatClampNeg pc len lv r V
        | false => none
      | none => none
    | _ => none
  | .arraylength => match st with
    | .inr (.inr a) :: r => v_ok ((v_kind a == 11) || (v_kind a == 17)) (.inl (pc + len, lv, .inl (Int32.ofNat (v_len a)) :: r, V))
    | _ => none
  | .iaload => match st with
    | .inl j :: .inr (.inr a) :: r => v_ok (((v_kind a == 11) || (v_kind a == 17)) && v_in j (v_len a)) (.inl (pc + len, lv, .inl (V.1 a j.toNatClampNeg) :: r, V))
    | _ => none
  | .baload => match st with
    | .inl j :: .inr (.inr a) :: r => v_ok ((v_kind a == 12) && v_in j (v_len a)) (.inl (pc + len, lv, .inl (V.1 a j.toNatClampNeg) :: r, V))
    | _ => none
  | .laload => match st with
    | .inl j :: .inr (.inr a) :: r => v_ok ((v_kind a == 13) && v_in j (v_len a)) (.inl (pc + len, lv, .inr (.inl (V.2.2.1 a j.toNatClampNeg)) :: r, V))
    | _ => none
  | .aaload => match st with
    | .inl j :: .inr (.inr a) :: r => v_ok (decide (14 ≤ v_kind a ∧ v_kind a ≤ 16) && v_in j (v_len a)) (.inl (pc + len, lv, .inr (.inr (V.2.1 a j.toNatClampNeg)) :: r, V))
    | _ => none
  | .iastore => match st with
    | .inl v :: .inl j :: .inr (.inr a) :: r => v_ok ((v_kind a == 11) && v_in j (v_len a)) (.inl (pc + len, lv, r, v_setI V a j.toNatClampNeg v))
    | _ => none
  | .bastore => match st with
    | .inl v :: .inl j :: .inr (.inr a) :: r => v_ok ((v_kind a == 12) && v_in j (v_len a) && v_bool v) (.inl (pc + len, lv, r, v_setI V a j.toNatClampNeg v))
    | _ => none
  | .lastore => match st with
    | .inr (.inl v) :: .inl j :: .inr (.inr a) :: r => v_ok ((v_kind a == 13) && v_in j (v_len a)) (.inl (pc + len, lv, r, v_setL V a j.toNatClampNeg v))
    | _ => none
  | .aastore => match st with
    | .inr (.inr v) :: .inl j :: .inr (.inr a) :: r => v_ok (decide (14 ≤ v_kind a ∧ v_kind a ≤ 16) && v_in j (v_len a) && (v_kind v == v_nth [3, 2, 7] (v_kind a - 14))) (.inl (pc + len, lv, r, v_setR V a j.toNatClampNeg v))
    | _ => none
  | .invokevirtual _ => v_call x pc lv V (v_take x.2.1 [] st)
  | .invokestatic _ => v_call x pc lv V (v_take x.2.1 [] st)
  | .invokespecial _ => v_call x pc lv V (v_take x.2.1 [] st)
  | .ireturn => match st with
    | [.inl v] => v_ok (v_ret x.1 v) (.inr (.inl (some (.inl v), V)))
    | _ => none
  | .lreturn => match st with
    | [.inr (.inl v)] => some (.inr (.inl (some (.inr (.inl v)), V)))
    | _ => none
  | .areturn => match st with
    | [.inr (.inr v)] => v_ok (!(v.1 == 0)) (.inr (.inl (some (.inr (.inr v)), V)))
    | _ => none
  | .return_ => match st with
    | [] => some (.inr (.inl (none, V)))
    | _ => none
  | _ => none
def v_1 (cd : List VE) (s : VS) : Option VO := match v_ft cd s.1 with
  | some i => v_i i.1 i.2.1 i.2.2 s.1 s.2.1 s.2.2.1 s.2.2.2
  | none => none
/-- n plain steps -/
def v_n : Nat → List VE → VS → Option VS
  | 0, _, s => some s
  | n + 1, cd, s => match v_1 cd s with
    | some (.inl t) => v_n n cd t
    | _ => none
end
section
/-! ===== the code, decoded, with resolved data ===== -/
abbrev VM : Type := String × MethodName × ByteArray × Nat × Option FieldType × Nat × Nat × List VE
def k_0_0 : List VE := [(0, .new 7, 3, (9, 0, 10, 0)), (3, .dup, 1, (0, 0, 0, 0)), (4, .invokespecial 9, 3, (121, 1, 2, 0)), (7, .astore_n 1, 1, (0, 0, 0, 0)), (8, .new 10, 3, (10, 0, 11, 0)), (11, .dup, 1, (0, 0, 0, 0)), (12, .invokespecial 12, 3, (185, 1, 2, 0)), (15, .astore_n 2, 1, (0, 0, 0, 0)), (16, .iconst 0, 1, (0, 0, 0, 0)), (17, .istore_n 3, 1, (0, 0, 0, 0)), (18, .iload_n 3, 1, (0, 0, 0, 0)), (19, .aload_n 0, 1, (0, 0, 0, 0)), (20, .arraylength, 1, (0, 0, 0, 0)), (21, .iconst 4, 1, (0, 0, 0, 0)), (22, .isub, 1, (0, 0, 0, 0)), (23, .if_icmp .gt 1600, 3, (1623, 0, 0, 0)), (26, .aload_n 0, 1, (0, 0, 0, 0)), (27, .iload_n 3, 1, (0, 0, 0, 0)), (28, .iaload, 1, (0, 0, 0, 0)), (29, .bipush 63, 2, (0, 0, 0, 0)), (31, .iand, 1, (0, 0, 0, 0)), (32, .tableswitch 1585 0 46 #[204, 227, 250, 283, 306, 339, 362, 385, 418, 461, 494, 517, 550, 573, 616, 629, 662, 695, 738, 761, 804, 837, 870, 903, 936, 969, 992, 1025, 1058, 1091, 1114, 1157, 1190, 1223, 1246, 1289, 1322, 1345, 1378, 1401, 1434, 1457, 1480, 1523, 1546, 1559, 1572], 204, (0, 0, 0, 0)), (236, .aload_n 1, 1, (0, 0, 0, 0)), (237, .aload_n 0, 1, (0, 0, 0, 0)), (238, .iload_n 3, 1, (0, 0, 0, 0)), (239, .iconst 1, 1, (0, 0, 0, 0)), (240, .iadd, 1, (0, 0, 0, 0)), (241, .iaload, 1, (0, 0, 0, 0)), (242, .invokevirtual 13, 3, (122, 2, 0, 0)), (245, .aload_n 2, 1, (0, 0, 0, 0)), (246, .aload_n 0, 1, (0, 0, 0, 0)), (247, .iload_n 3, 1, (0, 0, 0, 0)), (248, .iconst 1, 1, (0, 0, 0, 0)), (249, .iadd, 1, (0, 0, 0, 0)), (250, .iaload, 1, (0, 0, 0, 0)), (251, .invokevirtual 17, 3, (210, 2, 0, 0)), (254, .if_icmp .eq 1363, 3, (1617, 0, 0, 0)), (257, .iconst 0, 1, (0, 0, 0, 0)), (258, .ireturn, 1, (1, 0, 0, 0)), (259, .aload_n 1, 1, (0, 0, 0, 0)), (260, .aload_n 0, 1, (0, 0, 0, 0)), (261, .iload_n 3, 1, (0, 0, 0, 0)), (262, .iconst 1, 1, (0, 0, 0, 0)), (263, .iadd, 1, (0, 0, 0, 0)), (264, .iaload, 1, (0, 0, 0, 0)), (265, .invokevirtual 18, 3, (123, 2, 0, 0)), (268, .aload_n 2, 1, (0, 0, 0, 0)), (269, .aload_n 0, 1, (0, 0, 0, 0)), (270, .iload_n 3, 1, (0, 0, 0, 0)), (271, .iconst 1, 1, (0, 0, 0, 0)), (272, .iadd, 1, (0, 0, 0, 0)), (273, .iaload, 1, (0, 0, 0, 0)), (274, .invokevirtual 21, 3, (211, 2, 0, 0)), (277, .if_icmp .eq 1340, 3, (1617, 0, 0, 0)), (280, .iconst 0, 1, (0, 0, 0, 0)), (281, .ireturn, 1, (1, 0, 0, 0)), (282, .aload_n 1, 1, (0, 0, 0, 0)), (283, .aload_n 0, 1, (0, 0, 0, 0)), (284, .iload_n 3, 1, (0, 0, 0, 0)), (285, .iconst 1, 1, (0, 0, 0, 0))]
def k_0_1 : List VE := [(286, .iadd, 1, (0, 0, 0, 0)), (287, .iaload, 1, (0, 0, 0, 0)), (288, .aload_n 0, 1, (0, 0, 0, 0)), (289, .iload_n 3, 1, (0, 0, 0, 0)), (290, .iconst 2, 1, (0, 0, 0, 0)), (291, .iadd, 1, (0, 0, 0, 0)), (292, .iaload, 1, (0, 0, 0, 0)), (293, .invokevirtual 22, 3, (124, 3, 0, 0)), (296, .aload_n 2, 1, (0, 0, 0, 0)), (297, .aload_n 0, 1, (0, 0, 0, 0)), (298, .iload_n 3, 1, (0, 0, 0, 0)), (299, .iconst 1, 1, (0, 0, 0, 0)), (300, .iadd, 1, (0, 0, 0, 0)), (301, .iaload, 1, (0, 0, 0, 0)), (302, .aload_n 0, 1, (0, 0, 0, 0)), (303, .iload_n 3, 1, (0, 0, 0, 0)), (304, .iconst 2, 1, (0, 0, 0, 0)), (305, .iadd, 1, (0, 0, 0, 0)), (306, .iaload, 1, (0, 0, 0, 0)), (307, .invokevirtual 26, 3, (212, 3, 0, 0)), (310, .if_icmp .eq 1307, 3, (1617, 0, 0, 0)), (313, .iconst 0, 1, (0, 0, 0, 0)), (314, .ireturn, 1, (1, 0, 0, 0)), (315, .aload_n 1, 1, (0, 0, 0, 0)), (316, .aload_n 0, 1, (0, 0, 0, 0)), (317, .iload_n 3, 1, (0, 0, 0, 0)), (318, .iconst 1, 1, (0, 0, 0, 0)), (319, .iadd, 1, (0, 0, 0, 0)), (320, .iaload, 1, (0, 0, 0, 0)), (321, .invokevirtual 27, 3, (125, 2, 0, 0)), (324, .aload_n 2, 1, (0, 0, 0, 0)), (325, .aload_n 0, 1, (0, 0, 0, 0)), (326, .iload_n 3, 1, (0, 0, 0, 0)), (327, .iconst 1, 1, (0, 0, 0, 0)), (328, .iadd, 1, (0, 0, 0, 0)), (329, .iaload, 1, (0, 0, 0, 0)), (330, .invokevirtual 30, 3, (213, 2, 0, 0)), (333, .if_icmp .eq 1284, 3, (1617, 0, 0, 0)), (336, .iconst 0, 1, (0, 0, 0, 0)), (337, .ireturn, 1, (1, 0, 0, 0)), (338, .aload_n 1, 1, (0, 0, 0, 0)), (339, .aload_n 0, 1, (0, 0, 0, 0)), (340, .iload_n 3, 1, (0, 0, 0, 0)), (341, .iconst 1, 1, (0, 0, 0, 0)), (342, .iadd, 1, (0, 0, 0, 0)), (343, .iaload, 1, (0, 0, 0, 0)), (344, .aload_n 0, 1, (0, 0, 0, 0)), (345, .iload_n 3, 1, (0, 0, 0, 0)), (346, .iconst 2, 1, (0, 0, 0, 0)), (347, .iadd, 1, (0, 0, 0, 0)), (348, .iaload, 1, (0, 0, 0, 0)), (349, .invokevirtual 31, 3, (126, 3, 0, 0)), (352, .aload_n 2, 1, (0, 0, 0, 0)), (353, .aload_n 0, 1, (0, 0, 0, 0)), (354, .iload_n 3, 1, (0, 0, 0, 0)), (355, .iconst 1, 1, (0, 0, 0, 0)), (356, .iadd, 1, (0, 0, 0, 0)), (357, .iaload, 1, (0, 0, 0, 0)), (358, .aload_n 0, 1, (0, 0, 0, 0)), (359, .iload_n 3, 1, (0, 0, 0, 0))]
def k_0_2 : List VE := [(360, .iconst 2, 1, (0, 0, 0, 0)), (361, .iadd, 1, (0, 0, 0, 0)), (362, .iaload, 1, (0, 0, 0, 0)), (363, .invokevirtual 34, 3, (214, 3, 0, 0)), (366, .if_icmp .eq 1251, 3, (1617, 0, 0, 0)), (369, .iconst 0, 1, (0, 0, 0, 0)), (370, .ireturn, 1, (1, 0, 0, 0)), (371, .aload_n 1, 1, (0, 0, 0, 0)), (372, .aload_n 0, 1, (0, 0, 0, 0)), (373, .iload_n 3, 1, (0, 0, 0, 0)), (374, .iconst 1, 1, (0, 0, 0, 0)), (375, .iadd, 1, (0, 0, 0, 0)), (376, .iaload, 1, (0, 0, 0, 0)), (377, .invokevirtual 35, 3, (127, 2, 0, 0)), (380, .aload_n 2, 1, (0, 0, 0, 0)), (381, .aload_n 0, 1, (0, 0, 0, 0)), (382, .iload_n 3, 1, (0, 0, 0, 0)), (383, .iconst 1, 1, (0, 0, 0, 0)), (384, .iadd, 1, (0, 0, 0, 0)), (385, .iaload, 1, (0, 0, 0, 0)), (386, .invokevirtual 38, 3, (215, 2, 0, 0)), (389, .if_icmp .eq 1228, 3, (1617, 0, 0, 0)), (392, .iconst 0, 1, (0, 0, 0, 0)), (393, .ireturn, 1, (1, 0, 0, 0)), (394, .aload_n 1, 1, (0, 0, 0, 0)), (395, .aload_n 0, 1, (0, 0, 0, 0)), (396, .iload_n 3, 1, (0, 0, 0, 0)), (397, .iconst 1, 1, (0, 0, 0, 0)), (398, .iadd, 1, (0, 0, 0, 0)), (399, .iaload, 1, (0, 0, 0, 0)), (400, .invokevirtual 39, 3, (128, 2, 0, 0)), (403, .aload_n 2, 1, (0, 0, 0, 0)), (404, .aload_n 0, 1, (0, 0, 0, 0)), (405, .iload_n 3, 1, (0, 0, 0, 0)), (406, .iconst 1, 1, (0, 0, 0, 0)), (407, .iadd, 1, (0, 0, 0, 0)), (408, .iaload, 1, (0, 0, 0, 0)), (409, .invokevirtual 42, 3, (216, 2, 0, 0)), (412, .if_icmp .eq 1205, 3, (1617, 0, 0, 0)), (415, .iconst 0, 1, (0, 0, 0, 0)), (416, .ireturn, 1, (1, 0, 0, 0)), (417, .aload_n 1, 1, (0, 0, 0, 0)), (418, .aload_n 0, 1, (0, 0, 0, 0)), (419, .iload_n 3, 1, (0, 0, 0, 0)), (420, .iconst 1, 1, (0, 0, 0, 0)), (421, .iadd, 1, (0, 0, 0, 0)), (422, .iaload, 1, (0, 0, 0, 0)), (423, .aload_n 0, 1, (0, 0, 0, 0)), (424, .iload_n 3, 1, (0, 0, 0, 0)), (425, .iconst 2, 1, (0, 0, 0, 0)), (426, .iadd, 1, (0, 0, 0, 0)), (427, .iaload, 1, (0, 0, 0, 0)), (428, .invokevirtual 43, 3, (129, 3, 0, 0)), (431, .aload_n 2, 1, (0, 0, 0, 0)), (432, .aload_n 0, 1, (0, 0, 0, 0)), (433, .iload_n 3, 1, (0, 0, 0, 0)), (434, .iconst 1, 1, (0, 0, 0, 0)), (435, .iadd, 1, (0, 0, 0, 0)), (436, .iaload, 1, (0, 0, 0, 0)), (437, .aload_n 0, 1, (0, 0, 0, 0))]
def k_0_3 : List VE := [(438, .iload_n 3, 1, (0, 0, 0, 0)), (439, .iconst 2, 1, (0, 0, 0, 0)), (440, .iadd, 1, (0, 0, 0, 0)), (441, .iaload, 1, (0, 0, 0, 0)), (442, .invokevirtual 46, 3, (218, 3, 0, 0)), (445, .if_icmp .eq 1172, 3, (1617, 0, 0, 0)), (448, .iconst 0, 1, (0, 0, 0, 0)), (449, .ireturn, 1, (1, 0, 0, 0)), (450, .aload_n 1, 1, (0, 0, 0, 0)), (451, .aload_n 0, 1, (0, 0, 0, 0)), (452, .iload_n 3, 1, (0, 0, 0, 0)), (453, .iconst 1, 1, (0, 0, 0, 0)), (454, .iadd, 1, (0, 0, 0, 0)), (455, .iaload, 1, (0, 0, 0, 0)), (456, .aload_n 0, 1, (0, 0, 0, 0)), (457, .iload_n 3, 1, (0, 0, 0, 0)), (458, .iconst 2, 1, (0, 0, 0, 0)), (459, .iadd, 1, (0, 0, 0, 0)), (460, .iaload, 1, (0, 0, 0, 0)), (461, .aload_n 0, 1, (0, 0, 0, 0)), (462, .iload_n 3, 1, (0, 0, 0, 0)), (463, .iconst 3, 1, (0, 0, 0, 0)), (464, .iadd, 1, (0, 0, 0, 0)), (465, .iaload, 1, (0, 0, 0, 0)), (466, .invokevirtual 47, 3, (130, 4, 0, 0)), (469, .aload_n 2, 1, (0, 0, 0, 0)), (470, .aload_n 0, 1, (0, 0, 0, 0)), (471, .iload_n 3, 1, (0, 0, 0, 0)), (472, .iconst 1, 1, (0, 0, 0, 0)), (473, .iadd, 1, (0, 0, 0, 0)), (474, .iaload, 1, (0, 0, 0, 0)), (475, .aload_n 0, 1, (0, 0, 0, 0)), (476, .iload_n 3, 1, (0, 0, 0, 0)), (477, .iconst 2, 1, (0, 0, 0, 0)), (478, .iadd, 1, (0, 0, 0, 0)), (479, .iaload, 1, (0, 0, 0, 0)), (480, .aload_n 0, 1, (0, 0, 0, 0)), (481, .iload_n 3, 1, (0, 0, 0, 0)), (482, .iconst 3, 1, (0, 0, 0, 0)), (483, .iadd, 1, (0, 0, 0, 0)), (484, .iaload, 1, (0, 0, 0, 0)), (485, .invokevirtual 51, 3, (219, 4, 0, 0)), (488, .if_icmp .eq 1129, 3, (1617, 0, 0, 0)), (491, .iconst 0, 1, (0, 0, 0, 0)), (492, .ireturn, 1, (1, 0, 0, 0)), (493, .aload_n 1, 1, (0, 0, 0, 0)), (494, .aload_n 0, 1, (0, 0, 0, 0)), (495, .iload_n 3, 1, (0, 0, 0, 0)), (496, .iconst 1, 1, (0, 0, 0, 0)), (497, .iadd, 1, (0, 0, 0, 0)), (498, .iaload, 1, (0, 0, 0, 0)), (499, .aload_n 0, 1, (0, 0, 0, 0)), (500, .iload_n 3, 1, (0, 0, 0, 0)), (501, .iconst 2, 1, (0, 0, 0, 0)), (502, .iadd, 1, (0, 0, 0, 0)), (503, .iaload, 1, (0, 0, 0, 0)), (504, .invokevirtual 52, 3, (134, 3, 0, 0)), (507, .aload_n 2, 1, (0, 0, 0, 0)), (508, .aload_n 0, 1, (0, 0, 0, 0)), (509, .iload_n 3, 1, (0, 0, 0, 0))]
def k_0_4 : List VE := [(510, .iconst 1, 1, (0, 0, 0, 0)), (511, .iadd, 1, (0, 0, 0, 0)), (512, .iaload, 1, (0, 0, 0, 0)), (513, .aload_n 0, 1, (0, 0, 0, 0)), (514, .iload_n 3, 1, (0, 0, 0, 0)), (515, .iconst 2, 1, (0, 0, 0, 0)), (516, .iadd, 1, (0, 0, 0, 0)), (517, .iaload, 1, (0, 0, 0, 0)), (518, .invokevirtual 55, 3, (220, 3, 0, 0)), (521, .if_icmp .eq 1096, 3, (1617, 0, 0, 0)), (524, .iconst 0, 1, (0, 0, 0, 0)), (525, .ireturn, 1, (1, 0, 0, 0)), (526, .aload_n 1, 1, (0, 0, 0, 0)), (527, .aload_n 0, 1, (0, 0, 0, 0)), (528, .iload_n 3, 1, (0, 0, 0, 0)), (529, .iconst 1, 1, (0, 0, 0, 0)), (530, .iadd, 1, (0, 0, 0, 0)), (531, .iaload, 1, (0, 0, 0, 0)), (532, .invokevirtual 56, 3, (135, 2, 0, 0)), (535, .aload_n 2, 1, (0, 0, 0, 0)), (536, .aload_n 0, 1, (0, 0, 0, 0)), (537, .iload_n 3, 1, (0, 0, 0, 0)), (538, .iconst 1, 1, (0, 0, 0, 0)), (539, .iadd, 1, (0, 0, 0, 0)), (540, .iaload, 1, (0, 0, 0, 0)), (541, .invokevirtual 59, 3, (222, 2, 0, 0)), (544, .if_icmp .eq 1073, 3, (1617, 0, 0, 0)), (547, .iconst 0, 1, (0, 0, 0, 0)), (548, .ireturn, 1, (1, 0, 0, 0)), (549, .aload_n 1, 1, (0, 0, 0, 0)), (550, .aload_n 0, 1, (0, 0, 0, 0)), (551, .iload_n 3, 1, (0, 0, 0, 0)), (552, .iconst 1, 1, (0, 0, 0, 0)), (553, .iadd, 1, (0, 0, 0, 0)), (554, .iaload, 1, (0, 0, 0, 0)), (555, .aload_n 0, 1, (0, 0, 0, 0)), (556, .iload_n 3, 1, (0, 0, 0, 0)), (557, .iconst 2, 1, (0, 0, 0, 0)), (558, .iadd, 1, (0, 0, 0, 0)), (559, .iaload, 1, (0, 0, 0, 0)), (560, .invokevirtual 60, 3, (136, 3, 0, 0)), (563, .aload_n 2, 1, (0, 0, 0, 0)), (564, .aload_n 0, 1, (0, 0, 0, 0)), (565, .iload_n 3, 1, (0, 0, 0, 0)), (566, .iconst 1, 1, (0, 0, 0, 0)), (567, .iadd, 1, (0, 0, 0, 0)), (568, .iaload, 1, (0, 0, 0, 0)), (569, .aload_n 0, 1, (0, 0, 0, 0)), (570, .iload_n 3, 1, (0, 0, 0, 0)), (571, .iconst 2, 1, (0, 0, 0, 0)), (572, .iadd, 1, (0, 0, 0, 0)), (573, .iaload, 1, (0, 0, 0, 0)), (574, .invokevirtual 63, 3, (223, 3, 0, 0)), (577, .if_icmp .eq 1040, 3, (1617, 0, 0, 0)), (580, .iconst 0, 1, (0, 0, 0, 0)), (581, .ireturn, 1, (1, 0, 0, 0)), (582, .aload_n 1, 1, (0, 0, 0, 0)), (583, .aload_n 0, 1, (0, 0, 0, 0)), (584, .iload_n 3, 1, (0, 0, 0, 0)), (585, .iconst 1, 1, (0, 0, 0, 0))]
def k_0_5 : List VE := [(586, .iadd, 1, (0, 0, 0, 0)), (587, .iaload, 1, (0, 0, 0, 0)), (588, .invokevirtual 64, 3, (137, 2, 0, 0)), (591, .aload_n 2, 1, (0, 0, 0, 0)), (592, .aload_n 0, 1, (0, 0, 0, 0)), (593, .iload_n 3, 1, (0, 0, 0, 0)), (594, .iconst 1, 1, (0, 0, 0, 0)), (595, .iadd, 1, (0, 0, 0, 0)), (596, .iaload, 1, (0, 0, 0, 0)), (597, .invokevirtual 67, 3, (225, 2, 0, 0)), (600, .if_icmp .eq 1017, 3, (1617, 0, 0, 0)), (603, .iconst 0, 1, (0, 0, 0, 0)), (604, .ireturn, 1, (1, 0, 0, 0)), (605, .aload_n 1, 1, (0, 0, 0, 0)), (606, .aload_n 0, 1, (0, 0, 0, 0)), (607, .iload_n 3, 1, (0, 0, 0, 0)), (608, .iconst 1, 1, (0, 0, 0, 0)), (609, .iadd, 1, (0, 0, 0, 0)), (610, .iaload, 1, (0, 0, 0, 0)), (611, .aload_n 0, 1, (0, 0, 0, 0)), (612, .iload_n 3, 1, (0, 0, 0, 0)), (613, .iconst 2, 1, (0, 0, 0, 0)), (614, .iadd, 1, (0, 0, 0, 0)), (615, .iaload, 1, (0, 0, 0, 0)), (616, .aload_n 0, 1, (0, 0, 0, 0)), (617, .iload_n 3, 1, (0, 0, 0, 0)), (618, .iconst 3, 1, (0, 0, 0, 0)), (619, .iadd, 1, (0, 0, 0, 0)), (620, .iaload, 1, (0, 0, 0, 0)), (621, .invokevirtual 68, 3, (138, 4, 0, 0)), (624, .aload_n 2, 1, (0, 0, 0, 0)), (625, .aload_n 0, 1, (0, 0, 0, 0)), (626, .iload_n 3, 1, (0, 0, 0, 0)), (627, .iconst 1, 1, (0, 0, 0, 0)), (628, .iadd, 1, (0, 0, 0, 0)), (629, .iaload, 1, (0, 0, 0, 0)), (630, .aload_n 0, 1, (0, 0, 0, 0)), (631, .iload_n 3, 1, (0, 0, 0, 0)), (632, .iconst 2, 1, (0, 0, 0, 0)), (633, .iadd, 1, (0, 0, 0, 0)), (634, .iaload, 1, (0, 0, 0, 0)), (635, .aload_n 0, 1, (0, 0, 0, 0)), (636, .iload_n 3, 1, (0, 0, 0, 0)), (637, .iconst 3, 1, (0, 0, 0, 0)), (638, .iadd, 1, (0, 0, 0, 0)), (639, .iaload, 1, (0, 0, 0, 0)), (640, .invokevirtual 71, 3, (228, 4, 0, 0)), (643, .if_icmp .eq 974, 3, (1617, 0, 0, 0)), (646, .iconst 0, 1, (0, 0, 0, 0)), (647, .ireturn, 1, (1, 0, 0, 0)), (648, .aload_n 1, 1, (0, 0, 0, 0)), (649, .invokevirtual 72, 3, (139, 1, 0, 0)), (652, .aload_n 2, 1, (0, 0, 0, 0)), (653, .invokevirtual 76, 3, (229, 1, 0, 0)), (656, .if_icmp .eq 961, 3, (1617, 0, 0, 0)), (659, .iconst 0, 1, (0, 0, 0, 0)), (660, .ireturn, 1, (1, 0, 0, 0)), (661, .aload_n 1, 1, (0, 0, 0, 0)), (662, .aload_n 0, 1, (0, 0, 0, 0)), (663, .iload_n 3, 1, (0, 0, 0, 0))]
def k_0_6 : List VE := [(664, .iconst 1, 1, (0, 0, 0, 0)), (665, .iadd, 1, (0, 0, 0, 0)), (666, .iaload, 1, (0, 0, 0, 0)), (667, .aload_n 0, 1, (0, 0, 0, 0)), (668, .iload_n 3, 1, (0, 0, 0, 0)), (669, .iconst 2, 1, (0, 0, 0, 0)), (670, .iadd, 1, (0, 0, 0, 0)), (671, .iaload, 1, (0, 0, 0, 0)), (672, .invokevirtual 77, 3, (140, 3, 0, 0)), (675, .aload_n 2, 1, (0, 0, 0, 0)), (676, .aload_n 0, 1, (0, 0, 0, 0)), (677, .iload_n 3, 1, (0, 0, 0, 0)), (678, .iconst 1, 1, (0, 0, 0, 0)), (679, .iadd, 1, (0, 0, 0, 0)), (680, .iaload, 1, (0, 0, 0, 0)), (681, .aload_n 0, 1, (0, 0, 0, 0)), (682, .iload_n 3, 1, (0, 0, 0, 0)), (683, .iconst 2, 1, (0, 0, 0, 0)), (684, .iadd, 1, (0, 0, 0, 0)), (685, .iaload, 1, (0, 0, 0, 0)), (686, .invokevirtual 80, 3, (232, 3, 0, 0)), (689, .if_icmp .eq 928, 3, (1617, 0, 0, 0)), (692, .iconst 0, 1, (0, 0, 0, 0)), (693, .ireturn, 1, (1, 0, 0, 0)), (694, .aload_n 1, 1, (0, 0, 0, 0)), (695, .aload_n 0, 1, (0, 0, 0, 0)), (696, .iload_n 3, 1, (0, 0, 0, 0)), (697, .iconst 1, 1, (0, 0, 0, 0)), (698, .iadd, 1, (0, 0, 0, 0)), (699, .iaload, 1, (0, 0, 0, 0)), (700, .aload_n 0, 1, (0, 0, 0, 0)), (701, .iload_n 3, 1, (0, 0, 0, 0)), (702, .iconst 2, 1, (0, 0, 0, 0)), (703, .iadd, 1, (0, 0, 0, 0)), (704, .iaload, 1, (0, 0, 0, 0)), (705, .invokevirtual 81, 3, (141, 3, 0, 0)), (708, .aload_n 2, 1, (0, 0, 0, 0)), (709, .aload_n 0, 1, (0, 0, 0, 0)), (710, .iload_n 3, 1, (0, 0, 0, 0)), (711, .iconst 1, 1, (0, 0, 0, 0)), (712, .iadd, 1, (0, 0, 0, 0)), (713, .iaload, 1, (0, 0, 0, 0)), (714, .aload_n 0, 1, (0, 0, 0, 0)), (715, .iload_n 3, 1, (0, 0, 0, 0)), (716, .iconst 2, 1, (0, 0, 0, 0)), (717, .iadd, 1, (0, 0, 0, 0)), (718, .iaload, 1, (0, 0, 0, 0)), (719, .invokevirtual 84, 3, (233, 3, 0, 0)), (722, .if_icmp .eq 895, 3, (1617, 0, 0, 0)), (725, .iconst 0, 1, (0, 0, 0, 0)), (726, .ireturn, 1, (1, 0, 0, 0)), (727, .aload_n 1, 1, (0, 0, 0, 0)), (728, .aload_n 0, 1, (0, 0, 0, 0)), (729, .iload_n 3, 1, (0, 0, 0, 0)), (730, .iconst 1, 1, (0, 0, 0, 0)), (731, .iadd, 1, (0, 0, 0, 0)), (732, .iaload, 1, (0, 0, 0, 0)), (733, .aload_n 0, 1, (0, 0, 0, 0)), (734, .iload_n 3, 1, (0, 0, 0, 0)), (735, .iconst 2, 1, (0, 0, 0, 0))]
def k_0_7 : List VE := [(736, .iadd, 1, (0, 0, 0, 0)), (737, .iaload, 1, (0, 0, 0, 0)), (738, .aload_n 0, 1, (0, 0, 0, 0)), (739, .iload_n 3, 1, (0, 0, 0, 0)), (740, .iconst 3, 1, (0, 0, 0, 0)), (741, .iadd, 1, (0, 0, 0, 0)), (742, .iaload, 1, (0, 0, 0, 0)), (743, .invokevirtual 85, 3, (142, 4, 0, 0)), (746, .aload_n 2, 1, (0, 0, 0, 0)), (747, .aload_n 0, 1, (0, 0, 0, 0)), (748, .iload_n 3, 1, (0, 0, 0, 0)), (749, .iconst 1, 1, (0, 0, 0, 0)), (750, .iadd, 1, (0, 0, 0, 0)), (751, .iaload, 1, (0, 0, 0, 0)), (752, .aload_n 0, 1, (0, 0, 0, 0)), (753, .iload_n 3, 1, (0, 0, 0, 0)), (754, .iconst 2, 1, (0, 0, 0, 0)), (755, .iadd, 1, (0, 0, 0, 0)), (756, .iaload, 1, (0, 0, 0, 0)), (757, .aload_n 0, 1, (0, 0, 0, 0)), (758, .iload_n 3, 1, (0, 0, 0, 0)), (759, .iconst 3, 1, (0, 0, 0, 0)), (760, .iadd, 1, (0, 0, 0, 0)), (761, .iaload, 1, (0, 0, 0, 0)), (762, .invokevirtual 88, 3, (234, 4, 0, 0)), (765, .if_icmp .eq 852, 3, (1617, 0, 0, 0)), (768, .iconst 0, 1, (0, 0, 0, 0)), (769, .ireturn, 1, (1, 0, 0, 0)), (770, .aload_n 1, 1, (0, 0, 0, 0)), (771, .aload_n 0, 1, (0, 0, 0, 0)), (772, .iload_n 3, 1, (0, 0, 0, 0)), (773, .iconst 1, 1, (0, 0, 0, 0)), (774, .iadd, 1, (0, 0, 0, 0)), (775, .iaload, 1, (0, 0, 0, 0)), (776, .invokevirtual 89, 3, (143, 2, 0, 0)), (779, .aload_n 2, 1, (0, 0, 0, 0)), (780, .aload_n 0, 1, (0, 0, 0, 0)), (781, .iload_n 3, 1, (0, 0, 0, 0)), (782, .iconst 1, 1, (0, 0, 0, 0)), (783, .iadd, 1, (0, 0, 0, 0)), (784, .iaload, 1, (0, 0, 0, 0)), (785, .invokevirtual 92, 3, (236, 2, 0, 0)), (788, .if_icmp .eq 829, 3, (1617, 0, 0, 0)), (791, .iconst 0, 1, (0, 0, 0, 0)), (792, .ireturn, 1, (1, 0, 0, 0)), (793, .aload_n 1, 1, (0, 0, 0, 0)), (794, .aload_n 0, 1, (0, 0, 0, 0)), (795, .iload_n 3, 1, (0, 0, 0, 0)), (796, .iconst 1, 1, (0, 0, 0, 0)), (797, .iadd, 1, (0, 0, 0, 0)), (798, .iaload, 1, (0, 0, 0, 0)), (799, .aload_n 0, 1, (0, 0, 0, 0)), (800, .iload_n 3, 1, (0, 0, 0, 0)), (801, .iconst 2, 1, (0, 0, 0, 0)), (802, .iadd, 1, (0, 0, 0, 0)), (803, .iaload, 1, (0, 0, 0, 0)), (804, .aload_n 0, 1, (0, 0, 0, 0)), (805, .iload_n 3, 1, (0, 0, 0, 0)), (806, .iconst 3, 1, (0, 0, 0, 0)), (807, .iadd, 1, (0, 0, 0, 0))]
def k_0_8 : List VE := [(808, .iaload, 1, (0, 0, 0, 0)), (809, .invokevirtual 93, 3, (144, 4, 0, 0)), (812, .aload_n 2, 1, (0, 0, 0, 0)), (813, .aload_n 0, 1, (0, 0, 0, 0)), (814, .iload_n 3, 1, (0, 0, 0, 0)), (815, .iconst 1, 1, (0, 0, 0, 0)), (816, .iadd, 1, (0, 0, 0, 0)), (817, .iaload, 1, (0, 0, 0, 0)), (818, .aload_n 0, 1, (0, 0, 0, 0)), (819, .iload_n 3, 1, (0, 0, 0, 0)), (820, .iconst 2, 1, (0, 0, 0, 0)), (821, .iadd, 1, (0, 0, 0, 0)), (822, .iaload, 1, (0, 0, 0, 0)), (823, .aload_n 0, 1, (0, 0, 0, 0)), (824, .iload_n 3, 1, (0, 0, 0, 0)), (825, .iconst 3, 1, (0, 0, 0, 0)), (826, .iadd, 1, (0, 0, 0, 0)), (827, .iaload, 1, (0, 0, 0, 0)), (828, .invokevirtual 96, 3, (240, 4, 0, 0)), (831, .if_icmp .eq 786, 3, (1617, 0, 0, 0)), (834, .iconst 0, 1, (0, 0, 0, 0)), (835, .ireturn, 1, (1, 0, 0, 0)), (836, .aload_n 1, 1, (0, 0, 0, 0)), (837, .aload_n 0, 1, (0, 0, 0, 0)), (838, .iload_n 3, 1, (0, 0, 0, 0)), (839, .iconst 1, 1, (0, 0, 0, 0)), (840, .iadd, 1, (0, 0, 0, 0)), (841, .iaload, 1, (0, 0, 0, 0)), (842, .aload_n 0, 1, (0, 0, 0, 0)), (843, .iload_n 3, 1, (0, 0, 0, 0)), (844, .iconst 2, 1, (0, 0, 0, 0)), (845, .iadd, 1, (0, 0, 0, 0)), (846, .iaload, 1, (0, 0, 0, 0)), (847, .invokevirtual 97, 3, (145, 3, 0, 0)), (850, .aload_n 2, 1, (0, 0, 0, 0)), (851, .aload_n 0, 1, (0, 0, 0, 0)), (852, .iload_n 3, 1, (0, 0, 0, 0)), (853, .iconst 1, 1, (0, 0, 0, 0)), (854, .iadd, 1, (0, 0, 0, 0)), (855, .iaload, 1, (0, 0, 0, 0)), (856, .aload_n 0, 1, (0, 0, 0, 0)), (857, .iload_n 3, 1, (0, 0, 0, 0)), (858, .iconst 2, 1, (0, 0, 0, 0)), (859, .iadd, 1, (0, 0, 0, 0)), (860, .iaload, 1, (0, 0, 0, 0)), (861, .invokevirtual 100, 3, (243, 3, 0, 0)), (864, .if_icmp .eq 753, 3, (1617, 0, 0, 0)), (867, .iconst 0, 1, (0, 0, 0, 0)), (868, .ireturn, 1, (1, 0, 0, 0)), (869, .aload_n 1, 1, (0, 0, 0, 0)), (870, .aload_n 0, 1, (0, 0, 0, 0)), (871, .iload_n 3, 1, (0, 0, 0, 0)), (872, .iconst 1, 1, (0, 0, 0, 0)), (873, .iadd, 1, (0, 0, 0, 0)), (874, .iaload, 1, (0, 0, 0, 0)), (875, .aload_n 0, 1, (0, 0, 0, 0)), (876, .iload_n 3, 1, (0, 0, 0, 0)), (877, .iconst 2, 1, (0, 0, 0, 0)), (878, .iadd, 1, (0, 0, 0, 0)), (879, .iaload, 1, (0, 0, 0, 0))]
def k_0_9 : List VE := [(880, .invokevirtual 101, 3, (146, 3, 0, 0)), (883, .aload_n 2, 1, (0, 0, 0, 0)), (884, .aload_n 0, 1, (0, 0, 0, 0)), (885, .iload_n 3, 1, (0, 0, 0, 0)), (886, .iconst 1, 1, (0, 0, 0, 0)), (887, .iadd, 1, (0, 0, 0, 0)), (888, .iaload, 1, (0, 0, 0, 0)), (889, .aload_n 0, 1, (0, 0, 0, 0)), (890, .iload_n 3, 1, (0, 0, 0, 0)), (891, .iconst 2, 1, (0, 0, 0, 0)), (892, .iadd, 1, (0, 0, 0, 0)), (893, .iaload, 1, (0, 0, 0, 0)), (894, .invokevirtual 104, 3, (248, 3, 0, 0)), (897, .if_icmp .eq 720, 3, (1617, 0, 0, 0)), (900, .iconst 0, 1, (0, 0, 0, 0)), (901, .ireturn, 1, (1, 0, 0, 0)), (902, .aload_n 1, 1, (0, 0, 0, 0)), (903, .aload_n 0, 1, (0, 0, 0, 0)), (904, .iload_n 3, 1, (0, 0, 0, 0)), (905, .iconst 1, 1, (0, 0, 0, 0)), (906, .iadd, 1, (0, 0, 0, 0)), (907, .iaload, 1, (0, 0, 0, 0)), (908, .aload_n 0, 1, (0, 0, 0, 0)), (909, .iload_n 3, 1, (0, 0, 0, 0)), (910, .iconst 2, 1, (0, 0, 0, 0)), (911, .iadd, 1, (0, 0, 0, 0)), (912, .iaload, 1, (0, 0, 0, 0)), (913, .invokevirtual 105, 3, (147, 3, 0, 0)), (916, .aload_n 2, 1, (0, 0, 0, 0)), (917, .aload_n 0, 1, (0, 0, 0, 0)), (918, .iload_n 3, 1, (0, 0, 0, 0)), (919, .iconst 1, 1, (0, 0, 0, 0)), (920, .iadd, 1, (0, 0, 0, 0)), (921, .iaload, 1, (0, 0, 0, 0)), (922, .aload_n 0, 1, (0, 0, 0, 0)), (923, .iload_n 3, 1, (0, 0, 0, 0)), (924, .iconst 2, 1, (0, 0, 0, 0)), (925, .iadd, 1, (0, 0, 0, 0)), (926, .iaload, 1, (0, 0, 0, 0)), (927, .invokevirtual 108, 3, (249, 3, 0, 0)), (930, .if_icmp .eq 687, 3, (1617, 0, 0, 0)), (933, .iconst 0, 1, (0, 0, 0, 0)), (934, .ireturn, 1, (1, 0, 0, 0)), (935, .aload_n 1, 1, (0, 0, 0, 0)), (936, .aload_n 0, 1, (0, 0, 0, 0)), (937, .iload_n 3, 1, (0, 0, 0, 0)), (938, .iconst 1, 1, (0, 0, 0, 0)), (939, .iadd, 1, (0, 0, 0, 0)), (940, .iaload, 1, (0, 0, 0, 0)), (941, .aload_n 0, 1, (0, 0, 0, 0)), (942, .iload_n 3, 1, (0, 0, 0, 0)), (943, .iconst 2, 1, (0, 0, 0, 0)), (944, .iadd, 1, (0, 0, 0, 0)), (945, .iaload, 1, (0, 0, 0, 0)), (946, .invokevirtual 109, 3, (148, 3, 0, 0)), (949, .aload_n 2, 1, (0, 0, 0, 0)), (950, .aload_n 0, 1, (0, 0, 0, 0)), (951, .iload_n 3, 1, (0, 0, 0, 0)), (952, .iconst 1, 1, (0, 0, 0, 0)), (953, .iadd, 1, (0, 0, 0, 0))]
def k_0_10 : List VE := [(954, .iaload, 1, (0, 0, 0, 0)), (955, .aload_n 0, 1, (0, 0, 0, 0)), (956, .iload_n 3, 1, (0, 0, 0, 0)), (957, .iconst 2, 1, (0, 0, 0, 0)), (958, .iadd, 1, (0, 0, 0, 0)), (959, .iaload, 1, (0, 0, 0, 0)), (960, .invokevirtual 112, 3, (250, 3, 0, 0)), (963, .if_icmp .eq 654, 3, (1617, 0, 0, 0)), (966, .iconst 0, 1, (0, 0, 0, 0)), (967, .ireturn, 1, (1, 0, 0, 0)), (968, .aload_n 1, 1, (0, 0, 0, 0)), (969, .aload_n 0, 1, (0, 0, 0, 0)), (970, .iload_n 3, 1, (0, 0, 0, 0)), (971, .iconst 1, 1, (0, 0, 0, 0)), (972, .iadd, 1, (0, 0, 0, 0)), (973, .iaload, 1, (0, 0, 0, 0)), (974, .aload_n 0, 1, (0, 0, 0, 0)), (975, .iload_n 3, 1, (0, 0, 0, 0)), (976, .iconst 2, 1, (0, 0, 0, 0)), (977, .iadd, 1, (0, 0, 0, 0)), (978, .iaload, 1, (0, 0, 0, 0)), (979, .invokevirtual 113, 3, (149, 3, 0, 0)), (982, .aload_n 2, 1, (0, 0, 0, 0)), (983, .aload_n 0, 1, (0, 0, 0, 0)), (984, .iload_n 3, 1, (0, 0, 0, 0)), (985, .iconst 1, 1, (0, 0, 0, 0)), (986, .iadd, 1, (0, 0, 0, 0)), (987, .iaload, 1, (0, 0, 0, 0)), (988, .aload_n 0, 1, (0, 0, 0, 0)), (989, .iload_n 3, 1, (0, 0, 0, 0)), (990, .iconst 2, 1, (0, 0, 0, 0)), (991, .iadd, 1, (0, 0, 0, 0)), (992, .iaload, 1, (0, 0, 0, 0)), (993, .invokevirtual 116, 3, (251, 3, 0, 0)), (996, .if_icmp .eq 621, 3, (1617, 0, 0, 0)), (999, .iconst 0, 1, (0, 0, 0, 0)), (1000, .ireturn, 1, (1, 0, 0, 0)), (1001, .aload_n 1, 1, (0, 0, 0, 0)), (1002, .aload_n 0, 1, (0, 0, 0, 0)), (1003, .iload_n 3, 1, (0, 0, 0, 0)), (1004, .iconst 1, 1, (0, 0, 0, 0)), (1005, .iadd, 1, (0, 0, 0, 0)), (1006, .iaload, 1, (0, 0, 0, 0)), (1007, .invokevirtual 117, 3, (150, 2, 0, 0)), (1010, .aload_n 2, 1, (0, 0, 0, 0)), (1011, .aload_n 0, 1, (0, 0, 0, 0)), (1012, .iload_n 3, 1, (0, 0, 0, 0)), (1013, .iconst 1, 1, (0, 0, 0, 0)), (1014, .iadd, 1, (0, 0, 0, 0)), (1015, .iaload, 1, (0, 0, 0, 0)), (1016, .invokevirtual 120, 3, (257, 2, 0, 0)), (1019, .if_icmp .eq 598, 3, (1617, 0, 0, 0)), (1022, .iconst 0, 1, (0, 0, 0, 0)), (1023, .ireturn, 1, (1, 0, 0, 0)), (1024, .aload_n 1, 1, (0, 0, 0, 0)), (1025, .aload_n 0, 1, (0, 0, 0, 0)), (1026, .iload_n 3, 1, (0, 0, 0, 0)), (1027, .iconst 1, 1, (0, 0, 0, 0)), (1028, .iadd, 1, (0, 0, 0, 0)), (1029, .iaload, 1, (0, 0, 0, 0))]
def k_0_11 : List VE := [(1030, .aload_n 0, 1, (0, 0, 0, 0)), (1031, .iload_n 3, 1, (0, 0, 0, 0)), (1032, .iconst 2, 1, (0, 0, 0, 0)), (1033, .iadd, 1, (0, 0, 0, 0)), (1034, .iaload, 1, (0, 0, 0, 0)), (1035, .invokevirtual 121, 3, (151, 3, 0, 0)), (1038, .aload_n 2, 1, (0, 0, 0, 0)), (1039, .aload_n 0, 1, (0, 0, 0, 0)), (1040, .iload_n 3, 1, (0, 0, 0, 0)), (1041, .iconst 1, 1, (0, 0, 0, 0)), (1042, .iadd, 1, (0, 0, 0, 0)), (1043, .iaload, 1, (0, 0, 0, 0)), (1044, .aload_n 0, 1, (0, 0, 0, 0)), (1045, .iload_n 3, 1, (0, 0, 0, 0)), (1046, .iconst 2, 1, (0, 0, 0, 0)), (1047, .iadd, 1, (0, 0, 0, 0)), (1048, .iaload, 1, (0, 0, 0, 0)), (1049, .invokevirtual 124, 3, (258, 3, 0, 0)), (1052, .if_icmp .eq 565, 3, (1617, 0, 0, 0)), (1055, .iconst 0, 1, (0, 0, 0, 0)), (1056, .ireturn, 1, (1, 0, 0, 0)), (1057, .aload_n 1, 1, (0, 0, 0, 0)), (1058, .aload_n 0, 1, (0, 0, 0, 0)), (1059, .iload_n 3, 1, (0, 0, 0, 0)), (1060, .iconst 1, 1, (0, 0, 0, 0)), (1061, .iadd, 1, (0, 0, 0, 0)), (1062, .iaload, 1, (0, 0, 0, 0)), (1063, .aload_n 0, 1, (0, 0, 0, 0)), (1064, .iload_n 3, 1, (0, 0, 0, 0)), (1065, .iconst 2, 1, (0, 0, 0, 0)), (1066, .iadd, 1, (0, 0, 0, 0)), (1067, .iaload, 1, (0, 0, 0, 0)), (1068, .invokevirtual 125, 3, (152, 3, 0, 0)), (1071, .aload_n 2, 1, (0, 0, 0, 0)), (1072, .aload_n 0, 1, (0, 0, 0, 0)), (1073, .iload_n 3, 1, (0, 0, 0, 0)), (1074, .iconst 1, 1, (0, 0, 0, 0)), (1075, .iadd, 1, (0, 0, 0, 0)), (1076, .iaload, 1, (0, 0, 0, 0)), (1077, .aload_n 0, 1, (0, 0, 0, 0)), (1078, .iload_n 3, 1, (0, 0, 0, 0)), (1079, .iconst 2, 1, (0, 0, 0, 0)), (1080, .iadd, 1, (0, 0, 0, 0)), (1081, .iaload, 1, (0, 0, 0, 0)), (1082, .invokevirtual 128, 3, (259, 3, 0, 0)), (1085, .if_icmp .eq 532, 3, (1617, 0, 0, 0)), (1088, .iconst 0, 1, (0, 0, 0, 0)), (1089, .ireturn, 1, (1, 0, 0, 0)), (1090, .aload_n 1, 1, (0, 0, 0, 0)), (1091, .aload_n 0, 1, (0, 0, 0, 0)), (1092, .iload_n 3, 1, (0, 0, 0, 0)), (1093, .iconst 1, 1, (0, 0, 0, 0)), (1094, .iadd, 1, (0, 0, 0, 0)), (1095, .iaload, 1, (0, 0, 0, 0)), (1096, .aload_n 0, 1, (0, 0, 0, 0)), (1097, .iload_n 3, 1, (0, 0, 0, 0)), (1098, .iconst 2, 1, (0, 0, 0, 0)), (1099, .iadd, 1, (0, 0, 0, 0)), (1100, .iaload, 1, (0, 0, 0, 0)), (1101, .invokevirtual 129, 3, (153, 3, 0, 0))]
def k_0_12 : List VE := [(1104, .aload_n 2, 1, (0, 0, 0, 0)), (1105, .aload_n 0, 1, (0, 0, 0, 0)), (1106, .iload_n 3, 1, (0, 0, 0, 0)), (1107, .iconst 1, 1, (0, 0, 0, 0)), (1108, .iadd, 1, (0, 0, 0, 0)), (1109, .iaload, 1, (0, 0, 0, 0)), (1110, .aload_n 0, 1, (0, 0, 0, 0)), (1111, .iload_n 3, 1, (0, 0, 0, 0)), (1112, .iconst 2, 1, (0, 0, 0, 0)), (1113, .iadd, 1, (0, 0, 0, 0)), (1114, .iaload, 1, (0, 0, 0, 0)), (1115, .invokevirtual 132, 3, (260, 3, 0, 0)), (1118, .if_icmp .eq 499, 3, (1617, 0, 0, 0)), (1121, .iconst 0, 1, (0, 0, 0, 0)), (1122, .ireturn, 1, (1, 0, 0, 0)), (1123, .aload_n 1, 1, (0, 0, 0, 0)), (1124, .aload_n 0, 1, (0, 0, 0, 0)), (1125, .iload_n 3, 1, (0, 0, 0, 0)), (1126, .iconst 1, 1, (0, 0, 0, 0)), (1127, .iadd, 1, (0, 0, 0, 0)), (1128, .iaload, 1, (0, 0, 0, 0)), (1129, .invokevirtual 133, 3, (154, 2, 0, 0)), (1132, .aload_n 2, 1, (0, 0, 0, 0)), (1133, .aload_n 0, 1, (0, 0, 0, 0)), (1134, .iload_n 3, 1, (0, 0, 0, 0)), (1135, .iconst 1, 1, (0, 0, 0, 0)), (1136, .iadd, 1, (0, 0, 0, 0)), (1137, .iaload, 1, (0, 0, 0, 0)), (1138, .invokevirtual 136, 3, (261, 2, 0, 0)), (1141, .if_icmp .eq 476, 3, (1617, 0, 0, 0)), (1144, .iconst 0, 1, (0, 0, 0, 0)), (1145, .ireturn, 1, (1, 0, 0, 0)), (1146, .aload_n 1, 1, (0, 0, 0, 0)), (1147, .aload_n 0, 1, (0, 0, 0, 0)), (1148, .iload_n 3, 1, (0, 0, 0, 0)), (1149, .iconst 1, 1, (0, 0, 0, 0)), (1150, .iadd, 1, (0, 0, 0, 0)), (1151, .iaload, 1, (0, 0, 0, 0)), (1152, .aload_n 0, 1, (0, 0, 0, 0)), (1153, .iload_n 3, 1, (0, 0, 0, 0)), (1154, .iconst 2, 1, (0, 0, 0, 0)), (1155, .iadd, 1, (0, 0, 0, 0)), (1156, .iaload, 1, (0, 0, 0, 0)), (1157, .aload_n 0, 1, (0, 0, 0, 0)), (1158, .iload_n 3, 1, (0, 0, 0, 0)), (1159, .iconst 3, 1, (0, 0, 0, 0)), (1160, .iadd, 1, (0, 0, 0, 0)), (1161, .iaload, 1, (0, 0, 0, 0)), (1162, .invokevirtual 137, 3, (155, 4, 0, 0)), (1165, .aload_n 2, 1, (0, 0, 0, 0)), (1166, .aload_n 0, 1, (0, 0, 0, 0)), (1167, .iload_n 3, 1, (0, 0, 0, 0)), (1168, .iconst 1, 1, (0, 0, 0, 0)), (1169, .iadd, 1, (0, 0, 0, 0)), (1170, .iaload, 1, (0, 0, 0, 0)), (1171, .aload_n 0, 1, (0, 0, 0, 0)), (1172, .iload_n 3, 1, (0, 0, 0, 0)), (1173, .iconst 2, 1, (0, 0, 0, 0)), (1174, .iadd, 1, (0, 0, 0, 0)), (1175, .iaload, 1, (0, 0, 0, 0))]
def k_0_13 : List VE := [(1176, .aload_n 0, 1, (0, 0, 0, 0)), (1177, .iload_n 3, 1, (0, 0, 0, 0)), (1178, .iconst 3, 1, (0, 0, 0, 0)), (1179, .iadd, 1, (0, 0, 0, 0)), (1180, .iaload, 1, (0, 0, 0, 0)), (1181, .invokevirtual 140, 3, (262, 4, 0, 0)), (1184, .if_icmp .eq 433, 3, (1617, 0, 0, 0)), (1187, .iconst 0, 1, (0, 0, 0, 0)), (1188, .ireturn, 1, (1, 0, 0, 0)), (1189, .aload_n 1, 1, (0, 0, 0, 0)), (1190, .aload_n 0, 1, (0, 0, 0, 0)), (1191, .iload_n 3, 1, (0, 0, 0, 0)), (1192, .iconst 1, 1, (0, 0, 0, 0)), (1193, .iadd, 1, (0, 0, 0, 0)), (1194, .iaload, 1, (0, 0, 0, 0)), (1195, .aload_n 0, 1, (0, 0, 0, 0)), (1196, .iload_n 3, 1, (0, 0, 0, 0)), (1197, .iconst 2, 1, (0, 0, 0, 0)), (1198, .iadd, 1, (0, 0, 0, 0)), (1199, .iaload, 1, (0, 0, 0, 0)), (1200, .invokevirtual 141, 3, (156, 3, 0, 0)), (1203, .aload_n 2, 1, (0, 0, 0, 0)), (1204, .aload_n 0, 1, (0, 0, 0, 0)), (1205, .iload_n 3, 1, (0, 0, 0, 0)), (1206, .iconst 1, 1, (0, 0, 0, 0)), (1207, .iadd, 1, (0, 0, 0, 0)), (1208, .iaload, 1, (0, 0, 0, 0)), (1209, .aload_n 0, 1, (0, 0, 0, 0)), (1210, .iload_n 3, 1, (0, 0, 0, 0)), (1211, .iconst 2, 1, (0, 0, 0, 0)), (1212, .iadd, 1, (0, 0, 0, 0)), (1213, .iaload, 1, (0, 0, 0, 0)), (1214, .invokevirtual 144, 3, (264, 3, 0, 0)), (1217, .if_icmp .eq 400, 3, (1617, 0, 0, 0)), (1220, .iconst 0, 1, (0, 0, 0, 0)), (1221, .ireturn, 1, (1, 0, 0, 0)), (1222, .aload_n 1, 1, (0, 0, 0, 0)), (1223, .aload_n 0, 1, (0, 0, 0, 0)), (1224, .iload_n 3, 1, (0, 0, 0, 0)), (1225, .iconst 1, 1, (0, 0, 0, 0)), (1226, .iadd, 1, (0, 0, 0, 0)), (1227, .iaload, 1, (0, 0, 0, 0)), (1228, .aload_n 0, 1, (0, 0, 0, 0)), (1229, .iload_n 3, 1, (0, 0, 0, 0)), (1230, .iconst 2, 1, (0, 0, 0, 0)), (1231, .iadd, 1, (0, 0, 0, 0)), (1232, .iaload, 1, (0, 0, 0, 0)), (1233, .invokevirtual 145, 3, (157, 3, 0, 0)), (1236, .aload_n 2, 1, (0, 0, 0, 0)), (1237, .aload_n 0, 1, (0, 0, 0, 0)), (1238, .iload_n 3, 1, (0, 0, 0, 0)), (1239, .iconst 1, 1, (0, 0, 0, 0)), (1240, .iadd, 1, (0, 0, 0, 0)), (1241, .iaload, 1, (0, 0, 0, 0)), (1242, .aload_n 0, 1, (0, 0, 0, 0)), (1243, .iload_n 3, 1, (0, 0, 0, 0)), (1244, .iconst 2, 1, (0, 0, 0, 0)), (1245, .iadd, 1, (0, 0, 0, 0)), (1246, .iaload, 1, (0, 0, 0, 0)), (1247, .invokevirtual 148, 3, (265, 3, 0, 0))]
def k_0_14 : List VE := [(1250, .if_icmp .eq 367, 3, (1617, 0, 0, 0)), (1253, .iconst 0, 1, (0, 0, 0, 0)), (1254, .ireturn, 1, (1, 0, 0, 0)), (1255, .aload_n 1, 1, (0, 0, 0, 0)), (1256, .aload_n 0, 1, (0, 0, 0, 0)), (1257, .iload_n 3, 1, (0, 0, 0, 0)), (1258, .iconst 1, 1, (0, 0, 0, 0)), (1259, .iadd, 1, (0, 0, 0, 0)), (1260, .iaload, 1, (0, 0, 0, 0)), (1261, .invokevirtual 149, 3, (158, 2, 0, 0)), (1264, .aload_n 2, 1, (0, 0, 0, 0)), (1265, .aload_n 0, 1, (0, 0, 0, 0)), (1266, .iload_n 3, 1, (0, 0, 0, 0)), (1267, .iconst 1, 1, (0, 0, 0, 0)), (1268, .iadd, 1, (0, 0, 0, 0)), (1269, .iaload, 1, (0, 0, 0, 0)), (1270, .invokevirtual 152, 3, (266, 2, 0, 0)), (1273, .if_icmp .eq 344, 3, (1617, 0, 0, 0)), (1276, .iconst 0, 1, (0, 0, 0, 0)), (1277, .ireturn, 1, (1, 0, 0, 0)), (1278, .aload_n 1, 1, (0, 0, 0, 0)), (1279, .aload_n 0, 1, (0, 0, 0, 0)), (1280, .iload_n 3, 1, (0, 0, 0, 0)), (1281, .iconst 1, 1, (0, 0, 0, 0)), (1282, .iadd, 1, (0, 0, 0, 0)), (1283, .iaload, 1, (0, 0, 0, 0)), (1284, .aload_n 0, 1, (0, 0, 0, 0)), (1285, .iload_n 3, 1, (0, 0, 0, 0)), (1286, .iconst 2, 1, (0, 0, 0, 0)), (1287, .iadd, 1, (0, 0, 0, 0)), (1288, .iaload, 1, (0, 0, 0, 0)), (1289, .aload_n 0, 1, (0, 0, 0, 0)), (1290, .iload_n 3, 1, (0, 0, 0, 0)), (1291, .iconst 3, 1, (0, 0, 0, 0)), (1292, .iadd, 1, (0, 0, 0, 0)), (1293, .iaload, 1, (0, 0, 0, 0)), (1294, .invokevirtual 153, 3, (159, 4, 0, 0)), (1297, .aload_n 2, 1, (0, 0, 0, 0)), (1298, .aload_n 0, 1, (0, 0, 0, 0)), (1299, .iload_n 3, 1, (0, 0, 0, 0)), (1300, .iconst 1, 1, (0, 0, 0, 0)), (1301, .iadd, 1, (0, 0, 0, 0)), (1302, .iaload, 1, (0, 0, 0, 0)), (1303, .aload_n 0, 1, (0, 0, 0, 0)), (1304, .iload_n 3, 1, (0, 0, 0, 0)), (1305, .iconst 2, 1, (0, 0, 0, 0)), (1306, .iadd, 1, (0, 0, 0, 0)), (1307, .iaload, 1, (0, 0, 0, 0)), (1308, .aload_n 0, 1, (0, 0, 0, 0)), (1309, .iload_n 3, 1, (0, 0, 0, 0)), (1310, .iconst 3, 1, (0, 0, 0, 0)), (1311, .iadd, 1, (0, 0, 0, 0)), (1312, .iaload, 1, (0, 0, 0, 0)), (1313, .invokevirtual 156, 3, (267, 4, 0, 0)), (1316, .if_icmp .eq 301, 3, (1617, 0, 0, 0)), (1319, .iconst 0, 1, (0, 0, 0, 0)), (1320, .ireturn, 1, (1, 0, 0, 0)), (1321, .aload_n 1, 1, (0, 0, 0, 0)), (1322, .aload_n 0, 1, (0, 0, 0, 0)), (1323, .iload_n 3, 1, (0, 0, 0, 0))]
def k_0_15 : List VE := [(1324, .iconst 1, 1, (0, 0, 0, 0)), (1325, .iadd, 1, (0, 0, 0, 0)), (1326, .iaload, 1, (0, 0, 0, 0)), (1327, .aload_n 0, 1, (0, 0, 0, 0)), (1328, .iload_n 3, 1, (0, 0, 0, 0)), (1329, .iconst 2, 1, (0, 0, 0, 0)), (1330, .iadd, 1, (0, 0, 0, 0)), (1331, .iaload, 1, (0, 0, 0, 0)), (1332, .invokevirtual 157, 3, (160, 3, 0, 0)), (1335, .aload_n 2, 1, (0, 0, 0, 0)), (1336, .aload_n 0, 1, (0, 0, 0, 0)), (1337, .iload_n 3, 1, (0, 0, 0, 0)), (1338, .iconst 1, 1, (0, 0, 0, 0)), (1339, .iadd, 1, (0, 0, 0, 0)), (1340, .iaload, 1, (0, 0, 0, 0)), (1341, .aload_n 0, 1, (0, 0, 0, 0)), (1342, .iload_n 3, 1, (0, 0, 0, 0)), (1343, .iconst 2, 1, (0, 0, 0, 0)), (1344, .iadd, 1, (0, 0, 0, 0)), (1345, .iaload, 1, (0, 0, 0, 0)), (1346, .invokevirtual 160, 3, (271, 3, 0, 0)), (1349, .if_icmp .eq 268, 3, (1617, 0, 0, 0)), (1352, .iconst 0, 1, (0, 0, 0, 0)), (1353, .ireturn, 1, (1, 0, 0, 0)), (1354, .aload_n 1, 1, (0, 0, 0, 0)), (1355, .aload_n 0, 1, (0, 0, 0, 0)), (1356, .iload_n 3, 1, (0, 0, 0, 0)), (1357, .iconst 1, 1, (0, 0, 0, 0)), (1358, .iadd, 1, (0, 0, 0, 0)), (1359, .iaload, 1, (0, 0, 0, 0)), (1360, .invokevirtual 161, 3, (161, 2, 0, 0)), (1363, .aload_n 2, 1, (0, 0, 0, 0)), (1364, .aload_n 0, 1, (0, 0, 0, 0)), (1365, .iload_n 3, 1, (0, 0, 0, 0)), (1366, .iconst 1, 1, (0, 0, 0, 0)), (1367, .iadd, 1, (0, 0, 0, 0)), (1368, .iaload, 1, (0, 0, 0, 0)), (1369, .invokevirtual 164, 3, (272, 2, 0, 0)), (1372, .if_icmp .eq 245, 3, (1617, 0, 0, 0)), (1375, .iconst 0, 1, (0, 0, 0, 0)), (1376, .ireturn, 1, (1, 0, 0, 0)), (1377, .aload_n 1, 1, (0, 0, 0, 0)), (1378, .aload_n 0, 1, (0, 0, 0, 0)), (1379, .iload_n 3, 1, (0, 0, 0, 0)), (1380, .iconst 1, 1, (0, 0, 0, 0)), (1381, .iadd, 1, (0, 0, 0, 0)), (1382, .iaload, 1, (0, 0, 0, 0)), (1383, .aload_n 0, 1, (0, 0, 0, 0)), (1384, .iload_n 3, 1, (0, 0, 0, 0)), (1385, .iconst 2, 1, (0, 0, 0, 0)), (1386, .iadd, 1, (0, 0, 0, 0)), (1387, .iaload, 1, (0, 0, 0, 0)), (1388, .invokevirtual 165, 3, (133, 3, 0, 0)), (1391, .aload_n 2, 1, (0, 0, 0, 0)), (1392, .aload_n 0, 1, (0, 0, 0, 0)), (1393, .iload_n 3, 1, (0, 0, 0, 0)), (1394, .iconst 1, 1, (0, 0, 0, 0)), (1395, .iadd, 1, (0, 0, 0, 0)), (1396, .iaload, 1, (0, 0, 0, 0)), (1397, .aload_n 0, 1, (0, 0, 0, 0))]
def k_0_16 : List VE := [(1398, .iload_n 3, 1, (0, 0, 0, 0)), (1399, .iconst 2, 1, (0, 0, 0, 0)), (1400, .iadd, 1, (0, 0, 0, 0)), (1401, .iaload, 1, (0, 0, 0, 0)), (1402, .invokevirtual 168, 3, (275, 3, 0, 0)), (1405, .if_icmp .eq 212, 3, (1617, 0, 0, 0)), (1408, .iconst 0, 1, (0, 0, 0, 0)), (1409, .ireturn, 1, (1, 0, 0, 0)), (1410, .aload_n 1, 1, (0, 0, 0, 0)), (1411, .aload_n 0, 1, (0, 0, 0, 0)), (1412, .iload_n 3, 1, (0, 0, 0, 0)), (1413, .iconst 1, 1, (0, 0, 0, 0)), (1414, .iadd, 1, (0, 0, 0, 0)), (1415, .iaload, 1, (0, 0, 0, 0)), (1416, .invokevirtual 169, 3, (132, 2, 0, 0)), (1419, .aload_n 2, 1, (0, 0, 0, 0)), (1420, .aload_n 0, 1, (0, 0, 0, 0)), (1421, .iload_n 3, 1, (0, 0, 0, 0)), (1422, .iconst 1, 1, (0, 0, 0, 0)), (1423, .iadd, 1, (0, 0, 0, 0)), (1424, .iaload, 1, (0, 0, 0, 0)), (1425, .invokevirtual 172, 3, (276, 2, 0, 0)), (1428, .if_icmp .eq 189, 3, (1617, 0, 0, 0)), (1431, .iconst 0, 1, (0, 0, 0, 0)), (1432, .ireturn, 1, (1, 0, 0, 0)), (1433, .aload_n 1, 1, (0, 0, 0, 0)), (1434, .aload_n 0, 1, (0, 0, 0, 0)), (1435, .iload_n 3, 1, (0, 0, 0, 0)), (1436, .iconst 1, 1, (0, 0, 0, 0)), (1437, .iadd, 1, (0, 0, 0, 0)), (1438, .iaload, 1, (0, 0, 0, 0)), (1439, .aload_n 0, 1, (0, 0, 0, 0)), (1440, .iload_n 3, 1, (0, 0, 0, 0)), (1441, .iconst 2, 1, (0, 0, 0, 0)), (1442, .iadd, 1, (0, 0, 0, 0)), (1443, .iaload, 1, (0, 0, 0, 0)), (1444, .invokevirtual 173, 3, (131, 3, 0, 0)), (1447, .aload_n 2, 1, (0, 0, 0, 0)), (1448, .aload_n 0, 1, (0, 0, 0, 0)), (1449, .iload_n 3, 1, (0, 0, 0, 0)), (1450, .iconst 1, 1, (0, 0, 0, 0)), (1451, .iadd, 1, (0, 0, 0, 0)), (1452, .iaload, 1, (0, 0, 0, 0)), (1453, .aload_n 0, 1, (0, 0, 0, 0)), (1454, .iload_n 3, 1, (0, 0, 0, 0)), (1455, .iconst 2, 1, (0, 0, 0, 0)), (1456, .iadd, 1, (0, 0, 0, 0)), (1457, .iaload, 1, (0, 0, 0, 0)), (1458, .invokevirtual 176, 3, (278, 3, 0, 0)), (1461, .if_icmp .eq 156, 3, (1617, 0, 0, 0)), (1464, .iconst 0, 1, (0, 0, 0, 0)), (1465, .ireturn, 1, (1, 0, 0, 0)), (1466, .aload_n 1, 1, (0, 0, 0, 0)), (1467, .aload_n 0, 1, (0, 0, 0, 0)), (1468, .iload_n 3, 1, (0, 0, 0, 0)), (1469, .iconst 1, 1, (0, 0, 0, 0)), (1470, .iadd, 1, (0, 0, 0, 0)), (1471, .iaload, 1, (0, 0, 0, 0)), (1472, .invokevirtual 177, 3, (162, 2, 0, 0)), (1475, .aload_n 2, 1, (0, 0, 0, 0))]
def k_0_17 : List VE := [(1476, .aload_n 0, 1, (0, 0, 0, 0)), (1477, .iload_n 3, 1, (0, 0, 0, 0)), (1478, .iconst 1, 1, (0, 0, 0, 0)), (1479, .iadd, 1, (0, 0, 0, 0)), (1480, .iaload, 1, (0, 0, 0, 0)), (1481, .invokevirtual 180, 3, (280, 2, 0, 0)), (1484, .if_icmp .eq 133, 3, (1617, 0, 0, 0)), (1487, .iconst 0, 1, (0, 0, 0, 0)), (1488, .ireturn, 1, (1, 0, 0, 0)), (1489, .aload_n 1, 1, (0, 0, 0, 0)), (1490, .aload_n 0, 1, (0, 0, 0, 0)), (1491, .iload_n 3, 1, (0, 0, 0, 0)), (1492, .iconst 1, 1, (0, 0, 0, 0)), (1493, .iadd, 1, (0, 0, 0, 0)), (1494, .iaload, 1, (0, 0, 0, 0)), (1495, .invokevirtual 181, 3, (163, 2, 0, 0)), (1498, .aload_n 2, 1, (0, 0, 0, 0)), (1499, .aload_n 0, 1, (0, 0, 0, 0)), (1500, .iload_n 3, 1, (0, 0, 0, 0)), (1501, .iconst 1, 1, (0, 0, 0, 0)), (1502, .iadd, 1, (0, 0, 0, 0)), (1503, .iaload, 1, (0, 0, 0, 0)), (1504, .invokevirtual 184, 3, (281, 2, 0, 0)), (1507, .if_icmp .eq 110, 3, (1617, 0, 0, 0)), (1510, .iconst 0, 1, (0, 0, 0, 0)), (1511, .ireturn, 1, (1, 0, 0, 0)), (1512, .aload_n 1, 1, (0, 0, 0, 0)), (1513, .aload_n 0, 1, (0, 0, 0, 0)), (1514, .iload_n 3, 1, (0, 0, 0, 0)), (1515, .iconst 1, 1, (0, 0, 0, 0)), (1516, .iadd, 1, (0, 0, 0, 0)), (1517, .iaload, 1, (0, 0, 0, 0)), (1518, .aload_n 0, 1, (0, 0, 0, 0)), (1519, .iload_n 3, 1, (0, 0, 0, 0)), (1520, .iconst 2, 1, (0, 0, 0, 0)), (1521, .iadd, 1, (0, 0, 0, 0)), (1522, .iaload, 1, (0, 0, 0, 0)), (1523, .aload_n 0, 1, (0, 0, 0, 0)), (1524, .iload_n 3, 1, (0, 0, 0, 0)), (1525, .iconst 3, 1, (0, 0, 0, 0)), (1526, .iadd, 1, (0, 0, 0, 0)), (1527, .iaload, 1, (0, 0, 0, 0)), (1528, .invokevirtual 185, 3, (164, 4, 0, 0)), (1531, .aload_n 2, 1, (0, 0, 0, 0)), (1532, .aload_n 0, 1, (0, 0, 0, 0)), (1533, .iload_n 3, 1, (0, 0, 0, 0)), (1534, .iconst 1, 1, (0, 0, 0, 0)), (1535, .iadd, 1, (0, 0, 0, 0)), (1536, .iaload, 1, (0, 0, 0, 0)), (1537, .aload_n 0, 1, (0, 0, 0, 0)), (1538, .iload_n 3, 1, (0, 0, 0, 0)), (1539, .iconst 2, 1, (0, 0, 0, 0)), (1540, .iadd, 1, (0, 0, 0, 0)), (1541, .iaload, 1, (0, 0, 0, 0)), (1542, .aload_n 0, 1, (0, 0, 0, 0)), (1543, .iload_n 3, 1, (0, 0, 0, 0)), (1544, .iconst 3, 1, (0, 0, 0, 0)), (1545, .iadd, 1, (0, 0, 0, 0)), (1546, .iaload, 1, (0, 0, 0, 0)), (1547, .invokevirtual 188, 3, (282, 4, 0, 0))]
def k_0_18 : List VE := [(1550, .if_icmp .eq 67, 3, (1617, 0, 0, 0)), (1553, .iconst 0, 1, (0, 0, 0, 0)), (1554, .ireturn, 1, (1, 0, 0, 0)), (1555, .aload_n 1, 1, (0, 0, 0, 0)), (1556, .aload_n 0, 1, (0, 0, 0, 0)), (1557, .iload_n 3, 1, (0, 0, 0, 0)), (1558, .iconst 1, 1, (0, 0, 0, 0)), (1559, .iadd, 1, (0, 0, 0, 0)), (1560, .iaload, 1, (0, 0, 0, 0)), (1561, .invokevirtual 189, 3, (165, 2, 0, 0)), (1564, .aload_n 2, 1, (0, 0, 0, 0)), (1565, .aload_n 0, 1, (0, 0, 0, 0)), (1566, .iload_n 3, 1, (0, 0, 0, 0)), (1567, .iconst 1, 1, (0, 0, 0, 0)), (1568, .iadd, 1, (0, 0, 0, 0)), (1569, .iaload, 1, (0, 0, 0, 0)), (1570, .invokevirtual 192, 3, (283, 2, 0, 0)), (1573, .if_icmp .eq 44, 3, (1617, 0, 0, 0)), (1576, .iconst 0, 1, (0, 0, 0, 0)), (1577, .ireturn, 1, (1, 0, 0, 0)), (1578, .aload_n 1, 1, (0, 0, 0, 0)), (1579, .invokevirtual 193, 3, (166, 1, 0, 0)), (1582, .aload_n 2, 1, (0, 0, 0, 0)), (1583, .invokevirtual 196, 3, (284, 1, 0, 0)), (1586, .if_icmp .eq 31, 3, (1617, 0, 0, 0)), (1589, .iconst 0, 1, (0, 0, 0, 0)), (1590, .ireturn, 1, (1, 0, 0, 0)), (1591, .aload_n 1, 1, (0, 0, 0, 0)), (1592, .invokevirtual 197, 3, (167, 1, 0, 0)), (1595, .aload_n 2, 1, (0, 0, 0, 0)), (1596, .invokevirtual 200, 3, (285, 1, 0, 0)), (1599, .if_icmp .eq 18, 3, (1617, 0, 0, 0)), (1602, .iconst 0, 1, (0, 0, 0, 0)), (1603, .ireturn, 1, (1, 0, 0, 0)), (1604, .aload_n 1, 1, (0, 0, 0, 0)), (1605, .invokevirtual 201, 3, (168, 1, 0, 0)), (1608, .aload_n 2, 1, (0, 0, 0, 0)), (1609, .invokevirtual 204, 3, (286, 1, 0, 0)), (1612, .if_icmp .eq 5, 3, (1617, 0, 0, 0)), (1615, .iconst 0, 1, (0, 0, 0, 0)), (1616, .ireturn, 1, (1, 0, 0, 0)), (1617, .iinc 3 4, 3, (0, 0, 0, 0)), (1620, .goto (-1602), 3, (18, 0, 0, 0)), (1623, .iconst 1, 1, (0, 0, 0, 0)), (1624, .ireturn, 1, (1, 0, 0, 0))]
def k_0 : List VE := (k_0_0 ++ (k_0_1 ++ (k_0_2 ++ (k_0_3 ++ (k_0_4 ++ (k_0_5 ++ (k_0_6 ++ (k_0_7 ++ (k_0_8 ++ (k_0_9 ++ (k_0_10 ++ (k_0_11 ++ (k_0_12 ++ (k_0_13 ++ (k_0_14 ++ (k_0_15 ++ (k_0_16 ++ (k_0_17 ++ (k_0_18)))))))))))))))))))
def m_0 : VM := (RL, yL_law, cL_law, 4, (some .boolean), 8, 175, k_0)
def k_1 : List VE := [(0, .aload_n 0, 1, (0, 0, 0, 0)), (1, .invokespecial 3, 3, (0, 1, 5, 0)), (4, .aload_n 0, 1, (0, 0, 0, 0)), (5, .bipush 17, 2, (0, 0, 0, 0)), (7, .newarray .int, 2, (11, 1, 20, 0)), (9, .putfield 9, 3, (0, 0, 1, 1)), (12, .return_, 1, (0, 0, 0, 0))]
def m_1 : VM := (RX0, yX0_init, cX0_init, 1, none, 1, 20, k_1)
def k_2 : List VE := [(0, .iload_n 2, 1, (0, 0, 0, 0)), (1, .tableswitch 81 2 6 #[35, 41, 47, 53, 67], 35, (0, 0, 0, 0)), (36, .aload_n 0, 1, (0, 0, 0, 0)), (37, .aload_n 1, 1, (0, 0, 0, 0)), (38, .invokevirtual 15, 3, (3, 2, 0, 0)), (41, .ireturn, 1, (0, 0, 0, 0)), (42, .aload_n 0, 1, (0, 0, 0, 0)), (43, .aload_n 1, 1, (0, 0, 0, 0)), (44, .invokevirtual 19, 3, (4, 2, 0, 0)), (47, .ireturn, 1, (0, 0, 0, 0)), (48, .aload_n 0, 1, (0, 0, 0, 0)), (49, .aload_n 1, 1, (0, 0, 0, 0)), (50, .invokevirtual 22, 3, (5, 2, 0, 0)), (53, .ireturn, 1, (0, 0, 0, 0)), (54, .aload_n 0, 1, (0, 0, 0, 0)), (55, .aload_n 1, 1, (0, 0, 0, 0)), (56, .invokevirtual 25, 3, (8, 2, 0, 0)), (59, .ifCond .eq 7, 3, (66, 0, 0, 0)), (62, .iconst 1, 1, (0, 0, 0, 0)), (63, .goto 4, 3, (67, 0, 0, 0)), (66, .iconst 0, 1, (0, 0, 0, 0)), (67, .ireturn, 1, (0, 0, 0, 0)), (68, .aload_n 0, 1, (0, 0, 0, 0)), (69, .aload_n 1, 1, (0, 0, 0, 0)), (70, .invokevirtual 29, 3, (9, 2, 0, 0)), (73, .ifCond .eq 7, 3, (80, 0, 0, 0)), (76, .iconst 1, 1, (0, 0, 0, 0)), (77, .goto 4, 3, (81, 0, 0, 0)), (80, .iconst 0, 1, (0, 0, 0, 0)), (81, .ireturn, 1, (0, 0, 0, 0)), (82, .aload_n 0, 1, (0, 0, 0, 0)), (83, .aload_n 1, 1, (0, 0, 0, 0)), (84, .invokevirtual 32, 3, (7, 2, 0, 0)), (87, .ifCond .eq 7, 3, (94, 0, 0, 0)), (90, .iconst 1, 1, (0, 0, 0, 0)), (91, .goto 4, 3, (95, 0, 0, 0)), (94, .iconst 0, 1, (0, 0, 0, 0)), (95, .ireturn, 1, (0, 0, 0, 0))]
def m_2 : VM := (RX0, yX0_act, cX0_act, 3, (some .int), 4, 86, k_2)
def k_3 : List VE := [(0, .aload_n 1, 1, (0, 0, 0, 0)), (1, .getfield 35, 3, (7, 0, 0, 0)), (4, .tableswitch 46 3 5 #[28, 34, 40], 28, (0, 0, 0, 0)), (32, .aload_n 0, 1, (0, 0, 0, 0)), (33, .aload_n 1, 1, (0, 0, 0, 0)), (34, .invokevirtual 41, 3, (19, 2, 0, 0)), (37, .ireturn, 1, (0, 0, 0, 0)), (38, .aload_n 0, 1, (0, 0, 0, 0)), (39, .aload_n 1, 1, (0, 0, 0, 0)), (40, .invokevirtual 44, 3, (12, 2, 0, 0)), (43, .ireturn, 1, (0, 0, 0, 0)), (44, .aload_n 0, 1, (0, 0, 0, 0)), (45, .aload_n 1, 1, (0, 0, 0, 0)), (46, .invokevirtual 47, 3, (22, 2, 0, 0)), (49, .ireturn, 1, (0, 0, 0, 0)), (50, .aload_n 0, 1, (0, 0, 0, 0)), (51, .aload_n 1, 1, (0, 0, 0, 0)), (52, .invokevirtual 50, 3, (14, 2, 0, 0)), (55, .ireturn, 1, (0, 0, 0, 0))]
def m_3 : VM := (RX0, yX0_tells, cX0_tells, 2, (some .int), 2, 42, k_3)
def k_4 : List VE := [(0, .aload_n 1, 1, (0, 0, 0, 0)), (1, .getfield 35, 3, (7, 0, 0, 0)), (4, .lookupswitch 40 #[(4, 28), (5, 34)], 28, (0, 0, 0, 0)), (32, .aload_n 0, 1, (0, 0, 0, 0)), (33, .aload_n 1, 1, (0, 0, 0, 0)), (34, .invokevirtual 53, 3, (21, 2, 0, 0)), (37, .ireturn, 1, (0, 0, 0, 0)), (38, .aload_n 0, 1, (0, 0, 0, 0)), (39, .aload_n 1, 1, (0, 0, 0, 0)), (40, .invokevirtual 56, 3, (23, 2, 0, 0)), (43, .ireturn, 1, (0, 0, 0, 0)), (44, .aload_n 0, 1, (0, 0, 0, 0)), (45, .invokevirtual 59, 3, (13, 1, 0, 0)), (48, .ireturn, 1, (0, 0, 0, 0))]
def m_4 : VM := (RX0, yX0_carries, cX0_carries, 2, (some .int), 2, 44, k_4)
def k_5 : List VE := [(0, .aload_n 1, 1, (0, 0, 0, 0)), (1, .getfield 35, 3, (7, 0, 0, 0)), (4, .lookupswitch 40 #[(1, 28), (2, 34)], 28, (0, 0, 0, 0)), (32, .aload_n 0, 1, (0, 0, 0, 0)), (33, .aload_n 1, 1, (0, 0, 0, 0)), (34, .invokevirtual 63, 3, (17, 2, 0, 0)), (37, .ireturn, 1, (0, 0, 0, 0)), (38, .aload_n 0, 1, (0, 0, 0, 0)), (39, .aload_n 1, 1, (0, 0, 0, 0)), (40, .invokevirtual 66, 3, (18, 2, 0, 0)), (43, .ireturn, 1, (0, 0, 0, 0)), (44, .aload_n 0, 1, (0, 0, 0, 0)), (45, .invokevirtual 69, 3, (15, 1, 0, 0)), (48, .ireturn, 1, (0, 0, 0, 0))]
def m_5 : VM := (RX0, yX0_lays, cX0_lays, 2, (some .int), 2, 44, k_5)
def k_6 : List VE := [(0, .aload_n 1, 1, (0, 0, 0, 0)), (1, .getfield 35, 3, (7, 0, 0, 0)), (4, .tableswitch 52 1 5 #[36, 52, 52, 44, 44], 36, (0, 0, 0, 0)), (40, .aload_n 0, 1, (0, 0, 0, 0)), (41, .aload_n 1, 1, (0, 0, 0, 0)), (42, .invokevirtual 72, 3, (16, 2, 0, 0)), (45, .goto 16, 3, (61, 0, 0, 0)), (48, .aload_n 0, 1, (0, 0, 0, 0)), (49, .aload_n 1, 1, (0, 0, 0, 0)), (50, .invokevirtual 76, 3, (20, 2, 0, 0)), (53, .goto 8, 3, (61, 0, 0, 0)), (56, .aload_n 0, 1, (0, 0, 0, 0)), (57, .aload_n 1, 1, (0, 0, 0, 0)), (58, .invokevirtual 79, 3, (11, 2, 0, 0)), (61, .return_, 1, (0, 0, 0, 0))]
def m_6 : VM := (RX0, yX0_ages, cX0_ages, 2, none, 2, 42, k_6)
def k_7 : List VE := [(0, .aload_n 0, 1, (0, 0, 0, 0)), (1, .getfield 9, 3, (0, 0, 1, 1)), (4, .bipush 13, 2, (0, 0, 0, 0)), (6, .dup2, 1, (0, 0, 0, 0)), (7, .iaload, 1, (0, 0, 0, 0)), (8, .iconst 1, 1, (0, 0, 0, 0)), (9, .iadd, 1, (0, 0, 0, 0)), (10, .iastore, 1, (0, 0, 0, 0)), (11, .aload_n 0, 1, (0, 0, 0, 0)), (12, .aload_n 1, 1, (0, 0, 0, 0)), (13, .invokevirtual 22, 3, (5, 2, 0, 0)), (16, .ifCond .eq 7, 3, (23, 0, 0, 0)), (19, .iconst 1, 1, (0, 0, 0, 0)), (20, .goto 4, 3, (24, 0, 0, 0)), (23, .iconst 0, 1, (0, 0, 0, 0)), (24, .ireturn, 1, (1, 0, 0, 0))]
def m_7 : VM := (RX0, yX0_laying, cX0_laying, 2, (some .boolean), 3, 65, k_7)
def k_8 : List VE := [(0, .aload_n 0, 1, (0, 0, 0, 0)), (1, .getfield 9, 3, (0, 0, 1, 1)), (4, .bipush 14, 2, (0, 0, 0, 0)), (6, .dup2, 1, (0, 0, 0, 0)), (7, .iaload, 1, (0, 0, 0, 0)), (8, .iconst 1, 1, (0, 0, 0, 0)), (9, .iadd, 1, (0, 0, 0, 0)), (10, .iastore, 1, (0, 0, 0, 0)), (11, .aload_n 0, 1, (0, 0, 0, 0)), (12, .aload_n 1, 1, (0, 0, 0, 0)), (13, .invokevirtual 15, 3, (3, 2, 0, 0)), (16, .sipush 1100, 3, (0, 0, 0, 0)), (19, .if_icmp .le 7, 3, (26, 0, 0, 0)), (22, .iconst 1, 1, (0, 0, 0, 0)), (23, .goto 4, 3, (27, 0, 0, 0)), (26, .iconst 0, 1, (0, 0, 0, 0)), (27, .ireturn, 1, (1, 0, 0, 0))]
def m_8 : VM := (RX0, yX0_old, cX0_old, 2, (some .boolean), 3, 63, k_8)
def k_9 : List VE := [(0, .aload_n 0, 1, (0, 0, 0, 0)), (1, .getfield 9, 3, (0, 0, 1, 1)), (4, .bipush 15, 2, (0, 0, 0, 0)), (6, .dup2, 1, (0, 0, 0, 0)), (7, .iaload, 1, (0, 0, 0, 0)), (8, .iconst 1, 1, (0, 0, 0, 0)), (9, .iadd, 1, (0, 0, 0, 0)), (10, .iastore, 1, (0, 0, 0, 0)), (11, .aload_n 0, 1, (0, 0, 0, 0)), (12, .aload_n 1, 1, (0, 0, 0, 0)), (13, .invokevirtual 19, 3, (4, 2, 0, 0)), (16, .ifCond .le 7, 3, (23, 0, 0, 0)), (19, .iconst 1, 1, (0, 0, 0, 0)), (20, .goto 4, 3, (24, 0, 0, 0)), (23, .iconst 0, 1, (0, 0, 0, 0)), (24, .ireturn, 1, (1, 0, 0, 0))]
def m_9 : VM := (RX0, yX0_loaded, cX0_loaded, 2, (some .boolean), 3, 65, k_9)
def k_10 : List VE := [(0, .aload_n 0, 1, (0, 0, 0, 0)), (1, .getfield 9, 3, (0, 0, 1, 1)), (4, .bipush 16, 2, (0, 0, 0, 0)), (6, .dup2, 1, (0, 0, 0, 0)), (7, .iaload, 1, (0, 0, 0, 0)), (8, .iconst 1, 1, (0, 0, 0, 0)), (9, .iadd, 1, (0, 0, 0, 0)), (10, .iastore, 1, (0, 0, 0, 0)), (11, .aload_n 0, 1, (0, 0, 0, 0)), (12, .aload_n 1, 1, (0, 0, 0, 0)), (13, .invokevirtual 82, 3, (6, 2, 0, 0)), (16, .return_, 1, (0, 0, 0, 0))]
def m_10 : VM := (RX0, yX0_passes, cX0_passes, 2, none, 3, 63, k_10)
def k_11 : List VE := [(0, .aload_n 0, 1, (0, 0, 0, 0)), (1, .getfield 9, 3, (0, 0, 1, 1)), (4, .iconst 0, 1, (0, 0, 0, 0)), (5, .dup2, 1, (0, 0, 0, 0)), (6, .iaload, 1, (0, 0, 0, 0)), (7, .iconst 1, 1, (0, 0, 0, 0)), (8, .iadd, 1, (0, 0, 0, 0)), (9, .iastore, 1, (0, 0, 0, 0)), (10, .aload_n 1, 1, (0, 0, 0, 0)), (11, .dup, 1, (0, 0, 0, 0)), (12, .getfield 85, 3, (7, 1, 0, 0)), (15, .iconst 1, 1, (0, 0, 0, 0)), (16, .iadd, 1, (0, 0, 0, 0)), (17, .putfield 85, 3, (7, 1, 0, 0)), (20, .return_, 1, (0, 0, 0, 0))]
def m_11 : VM := (RX0, yX0_thingAges, cX0_thingAges, 2, none, 0, 0, k_11)
def k_12 : List VE := [(0, .aload_n 0, 1, (0, 0, 0, 0)), (1, .getfield 9, 3, (0, 0, 1, 1)), (4, .iconst 1, 1, (0, 0, 0, 0)), (5, .dup2, 1, (0, 0, 0, 0)), (6, .iaload, 1, (0, 0, 0, 0)), (7, .iconst 1, 1, (0, 0, 0, 0)), (8, .iadd, 1, (0, 0, 0, 0)), (9, .iastore, 1, (0, 0, 0, 0)), (10, .aload_n 1, 1, (0, 0, 0, 0)), (11, .getfield 85, 3, (7, 1, 0, 0)), (14, .ireturn, 1, (0, 0, 0, 0))]
def m_12 : VM := (RX0, yX0_thingTells, cX0_thingTells, 2, (some .int), 0, 0, k_12)
def k_13 : List VE := [(0, .aload_n 0, 1, (0, 0, 0, 0)), (1, .getfield 9, 3, (0, 0, 1, 1)), (4, .iconst 2, 1, (0, 0, 0, 0)), (5, .dup2, 1, (0, 0, 0, 0)), (6, .iaload, 1, (0, 0, 0, 0)), (7, .iconst 1, 1, (0, 0, 0, 0)), (8, .iadd, 1, (0, 0, 0, 0)), (9, .iastore, 1, (0, 0, 0, 0)), (10, .iconst 0, 1, (0, 0, 0, 0)), (11, .ireturn, 1, (0, 0, 0, 0))]
def m_13 : VM := (RX0, yX0_thingCarries, cX0_thingCarries, 1, (some .int), 0, 0, k_13)
def k_14 : List VE := [(0, .aload_n 0, 1, (0, 0, 0, 0)), (1, .getfield 9, 3, (0, 0, 1, 1)), (4, .iconst 3, 1, (0, 0, 0, 0)), (5, .dup2, 1, (0, 0, 0, 0)), (6, .iaload, 1, (0, 0, 0, 0)), (7, .iconst 1, 1, (0, 0, 0, 0)), (8, .iadd, 1, (0, 0, 0, 0)), (9, .iastore, 1, (0, 0, 0, 0)), (10, .aload_n 0, 1, (0, 0, 0, 0)), (11, .aload_n 1, 1, (0, 0, 0, 0)), (12, .invokevirtual 44, 3, (12, 2, 0, 0)), (15, .sipush 1000, 3, (0, 0, 0, 0)), (18, .iadd, 1, (0, 0, 0, 0)), (19, .ireturn, 1, (0, 0, 0, 0))]
def m_14 : VM := (RX0, yX0_queenTells, cX0_queenTells, 2, (some .int), 1, 21, k_14)
def k_15 : List VE := [(0, .aload_n 0, 1, (0, 0, 0, 0)), (1, .getfield 9, 3, (0, 0, 1, 1)), (4, .iconst 4, 1, (0, 0, 0, 0)), (5, .dup2, 1, (0, 0, 0, 0)), (6, .iaload, 1, (0, 0, 0, 0)), (7, .iconst 1, 1, (0, 0, 0, 0)), (8, .iadd, 1, (0, 0, 0, 0)), (9, .iastore, 1, (0, 0, 0, 0)), (10, .iconst 5, 1, (0, 0, 0, 0)), (11, .ireturn, 1, (0, 0, 0, 0))]
def m_15 : VM := (RX0, yX0_queenLays, cX0_queenLays, 1, (some .int), 0, 0, k_15)
def k_16 : List VE := [(0, .aload_n 0, 1, (0, 0, 0, 0)), (1, .getfield 9, 3, (0, 0, 1, 1)), (4, .iconst 5, 1, (0, 0, 0, 0)), (5, .dup2, 1, (0, 0, 0, 0)), (6, .iaload, 1, (0, 0, 0, 0)), (7, .iconst 1, 1, (0, 0, 0, 0)), (8, .iadd, 1, (0, 0, 0, 0)), (9, .iastore, 1, (0, 0, 0, 0)), (10, .aload_n 0, 1, (0, 0, 0, 0)), (11, .aload_n 1, 1, (0, 0, 0, 0)), (12, .invokevirtual 79, 3, (11, 2, 0, 0)), (15, .aload_n 0, 1, (0, 0, 0, 0)), (16, .aload_n 1, 1, (0, 0, 0, 0)), (17, .invokevirtual 79, 3, (11, 2, 0, 0)), (20, .return_, 1, (0, 0, 0, 0))]
def m_16 : VM := (RX0, yX0_virginAges, cX0_virginAges, 2, none, 1, 21, k_16)
def k_17 : List VE := [(0, .aload_n 0, 1, (0, 0, 0, 0)), (1, .getfield 9, 3, (0, 0, 1, 1)), (4, .bipush 6, 2, (0, 0, 0, 0)), (6, .dup2, 1, (0, 0, 0, 0)), (7, .iaload, 1, (0, 0, 0, 0)), (8, .iconst 1, 1, (0, 0, 0, 0)), (9, .iadd, 1, (0, 0, 0, 0)), (10, .iastore, 1, (0, 0, 0, 0)), (11, .aload_n 1, 1, (0, 0, 0, 0)), (12, .getfield 85, 3, (7, 1, 0, 0)), (15, .bipush 30, 2, (0, 0, 0, 0)), (17, .if_icmp .gt 7, 3, (24, 0, 0, 0)), (20, .iconst 0, 1, (0, 0, 0, 0)), (21, .goto 8, 3, (29, 0, 0, 0)), (24, .aload_n 0, 1, (0, 0, 0, 0)), (25, .invokevirtual 69, 3, (15, 1, 0, 0)), (28, .ineg, 1, (0, 0, 0, 0)), (29, .ireturn, 1, (0, 0, 0, 0))]
def m_17 : VM := (RX0, yX0_virginLays, cX0_virginLays, 2, (some .int), 1, 20, k_17)
def k_18 : List VE := [(0, .aload_n 0, 1, (0, 0, 0, 0)), (1, .getfield 9, 3, (0, 0, 1, 1)), (4, .bipush 7, 2, (0, 0, 0, 0)), (6, .dup2, 1, (0, 0, 0, 0)), (7, .iaload, 1, (0, 0, 0, 0)), (8, .iconst 1, 1, (0, 0, 0, 0)), (9, .iadd, 1, (0, 0, 0, 0)), (10, .iastore, 1, (0, 0, 0, 0)), (11, .iconst 0, 1, (0, 0, 0, 0)), (12, .aload_n 0, 1, (0, 0, 0, 0)), (13, .invokevirtual 69, 3, (15, 1, 0, 0)), (16, .aload_n 1, 1, (0, 0, 0, 0)), (17, .getfield 88, 3, (7, 5, 0, 0)), (20, .iadd, 1, (0, 0, 0, 0)), (21, .aload_n 1, 1, (0, 0, 0, 0)), (22, .getfield 85, 3, (7, 1, 0, 0)), (25, .bipush 100, 2, (0, 0, 0, 0)), (27, .idiv, 1, (0, 0, 0, 0)), (28, .isub, 1, (0, 0, 0, 0)), (29, .invokestatic 91, 3, (0, 2, 7, 0)), (32, .ireturn, 1, (0, 0, 0, 0))]
def m_18 : VM := (RX0, yX0_matedLays, cX0_matedLays, 2, (some .int), 1, 23, k_18)
def k_19 : List VE := [(0, .aload_n 0, 1, (0, 0, 0, 0)), (1, .getfield 9, 3, (0, 0, 1, 1)), (4, .bipush 8, 2, (0, 0, 0, 0)), (6, .dup2, 1, (0, 0, 0, 0)), (7, .iaload, 1, (0, 0, 0, 0)), (8, .iconst 1, 1, (0, 0, 0, 0)), (9, .iadd, 1, (0, 0, 0, 0)), (10, .iastore, 1, (0, 0, 0, 0)), (11, .iconst (-1), 1, (0, 0, 0, 0)), (12, .aload_n 0, 1, (0, 0, 0, 0)), (13, .aload_n 1, 1, (0, 0, 0, 0)), (14, .invokevirtual 44, 3, (12, 2, 0, 0)), (17, .isub, 1, (0, 0, 0, 0)), (18, .ireturn, 1, (0, 0, 0, 0))]
def m_19 : VM := (RX0, yX0_droneTells, cX0_droneTells, 2, (some .int), 1, 21, k_19)
def k_20 : List VE := [(0, .aload_n 0, 1, (0, 0, 0, 0)), (1, .getfield 9, 3, (0, 0, 1, 1)), (4, .bipush 9, 2, (0, 0, 0, 0)), (6, .dup2, 1, (0, 0, 0, 0)), (7, .iaload, 1, (0, 0, 0, 0)), (8, .iconst 1, 1, (0, 0, 0, 0)), (9, .iadd, 1, (0, 0, 0, 0)), (10, .iastore, 1, (0, 0, 0, 0)), (11, .aload_n 0, 1, (0, 0, 0, 0)), (12, .aload_n 1, 1, (0, 0, 0, 0)), (13, .invokevirtual 79, 3, (11, 2, 0, 0)), (16, .aload_n 1, 1, (0, 0, 0, 0)), (17, .dup, 1, (0, 0, 0, 0)), (18, .getfield 97, 3, (7, 7, 0, 0)), (21, .aload_n 1, 1, (0, 0, 0, 0)), (22, .getfield 97, 3, (7, 7, 0, 0)), (25, .bipush 10, 2, (0, 0, 0, 0)), (27, .idiv, 1, (0, 0, 0, 0)), (28, .isub, 1, (0, 0, 0, 0)), (29, .putfield 97, 3, (7, 7, 0, 0)), (32, .return_, 1, (0, 0, 0, 0))]
def m_20 : VM := (RX0, yX0_swarmAges, cX0_swarmAges, 2, none, 1, 21, k_20)
def k_21 : List VE := [(0, .aload_n 0, 1, (0, 0, 0, 0)), (1, .getfield 9, 3, (0, 0, 1, 1)), (4, .bipush 10, 2, (0, 0, 0, 0)), (6, .dup2, 1, (0, 0, 0, 0)), (7, .iaload, 1, (0, 0, 0, 0)), (8, .iconst 1, 1, (0, 0, 0, 0)), (9, .iadd, 1, (0, 0, 0, 0)), (10, .iastore, 1, (0, 0, 0, 0)), (11, .aload_n 1, 1, (0, 0, 0, 0)), (12, .getfield 97, 3, (7, 7, 0, 0)), (15, .ireturn, 1, (0, 0, 0, 0))]
def m_21 : VM := (RX0, yX0_swarmCarries, cX0_swarmCarries, 2, (some .int), 0, 0, k_21)
def k_22 : List VE := [(0, .aload_n 0, 1, (0, 0, 0, 0)), (1, .getfield 9, 3, (0, 0, 1, 1)), (4, .bipush 11, 2, (0, 0, 0, 0)), (6, .dup2, 1, (0, 0, 0, 0)), (7, .iaload, 1, (0, 0, 0, 0)), (8, .iconst 1, 1, (0, 0, 0, 0)), (9, .iadd, 1, (0, 0, 0, 0)), (10, .iastore, 1, (0, 0, 0, 0)), (11, .aload_n 0, 1, (0, 0, 0, 0)), (12, .aload_n 1, 1, (0, 0, 0, 0)), (13, .invokevirtual 44, 3, (12, 2, 0, 0)), (16, .sipush 5000, 3, (0, 0, 0, 0)), (19, .iadd, 1, (0, 0, 0, 0)), (20, .ireturn, 1, (0, 0, 0, 0))]
def m_22 : VM := (RX0, yX0_nucleusTells, cX0_nucleusTells, 2, (some .int), 1, 21, k_22)
def k_23 : List VE := [(0, .aload_n 0, 1, (0, 0, 0, 0)), (1, .getfield 9, 3, (0, 0, 1, 1)), (4, .bipush 12, 2, (0, 0, 0, 0)), (6, .dup2, 1, (0, 0, 0, 0)), (7, .iaload, 1, (0, 0, 0, 0)), (8, .iconst 1, 1, (0, 0, 0, 0)), (9, .iadd, 1, (0, 0, 0, 0)), (10, .iastore, 1, (0, 0, 0, 0)), (11, .aload_n 0, 1, (0, 0, 0, 0)), (12, .aload_n 1, 1, (0, 0, 0, 0)), (13, .invokevirtual 53, 3, (21, 2, 0, 0)), (16, .sipush 1000, 3, (0, 0, 0, 0)), (19, .invokestatic 100, 3, (0, 2, 8, 0)), (22, .ireturn, 1, (0, 0, 0, 0))]
def m_23 : VM := (RX0, yX0_nucleusCarries, cX0_nucleusCarries, 2, (some .int), 1, 23, k_23)
def k_24 : List VE := [(0, .aload_n 0, 1, (0, 0, 0, 0)), (1, .invokespecial 3, 3, (0, 1, 5, 0)), (4, .aload_n 0, 1, (0, 0, 0, 0)), (5, .sipush 200, 3, (0, 0, 0, 0)), (8, .newarray .int, 2, (11, 1, 21, 0)), (10, .putfield 9, 3, (1, 0, 1, 1)), (13, .aload_n 0, 1, (0, 0, 0, 0)), (14, .sipush 200, 3, (0, 0, 0, 0)), (17, .newarray .int, 2, (11, 1, 22, 0)), (19, .putfield 15, 3, (1, 1, 1, 1)), (22, .aload_n 0, 1, (0, 0, 0, 0)), (23, .sipush 200, 3, (0, 0, 0, 0)), (26, .newarray .int, 2, (11, 1, 23, 0)), (28, .putfield 18, 3, (1, 2, 1, 1)), (31, .aload_n 0, 1, (0, 0, 0, 0)), (32, .iconst 0, 1, (0, 0, 0, 0)), (33, .putfield 21, 3, (1, 3, 0, 0)), (36, .return_, 1, (0, 0, 0, 0))]
def m_24 : VM := (RX1, yX1_init, cX1_init, 1, none, 1, 20, k_24)
def k_25 : List VE := [(0, .aload_n 0, 1, (0, 0, 0, 0)), (1, .getfield 9, 3, (1, 0, 1, 1)), (4, .aload_n 0, 1, (0, 0, 0, 0)), (5, .getfield 21, 3, (1, 3, 0, 0)), (8, .iload_n 1, 1, (0, 0, 0, 0)), (9, .iastore, 1, (0, 0, 0, 0)), (10, .aload_n 0, 1, (0, 0, 0, 0)), (11, .getfield 15, 3, (1, 1, 1, 1)), (14, .aload_n 0, 1, (0, 0, 0, 0)), (15, .getfield 21, 3, (1, 3, 0, 0)), (18, .iload_n 2, 1, (0, 0, 0, 0)), (19, .iastore, 1, (0, 0, 0, 0)), (20, .aload_n 0, 1, (0, 0, 0, 0)), (21, .getfield 18, 3, (1, 2, 1, 1)), (24, .aload_n 0, 1, (0, 0, 0, 0)), (25, .getfield 21, 3, (1, 3, 0, 0)), (28, .iload_n 3, 1, (0, 0, 0, 0)), (29, .iastore, 1, (0, 0, 0, 0)), (30, .aload_n 0, 1, (0, 0, 0, 0)), (31, .dup, 1, (0, 0, 0, 0)), (32, .getfield 21, 3, (1, 3, 0, 0)), (35, .iconst 1, 1, (0, 0, 0, 0)), (36, .iadd, 1, (0, 0, 0, 0)), (37, .putfield 21, 3, (1, 3, 0, 0)), (40, .return_, 1, (0, 0, 0, 0))]
def m_25 : VM := (RX1, yX1_addEntry, cX1_addEntry, 4, none, 0, 0, k_25)
def k_26 : List VE := [(0, .iload_n 2, 1, (0, 0, 0, 0)), (1, .ifCond .ne 12, 3, (13, 0, 0, 0)), (4, .aload_n 0, 1, (0, 0, 0, 0)), (5, .getfield 9, 3, (1, 0, 1, 1)), (8, .iload_n 1, 1, (0, 0, 0, 0)), (9, .iaload, 1, (0, 0, 0, 0)), (10, .goto 23, 3, (33, 0, 0, 0)), (13, .iload_n 2, 1, (0, 0, 0, 0)), (14, .iconst 1, 1, (0, 0, 0, 0)), (15, .if_icmp .ne 12, 3, (27, 0, 0, 0)), (18, .aload_n 0, 1, (0, 0, 0, 0)), (19, .getfield 15, 3, (1, 1, 1, 1)), (22, .iload_n 1, 1, (0, 0, 0, 0)), (23, .iaload, 1, (0, 0, 0, 0)), (24, .goto 9, 3, (33, 0, 0, 0)), (27, .aload_n 0, 1, (0, 0, 0, 0)), (28, .getfield 18, 3, (1, 2, 1, 1)), (31, .iload_n 1, 1, (0, 0, 0, 0)), (32, .iaload, 1, (0, 0, 0, 0)), (33, .ireturn, 1, (0, 0, 0, 0))]
def m_26 : VM := (RX1, yX1_entry, cX1_entry, 3, (some .int), 0, 0, k_26)
def k_27 : List VE := [(0, .aload_n 0, 1, (0, 0, 0, 0)), (1, .aload_n 1, 1, (0, 0, 0, 0)), (2, .getfield 21, 3, (1, 3, 0, 0)), (5, .putfield 21, 3, (1, 3, 0, 0)), (8, .aload_n 1, 1, (0, 0, 0, 0)), (9, .getfield 9, 3, (1, 0, 1, 1)), (12, .iconst 0, 1, (0, 0, 0, 0)), (13, .aload_n 0, 1, (0, 0, 0, 0)), (14, .getfield 9, 3, (1, 0, 1, 1)), (17, .iconst 0, 1, (0, 0, 0, 0)), (18, .aload_n 0, 1, (0, 0, 0, 0)), (19, .getfield 21, 3, (1, 3, 0, 0)), (22, .invokestatic 25, 3, (0, 5, 6, 0)), (25, .aload_n 1, 1, (0, 0, 0, 0)), (26, .getfield 15, 3, (1, 1, 1, 1)), (29, .iconst 0, 1, (0, 0, 0, 0)), (30, .aload_n 0, 1, (0, 0, 0, 0)), (31, .getfield 15, 3, (1, 1, 1, 1)), (34, .iconst 0, 1, (0, 0, 0, 0)), (35, .aload_n 0, 1, (0, 0, 0, 0)), (36, .getfield 21, 3, (1, 3, 0, 0)), (39, .invokestatic 25, 3, (0, 5, 6, 0)), (42, .aload_n 1, 1, (0, 0, 0, 0)), (43, .getfield 18, 3, (1, 2, 1, 1)), (46, .iconst 0, 1, (0, 0, 0, 0)), (47, .aload_n 0, 1, (0, 0, 0, 0)), (48, .getfield 18, 3, (1, 2, 1, 1)), (51, .iconst 0, 1, (0, 0, 0, 0)), (52, .aload_n 0, 1, (0, 0, 0, 0)), (53, .getfield 21, 3, (1, 3, 0, 0)), (56, .invokestatic 25, 3, (0, 5, 6, 0)), (59, .return_, 1, (0, 0, 0, 0))]
def m_27 : VM := (RX1, yX1_become, cX1_become, 2, none, 1, 68, k_27)
def k_28 : List VE := [(0, .aload_n 0, 1, (0, 0, 0, 0)), (1, .invokespecial 3, 3, (0, 1, 5, 0)), (4, .aload_n 0, 1, (0, 0, 0, 0)), (5, .bipush 64, 2, (0, 0, 0, 0)), (7, .newarray .int, 2, (11, 1, 24, 0)), (9, .putfield 9, 3, (2, 0, 1, 1)), (12, .aload_n 0, 1, (0, 0, 0, 0)), (13, .iconst 0, 1, (0, 0, 0, 0)), (14, .putfield 15, 3, (2, 1, 0, 0)), (17, .return_, 1, (0, 0, 0, 0))]
def m_28 : VM := (RX2, yX2_init, cX2_init, 1, none, 1, 20, k_28)
def k_29 : List VE := [(0, .aload_n 0, 1, (0, 0, 0, 0)), (1, .iload_n 1, 1, (0, 0, 0, 0)), (2, .putfield 15, 3, (2, 1, 0, 0)), (5, .iconst 0, 1, (0, 0, 0, 0)), (6, .istore_n 2, 1, (0, 0, 0, 0)), (7, .iload_n 2, 1, (0, 0, 0, 0)), (8, .aload_n 0, 1, (0, 0, 0, 0)), (9, .getfield 15, 3, (2, 1, 0, 0)), (12, .if_icmp .ge 16, 3, (28, 0, 0, 0)), (15, .aload_n 0, 1, (0, 0, 0, 0)), (16, .getfield 9, 3, (2, 0, 1, 1)), (19, .iload_n 2, 1, (0, 0, 0, 0)), (20, .iconst 0, 1, (0, 0, 0, 0)), (21, .iastore, 1, (0, 0, 0, 0)), (22, .iinc 2 1, 3, (0, 0, 0, 0)), (25, .goto (-18), 3, (7, 0, 0, 0)), (28, .return_, 1, (0, 0, 0, 0))]
def m_29 : VM := (RX2, yX2_begin, cX2_begin, 3, none, 0, 0, k_29)
def k_30 : List VE := [(0, .aload_n 0, 1, (0, 0, 0, 0)), (1, .aload_n 1, 1, (0, 0, 0, 0)), (2, .getfield 15, 3, (2, 1, 0, 0)), (5, .putfield 15, 3, (2, 1, 0, 0)), (8, .aload_n 1, 1, (0, 0, 0, 0)), (9, .getfield 9, 3, (2, 0, 1, 1)), (12, .iconst 0, 1, (0, 0, 0, 0)), (13, .aload_n 0, 1, (0, 0, 0, 0)), (14, .getfield 9, 3, (2, 0, 1, 1)), (17, .iconst 0, 1, (0, 0, 0, 0)), (18, .aload_n 0, 1, (0, 0, 0, 0)), (19, .getfield 15, 3, (2, 1, 0, 0)), (22, .invokestatic 19, 3, (0, 5, 6, 0)), (25, .return_, 1, (0, 0, 0, 0))]
def m_30 : VM := (RX2, yX2_become, cX2_become, 2, none, 1, 68, k_30)
def k_31 : List VE := [(0, .iconst 0, 1, (0, 0, 0, 0)), (1, .istore_n 2, 1, (0, 0, 0, 0)), (2, .iload_n 2, 1, (0, 0, 0, 0)), (3, .aload_n 0, 1, (0, 0, 0, 0)), (4, .getfield 15, 3, (2, 1, 0, 0)), (7, .if_icmp .ge 21, 3, (28, 0, 0, 0)), (10, .aload_n 0, 1, (0, 0, 0, 0)), (11, .getfield 9, 3, (2, 0, 1, 1)), (14, .iload_n 2, 1, (0, 0, 0, 0)), (15, .iaload, 1, (0, 0, 0, 0)), (16, .iload_n 1, 1, (0, 0, 0, 0)), (17, .if_icmp .ne 5, 3, (22, 0, 0, 0)), (20, .iconst 1, 1, (0, 0, 0, 0)), (21, .ireturn, 1, (1, 0, 0, 0)), (22, .iinc 2 1, 3, (0, 0, 0, 0)), (25, .goto (-23), 3, (2, 0, 0, 0)), (28, .iconst 0, 1, (0, 0, 0, 0)), (29, .ireturn, 1, (1, 0, 0, 0))]
def m_31 : VM := (RX2, yX2_holds, cX2_holds, 3, (some .boolean), 0, 0, k_31)
def k_32 : List VE := [(0, .iconst 0, 1, (0, 0, 0, 0)), (1, .istore_n 1, 1, (0, 0, 0, 0)), (2, .iconst 0, 1, (0, 0, 0, 0)), (3, .istore_n 2, 1, (0, 0, 0, 0)), (4, .iload_n 2, 1, (0, 0, 0, 0)), (5, .aload_n 0, 1, (0, 0, 0, 0)), (6, .getfield 15, 3, (2, 1, 0, 0)), (9, .if_icmp .ge 21, 3, (30, 0, 0, 0)), (12, .iload_n 1, 1, (0, 0, 0, 0)), (13, .aload_n 0, 1, (0, 0, 0, 0)), (14, .getfield 9, 3, (2, 0, 1, 1)), (17, .iload_n 2, 1, (0, 0, 0, 0)), (18, .iaload, 1, (0, 0, 0, 0)), (19, .invokestatic 25, 3, (180, 1, 3, 0)), (22, .iadd, 1, (0, 0, 0, 0)), (23, .istore_n 1, 1, (0, 0, 0, 0)), (24, .iinc 2 1, 3, (0, 0, 0, 0)), (27, .goto (-23), 3, (4, 0, 0, 0)), (30, .iload_n 1, 1, (0, 0, 0, 0)), (31, .ireturn, 1, (0, 0, 0, 0))]
def m_32 : VM := (RX2, yX2_honeyTenths, cX2_honeyTenths, 3, (some .int), 1, 20, k_32)
def k_33 : List VE := [(0, .iload_n 1, 1, (0, 0, 0, 0)), (1, .istore_n 2, 1, (0, 0, 0, 0)), (2, .iconst 0, 1, (0, 0, 0, 0)), (3, .istore_n 3, 1, (0, 0, 0, 0)), (4, .iload_n 3, 1, (0, 0, 0, 0)), (5, .aload_n 0, 1, (0, 0, 0, 0)), (6, .getfield 15, 3, (2, 1, 0, 0)), (9, .if_icmp .ge 55, 3, (64, 0, 0, 0)), (12, .iload_n 2, 1, (0, 0, 0, 0)), (13, .ifCond .le 51, 3, (64, 0, 0, 0)), (16, .aload_n 0, 1, (0, 0, 0, 0)), (17, .getfield 9, 3, (2, 0, 1, 1)), (20, .iload_n 3, 1, (0, 0, 0, 0)), (21, .iaload, 1, (0, 0, 0, 0)), (22, .bipush 100, 2, (0, 0, 0, 0)), (24, .if_icmp .ge 34, 3, (58, 0, 0, 0)), (27, .bipush 100, 2, (0, 0, 0, 0)), (29, .aload_n 0, 1, (0, 0, 0, 0)), (30, .getfield 9, 3, (2, 0, 1, 1)), (33, .iload_n 3, 1, (0, 0, 0, 0)), (34, .iaload, 1, (0, 0, 0, 0)), (35, .isub, 1, (0, 0, 0, 0)), (36, .iload_n 2, 1, (0, 0, 0, 0)), (37, .invokestatic 29, 3, (0, 2, 8, 0)), (40, .istore 4, 2, (0, 0, 0, 0)), (42, .aload_n 0, 1, (0, 0, 0, 0)), (43, .getfield 9, 3, (2, 0, 1, 1)), (46, .iload_n 3, 1, (0, 0, 0, 0)), (47, .dup2, 1, (0, 0, 0, 0)), (48, .iaload, 1, (0, 0, 0, 0)), (49, .iload 4, 2, (0, 0, 0, 0)), (51, .iadd, 1, (0, 0, 0, 0)), (52, .iastore, 1, (0, 0, 0, 0)), (53, .iload_n 2, 1, (0, 0, 0, 0)), (54, .iload 4, 2, (0, 0, 0, 0)), (56, .isub, 1, (0, 0, 0, 0)), (57, .istore_n 2, 1, (0, 0, 0, 0)), (58, .iinc 3 1, 3, (0, 0, 0, 0)), (61, .goto (-57), 3, (4, 0, 0, 0)), (64, .iload_n 1, 1, (0, 0, 0, 0)), (65, .iload_n 2, 1, (0, 0, 0, 0)), (66, .isub, 1, (0, 0, 0, 0)), (67, .ireturn, 1, (0, 0, 0, 0))]
def m_33 : VM := (RX2, yX2_addHoney, cX2_addHoney, 5, (some .int), 1, 23, k_33)
def k_34 : List VE := [(0, .iload_n 1, 1, (0, 0, 0, 0)), (1, .istore_n 2, 1, (0, 0, 0, 0)), (2, .iconst 0, 1, (0, 0, 0, 0)), (3, .istore_n 3, 1, (0, 0, 0, 0)), (4, .iload_n 3, 1, (0, 0, 0, 0)), (5, .aload_n 0, 1, (0, 0, 0, 0)), (6, .getfield 15, 3, (2, 1, 0, 0)), (9, .if_icmp .ge 44, 3, (53, 0, 0, 0)), (12, .iload_n 2, 1, (0, 0, 0, 0)), (13, .ifCond .le 40, 3, (53, 0, 0, 0)), (16, .aload_n 0, 1, (0, 0, 0, 0)), (17, .getfield 9, 3, (2, 0, 1, 1)), (20, .iload_n 3, 1, (0, 0, 0, 0)), (21, .iaload, 1, (0, 0, 0, 0)), (22, .invokestatic 25, 3, (180, 1, 3, 0)), (25, .iload_n 2, 1, (0, 0, 0, 0)), (26, .invokestatic 29, 3, (0, 2, 8, 0)), (29, .istore 4, 2, (0, 0, 0, 0)), (31, .aload_n 0, 1, (0, 0, 0, 0)), (32, .getfield 9, 3, (2, 0, 1, 1)), (35, .iload_n 3, 1, (0, 0, 0, 0)), (36, .dup2, 1, (0, 0, 0, 0)), (37, .iaload, 1, (0, 0, 0, 0)), (38, .iload 4, 2, (0, 0, 0, 0)), (40, .isub, 1, (0, 0, 0, 0)), (41, .iastore, 1, (0, 0, 0, 0)), (42, .iload_n 2, 1, (0, 0, 0, 0)), (43, .iload 4, 2, (0, 0, 0, 0)), (45, .isub, 1, (0, 0, 0, 0)), (46, .istore_n 2, 1, (0, 0, 0, 0)), (47, .iinc 3 1, 3, (0, 0, 0, 0)), (50, .goto (-46), 3, (4, 0, 0, 0)), (53, .iload_n 1, 1, (0, 0, 0, 0)), (54, .iload_n 2, 1, (0, 0, 0, 0)), (55, .isub, 1, (0, 0, 0, 0)), (56, .ireturn, 1, (0, 0, 0, 0))]
def m_34 : VM := (RX2, yX2_takeHoney, cX2_takeHoney, 5, (some .int), 1, 23, k_34)
def k_35 : List VE := [(0, .aload_n 0, 1, (0, 0, 0, 0)), (1, .aload_n 0, 1, (0, 0, 0, 0)), (2, .invokevirtual 35, 3, (32, 1, 0, 0)), (5, .invokevirtual 39, 3, (34, 2, 0, 0)), (8, .ireturn, 1, (0, 0, 0, 0))]
def m_35 : VM := (RX2, yX2_takeAllHoney, cX2_takeAllHoney, 1, (some .int), 2, 47, k_35)
def k_36 : List VE := [(0, .iconst 0, 1, (0, 0, 0, 0)), (1, .istore_n 2, 1, (0, 0, 0, 0)), (2, .iconst 0, 1, (0, 0, 0, 0)), (3, .istore_n 3, 1, (0, 0, 0, 0)), (4, .iload_n 3, 1, (0, 0, 0, 0)), (5, .aload_n 0, 1, (0, 0, 0, 0)), (6, .getfield 15, 3, (2, 1, 0, 0)), (9, .if_icmp .ge 48, 3, (57, 0, 0, 0)), (12, .iload_n 3, 1, (0, 0, 0, 0)), (13, .aload_n 1, 1, (0, 0, 0, 0)), (14, .getfield 15, 3, (2, 1, 0, 0)), (17, .if_icmp .ge 40, 3, (57, 0, 0, 0)), (20, .iload_n 2, 1, (0, 0, 0, 0)), (21, .aload_n 1, 1, (0, 0, 0, 0)), (22, .getfield 9, 3, (2, 0, 1, 1)), (25, .iload_n 3, 1, (0, 0, 0, 0)), (26, .iaload, 1, (0, 0, 0, 0)), (27, .invokestatic 25, 3, (180, 1, 3, 0)), (30, .iadd, 1, (0, 0, 0, 0)), (31, .istore_n 2, 1, (0, 0, 0, 0)), (32, .aload_n 1, 1, (0, 0, 0, 0)), (33, .getfield 9, 3, (2, 0, 1, 1)), (36, .iload_n 3, 1, (0, 0, 0, 0)), (37, .aload_n 0, 1, (0, 0, 0, 0)), (38, .getfield 9, 3, (2, 0, 1, 1)), (41, .iload_n 3, 1, (0, 0, 0, 0)), (42, .iaload, 1, (0, 0, 0, 0)), (43, .iastore, 1, (0, 0, 0, 0)), (44, .aload_n 0, 1, (0, 0, 0, 0)), (45, .getfield 9, 3, (2, 0, 1, 1)), (48, .iload_n 3, 1, (0, 0, 0, 0)), (49, .iconst 0, 1, (0, 0, 0, 0)), (50, .iastore, 1, (0, 0, 0, 0)), (51, .iinc 3 1, 3, (0, 0, 0, 0)), (54, .goto (-50), 3, (4, 0, 0, 0)), (57, .iload_n 2, 1, (0, 0, 0, 0)), (58, .ireturn, 1, (0, 0, 0, 0))]
def m_36 : VM := (RX2, yX2_pourInto, cX2_pourInto, 4, (some .int), 1, 20, k_36)
def k_37 : List VE := [(0, .iconst 0, 1, (0, 0, 0, 0)), (1, .istore_n 2, 1, (0, 0, 0, 0)), (2, .iload_n 2, 1, (0, 0, 0, 0)), (3, .aload_n 0, 1, (0, 0, 0, 0)), (4, .getfield 15, 3, (2, 1, 0, 0)), (7, .if_icmp .ge 92, 3, (99, 0, 0, 0)), (10, .aload_n 0, 1, (0, 0, 0, 0)), (11, .getfield 9, 3, (2, 0, 1, 1)), (14, .iload_n 2, 1, (0, 0, 0, 0)), (15, .iaload, 1, (0, 0, 0, 0)), (16, .invokestatic 42, 3, (181, 1, 3, 0)), (19, .ifCond .eq 74, 3, (93, 0, 0, 0)), (22, .aload_n 0, 1, (0, 0, 0, 0)), (23, .getfield 9, 3, (2, 0, 1, 1)), (26, .iload_n 2, 1, (0, 0, 0, 0)), (27, .dup2, 1, (0, 0, 0, 0)), (28, .iaload, 1, (0, 0, 0, 0)), (29, .iconst 1, 1, (0, 0, 0, 0)), (30, .iadd, 1, (0, 0, 0, 0)), (31, .iastore, 1, (0, 0, 0, 0)), (32, .aload_n 0, 1, (0, 0, 0, 0)), (33, .getfield 9, 3, (2, 0, 1, 1)), (36, .iload_n 2, 1, (0, 0, 0, 0)), (37, .iaload, 1, (0, 0, 0, 0)), (38, .sipush 321, 3, (0, 0, 0, 0)), (41, .if_icmp .ne 23, 3, (64, 0, 0, 0)), (44, .aload_n 0, 1, (0, 0, 0, 0)), (45, .getfield 9, 3, (2, 0, 1, 1)), (48, .iload_n 2, 1, (0, 0, 0, 0)), (49, .iconst 0, 1, (0, 0, 0, 0)), (50, .iastore, 1, (0, 0, 0, 0)), (51, .aload_n 1, 1, (0, 0, 0, 0)), (52, .dup, 1, (0, 0, 0, 0)), (53, .getfield 46, 3, (3, 2, 0, 0)), (56, .iconst 1, 1, (0, 0, 0, 0)), (57, .iadd, 1, (0, 0, 0, 0)), (58, .putfield 46, 3, (3, 2, 0, 0)), (61, .goto 32, 3, (93, 0, 0, 0)), (64, .aload_n 0, 1, (0, 0, 0, 0)), (65, .getfield 9, 3, (2, 0, 1, 1)), (68, .iload_n 2, 1, (0, 0, 0, 0)), (69, .iaload, 1, (0, 0, 0, 0)), (70, .sipush 424, 3, (0, 0, 0, 0)), (73, .if_icmp .ne 20, 3, (93, 0, 0, 0)), (76, .aload_n 0, 1, (0, 0, 0, 0)), (77, .getfield 9, 3, (2, 0, 1, 1)), (80, .iload_n 2, 1, (0, 0, 0, 0)), (81, .iconst 0, 1, (0, 0, 0, 0)), (82, .iastore, 1, (0, 0, 0, 0)), (83, .aload_n 1, 1, (0, 0, 0, 0)), (84, .dup, 1, (0, 0, 0, 0)), (85, .getfield 51, 3, (3, 3, 0, 0)), (88, .iconst 1, 1, (0, 0, 0, 0)), (89, .iadd, 1, (0, 0, 0, 0)), (90, .putfield 51, 3, (3, 3, 0, 0)), (93, .iinc 2 1, 3, (0, 0, 0, 0)), (96, .goto (-94), 3, (2, 0, 0, 0)), (99, .return_, 1, (0, 0, 0, 0))]
def m_37 : VM := (RX2, yX2_growYoung, cX2_growYoung, 3, none, 1, 20, k_37)
def k_38 : List VE := [(0, .iconst 0, 1, (0, 0, 0, 0)), (1, .istore_n 3, 1, (0, 0, 0, 0)), (2, .iconst 0, 1, (0, 0, 0, 0)), (3, .istore 4, 2, (0, 0, 0, 0)), (5, .iload 4, 2, (0, 0, 0, 0)), (7, .bipush 64, 2, (0, 0, 0, 0)), (9, .if_icmp .ge 53, 3, (62, 0, 0, 0)), (12, .iload_n 3, 1, (0, 0, 0, 0)), (13, .iload_n 2, 1, (0, 0, 0, 0)), (14, .if_icmp .ge 48, 3, (62, 0, 0, 0)), (17, .bipush 32, 2, (0, 0, 0, 0)), (19, .iload 4, 2, (0, 0, 0, 0)), (21, .invokestatic 54, 3, (183, 2, 3, 0)), (24, .istore 5, 2, (0, 0, 0, 0)), (26, .iload 5, 2, (0, 0, 0, 0)), (28, .aload_n 0, 1, (0, 0, 0, 0)), (29, .getfield 15, 3, (2, 1, 0, 0)), (32, .if_icmp .ge 24, 3, (56, 0, 0, 0)), (35, .aload_n 0, 1, (0, 0, 0, 0)), (36, .getfield 9, 3, (2, 0, 1, 1)), (39, .iload 5, 2, (0, 0, 0, 0)), (41, .iaload, 1, (0, 0, 0, 0)), (42, .ifCond .ne 14, 3, (56, 0, 0, 0)), (45, .aload_n 0, 1, (0, 0, 0, 0)), (46, .getfield 9, 3, (2, 0, 1, 1)), (49, .iload 5, 2, (0, 0, 0, 0)), (51, .iload_n 1, 1, (0, 0, 0, 0)), (52, .iastore, 1, (0, 0, 0, 0)), (53, .iinc 3 1, 3, (0, 0, 0, 0)), (56, .iinc 4 1, 3, (0, 0, 0, 0)), (59, .goto (-54), 3, (5, 0, 0, 0)), (62, .iload_n 3, 1, (0, 0, 0, 0)), (63, .ireturn, 1, (0, 0, 0, 0))]
def m_38 : VM := (RX2, yX2_addYoung, cX2_addYoung, 6, (some .int), 1, 21, k_38)
def k_39 : List VE := [(0, .iload_n 1, 1, (0, 0, 0, 0)), (1, .tableswitch 76 6 10 #[35, 40, 49, 58, 67], 35, (0, 0, 0, 0)), (36, .aload_n 0, 1, (0, 0, 0, 0)), (37, .invokevirtual 35, 3, (32, 1, 0, 0)), (40, .ireturn, 1, (0, 0, 0, 0)), (41, .aload_n 0, 1, (0, 0, 0, 0)), (42, .bipush 101, 2, (0, 0, 0, 0)), (44, .bipush 69, 2, (0, 0, 0, 0)), (46, .invokevirtual 57, 3, (40, 3, 0, 0)), (49, .ireturn, 1, (0, 0, 0, 0)), (50, .aload_n 0, 1, (0, 0, 0, 0)), (51, .bipush 98, 2, (0, 0, 0, 0)), (53, .bipush 66, 2, (0, 0, 0, 0)), (55, .invokevirtual 57, 3, (40, 3, 0, 0)), (58, .ireturn, 1, (0, 0, 0, 0)), (59, .aload_n 0, 1, (0, 0, 0, 0)), (60, .bipush 115, 2, (0, 0, 0, 0)), (62, .bipush 83, 2, (0, 0, 0, 0)), (64, .invokevirtual 57, 3, (40, 3, 0, 0)), (67, .ireturn, 1, (0, 0, 0, 0)), (68, .aload_n 0, 1, (0, 0, 0, 0)), (69, .bipush 46, 2, (0, 0, 0, 0)), (71, .bipush 46, 2, (0, 0, 0, 0)), (73, .invokevirtual 57, 3, (40, 3, 0, 0)), (76, .ireturn, 1, (0, 0, 0, 0)), (77, .aload_n 0, 1, (0, 0, 0, 0)), (78, .bipush 112, 2, (0, 0, 0, 0)), (80, .bipush 112, 2, (0, 0, 0, 0)), (82, .invokevirtual 57, 3, (40, 3, 0, 0)), (85, .ireturn, 1, (0, 0, 0, 0))]
def m_39 : VM := (RX2, yX2_number, cX2_number, 2, (some .int), 2, 47, k_39)
def k_40 : List VE := [(0, .iconst 0, 1, (0, 0, 0, 0)), (1, .istore_n 3, 1, (0, 0, 0, 0)), (2, .iconst 0, 1, (0, 0, 0, 0)), (3, .istore 4, 2, (0, 0, 0, 0)), (5, .iload 4, 2, (0, 0, 0, 0)), (7, .aload_n 0, 1, (0, 0, 0, 0)), (8, .getfield 15, 3, (2, 1, 0, 0)), (11, .if_icmp .ge 36, 3, (47, 0, 0, 0)), (14, .aload_n 0, 1, (0, 0, 0, 0)), (15, .getfield 9, 3, (2, 0, 1, 1)), (18, .iload 4, 2, (0, 0, 0, 0)), (20, .iaload, 1, (0, 0, 0, 0)), (21, .invokestatic 61, 3, (182, 1, 3, 0)), (24, .istore 5, 2, (0, 0, 0, 0)), (26, .iload 5, 2, (0, 0, 0, 0)), (28, .iload_n 1, 1, (0, 0, 0, 0)), (29, .if_icmp .eq 9, 3, (38, 0, 0, 0)), (32, .iload 5, 2, (0, 0, 0, 0)), (34, .iload_n 2, 1, (0, 0, 0, 0)), (35, .if_icmp .ne 6, 3, (41, 0, 0, 0)), (38, .iinc 3 1, 3, (0, 0, 0, 0)), (41, .iinc 4 1, 3, (0, 0, 0, 0)), (44, .goto (-39), 3, (5, 0, 0, 0)), (47, .iload_n 3, 1, (0, 0, 0, 0)), (48, .ireturn, 1, (0, 0, 0, 0))]
def m_40 : VM := (RX2, yX2_countLetters, cX2_countLetters, 6, (some .int), 1, 22, k_40)
def k_41 : List VE := [(0, .iload_n 1, 1, (0, 0, 0, 0)), (1, .bipush 31, 2, (0, 0, 0, 0)), (3, .imul, 1, (0, 0, 0, 0)), (4, .aload_n 0, 1, (0, 0, 0, 0)), (5, .getfield 15, 3, (2, 1, 0, 0)), (8, .iadd, 1, (0, 0, 0, 0)), (9, .istore_n 2, 1, (0, 0, 0, 0)), (10, .iconst 0, 1, (0, 0, 0, 0)), (11, .istore_n 3, 1, (0, 0, 0, 0)), (12, .iload_n 3, 1, (0, 0, 0, 0)), (13, .aload_n 0, 1, (0, 0, 0, 0)), (14, .getfield 15, 3, (2, 1, 0, 0)), (17, .if_icmp .ge 21, 3, (38, 0, 0, 0)), (20, .iload_n 2, 1, (0, 0, 0, 0)), (21, .bipush 31, 2, (0, 0, 0, 0)), (23, .imul, 1, (0, 0, 0, 0)), (24, .aload_n 0, 1, (0, 0, 0, 0)), (25, .getfield 9, 3, (2, 0, 1, 1)), (28, .iload_n 3, 1, (0, 0, 0, 0)), (29, .iaload, 1, (0, 0, 0, 0)), (30, .iadd, 1, (0, 0, 0, 0)), (31, .istore_n 2, 1, (0, 0, 0, 0)), (32, .iinc 3 1, 3, (0, 0, 0, 0)), (35, .goto (-23), 3, (12, 0, 0, 0)), (38, .iload_n 2, 1, (0, 0, 0, 0)), (39, .ireturn, 1, (0, 0, 0, 0))]
def m_41 : VM := (RX2, yX2_digestFrom, cX2_digestFrom, 4, (some .int), 0, 0, k_41)
def k_42 : List VE := [(0, .aload_n 0, 1, (0, 0, 0, 0)), (1, .invokespecial 3, 3, (0, 1, 5, 0)), (4, .aload_n 0, 1, (0, 0, 0, 0)), (5, .bipush 96, 2, (0, 0, 0, 0)), (7, .newarray .int, 2, (11, 1, 25, 0)), (9, .putfield 9, 3, (3, 0, 1, 1)), (12, .aload_n 0, 1, (0, 0, 0, 0)), (13, .iconst 0, 1, (0, 0, 0, 0)), (14, .putfield 15, 3, (3, 1, 0, 0)), (17, .aload_n 0, 1, (0, 0, 0, 0)), (18, .iconst 0, 1, (0, 0, 0, 0)), (19, .putfield 19, 3, (3, 2, 0, 0)), (22, .aload_n 0, 1, (0, 0, 0, 0)), (23, .iconst 0, 1, (0, 0, 0, 0)), (24, .putfield 22, 3, (3, 3, 0, 0)), (27, .aload_n 0, 1, (0, 0, 0, 0)), (28, .iconst 0, 1, (0, 0, 0, 0)), (29, .putfield 25, 3, (3, 4, 0, 0)), (32, .aload_n 0, 1, (0, 0, 0, 0)), (33, .iconst (-1), 1, (0, 0, 0, 0)), (34, .putfield 28, 3, (3, 5, 0, 0)), (37, .aload_n 0, 1, (0, 0, 0, 0)), (38, .iconst 0, 1, (0, 0, 0, 0)), (39, .putfield 31, 3, (3, 6, 0, 0)), (42, .aload_n 0, 1, (0, 0, 0, 0)), (43, .iconst 0, 1, (0, 0, 0, 0)), (44, .putfield 34, 3, (3, 7, 0, 0)), (47, .aload_n 0, 1, (0, 0, 0, 0)), (48, .iconst 0, 1, (0, 0, 0, 0)), (49, .putfield 37, 3, (3, 8, 0, 0)), (52, .aload_n 0, 1, (0, 0, 0, 0)), (53, .iconst 0, 1, (0, 0, 0, 0)), (54, .putfield 40, 3, (3, 9, 0, 0)), (57, .aload_n 0, 1, (0, 0, 0, 0)), (58, .iconst 0, 1, (0, 0, 0, 0)), (59, .putfield 43, 3, (3, 10, 0, 0)), (62, .aload_n 0, 1, (0, 0, 0, 0)), (63, .iconst 0, 1, (0, 0, 0, 0)), (64, .putfield 46, 3, (3, 11, 0, 0)), (67, .return_, 1, (0, 0, 0, 0))]
def m_42 : VM := (RX3, yX3_init, cX3_init, 1, none, 1, 20, k_42)
def k_43 : List VE := [(0, .aload_n 0, 1, (0, 0, 0, 0)), (1, .iconst 0, 1, (0, 0, 0, 0)), (2, .putfield 15, 3, (3, 1, 0, 0)), (5, .aload_n 0, 1, (0, 0, 0, 0)), (6, .iload_n 1, 1, (0, 0, 0, 0)), (7, .putfield 19, 3, (3, 2, 0, 0)), (10, .aload_n 0, 1, (0, 0, 0, 0)), (11, .iconst 0, 1, (0, 0, 0, 0)), (12, .putfield 22, 3, (3, 3, 0, 0)), (15, .aload_n 0, 1, (0, 0, 0, 0)), (16, .iconst 0, 1, (0, 0, 0, 0)), (17, .putfield 25, 3, (3, 4, 0, 0)), (20, .aload_n 0, 1, (0, 0, 0, 0)), (21, .iconst (-1), 1, (0, 0, 0, 0)), (22, .putfield 28, 3, (3, 5, 0, 0)), (25, .aload_n 0, 1, (0, 0, 0, 0)), (26, .invokevirtual 49, 3, (52, 1, 0, 0)), (29, .aload_n 0, 1, (0, 0, 0, 0)), (30, .iconst 0, 1, (0, 0, 0, 0)), (31, .putfield 40, 3, (3, 9, 0, 0)), (34, .aload_n 0, 1, (0, 0, 0, 0)), (35, .iconst 0, 1, (0, 0, 0, 0)), (36, .putfield 43, 3, (3, 10, 0, 0)), (39, .aload_n 0, 1, (0, 0, 0, 0)), (40, .iconst 0, 1, (0, 0, 0, 0)), (41, .putfield 46, 3, (3, 11, 0, 0)), (44, .return_, 1, (0, 0, 0, 0))]
def m_43 : VM := (RX3, yX3_begin, cX3_begin, 2, none, 1, 20, k_43)
def k_44 : List VE := [(0, .aload_n 1, 1, (0, 0, 0, 0)), (1, .getfield 9, 3, (3, 0, 1, 1)), (4, .iconst 0, 1, (0, 0, 0, 0)), (5, .aload_n 0, 1, (0, 0, 0, 0)), (6, .getfield 9, 3, (3, 0, 1, 1)), (9, .iconst 0, 1, (0, 0, 0, 0)), (10, .bipush 96, 2, (0, 0, 0, 0)), (12, .invokestatic 52, 3, (0, 5, 6, 0)), (15, .aload_n 0, 1, (0, 0, 0, 0)), (16, .aload_n 1, 1, (0, 0, 0, 0)), (17, .getfield 15, 3, (3, 1, 0, 0)), (20, .putfield 15, 3, (3, 1, 0, 0)), (23, .aload_n 0, 1, (0, 0, 0, 0)), (24, .aload_n 1, 1, (0, 0, 0, 0)), (25, .getfield 19, 3, (3, 2, 0, 0)), (28, .putfield 19, 3, (3, 2, 0, 0)), (31, .aload_n 0, 1, (0, 0, 0, 0)), (32, .aload_n 1, 1, (0, 0, 0, 0)), (33, .getfield 22, 3, (3, 3, 0, 0)), (36, .putfield 22, 3, (3, 3, 0, 0)), (39, .aload_n 0, 1, (0, 0, 0, 0)), (40, .aload_n 1, 1, (0, 0, 0, 0)), (41, .getfield 25, 3, (3, 4, 0, 0)), (44, .putfield 25, 3, (3, 4, 0, 0)), (47, .aload_n 0, 1, (0, 0, 0, 0)), (48, .aload_n 1, 1, (0, 0, 0, 0)), (49, .getfield 28, 3, (3, 5, 0, 0)), (52, .putfield 28, 3, (3, 5, 0, 0)), (55, .aload_n 0, 1, (0, 0, 0, 0)), (56, .aload_n 1, 1, (0, 0, 0, 0)), (57, .getfield 31, 3, (3, 6, 0, 0)), (60, .putfield 31, 3, (3, 6, 0, 0)), (63, .aload_n 0, 1, (0, 0, 0, 0)), (64, .aload_n 1, 1, (0, 0, 0, 0)), (65, .getfield 34, 3, (3, 7, 0, 0)), (68, .putfield 34, 3, (3, 7, 0, 0)), (71, .aload_n 0, 1, (0, 0, 0, 0)), (72, .aload_n 1, 1, (0, 0, 0, 0)), (73, .getfield 37, 3, (3, 8, 0, 0)), (76, .putfield 37, 3, (3, 8, 0, 0)), (79, .aload_n 0, 1, (0, 0, 0, 0)), (80, .aload_n 1, 1, (0, 0, 0, 0)), (81, .getfield 40, 3, (3, 9, 0, 0)), (84, .putfield 40, 3, (3, 9, 0, 0)), (87, .aload_n 0, 1, (0, 0, 0, 0)), (88, .aload_n 1, 1, (0, 0, 0, 0)), (89, .getfield 43, 3, (3, 10, 0, 0)), (92, .putfield 43, 3, (3, 10, 0, 0)), (95, .aload_n 0, 1, (0, 0, 0, 0)), (96, .aload_n 1, 1, (0, 0, 0, 0)), (97, .getfield 46, 3, (3, 11, 0, 0)), (100, .putfield 46, 3, (3, 11, 0, 0)), (103, .return_, 1, (0, 0, 0, 0))]
def m_44 : VM := (RX3, yX3_become, cX3_become, 2, none, 1, 68, k_44)
def k_45 : List VE := [(0, .aload_n 0, 1, (0, 0, 0, 0)), (1, .getfield 15, 3, (3, 1, 0, 0)), (4, .bipush 12, 2, (0, 0, 0, 0)), (6, .imul, 1, (0, 0, 0, 0)), (7, .ireturn, 1, (0, 0, 0, 0))]
def m_45 : VM := (RX3, yX3_placeCount, cX3_placeCount, 1, (some .int), 0, 0, k_45)
def k_46 : List VE := [(0, .iconst 0, 1, (0, 0, 0, 0)), (1, .istore_n 1, 1, (0, 0, 0, 0)), (2, .iload_n 1, 1, (0, 0, 0, 0)), (3, .bipush 12, 2, (0, 0, 0, 0)), (5, .if_icmp .ge 21, 3, (26, 0, 0, 0)), (8, .aload_n 0, 1, (0, 0, 0, 0)), (9, .getfield 9, 3, (3, 0, 1, 1)), (12, .aload_n 0, 1, (0, 0, 0, 0)), (13, .invokevirtual 58, 3, (45, 1, 0, 0)), (16, .iload_n 1, 1, (0, 0, 0, 0)), (17, .iadd, 1, (0, 0, 0, 0)), (18, .iconst (-1), 1, (0, 0, 0, 0)), (19, .iastore, 1, (0, 0, 0, 0)), (20, .iinc 1 1, 3, (0, 0, 0, 0)), (23, .goto (-21), 3, (2, 0, 0, 0)), (26, .aload_n 0, 1, (0, 0, 0, 0)), (27, .dup, 1, (0, 0, 0, 0)), (28, .getfield 15, 3, (3, 1, 0, 0)), (31, .iconst 1, 1, (0, 0, 0, 0)), (32, .iadd, 1, (0, 0, 0, 0)), (33, .putfield 15, 3, (3, 1, 0, 0)), (36, .aload_n 0, 1, (0, 0, 0, 0)), (37, .getfield 15, 3, (3, 1, 0, 0)), (40, .iconst 1, 1, (0, 0, 0, 0)), (41, .isub, 1, (0, 0, 0, 0)), (42, .ireturn, 1, (0, 0, 0, 0))]
def m_46 : VM := (RX3, yX3_addBox, cX3_addBox, 2, (some .int), 1, 20, k_46)
def k_47 : List VE := [(0, .aload_n 1, 1, (0, 0, 0, 0)), (1, .getfield 15, 3, (3, 1, 0, 0)), (4, .iload_n 2, 1, (0, 0, 0, 0)), (5, .isub, 1, (0, 0, 0, 0)), (6, .istore_n 3, 1, (0, 0, 0, 0)), (7, .aload_n 1, 1, (0, 0, 0, 0)), (8, .getfield 9, 3, (3, 0, 1, 1)), (11, .iload_n 2, 1, (0, 0, 0, 0)), (12, .bipush 12, 2, (0, 0, 0, 0)), (14, .imul, 1, (0, 0, 0, 0)), (15, .aload_n 0, 1, (0, 0, 0, 0)), (16, .getfield 9, 3, (3, 0, 1, 1)), (19, .aload_n 0, 1, (0, 0, 0, 0)), (20, .invokevirtual 58, 3, (45, 1, 0, 0)), (23, .iload_n 3, 1, (0, 0, 0, 0)), (24, .bipush 12, 2, (0, 0, 0, 0)), (26, .imul, 1, (0, 0, 0, 0)), (27, .invokestatic 52, 3, (0, 5, 6, 0)), (30, .aload_n 0, 1, (0, 0, 0, 0)), (31, .dup, 1, (0, 0, 0, 0)), (32, .getfield 15, 3, (3, 1, 0, 0)), (35, .iload_n 3, 1, (0, 0, 0, 0)), (36, .iadd, 1, (0, 0, 0, 0)), (37, .putfield 15, 3, (3, 1, 0, 0)), (40, .aload_n 1, 1, (0, 0, 0, 0)), (41, .iload_n 2, 1, (0, 0, 0, 0)), (42, .putfield 15, 3, (3, 1, 0, 0)), (45, .return_, 1, (0, 0, 0, 0))]
def m_47 : VM := (RX3, yX3_takeBoxes, cX3_takeBoxes, 4, none, 1, 68, k_47)
def k_48 : List VE := [(0, .aload_n 0, 1, (0, 0, 0, 0)), (1, .dup, 1, (0, 0, 0, 0)), (2, .getfield 19, 3, (3, 2, 0, 0)), (5, .aload_n 1, 1, (0, 0, 0, 0)), (6, .getfield 19, 3, (3, 2, 0, 0)), (9, .iadd, 1, (0, 0, 0, 0)), (10, .putfield 19, 3, (3, 2, 0, 0)), (13, .aload_n 0, 1, (0, 0, 0, 0)), (14, .dup, 1, (0, 0, 0, 0)), (15, .getfield 22, 3, (3, 3, 0, 0)), (18, .aload_n 1, 1, (0, 0, 0, 0)), (19, .getfield 22, 3, (3, 3, 0, 0)), (22, .iadd, 1, (0, 0, 0, 0)), (23, .putfield 22, 3, (3, 3, 0, 0)), (26, .aload_n 0, 1, (0, 0, 0, 0)), (27, .dup, 1, (0, 0, 0, 0)), (28, .getfield 25, 3, (3, 4, 0, 0)), (31, .aload_n 1, 1, (0, 0, 0, 0)), (32, .getfield 25, 3, (3, 4, 0, 0)), (35, .iadd, 1, (0, 0, 0, 0)), (36, .putfield 25, 3, (3, 4, 0, 0)), (39, .aload_n 0, 1, (0, 0, 0, 0)), (40, .dup, 1, (0, 0, 0, 0)), (41, .getfield 31, 3, (3, 6, 0, 0)), (44, .aload_n 1, 1, (0, 0, 0, 0)), (45, .getfield 31, 3, (3, 6, 0, 0)), (48, .iadd, 1, (0, 0, 0, 0)), (49, .putfield 31, 3, (3, 6, 0, 0)), (52, .aload_n 0, 1, (0, 0, 0, 0)), (53, .dup, 1, (0, 0, 0, 0)), (54, .getfield 34, 3, (3, 7, 0, 0)), (57, .aload_n 1, 1, (0, 0, 0, 0)), (58, .getfield 34, 3, (3, 7, 0, 0)), (61, .iadd, 1, (0, 0, 0, 0)), (62, .putfield 34, 3, (3, 7, 0, 0)), (65, .aload_n 0, 1, (0, 0, 0, 0)), (66, .dup, 1, (0, 0, 0, 0)), (67, .getfield 37, 3, (3, 8, 0, 0)), (70, .aload_n 1, 1, (0, 0, 0, 0)), (71, .getfield 37, 3, (3, 8, 0, 0)), (74, .iadd, 1, (0, 0, 0, 0)), (75, .putfield 37, 3, (3, 8, 0, 0)), (78, .aload_n 0, 1, (0, 0, 0, 0)), (79, .getfield 28, 3, (3, 5, 0, 0)), (82, .iconst (-1), 1, (0, 0, 0, 0)), (83, .if_icmp .ne 11, 3, (94, 0, 0, 0)), (86, .aload_n 0, 1, (0, 0, 0, 0)), (87, .aload_n 1, 1, (0, 0, 0, 0)), (88, .getfield 28, 3, (3, 5, 0, 0)), (91, .putfield 28, 3, (3, 5, 0, 0)), (94, .aload_n 1, 1, (0, 0, 0, 0)), (95, .iconst 0, 1, (0, 0, 0, 0)), (96, .putfield 19, 3, (3, 2, 0, 0)), (99, .aload_n 1, 1, (0, 0, 0, 0)), (100, .iconst 0, 1, (0, 0, 0, 0)), (101, .putfield 22, 3, (3, 3, 0, 0)), (104, .aload_n 1, 1, (0, 0, 0, 0)), (105, .iconst 0, 1, (0, 0, 0, 0)), (106, .putfield 25, 3, (3, 4, 0, 0)), (109, .aload_n 1, 1, (0, 0, 0, 0)), (110, .iconst (-1), 1, (0, 0, 0, 0)), (111, .putfield 28, 3, (3, 5, 0, 0)), (114, .aload_n 1, 1, (0, 0, 0, 0)), (115, .invokevirtual 49, 3, (52, 1, 0, 0)), (118, .return_, 1, (0, 0, 0, 0))]
def m_48 : VM := (RX3, yX3_takeRest, cX3_takeRest, 2, none, 1, 20, k_48)
def k_49 : List VE := [(0, .iload_n 3, 1, (0, 0, 0, 0)), (1, .ifCond .ne 4, 3, (5, 0, 0, 0)), (4, .return_, 1, (0, 0, 0, 0)), (5, .aload_n 1, 1, (0, 0, 0, 0)), (6, .getfield 19, 3, (3, 2, 0, 0)), (9, .i2l, 1, (0, 0, 0, 0)), (10, .iload_n 2, 1, (0, 0, 0, 0)), (11, .i2l, 1, (0, 0, 0, 0)), (12, .lmul, 1, (0, 0, 0, 0)), (13, .iload_n 3, 1, (0, 0, 0, 0)), (14, .i2l, 1, (0, 0, 0, 0)), (15, .ldiv, 1, (0, 0, 0, 0)), (16, .l2i, 1, (0, 0, 0, 0)), (17, .istore 4, 2, (0, 0, 0, 0)), (19, .aload_n 1, 1, (0, 0, 0, 0)), (20, .getfield 22, 3, (3, 3, 0, 0)), (23, .i2l, 1, (0, 0, 0, 0)), (24, .iload_n 2, 1, (0, 0, 0, 0)), (25, .i2l, 1, (0, 0, 0, 0)), (26, .lmul, 1, (0, 0, 0, 0)), (27, .iload_n 3, 1, (0, 0, 0, 0)), (28, .i2l, 1, (0, 0, 0, 0)), (29, .ldiv, 1, (0, 0, 0, 0)), (30, .l2i, 1, (0, 0, 0, 0)), (31, .istore 5, 2, (0, 0, 0, 0)), (33, .aload_n 0, 1, (0, 0, 0, 0)), (34, .dup, 1, (0, 0, 0, 0)), (35, .getfield 19, 3, (3, 2, 0, 0)), (38, .iload 4, 2, (0, 0, 0, 0)), (40, .iadd, 1, (0, 0, 0, 0)), (41, .putfield 19, 3, (3, 2, 0, 0)), (44, .aload_n 0, 1, (0, 0, 0, 0)), (45, .dup, 1, (0, 0, 0, 0)), (46, .getfield 22, 3, (3, 3, 0, 0)), (49, .iload 5, 2, (0, 0, 0, 0)), (51, .iadd, 1, (0, 0, 0, 0)), (52, .putfield 22, 3, (3, 3, 0, 0)), (55, .aload_n 1, 1, (0, 0, 0, 0)), (56, .dup, 1, (0, 0, 0, 0)), (57, .getfield 19, 3, (3, 2, 0, 0)), (60, .iload 4, 2, (0, 0, 0, 0)), (62, .isub, 1, (0, 0, 0, 0)), (63, .putfield 19, 3, (3, 2, 0, 0)), (66, .aload_n 1, 1, (0, 0, 0, 0)), (67, .dup, 1, (0, 0, 0, 0)), (68, .getfield 22, 3, (3, 3, 0, 0)), (71, .iload 5, 2, (0, 0, 0, 0)), (73, .isub, 1, (0, 0, 0, 0)), (74, .putfield 22, 3, (3, 3, 0, 0)), (77, .return_, 1, (0, 0, 0, 0))]
def m_49 : VM := (RX3, yX3_takePart, cX3_takePart, 6, none, 0, 0, k_49)
def k_50 : List VE := [(0, .aload_n 1, 1, (0, 0, 0, 0)), (1, .getfield 62, 3, (7, 0, 0, 0)), (4, .iconst 4, 1, (0, 0, 0, 0)), (5, .if_icmp .ne 12, 3, (17, 0, 0, 0)), (8, .aload_n 0, 1, (0, 0, 0, 0)), (9, .getfield 19, 3, (3, 2, 0, 0)), (12, .iconst 2, 1, (0, 0, 0, 0)), (13, .idiv, 1, (0, 0, 0, 0)), (14, .goto 9, 3, (23, 0, 0, 0)), (17, .aload_n 0, 1, (0, 0, 0, 0)), (18, .getfield 19, 3, (3, 2, 0, 0)), (21, .iconst 3, 1, (0, 0, 0, 0)), (22, .idiv, 1, (0, 0, 0, 0)), (23, .istore_n 2, 1, (0, 0, 0, 0)), (24, .aload_n 0, 1, (0, 0, 0, 0)), (25, .dup, 1, (0, 0, 0, 0)), (26, .getfield 19, 3, (3, 2, 0, 0)), (29, .iload_n 2, 1, (0, 0, 0, 0)), (30, .isub, 1, (0, 0, 0, 0)), (31, .putfield 19, 3, (3, 2, 0, 0)), (34, .aload_n 1, 1, (0, 0, 0, 0)), (35, .iload_n 2, 1, (0, 0, 0, 0)), (36, .putfield 67, 3, (7, 7, 0, 0)), (39, .aload_n 1, 1, (0, 0, 0, 0)), (40, .getfield 62, 3, (7, 0, 0, 0)), (43, .iconst 4, 1, (0, 0, 0, 0)), (44, .if_icmp .ne 16, 3, (60, 0, 0, 0)), (47, .aload_n 1, 1, (0, 0, 0, 0)), (48, .aload_n 0, 1, (0, 0, 0, 0)), (49, .getfield 28, 3, (3, 5, 0, 0)), (52, .putfield 70, 3, (7, 8, 0, 0)), (55, .aload_n 0, 1, (0, 0, 0, 0)), (56, .iconst (-1), 1, (0, 0, 0, 0)), (57, .putfield 28, 3, (3, 5, 0, 0)), (60, .return_, 1, (0, 0, 0, 0))]
def m_50 : VM := (RX3, yX3_sendOff, cX3_sendOff, 3, none, 0, 0, k_50)
def k_51 : List VE := [(0, .aload_n 0, 1, (0, 0, 0, 0)), (1, .dup, 1, (0, 0, 0, 0)), (2, .getfield 19, 3, (3, 2, 0, 0)), (5, .iload_n 2, 1, (0, 0, 0, 0)), (6, .iadd, 1, (0, 0, 0, 0)), (7, .putfield 19, 3, (3, 2, 0, 0)), (10, .aload_n 1, 1, (0, 0, 0, 0)), (11, .iconst 0, 1, (0, 0, 0, 0)), (12, .putfield 67, 3, (7, 7, 0, 0)), (15, .aload_n 0, 1, (0, 0, 0, 0)), (16, .getfield 28, 3, (3, 5, 0, 0)), (19, .iconst (-1), 1, (0, 0, 0, 0)), (20, .if_icmp .ne 11, 3, (31, 0, 0, 0)), (23, .aload_n 0, 1, (0, 0, 0, 0)), (24, .aload_n 1, 1, (0, 0, 0, 0)), (25, .getfield 70, 3, (7, 8, 0, 0)), (28, .putfield 28, 3, (3, 5, 0, 0)), (31, .aload_n 1, 1, (0, 0, 0, 0)), (32, .iconst (-1), 1, (0, 0, 0, 0)), (33, .putfield 70, 3, (7, 8, 0, 0)), (36, .return_, 1, (0, 0, 0, 0))]
def m_51 : VM := (RX3, yX3_takeIn, cX3_takeIn, 3, none, 0, 0, k_51)
def k_52 : List VE := [(0, .aload_n 0, 1, (0, 0, 0, 0)), (1, .iconst 0, 1, (0, 0, 0, 0)), (2, .putfield 31, 3, (3, 6, 0, 0)), (5, .aload_n 0, 1, (0, 0, 0, 0)), (6, .iconst 0, 1, (0, 0, 0, 0)), (7, .putfield 34, 3, (3, 7, 0, 0)), (10, .aload_n 0, 1, (0, 0, 0, 0)), (11, .iconst 0, 1, (0, 0, 0, 0)), (12, .putfield 37, 3, (3, 8, 0, 0)), (15, .return_, 1, (0, 0, 0, 0))]
def m_52 : VM := (RX3, yX3_forgetWashings, cX3_forgetWashings, 1, none, 0, 0, k_52)
def k_53 : List VE := [(0, .iconst 0, 1, (0, 0, 0, 0)), (1, .istore_n 1, 1, (0, 0, 0, 0)), (2, .iload_n 1, 1, (0, 0, 0, 0)), (3, .aload_n 0, 1, (0, 0, 0, 0)), (4, .invokevirtual 58, 3, (45, 1, 0, 0)), (7, .if_icmp .ge 21, 3, (28, 0, 0, 0)), (10, .aload_n 0, 1, (0, 0, 0, 0)), (11, .getfield 9, 3, (3, 0, 1, 1)), (14, .iload_n 1, 1, (0, 0, 0, 0)), (15, .iaload, 1, (0, 0, 0, 0)), (16, .iconst (-1), 1, (0, 0, 0, 0)), (17, .if_icmp .ne 5, 3, (22, 0, 0, 0)), (20, .iload_n 1, 1, (0, 0, 0, 0)), (21, .ireturn, 1, (0, 0, 0, 0)), (22, .iinc 1 1, 3, (0, 0, 0, 0)), (25, .goto (-23), 3, (2, 0, 0, 0)), (28, .iconst (-1), 1, (0, 0, 0, 0)), (29, .ireturn, 1, (0, 0, 0, 0))]
def m_53 : VM := (RX3, yX3_freePlace, cX3_freePlace, 2, (some .int), 1, 20, k_53)
def k_54 : List VE := [(0, .iconst 0, 1, (0, 0, 0, 0)), (1, .istore_n 1, 1, (0, 0, 0, 0)), (2, .iconst 0, 1, (0, 0, 0, 0)), (3, .istore_n 2, 1, (0, 0, 0, 0)), (4, .iload_n 2, 1, (0, 0, 0, 0)), (5, .aload_n 0, 1, (0, 0, 0, 0)), (6, .invokevirtual 58, 3, (45, 1, 0, 0)), (9, .if_icmp .ge 22, 3, (31, 0, 0, 0)), (12, .aload_n 0, 1, (0, 0, 0, 0)), (13, .getfield 9, 3, (3, 0, 1, 1)), (16, .iload_n 2, 1, (0, 0, 0, 0)), (17, .iaload, 1, (0, 0, 0, 0)), (18, .iconst (-1), 1, (0, 0, 0, 0)), (19, .if_icmp .ne 6, 3, (25, 0, 0, 0)), (22, .iinc 1 1, 3, (0, 0, 0, 0)), (25, .iinc 2 1, 3, (0, 0, 0, 0)), (28, .goto (-24), 3, (4, 0, 0, 0)), (31, .iload_n 1, 1, (0, 0, 0, 0)), (32, .ireturn, 1, (0, 0, 0, 0))]
def m_54 : VM := (RX3, yX3_countFreePlaces, cX3_countFreePlaces, 3, (some .int), 1, 20, k_54)
def k_55 : List VE := [(0, .iload_n 1, 1, (0, 0, 0, 0)), (1, .tableswitch 60 0 4 #[35, 40, 45, 50, 55], 35, (0, 0, 0, 0)), (36, .aload_n 0, 1, (0, 0, 0, 0)), (37, .getfield 19, 3, (3, 2, 0, 0)), (40, .ireturn, 1, (0, 0, 0, 0)), (41, .aload_n 0, 1, (0, 0, 0, 0)), (42, .getfield 22, 3, (3, 3, 0, 0)), (45, .ireturn, 1, (0, 0, 0, 0)), (46, .aload_n 0, 1, (0, 0, 0, 0)), (47, .getfield 25, 3, (3, 4, 0, 0)), (50, .ireturn, 1, (0, 0, 0, 0)), (51, .aload_n 0, 1, (0, 0, 0, 0)), (52, .getfield 15, 3, (3, 1, 0, 0)), (55, .ireturn, 1, (0, 0, 0, 0)), (56, .aload_n 0, 1, (0, 0, 0, 0)), (57, .getfield 46, 3, (3, 11, 0, 0)), (60, .ireturn, 1, (0, 0, 0, 0)), (61, .aload_n 0, 1, (0, 0, 0, 0)), (62, .invokevirtual 73, 3, (54, 1, 0, 0)), (65, .ireturn, 1, (0, 0, 0, 0))]
def m_55 : VM := (RX3, yX3_number, cX3_number, 2, (some .int), 2, 42, k_55)
def k_56 : List VE := [(0, .iload_n 1, 1, (0, 0, 0, 0)), (1, .bipush 31, 2, (0, 0, 0, 0)), (3, .imul, 1, (0, 0, 0, 0)), (4, .aload_n 0, 1, (0, 0, 0, 0)), (5, .getfield 19, 3, (3, 2, 0, 0)), (8, .iadd, 1, (0, 0, 0, 0)), (9, .istore_n 2, 1, (0, 0, 0, 0)), (10, .iload_n 2, 1, (0, 0, 0, 0)), (11, .bipush 31, 2, (0, 0, 0, 0)), (13, .imul, 1, (0, 0, 0, 0)), (14, .aload_n 0, 1, (0, 0, 0, 0)), (15, .getfield 22, 3, (3, 3, 0, 0)), (18, .iadd, 1, (0, 0, 0, 0)), (19, .istore_n 2, 1, (0, 0, 0, 0)), (20, .iload_n 2, 1, (0, 0, 0, 0)), (21, .bipush 31, 2, (0, 0, 0, 0)), (23, .imul, 1, (0, 0, 0, 0)), (24, .aload_n 0, 1, (0, 0, 0, 0)), (25, .getfield 25, 3, (3, 4, 0, 0)), (28, .iadd, 1, (0, 0, 0, 0)), (29, .istore_n 2, 1, (0, 0, 0, 0)), (30, .iload_n 2, 1, (0, 0, 0, 0)), (31, .bipush 31, 2, (0, 0, 0, 0)), (33, .imul, 1, (0, 0, 0, 0)), (34, .aload_n 0, 1, (0, 0, 0, 0)), (35, .getfield 15, 3, (3, 1, 0, 0)), (38, .iadd, 1, (0, 0, 0, 0)), (39, .istore_n 2, 1, (0, 0, 0, 0)), (40, .iload_n 2, 1, (0, 0, 0, 0)), (41, .bipush 31, 2, (0, 0, 0, 0)), (43, .imul, 1, (0, 0, 0, 0)), (44, .aload_n 0, 1, (0, 0, 0, 0)), (45, .getfield 34, 3, (3, 7, 0, 0)), (48, .iadd, 1, (0, 0, 0, 0)), (49, .istore_n 2, 1, (0, 0, 0, 0)), (50, .iload_n 2, 1, (0, 0, 0, 0)), (51, .bipush 31, 2, (0, 0, 0, 0)), (53, .imul, 1, (0, 0, 0, 0)), (54, .aload_n 0, 1, (0, 0, 0, 0)), (55, .getfield 37, 3, (3, 8, 0, 0)), (58, .iadd, 1, (0, 0, 0, 0)), (59, .ireturn, 1, (0, 0, 0, 0))]
def m_56 : VM := (RX3, yX3_digestFrom, cX3_digestFrom, 3, (some .int), 0, 0, k_56)
def k_57 : List VE := [(0, .aload_n 0, 1, (0, 0, 0, 0)), (1, .invokespecial 3, 3, (0, 1, 5, 0)), (4, .aload_n 0, 1, (0, 0, 0, 0)), (5, .sipush 200, 3, (0, 0, 0, 0)), (8, .newarray .boolean, 2, (12, 1, 26, 0)), (10, .putfield 9, 3, (4, 0, 1, 1)), (13, .aload_n 0, 1, (0, 0, 0, 0)), (14, .sipush 200, 3, (0, 0, 0, 0)), (17, .newarray .int, 2, (11, 1, 27, 0)), (19, .putfield 15, 3, (4, 1, 1, 1)), (22, .aload_n 0, 1, (0, 0, 0, 0)), (23, .sipush 200, 3, (0, 0, 0, 0)), (26, .newarray .int, 2, (11, 1, 28, 0)), (28, .putfield 19, 3, (4, 2, 1, 1)), (31, .aload_n 0, 1, (0, 0, 0, 0)), (32, .sipush 200, 3, (0, 0, 0, 0)), (35, .newarray .int, 2, (11, 1, 29, 0)), (37, .putfield 22, 3, (4, 3, 1, 1)), (40, .aload_n 0, 1, (0, 0, 0, 0)), (41, .iconst 0, 1, (0, 0, 0, 0)), (42, .putfield 25, 3, (4, 4, 0, 0)), (45, .aload_n 0, 1, (0, 0, 0, 0)), (46, .bipush 16, 2, (0, 0, 0, 0)), (48, .newarray .int, 2, (11, 3, 30, 0)), (50, .putfield 29, 3, (4, 5, 1, 0)), (53, .return_, 1, (0, 0, 0, 0))]
def m_57 : VM := (RX4, yX4_init, cX4_init, 1, none, 1, 20, k_57)
def k_58 : List VE := [(0, .iload_n 1, 1, (0, 0, 0, 0)), (1, .iconst (-1), 1, (0, 0, 0, 0)), (2, .if_icmp .eq 16, 3, (18, 0, 0, 0)), (5, .aload_n 0, 1, (0, 0, 0, 0)), (6, .getfield 9, 3, (4, 0, 1, 1)), (9, .iload_n 1, 1, (0, 0, 0, 0)), (10, .baload, 1, (0, 0, 0, 0)), (11, .ifCond .eq 7, 3, (18, 0, 0, 0)), (14, .iconst 1, 1, (0, 0, 0, 0)), (15, .goto 4, 3, (19, 0, 0, 0)), (18, .iconst 0, 1, (0, 0, 0, 0)), (19, .ireturn, 1, (1, 0, 0, 0))]
def m_58 : VM := (RX4, yX4_isMarked, cX4_isMarked, 2, (some .boolean), 0, 0, k_58)
def k_59 : List VE := [(0, .iconst 0, 1, (0, 0, 0, 0)), (1, .istore_n 1, 1, (0, 0, 0, 0)), (2, .iload_n 1, 1, (0, 0, 0, 0)), (3, .sipush 200, 3, (0, 0, 0, 0)), (6, .if_icmp .ge 16, 3, (22, 0, 0, 0)), (9, .aload_n 0, 1, (0, 0, 0, 0)), (10, .getfield 9, 3, (4, 0, 1, 1)), (13, .iload_n 1, 1, (0, 0, 0, 0)), (14, .iconst 0, 1, (0, 0, 0, 0)), (15, .bastore, 1, (0, 0, 0, 0)), (16, .iinc 1 1, 3, (0, 0, 0, 0)), (19, .goto (-17), 3, (2, 0, 0, 0)), (22, .return_, 1, (0, 0, 0, 0))]
def m_59 : VM := (RX4, yX4_clearMarks, cX4_clearMarks, 2, none, 0, 0, k_59)
def k_60 : List VE := [(0, .aload_n 0, 1, (0, 0, 0, 0)), (1, .invokevirtual 32, 3, (59, 1, 0, 0)), (4, .aload_n 0, 1, (0, 0, 0, 0)), (5, .getfield 9, 3, (4, 0, 1, 1)), (8, .iload_n 2, 1, (0, 0, 0, 0)), (9, .iconst 1, 1, (0, 0, 0, 0)), (10, .bastore, 1, (0, 0, 0, 0)), (11, .iconst 1, 1, (0, 0, 0, 0)), (12, .istore_n 3, 1, (0, 0, 0, 0)), (13, .iconst 0, 1, (0, 0, 0, 0)), (14, .istore 4, 2, (0, 0, 0, 0)), (16, .iload 4, 2, (0, 0, 0, 0)), (18, .bipush 15, 2, (0, 0, 0, 0)), (20, .if_icmp .gt 85, 3, (105, 0, 0, 0)), (23, .iload_n 3, 1, (0, 0, 0, 0)), (24, .ifCond .eq 81, 3, (105, 0, 0, 0)), (27, .iconst 0, 1, (0, 0, 0, 0)), (28, .istore_n 3, 1, (0, 0, 0, 0)), (29, .iconst 0, 1, (0, 0, 0, 0)), (30, .istore 5, 2, (0, 0, 0, 0)), (32, .iload 5, 2, (0, 0, 0, 0)), (34, .aload_n 1, 1, (0, 0, 0, 0)), (35, .getfield 35, 3, (8, 7, 0, 0)), (38, .if_icmp .ge 61, 3, (99, 0, 0, 0)), (41, .aload_n 1, 1, (0, 0, 0, 0)), (42, .iload 5, 2, (0, 0, 0, 0)), (44, .invokevirtual 40, 3, (93, 2, 0, 0)), (47, .astore 6, 2, (0, 0, 0, 0)), (49, .aload_n 0, 1, (0, 0, 0, 0)), (50, .getfield 9, 3, (4, 0, 1, 1)), (53, .iload 5, 2, (0, 0, 0, 0)), (55, .baload, 1, (0, 0, 0, 0)), (56, .ifCond .ne 37, 3, (93, 0, 0, 0)), (59, .aload_n 0, 1, (0, 0, 0, 0)), (60, .aload 6, 2, (0, 0, 0, 0)), (62, .getfield 44, 3, (7, 2, 0, 0)), (65, .invokevirtual 49, 3, (58, 2, 0, 0)), (68, .ifCond .ne 15, 3, (83, 0, 0, 0)), (71, .aload_n 0, 1, (0, 0, 0, 0)), (72, .aload 6, 2, (0, 0, 0, 0)), (74, .getfield 53, 3, (7, 3, 0, 0)), (77, .invokevirtual 49, 3, (58, 2, 0, 0)), (80, .ifCond .eq 13, 3, (93, 0, 0, 0)), (83, .aload_n 0, 1, (0, 0, 0, 0)), (84, .getfield 9, 3, (4, 0, 1, 1)), (87, .iload 5, 2, (0, 0, 0, 0)), (89, .iconst 1, 1, (0, 0, 0, 0)), (90, .bastore, 1, (0, 0, 0, 0)), (91, .iconst 1, 1, (0, 0, 0, 0)), (92, .istore_n 3, 1, (0, 0, 0, 0)), (93, .iinc 5 1, 3, (0, 0, 0, 0)), (96, .goto (-64), 3, (32, 0, 0, 0)), (99, .iinc 4 1, 3, (0, 0, 0, 0)), (102, .goto (-86), 3, (16, 0, 0, 0)), (105, .return_, 1, (0, 0, 0, 0))]
def m_60 : VM := (RX4, yX4_markFrom, cX4_markFrom, 7, none, 3, 61, k_60)
def k_61 : List VE := [(0, .iconst 0, 1, (0, 0, 0, 0)), (1, .istore 5, 2, (0, 0, 0, 0)), (3, .iload 5, 2, (0, 0, 0, 0)), (5, .aload_n 1, 1, (0, 0, 0, 0)), (6, .getfield 35, 3, (8, 7, 0, 0)), (9, .if_icmp .ge 25, 3, (34, 0, 0, 0)), (12, .aload_n 0, 1, (0, 0, 0, 0)), (13, .getfield 15, 3, (4, 1, 1, 1)), (16, .iload 5, 2, (0, 0, 0, 0)), (18, .aload_n 1, 1, (0, 0, 0, 0)), (19, .iload 5, 2, (0, 0, 0, 0)), (21, .invokevirtual 40, 3, (93, 2, 0, 0)), (24, .getfield 56, 3, (7, 4, 0, 0)), (27, .iastore, 1, (0, 0, 0, 0)), (28, .iinc 5 1, 3, (0, 0, 0, 0)), (31, .goto (-28), 3, (3, 0, 0, 0)), (34, .aload_n 0, 1, (0, 0, 0, 0)), (35, .getfield 15, 3, (4, 1, 1, 1)), (38, .iload_n 2, 1, (0, 0, 0, 0)), (39, .aload_n 0, 1, (0, 0, 0, 0)), (40, .iload_n 3, 1, (0, 0, 0, 0)), (41, .iload 4, 2, (0, 0, 0, 0)), (43, .invokevirtual 59, 3, (62, 3, 0, 0)), (46, .iastore, 1, (0, 0, 0, 0)), (47, .aload_n 0, 1, (0, 0, 0, 0)), (48, .getfield 15, 3, (4, 1, 1, 1)), (51, .iload_n 2, 1, (0, 0, 0, 0)), (52, .iaload, 1, (0, 0, 0, 0)), (53, .istore 5, 2, (0, 0, 0, 0)), (55, .iconst 1, 1, (0, 0, 0, 0)), (56, .istore 6, 2, (0, 0, 0, 0)), (58, .iload 6, 2, (0, 0, 0, 0)), (60, .bipush 15, 2, (0, 0, 0, 0)), (62, .if_icmp .gt 96, 3, (158, 0, 0, 0)), (65, .iconst 0, 1, (0, 0, 0, 0)), (66, .istore 7, 2, (0, 0, 0, 0)), (68, .iload 7, 2, (0, 0, 0, 0)), (70, .aload_n 1, 1, (0, 0, 0, 0)), (71, .getfield 35, 3, (8, 7, 0, 0)), (74, .if_icmp .ge 78, 3, (152, 0, 0, 0)), (77, .aload_n 1, 1, (0, 0, 0, 0)), (78, .iload 7, 2, (0, 0, 0, 0)), (80, .invokevirtual 40, 3, (93, 2, 0, 0)), (83, .astore 8, 2, (0, 0, 0, 0)), (85, .iload 7, 2, (0, 0, 0, 0)), (87, .iload_n 2, 1, (0, 0, 0, 0)), (88, .if_icmp .eq 58, 3, (146, 0, 0, 0)), (91, .aload_n 0, 1, (0, 0, 0, 0)), (92, .getfield 9, 3, (4, 0, 1, 1)), (95, .iload 7, 2, (0, 0, 0, 0)), (97, .baload, 1, (0, 0, 0, 0)), (98, .ifCond .eq 48, 3, (146, 0, 0, 0)), (101, .aload 8, 2, (0, 0, 0, 0)), (103, .getfield 56, 3, (7, 4, 0, 0)), (106, .iload 6, 2, (0, 0, 0, 0)), (108, .if_icmp .ne 38, 3, (146, 0, 0, 0)), (111, .aload_n 0, 1, (0, 0, 0, 0)), (112, .getfield 15, 3, (4, 1, 1, 1)), (115, .iload 7, 2, (0, 0, 0, 0)), (117, .aload_n 0, 1, (0, 0, 0, 0)), (118, .aload 8, 2, (0, 0, 0, 0)), (120, .getfield 44, 3, (7, 2, 0, 0)), (123, .aload 8, 2, (0, 0, 0, 0)), (125, .getfield 53, 3, (7, 3, 0, 0)), (128, .invokevirtual 59, 3, (62, 3, 0, 0)), (131, .iastore, 1, (0, 0, 0, 0)), (132, .iload 5, 2, (0, 0, 0, 0)), (134, .aload_n 0, 1, (0, 0, 0, 0)), (135, .getfield 15, 3, (4, 1, 1, 1)), (138, .iload 7, 2, (0, 0, 0, 0)), (140, .iaload, 1, (0, 0, 0, 0)), (141, .invokestatic 63, 3, (0, 2, 7, 0)), (144, .istore 5, 2, (0, 0, 0, 0)), (146, .iinc 7 1, 3, (0, 0, 0, 0)), (149, .goto (-81), 3, (68, 0, 0, 0)), (152, .iinc 6 1, 3, (0, 0, 0, 0)), (155, .goto (-97), 3, (58, 0, 0, 0)), (158, .iload 5, 2, (0, 0, 0, 0)), (160, .ireturn, 1, (0, 0, 0, 0))]
def m_61 : VM := (RX4, yX4_deepestWith, cX4_deepestWith, 9, (some .int), 3, 61, k_61)
def k_62 : List VE := [(0, .iload_n 1, 1, (0, 0, 0, 0)), (1, .iconst (-1), 1, (0, 0, 0, 0)), (2, .if_icmp .ne 7, 3, (9, 0, 0, 0)), (5, .iconst (-1), 1, (0, 0, 0, 0)), (6, .goto 9, 3, (15, 0, 0, 0)), (9, .aload_n 0, 1, (0, 0, 0, 0)), (10, .getfield 15, 3, (4, 1, 1, 1)), (13, .iload_n 1, 1, (0, 0, 0, 0)), (14, .iaload, 1, (0, 0, 0, 0)), (15, .istore_n 3, 1, (0, 0, 0, 0)), (16, .iconst 1, 1, (0, 0, 0, 0)), (17, .iload_n 3, 1, (0, 0, 0, 0)), (18, .iload_n 2, 1, (0, 0, 0, 0)), (19, .iconst (-1), 1, (0, 0, 0, 0)), (20, .if_icmp .ne 7, 3, (27, 0, 0, 0)), (23, .iconst (-1), 1, (0, 0, 0, 0)), (24, .goto 9, 3, (33, 0, 0, 0)), (27, .aload_n 0, 1, (0, 0, 0, 0)), (28, .getfield 15, 3, (4, 1, 1, 1)), (31, .iload_n 2, 1, (0, 0, 0, 0)), (32, .iaload, 1, (0, 0, 0, 0)), (33, .invokestatic 63, 3, (0, 2, 7, 0)), (36, .iadd, 1, (0, 0, 0, 0)), (37, .ireturn, 1, (0, 0, 0, 0))]
def m_62 : VM := (RX4, yX4_depthBelow, cX4_depthBelow, 4, (some .int), 1, 23, k_62)
def k_63 : List VE := [(0, .iconst 0, 1, (0, 0, 0, 0)), (1, .istore_n 2, 1, (0, 0, 0, 0)), (2, .iload_n 2, 1, (0, 0, 0, 0)), (3, .aload_n 1, 1, (0, 0, 0, 0)), (4, .getfield 35, 3, (8, 7, 0, 0)), (7, .if_icmp .ge 23, 3, (30, 0, 0, 0)), (10, .aload_n 1, 1, (0, 0, 0, 0)), (11, .iload_n 2, 1, (0, 0, 0, 0)), (12, .invokevirtual 40, 3, (93, 2, 0, 0)), (15, .aload_n 0, 1, (0, 0, 0, 0)), (16, .getfield 15, 3, (4, 1, 1, 1)), (19, .iload_n 2, 1, (0, 0, 0, 0)), (20, .iaload, 1, (0, 0, 0, 0)), (21, .putfield 56, 3, (7, 4, 0, 0)), (24, .iinc 2 1, 3, (0, 0, 0, 0)), (27, .goto (-25), 3, (2, 0, 0, 0)), (30, .return_, 1, (0, 0, 0, 0))]
def m_63 : VM := (RX4, yX4_writeDepths, cX4_writeDepths, 3, none, 3, 61, k_63)
def k_64 : List VE := [(0, .aload_n 0, 1, (0, 0, 0, 0)), (1, .aload_n 1, 1, (0, 0, 0, 0)), (2, .iload_n 2, 1, (0, 0, 0, 0)), (3, .iload_n 3, 1, (0, 0, 0, 0)), (4, .invokevirtual 68, 3, (65, 4, 0, 0)), (7, .aload_n 0, 1, (0, 0, 0, 0)), (8, .aload_n 1, 1, (0, 0, 0, 0)), (9, .invokevirtual 72, 3, (67, 2, 0, 0)), (12, .aload_n 0, 1, (0, 0, 0, 0)), (13, .invokevirtual 76, 3, (69, 1, 0, 0)), (16, .iconst 1, 1, (0, 0, 0, 0)), (17, .istore 4, 2, (0, 0, 0, 0)), (19, .iload 4, 2, (0, 0, 0, 0)), (21, .aload_n 0, 1, (0, 0, 0, 0)), (22, .getfield 25, 3, (4, 4, 0, 0)), (25, .if_icmp .ge 85, 3, (110, 0, 0, 0)), (28, .aload_n 1, 1, (0, 0, 0, 0)), (29, .aload_n 0, 1, (0, 0, 0, 0)), (30, .getfield 19, 3, (4, 2, 1, 1)), (33, .iload 4, 2, (0, 0, 0, 0)), (35, .iaload, 1, (0, 0, 0, 0)), (36, .invokevirtual 40, 3, (93, 2, 0, 0)), (39, .astore 5, 2, (0, 0, 0, 0)), (41, .iconst 0, 1, (0, 0, 0, 0)), (42, .istore 6, 2, (0, 0, 0, 0)), (44, .iload 6, 2, (0, 0, 0, 0)), (46, .iload 4, 2, (0, 0, 0, 0)), (48, .if_icmp .ge 56, 3, (104, 0, 0, 0)), (51, .aload_n 0, 1, (0, 0, 0, 0)), (52, .aload 5, 2, (0, 0, 0, 0)), (54, .getfield 44, 3, (7, 2, 0, 0)), (57, .iload 6, 2, (0, 0, 0, 0)), (59, .invokevirtual 79, 3, (71, 3, 0, 0)), (62, .i2l, 1, (0, 0, 0, 0)), (63, .aload_n 0, 1, (0, 0, 0, 0)), (64, .aload 5, 2, (0, 0, 0, 0)), (66, .getfield 53, 3, (7, 3, 0, 0)), (69, .iload 6, 2, (0, 0, 0, 0)), (71, .invokevirtual 79, 3, (71, 3, 0, 0)), (74, .i2l, 1, (0, 0, 0, 0)), (75, .ladd, 1, (0, 0, 0, 0)), (76, .lstore 7, 2, (0, 0, 0, 0)), (78, .aload_n 0, 1, (0, 0, 0, 0)), (79, .getfield 29, 3, (4, 5, 1, 0)), (82, .aload_n 0, 1, (0, 0, 0, 0)), (83, .iload 4, 2, (0, 0, 0, 0)), (85, .iload 6, 2, (0, 0, 0, 0)), (87, .invokevirtual 82, 3, (70, 3, 0, 0)), (90, .lload 7, 2, (0, 0, 0, 0)), (92, .ldc2_w 85, 3, (0, 0, 0, 2)), (95, .ldiv, 1, (0, 0, 0, 0)), (96, .l2i, 1, (0, 0, 0, 0)), (97, .iastore, 1, (0, 0, 0, 0)), (98, .iinc 6 1, 3, (0, 0, 0, 0)), (101, .goto (-57), 3, (44, 0, 0, 0)), (104, .iinc 4 1, 3, (0, 0, 0, 0)), (107, .goto (-88), 3, (19, 0, 0, 0)), (110, .aload_n 0, 1, (0, 0, 0, 0)), (111, .aload_n 0, 1, (0, 0, 0, 0)), (112, .getfield 22, 3, (4, 3, 1, 1)), (115, .iload_n 2, 1, (0, 0, 0, 0)), (116, .iaload, 1, (0, 0, 0, 0)), (117, .aload_n 0, 1, (0, 0, 0, 0)), (118, .getfield 22, 3, (4, 3, 1, 1)), (121, .iload_n 3, 1, (0, 0, 0, 0)), (122, .iaload, 1, (0, 0, 0, 0)), (123, .invokevirtual 87, 3, (72, 3, 0, 0)), (126, .ireturn, 1, (0, 0, 0, 0))]
def m_64 : VM := (RX4, yX4_kinParts, cX4_kinParts, 9, (some .int), 5, 110, k_64)
def k_65 : List VE := [(0, .aload_n 0, 1, (0, 0, 0, 0)), (1, .invokevirtual 32, 3, (59, 1, 0, 0)), (4, .aload_n 0, 1, (0, 0, 0, 0)), (5, .iconst 0, 1, (0, 0, 0, 0)), (6, .putfield 25, 3, (4, 4, 0, 0)), (9, .aload_n 0, 1, (0, 0, 0, 0)), (10, .iload_n 2, 1, (0, 0, 0, 0)), (11, .invokevirtual 90, 3, (66, 2, 0, 0)), (14, .aload_n 0, 1, (0, 0, 0, 0)), (15, .iload_n 3, 1, (0, 0, 0, 0)), (16, .invokevirtual 90, 3, (66, 2, 0, 0)), (19, .iconst 0, 1, (0, 0, 0, 0)), (20, .istore 4, 2, (0, 0, 0, 0)), (22, .iload 4, 2, (0, 0, 0, 0)), (24, .aload_n 0, 1, (0, 0, 0, 0)), (25, .getfield 25, 3, (4, 4, 0, 0)), (28, .if_icmp .ge 48, 3, (76, 0, 0, 0)), (31, .iload 4, 2, (0, 0, 0, 0)), (33, .sipush 200, 3, (0, 0, 0, 0)), (36, .if_icmp .ge 40, 3, (76, 0, 0, 0)), (39, .aload_n 1, 1, (0, 0, 0, 0)), (40, .aload_n 0, 1, (0, 0, 0, 0)), (41, .getfield 19, 3, (4, 2, 1, 1)), (44, .iload 4, 2, (0, 0, 0, 0)), (46, .iaload, 1, (0, 0, 0, 0)), (47, .invokevirtual 40, 3, (93, 2, 0, 0)), (50, .astore 5, 2, (0, 0, 0, 0)), (52, .aload_n 0, 1, (0, 0, 0, 0)), (53, .aload 5, 2, (0, 0, 0, 0)), (55, .getfield 44, 3, (7, 2, 0, 0)), (58, .invokevirtual 90, 3, (66, 2, 0, 0)), (61, .aload_n 0, 1, (0, 0, 0, 0)), (62, .aload 5, 2, (0, 0, 0, 0)), (64, .getfield 53, 3, (7, 3, 0, 0)), (67, .invokevirtual 90, 3, (66, 2, 0, 0)), (70, .iinc 4 1, 3, (0, 0, 0, 0)), (73, .goto (-51), 3, (22, 0, 0, 0)), (76, .return_, 1, (0, 0, 0, 0))]
def m_65 : VM := (RX4, yX4_gatherAncestors, cX4_gatherAncestors, 6, none, 3, 61, k_65)
def k_66 : List VE := [(0, .iload_n 1, 1, (0, 0, 0, 0)), (1, .iconst (-1), 1, (0, 0, 0, 0)), (2, .if_icmp .eq 49, 3, (51, 0, 0, 0)), (5, .aload_n 0, 1, (0, 0, 0, 0)), (6, .getfield 9, 3, (4, 0, 1, 1)), (9, .iload_n 1, 1, (0, 0, 0, 0)), (10, .baload, 1, (0, 0, 0, 0)), (11, .ifCond .ne 40, 3, (51, 0, 0, 0)), (14, .aload_n 0, 1, (0, 0, 0, 0)), (15, .getfield 25, 3, (4, 4, 0, 0)), (18, .sipush 200, 3, (0, 0, 0, 0)), (21, .if_icmp .ge 30, 3, (51, 0, 0, 0)), (24, .aload_n 0, 1, (0, 0, 0, 0)), (25, .getfield 9, 3, (4, 0, 1, 1)), (28, .iload_n 1, 1, (0, 0, 0, 0)), (29, .iconst 1, 1, (0, 0, 0, 0)), (30, .bastore, 1, (0, 0, 0, 0)), (31, .aload_n 0, 1, (0, 0, 0, 0)), (32, .getfield 19, 3, (4, 2, 1, 1)), (35, .aload_n 0, 1, (0, 0, 0, 0)), (36, .getfield 25, 3, (4, 4, 0, 0)), (39, .iload_n 1, 1, (0, 0, 0, 0)), (40, .iastore, 1, (0, 0, 0, 0)), (41, .aload_n 0, 1, (0, 0, 0, 0)), (42, .dup, 1, (0, 0, 0, 0)), (43, .getfield 25, 3, (4, 4, 0, 0)), (46, .iconst 1, 1, (0, 0, 0, 0)), (47, .iadd, 1, (0, 0, 0, 0)), (48, .putfield 25, 3, (4, 4, 0, 0)), (51, .return_, 1, (0, 0, 0, 0))]
def m_66 : VM := (RX4, yX4_gather, cX4_gather, 2, none, 0, 0, k_66)
def k_67 : List VE := [(0, .iconst 1, 1, (0, 0, 0, 0)), (1, .istore_n 2, 1, (0, 0, 0, 0)), (2, .iload_n 2, 1, (0, 0, 0, 0)), (3, .aload_n 0, 1, (0, 0, 0, 0)), (4, .getfield 25, 3, (4, 4, 0, 0)), (7, .if_icmp .ge 72, 3, (79, 0, 0, 0)), (10, .aload_n 0, 1, (0, 0, 0, 0)), (11, .getfield 19, 3, (4, 2, 1, 1)), (14, .iload_n 2, 1, (0, 0, 0, 0)), (15, .iaload, 1, (0, 0, 0, 0)), (16, .istore_n 3, 1, (0, 0, 0, 0)), (17, .iload_n 2, 1, (0, 0, 0, 0)), (18, .istore 4, 2, (0, 0, 0, 0)), (20, .iload 4, 2, (0, 0, 0, 0)), (22, .ifCond .le 43, 3, (65, 0, 0, 0)), (25, .aload_n 0, 1, (0, 0, 0, 0)), (26, .aload_n 1, 1, (0, 0, 0, 0)), (27, .aload_n 0, 1, (0, 0, 0, 0)), (28, .getfield 19, 3, (4, 2, 1, 1)), (31, .iload 4, 2, (0, 0, 0, 0)), (33, .iconst 1, 1, (0, 0, 0, 0)), (34, .isub, 1, (0, 0, 0, 0)), (35, .iaload, 1, (0, 0, 0, 0)), (36, .iload_n 3, 1, (0, 0, 0, 0)), (37, .invokevirtual 94, 3, (68, 4, 0, 0)), (40, .ifCond .eq 25, 3, (65, 0, 0, 0)), (43, .aload_n 0, 1, (0, 0, 0, 0)), (44, .getfield 19, 3, (4, 2, 1, 1)), (47, .iload 4, 2, (0, 0, 0, 0)), (49, .aload_n 0, 1, (0, 0, 0, 0)), (50, .getfield 19, 3, (4, 2, 1, 1)), (53, .iload 4, 2, (0, 0, 0, 0)), (55, .iconst 1, 1, (0, 0, 0, 0)), (56, .isub, 1, (0, 0, 0, 0)), (57, .iaload, 1, (0, 0, 0, 0)), (58, .iastore, 1, (0, 0, 0, 0)), (59, .iinc 4 (-1), 3, (0, 0, 0, 0)), (62, .goto (-42), 3, (20, 0, 0, 0)), (65, .aload_n 0, 1, (0, 0, 0, 0)), (66, .getfield 19, 3, (4, 2, 1, 1)), (69, .iload 4, 2, (0, 0, 0, 0)), (71, .iload_n 3, 1, (0, 0, 0, 0)), (72, .iastore, 1, (0, 0, 0, 0)), (73, .iinc 2 1, 3, (0, 0, 0, 0)), (76, .goto (-74), 3, (2, 0, 0, 0)), (79, .iconst 0, 1, (0, 0, 0, 0)), (80, .istore_n 2, 1, (0, 0, 0, 0)), (81, .iload_n 2, 1, (0, 0, 0, 0)), (82, .aload_n 0, 1, (0, 0, 0, 0)), (83, .getfield 25, 3, (4, 4, 0, 0)), (86, .if_icmp .ge 21, 3, (107, 0, 0, 0)), (89, .aload_n 0, 1, (0, 0, 0, 0)), (90, .getfield 22, 3, (4, 3, 1, 1)), (93, .aload_n 0, 1, (0, 0, 0, 0)), (94, .getfield 19, 3, (4, 2, 1, 1)), (97, .iload_n 2, 1, (0, 0, 0, 0)), (98, .iaload, 1, (0, 0, 0, 0)), (99, .iload_n 2, 1, (0, 0, 0, 0)), (100, .iastore, 1, (0, 0, 0, 0)), (101, .iinc 2 1, 3, (0, 0, 0, 0)), (104, .goto (-23), 3, (81, 0, 0, 0)), (107, .return_, 1, (0, 0, 0, 0))]
def m_67 : VM := (RX4, yX4_sortByDepth, cX4_sortByDepth, 5, none, 4, 86, k_67)
def k_68 : List VE := [(0, .aload_n 1, 1, (0, 0, 0, 0)), (1, .iload_n 2, 1, (0, 0, 0, 0)), (2, .invokevirtual 40, 3, (93, 2, 0, 0)), (5, .getfield 56, 3, (7, 4, 0, 0)), (8, .istore 4, 2, (0, 0, 0, 0)), (10, .aload_n 1, 1, (0, 0, 0, 0)), (11, .iload_n 3, 1, (0, 0, 0, 0)), (12, .invokevirtual 40, 3, (93, 2, 0, 0)), (15, .getfield 56, 3, (7, 4, 0, 0)), (18, .istore 5, 2, (0, 0, 0, 0)), (20, .iload 4, 2, (0, 0, 0, 0)), (22, .iload 5, 2, (0, 0, 0, 0)), (24, .if_icmp .gt 15, 3, (39, 0, 0, 0)), (27, .iload 4, 2, (0, 0, 0, 0)), (29, .iload 5, 2, (0, 0, 0, 0)), (31, .if_icmp .ne 12, 3, (43, 0, 0, 0)), (34, .iload_n 2, 1, (0, 0, 0, 0)), (35, .iload_n 3, 1, (0, 0, 0, 0)), (36, .if_icmp .le 7, 3, (43, 0, 0, 0)), (39, .iconst 1, 1, (0, 0, 0, 0)), (40, .goto 4, 3, (44, 0, 0, 0)), (43, .iconst 0, 1, (0, 0, 0, 0)), (44, .ireturn, 1, (1, 0, 0, 0))]
def m_68 : VM := (RX4, yX4_isBehind, cX4_isBehind, 6, (some .boolean), 3, 61, k_68)
def k_69 : List VE := [(0, .aload_n 0, 1, (0, 0, 0, 0)), (1, .getfield 25, 3, (4, 4, 0, 0)), (4, .aload_n 0, 1, (0, 0, 0, 0)), (5, .getfield 25, 3, (4, 4, 0, 0)), (8, .iconst 1, 1, (0, 0, 0, 0)), (9, .isub, 1, (0, 0, 0, 0)), (10, .imul, 1, (0, 0, 0, 0)), (11, .iconst 2, 1, (0, 0, 0, 0)), (12, .idiv, 1, (0, 0, 0, 0)), (13, .istore_n 1, 1, (0, 0, 0, 0)), (14, .aload_n 0, 1, (0, 0, 0, 0)), (15, .getfield 29, 3, (4, 5, 1, 0)), (18, .arraylength, 1, (0, 0, 0, 0)), (19, .iload_n 1, 1, (0, 0, 0, 0)), (20, .if_icmp .ge 12, 3, (32, 0, 0, 0)), (23, .aload_n 0, 1, (0, 0, 0, 0)), (24, .iload_n 1, 1, (0, 0, 0, 0)), (25, .iconst 2, 1, (0, 0, 0, 0)), (26, .imul, 1, (0, 0, 0, 0)), (27, .newarray .int, 2, (11, 3, 30, 0)), (29, .putfield 29, 3, (4, 5, 1, 0)), (32, .return_, 1, (0, 0, 0, 0))]
def m_69 : VM := (RX4, yX4_makePairs, cX4_makePairs, 2, none, 0, 0, k_69)
def k_70 : List VE := [(0, .iload_n 1, 1, (0, 0, 0, 0)), (1, .iload_n 1, 1, (0, 0, 0, 0)), (2, .iconst 1, 1, (0, 0, 0, 0)), (3, .isub, 1, (0, 0, 0, 0)), (4, .imul, 1, (0, 0, 0, 0)), (5, .iconst 2, 1, (0, 0, 0, 0)), (6, .idiv, 1, (0, 0, 0, 0)), (7, .iload_n 2, 1, (0, 0, 0, 0)), (8, .iadd, 1, (0, 0, 0, 0)), (9, .ireturn, 1, (0, 0, 0, 0))]
def m_70 : VM := (RX4, yX4_pairIndex, cX4_pairIndex, 3, (some .int), 0, 0, k_70)
def k_71 : List VE := [(0, .iload_n 1, 1, (0, 0, 0, 0)), (1, .iconst (-1), 1, (0, 0, 0, 0)), (2, .if_icmp .ne 7, 3, (9, 0, 0, 0)), (5, .iconst 0, 1, (0, 0, 0, 0)), (6, .goto 14, 3, (20, 0, 0, 0)), (9, .aload_n 0, 1, (0, 0, 0, 0)), (10, .aload_n 0, 1, (0, 0, 0, 0)), (11, .getfield 22, 3, (4, 3, 1, 1)), (14, .iload_n 1, 1, (0, 0, 0, 0)), (15, .iaload, 1, (0, 0, 0, 0)), (16, .iload_n 2, 1, (0, 0, 0, 0)), (17, .invokevirtual 87, 3, (72, 3, 0, 0)), (20, .ireturn, 1, (0, 0, 0, 0))]
def m_71 : VM := (RX4, yX4_parentParts, cX4_parentParts, 3, (some .int), 2, 45, k_71)
def k_72 : List VE := [(0, .iload_n 1, 1, (0, 0, 0, 0)), (1, .iload_n 2, 1, (0, 0, 0, 0)), (2, .if_icmp .ne 6, 3, (8, 0, 0, 0)), (5, .ldc 98, 2, (0, 0, 0, 1073741824)), (7, .ireturn, 1, (0, 0, 0, 0)), (8, .aload_n 0, 1, (0, 0, 0, 0)), (9, .getfield 29, 3, (4, 5, 1, 0)), (12, .aload_n 0, 1, (0, 0, 0, 0)), (13, .iload_n 1, 1, (0, 0, 0, 0)), (14, .iload_n 2, 1, (0, 0, 0, 0)), (15, .invokestatic 63, 3, (0, 2, 7, 0)), (18, .iload_n 1, 1, (0, 0, 0, 0)), (19, .iload_n 2, 1, (0, 0, 0, 0)), (20, .invokestatic 99, 3, (0, 2, 8, 0)), (23, .invokevirtual 82, 3, (70, 3, 0, 0)), (26, .iaload, 1, (0, 0, 0, 0)), (27, .ireturn, 1, (0, 0, 0, 0))]
def m_72 : VM := (RX4, yX4_partsOf, cX4_partsOf, 3, (some .int), 1, 23, k_72)
def k_73 : List VE := [(0, .aload_n 0, 1, (0, 0, 0, 0)), (1, .invokespecial 3, 3, (0, 1, 5, 0)), (4, .aload_n 0, 1, (0, 0, 0, 0)), (5, .new 9, 3, (6, 0, 7, 0)), (8, .dup, 1, (0, 0, 0, 0)), (9, .bipush 8, 2, (0, 0, 0, 0)), (11, .invokespecial 11, 3, (79, 2, 2, 0)), (14, .putfield 14, 3, (5, 0, 1, 1)), (17, .aload_n 0, 1, (0, 0, 0, 0)), (18, .bipush 8, 2, (0, 0, 0, 0)), (20, .newarray .int, 2, (11, 1, 31, 0)), (22, .putfield 20, 3, (5, 1, 1, 1)), (25, .aload_n 0, 1, (0, 0, 0, 0)), (26, .bipush 8, 2, (0, 0, 0, 0)), (28, .newarray .int, 2, (11, 1, 32, 0)), (30, .putfield 24, 3, (5, 2, 1, 1)), (33, .aload_n 0, 1, (0, 0, 0, 0)), (34, .bipush 8, 2, (0, 0, 0, 0)), (36, .newarray .int, 2, (11, 1, 33, 0)), (38, .putfield 27, 3, (5, 3, 1, 1)), (41, .aload_n 0, 1, (0, 0, 0, 0)), (42, .sipush 256, 3, (0, 0, 0, 0)), (45, .newarray .int, 2, (11, 1, 34, 0)), (47, .putfield 30, 3, (5, 4, 1, 1)), (50, .aload_n 0, 1, (0, 0, 0, 0)), (51, .iconst 0, 1, (0, 0, 0, 0)), (52, .putfield 33, 3, (5, 5, 0, 0)), (55, .return_, 1, (0, 0, 0, 0))]
def m_73 : VM := (RX5, yX5_init, cX5_init, 1, none, 2, 41, k_73)
def k_74 : List VE := [(0, .aload_n 0, 1, (0, 0, 0, 0)), (1, .aload_n 1, 1, (0, 0, 0, 0)), (2, .iload_n 2, 1, (0, 0, 0, 0)), (3, .iload_n 3, 1, (0, 0, 0, 0)), (4, .invokevirtual 37, 3, (75, 4, 0, 0)), (7, .iconst 1, 1, (0, 0, 0, 0)), (8, .aload_n 0, 1, (0, 0, 0, 0)), (9, .getfield 33, 3, (5, 5, 0, 0)), (12, .ishl, 1, (0, 0, 0, 0)), (13, .iconst 1, 1, (0, 0, 0, 0)), (14, .isub, 1, (0, 0, 0, 0)), (15, .istore 4, 2, (0, 0, 0, 0)), (17, .aload_n 0, 1, (0, 0, 0, 0)), (18, .getfield 30, 3, (5, 4, 1, 1)), (21, .iload 4, 2, (0, 0, 0, 0)), (23, .iconst 0, 1, (0, 0, 0, 0)), (24, .iastore, 1, (0, 0, 0, 0)), (25, .iload 4, 2, (0, 0, 0, 0)), (27, .iconst 1, 1, (0, 0, 0, 0)), (28, .isub, 1, (0, 0, 0, 0)), (29, .istore 5, 2, (0, 0, 0, 0)), (31, .iload 5, 2, (0, 0, 0, 0)), (33, .ifCond .lt 28, 3, (61, 0, 0, 0)), (36, .aload_n 0, 1, (0, 0, 0, 0)), (37, .getfield 30, 3, (5, 4, 1, 1)), (40, .iload 5, 2, (0, 0, 0, 0)), (42, .aload_n 0, 1, (0, 0, 0, 0)), (43, .iload 5, 2, (0, 0, 0, 0)), (45, .aload_n 0, 1, (0, 0, 0, 0)), (46, .iload 5, 2, (0, 0, 0, 0)), (48, .invokevirtual 41, 3, (77, 2, 0, 0)), (51, .invokevirtual 45, 3, (78, 3, 0, 0)), (54, .iastore, 1, (0, 0, 0, 0)), (55, .iinc 5 (-1), 3, (0, 0, 0, 0)), (58, .goto (-27), 3, (31, 0, 0, 0)), (61, .aload_n 0, 1, (0, 0, 0, 0)), (62, .getfield 14, 3, (5, 0, 1, 1)), (65, .aload_n 0, 1, (0, 0, 0, 0)), (66, .getfield 33, 3, (5, 5, 0, 0)), (69, .invokevirtual 49, 3, (80, 2, 0, 0)), (72, .iconst 0, 1, (0, 0, 0, 0)), (73, .istore 5, 2, (0, 0, 0, 0)), (75, .iconst 0, 1, (0, 0, 0, 0)), (76, .istore 6, 2, (0, 0, 0, 0)), (78, .iload 6, 2, (0, 0, 0, 0)), (80, .aload_n 0, 1, (0, 0, 0, 0)), (81, .getfield 33, 3, (5, 5, 0, 0)), (84, .if_icmp .ge 43, 3, (127, 0, 0, 0)), (87, .aload_n 0, 1, (0, 0, 0, 0)), (88, .iload 5, 2, (0, 0, 0, 0)), (90, .invokevirtual 41, 3, (77, 2, 0, 0)), (93, .istore 7, 2, (0, 0, 0, 0)), (95, .aload_n 0, 1, (0, 0, 0, 0)), (96, .getfield 14, 3, (5, 0, 1, 1)), (99, .getfield 52, 3, (6, 0, 1, 1)), (102, .iload 6, 2, (0, 0, 0, 0)), (104, .aload_n 0, 1, (0, 0, 0, 0)), (105, .getfield 20, 3, (5, 1, 1, 1)), (108, .iload 7, 2, (0, 0, 0, 0)), (110, .iaload, 1, (0, 0, 0, 0)), (111, .iastore, 1, (0, 0, 0, 0)), (112, .iload 5, 2, (0, 0, 0, 0)), (114, .iconst 1, 1, (0, 0, 0, 0)), (115, .iload 7, 2, (0, 0, 0, 0)), (117, .ishl, 1, (0, 0, 0, 0)), (118, .ior, 1, (0, 0, 0, 0)), (119, .istore 5, 2, (0, 0, 0, 0)), (121, .iinc 6 1, 3, (0, 0, 0, 0)), (124, .goto (-46), 3, (78, 0, 0, 0)), (127, .aload_n 0, 1, (0, 0, 0, 0)), (128, .getfield 30, 3, (5, 4, 1, 1)), (131, .iconst 0, 1, (0, 0, 0, 0)), (132, .iaload, 1, (0, 0, 0, 0)), (133, .ireturn, 1, (0, 0, 0, 0))]
def m_74 : VM := (RX5, yX5_make, cX5_make, 8, (some .int), 4, 86, k_74)
def k_75 : List VE := [(0, .aload_n 0, 1, (0, 0, 0, 0)), (1, .iconst 0, 1, (0, 0, 0, 0)), (2, .putfield 33, 3, (5, 5, 0, 0)), (5, .iconst 0, 1, (0, 0, 0, 0)), (6, .istore 4, 2, (0, 0, 0, 0)), (8, .iload 4, 2, (0, 0, 0, 0)), (10, .aload_n 1, 1, (0, 0, 0, 0)), (11, .getfield 55, 3, (8, 5, 0, 0)), (14, .if_icmp .ge 86, 3, (100, 0, 0, 0)), (17, .aload_n 0, 1, (0, 0, 0, 0)), (18, .getfield 33, 3, (5, 5, 0, 0)), (21, .bipush 8, 2, (0, 0, 0, 0)), (23, .if_icmp .ge 77, 3, (100, 0, 0, 0)), (26, .aload_n 1, 1, (0, 0, 0, 0)), (27, .iload 4, 2, (0, 0, 0, 0)), (29, .invokevirtual 60, 3, (91, 2, 0, 0)), (32, .astore 5, 2, (0, 0, 0, 0)), (34, .aload 5, 2, (0, 0, 0, 0)), (36, .getfield 64, 3, (3, 9, 0, 0)), (39, .ifCond .le 55, 3, (94, 0, 0, 0)), (42, .aload_n 0, 1, (0, 0, 0, 0)), (43, .getfield 20, 3, (5, 1, 1, 1)), (46, .aload_n 0, 1, (0, 0, 0, 0)), (47, .getfield 33, 3, (5, 5, 0, 0)), (50, .iload 4, 2, (0, 0, 0, 0)), (52, .iastore, 1, (0, 0, 0, 0)), (53, .aload_n 0, 1, (0, 0, 0, 0)), (54, .getfield 24, 3, (5, 2, 1, 1)), (57, .aload_n 0, 1, (0, 0, 0, 0)), (58, .getfield 33, 3, (5, 5, 0, 0)), (61, .aload 5, 2, (0, 0, 0, 0)), (63, .getfield 64, 3, (3, 9, 0, 0)), (66, .iastore, 1, (0, 0, 0, 0)), (67, .aload_n 0, 1, (0, 0, 0, 0)), (68, .getfield 27, 3, (5, 3, 1, 1)), (71, .aload_n 0, 1, (0, 0, 0, 0)), (72, .getfield 33, 3, (5, 5, 0, 0)), (75, .aload_n 0, 1, (0, 0, 0, 0)), (76, .aload 5, 2, (0, 0, 0, 0)), (78, .iload_n 2, 1, (0, 0, 0, 0)), (79, .iload_n 3, 1, (0, 0, 0, 0)), (80, .invokevirtual 69, 3, (76, 4, 0, 0)), (83, .iastore, 1, (0, 0, 0, 0)), (84, .aload_n 0, 1, (0, 0, 0, 0)), (85, .dup, 1, (0, 0, 0, 0)), (86, .getfield 33, 3, (5, 5, 0, 0)), (89, .iconst 1, 1, (0, 0, 0, 0)), (90, .iadd, 1, (0, 0, 0, 0)), (91, .putfield 33, 3, (5, 5, 0, 0)), (94, .iinc 4 1, 3, (0, 0, 0, 0)), (97, .goto (-89), 3, (8, 0, 0, 0)), (100, .return_, 1, (0, 0, 0, 0))]
def m_75 : VM := (RX5, yX5_gather, cX5_gather, 6, none, 3, 61, k_75)
def k_76 : List VE := [(0, .iload_n 2, 1, (0, 0, 0, 0)), (1, .i2l, 1, (0, 0, 0, 0)), (2, .aload_n 1, 1, (0, 0, 0, 0)), (3, .getfield 73, 3, (3, 8, 0, 0)), (6, .i2l, 1, (0, 0, 0, 0)), (7, .lmul, 1, (0, 0, 0, 0)), (8, .aload_n 1, 1, (0, 0, 0, 0)), (9, .getfield 76, 3, (3, 7, 0, 0)), (12, .i2l, 1, (0, 0, 0, 0)), (13, .iload_n 3, 1, (0, 0, 0, 0)), (14, .i2l, 1, (0, 0, 0, 0)), (15, .lmul, 1, (0, 0, 0, 0)), (16, .lsub, 1, (0, 0, 0, 0)), (17, .lstore 4, 2, (0, 0, 0, 0)), (19, .aload_n 1, 1, (0, 0, 0, 0)), (20, .getfield 79, 3, (3, 10, 0, 0)), (23, .i2l, 1, (0, 0, 0, 0)), (24, .iload_n 3, 1, (0, 0, 0, 0)), (25, .i2l, 1, (0, 0, 0, 0)), (26, .lmul, 1, (0, 0, 0, 0)), (27, .lstore 6, 2, (0, 0, 0, 0)), (29, .lload 4, 2, (0, 0, 0, 0)), (31, .lconst 0, 1, (0, 0, 0, 0)), (32, .lcmp, 1, (0, 0, 0, 0)), (33, .ifCond .lt 10, 3, (43, 0, 0, 0)), (36, .lload 6, 2, (0, 0, 0, 0)), (38, .lconst 0, 1, (0, 0, 0, 0)), (39, .lcmp, 1, (0, 0, 0, 0)), (40, .ifCond .ne 5, 3, (45, 0, 0, 0)), (43, .iconst 0, 1, (0, 0, 0, 0)), (44, .ireturn, 1, (0, 0, 0, 0)), (45, .lload 4, 2, (0, 0, 0, 0)), (47, .lload 6, 2, (0, 0, 0, 0)), (49, .ldiv, 1, (0, 0, 0, 0)), (50, .lconst 1, 1, (0, 0, 0, 0)), (51, .ladd, 1, (0, 0, 0, 0)), (52, .ldc2_w 82, 3, (0, 0, 0, 100000)), (55, .invokestatic 84, 3, (0, 2, 9, 0)), (58, .l2i, 1, (0, 0, 0, 0)), (59, .ireturn, 1, (0, 0, 0, 0))]
def m_76 : VM := (RX5, yX5_overFrom, cX5_overFrom, 8, (some .int), 1, 23, k_76)
def k_77 : List VE := [(0, .iconst (-1), 1, (0, 0, 0, 0)), (1, .istore_n 2, 1, (0, 0, 0, 0)), (2, .iconst 0, 1, (0, 0, 0, 0)), (3, .istore_n 3, 1, (0, 0, 0, 0)), (4, .iload_n 3, 1, (0, 0, 0, 0)), (5, .aload_n 0, 1, (0, 0, 0, 0)), (6, .getfield 33, 3, (5, 5, 0, 0)), (9, .if_icmp .ge 39, 3, (48, 0, 0, 0)), (12, .iload_n 1, 1, (0, 0, 0, 0)), (13, .iconst 1, 1, (0, 0, 0, 0)), (14, .iload_n 3, 1, (0, 0, 0, 0)), (15, .ishl, 1, (0, 0, 0, 0)), (16, .iand, 1, (0, 0, 0, 0)), (17, .ifCond .ne 25, 3, (42, 0, 0, 0)), (20, .iload_n 2, 1, (0, 0, 0, 0)), (21, .iconst (-1), 1, (0, 0, 0, 0)), (22, .if_icmp .eq 18, 3, (40, 0, 0, 0)), (25, .aload_n 0, 1, (0, 0, 0, 0)), (26, .iload_n 1, 1, (0, 0, 0, 0)), (27, .iload_n 3, 1, (0, 0, 0, 0)), (28, .invokevirtual 45, 3, (78, 3, 0, 0)), (31, .aload_n 0, 1, (0, 0, 0, 0)), (32, .iload_n 1, 1, (0, 0, 0, 0)), (33, .iload_n 2, 1, (0, 0, 0, 0)), (34, .invokevirtual 45, 3, (78, 3, 0, 0)), (37, .if_icmp .ge 5, 3, (42, 0, 0, 0)), (40, .iload_n 3, 1, (0, 0, 0, 0)), (41, .istore_n 2, 1, (0, 0, 0, 0)), (42, .iinc 3 1, 3, (0, 0, 0, 0)), (45, .goto (-41), 3, (4, 0, 0, 0)), (48, .iload_n 2, 1, (0, 0, 0, 0)), (49, .ireturn, 1, (0, 0, 0, 0))]
def m_77 : VM := (RX5, yX5_bestNext, cX5_bestNext, 4, (some .int), 2, 47, k_77)
def k_78 : List VE := [(0, .aload_n 0, 1, (0, 0, 0, 0)), (1, .getfield 24, 3, (5, 2, 1, 1)), (4, .iload_n 2, 1, (0, 0, 0, 0)), (5, .iaload, 1, (0, 0, 0, 0)), (6, .istore_n 3, 1, (0, 0, 0, 0)), (7, .iconst 0, 1, (0, 0, 0, 0)), (8, .istore 4, 2, (0, 0, 0, 0)), (10, .iload 4, 2, (0, 0, 0, 0)), (12, .aload_n 0, 1, (0, 0, 0, 0)), (13, .getfield 33, 3, (5, 5, 0, 0)), (16, .if_icmp .ge 28, 3, (44, 0, 0, 0)), (19, .iload_n 1, 1, (0, 0, 0, 0)), (20, .iconst 1, 1, (0, 0, 0, 0)), (21, .iload 4, 2, (0, 0, 0, 0)), (23, .ishl, 1, (0, 0, 0, 0)), (24, .iand, 1, (0, 0, 0, 0)), (25, .ifCond .eq 13, 3, (38, 0, 0, 0)), (28, .iload_n 3, 1, (0, 0, 0, 0)), (29, .aload_n 0, 1, (0, 0, 0, 0)), (30, .getfield 24, 3, (5, 2, 1, 1)), (33, .iload 4, 2, (0, 0, 0, 0)), (35, .iaload, 1, (0, 0, 0, 0)), (36, .iadd, 1, (0, 0, 0, 0)), (37, .istore_n 3, 1, (0, 0, 0, 0)), (38, .iinc 4 1, 3, (0, 0, 0, 0)), (41, .goto (-31), 3, (10, 0, 0, 0)), (44, .iconst 0, 1, (0, 0, 0, 0)), (45, .iload_n 3, 1, (0, 0, 0, 0)), (46, .aload_n 0, 1, (0, 0, 0, 0)), (47, .getfield 27, 3, (5, 3, 1, 1)), (50, .iload_n 2, 1, (0, 0, 0, 0)), (51, .iaload, 1, (0, 0, 0, 0)), (52, .isub, 1, (0, 0, 0, 0)), (53, .invokestatic 90, 3, (0, 2, 7, 0)), (56, .aload_n 0, 1, (0, 0, 0, 0)), (57, .getfield 30, 3, (5, 4, 1, 1)), (60, .iload_n 1, 1, (0, 0, 0, 0)), (61, .iconst 1, 1, (0, 0, 0, 0)), (62, .iload_n 2, 1, (0, 0, 0, 0)), (63, .ishl, 1, (0, 0, 0, 0)), (64, .ior, 1, (0, 0, 0, 0)), (65, .iaload, 1, (0, 0, 0, 0)), (66, .iadd, 1, (0, 0, 0, 0)), (67, .ireturn, 1, (0, 0, 0, 0))]
def m_78 : VM := (RX5, yX5_daysWith, cX5_daysWith, 5, (some .int), 1, 23, k_78)
def k_79 : List VE := [(0, .aload_n 0, 1, (0, 0, 0, 0)), (1, .invokespecial 3, 3, (0, 1, 5, 0)), (4, .aload_n 0, 1, (0, 0, 0, 0)), (5, .iconst 0, 1, (0, 0, 0, 0)), (6, .putfield 9, 3, (6, 1, 0, 0)), (9, .aload_n 0, 1, (0, 0, 0, 0)), (10, .iconst 0, 1, (0, 0, 0, 0)), (11, .putfield 15, 3, (6, 2, 2, 0)), (14, .aload_n 0, 1, (0, 0, 0, 0)), (15, .iload_n 1, 1, (0, 0, 0, 0)), (16, .newarray .int, 2, (11, 1, 35, 0)), (18, .putfield 19, 3, (6, 0, 1, 1)), (21, .return_, 1, (0, 0, 0, 0))]
def m_79 : VM := (RX6, yX6_init, cX6_init, 2, none, 1, 20, k_79)
def k_80 : List VE := [(0, .aload_n 0, 1, (0, 0, 0, 0)), (1, .iload_n 1, 1, (0, 0, 0, 0)), (2, .putfield 9, 3, (6, 1, 0, 0)), (5, .aload_n 0, 1, (0, 0, 0, 0)), (6, .iconst 1, 1, (0, 0, 0, 0)), (7, .putfield 15, 3, (6, 2, 2, 0)), (10, .return_, 1, (0, 0, 0, 0))]
def m_80 : VM := (RX6, yX6_begin, cX6_begin, 2, none, 0, 0, k_80)
def k_81 : List VE := [(0, .aload_n 0, 1, (0, 0, 0, 0)), (1, .getfield 15, 3, (6, 2, 0, 0)), (4, .ifCond .ne 5, 3, (9, 0, 0, 0)), (7, .iconst 1, 1, (0, 0, 0, 0)), (8, .ireturn, 1, (0, 0, 0, 0)), (9, .iload_n 1, 1, (0, 0, 0, 0)), (10, .ifCond .lt 11, 3, (21, 0, 0, 0)), (13, .iload_n 1, 1, (0, 0, 0, 0)), (14, .aload_n 0, 1, (0, 0, 0, 0)), (15, .getfield 9, 3, (6, 1, 0, 0)), (18, .if_icmp .lt 7, 3, (25, 0, 0, 0)), (21, .iconst 2, 1, (0, 0, 0, 0)), (22, .goto 4, 3, (26, 0, 0, 0)), (25, .iconst 0, 1, (0, 0, 0, 0)), (26, .ireturn, 1, (0, 0, 0, 0))]
def m_81 : VM := (RX6, yX6_fault, cX6_fault, 2, (some .int), 0, 0, k_81)
def k_82 : List VE := [(0, .aload_n 0, 1, (0, 0, 0, 0)), (1, .invokespecial 3, 3, (0, 1, 5, 0)), (4, .aload_n 0, 1, (0, 0, 0, 0)), (5, .iconst 0, 1, (0, 0, 0, 0)), (6, .putfield 9, 3, (7, 0, 0, 0)), (9, .aload_n 0, 1, (0, 0, 0, 0)), (10, .iconst 0, 1, (0, 0, 0, 0)), (11, .putfield 15, 3, (7, 1, 0, 0)), (14, .aload_n 0, 1, (0, 0, 0, 0)), (15, .iconst (-1), 1, (0, 0, 0, 0)), (16, .putfield 18, 3, (7, 2, 0, 0)), (19, .aload_n 0, 1, (0, 0, 0, 0)), (20, .iconst (-1), 1, (0, 0, 0, 0)), (21, .putfield 21, 3, (7, 3, 0, 0)), (24, .aload_n 0, 1, (0, 0, 0, 0)), (25, .iconst 0, 1, (0, 0, 0, 0)), (26, .putfield 24, 3, (7, 4, 0, 0)), (29, .aload_n 0, 1, (0, 0, 0, 0)), (30, .iconst 0, 1, (0, 0, 0, 0)), (31, .putfield 27, 3, (7, 5, 0, 0)), (34, .aload_n 0, 1, (0, 0, 0, 0)), (35, .iconst (-1), 1, (0, 0, 0, 0)), (36, .putfield 30, 3, (7, 6, 0, 0)), (39, .aload_n 0, 1, (0, 0, 0, 0)), (40, .iconst 0, 1, (0, 0, 0, 0)), (41, .putfield 33, 3, (7, 7, 0, 0)), (44, .aload_n 0, 1, (0, 0, 0, 0)), (45, .iconst (-1), 1, (0, 0, 0, 0)), (46, .putfield 36, 3, (7, 8, 0, 0)), (49, .return_, 1, (0, 0, 0, 0))]
def m_82 : VM := (RX7, yX7_init, cX7_init, 1, none, 1, 20, k_82)
def k_83 : List VE := [(0, .aload_n 0, 1, (0, 0, 0, 0)), (1, .iload_n 1, 1, (0, 0, 0, 0)), (2, .putfield 9, 3, (7, 0, 0, 0)), (5, .aload_n 0, 1, (0, 0, 0, 0)), (6, .iconst 0, 1, (0, 0, 0, 0)), (7, .putfield 15, 3, (7, 1, 0, 0)), (10, .aload_n 0, 1, (0, 0, 0, 0)), (11, .iconst (-1), 1, (0, 0, 0, 0)), (12, .putfield 18, 3, (7, 2, 0, 0)), (15, .aload_n 0, 1, (0, 0, 0, 0)), (16, .iconst (-1), 1, (0, 0, 0, 0)), (17, .putfield 21, 3, (7, 3, 0, 0)), (20, .aload_n 0, 1, (0, 0, 0, 0)), (21, .iconst 0, 1, (0, 0, 0, 0)), (22, .putfield 24, 3, (7, 4, 0, 0)), (25, .aload_n 0, 1, (0, 0, 0, 0)), (26, .iconst 0, 1, (0, 0, 0, 0)), (27, .putfield 27, 3, (7, 5, 0, 0)), (30, .aload_n 0, 1, (0, 0, 0, 0)), (31, .iconst (-1), 1, (0, 0, 0, 0)), (32, .putfield 30, 3, (7, 6, 0, 0)), (35, .aload_n 0, 1, (0, 0, 0, 0)), (36, .iconst 0, 1, (0, 0, 0, 0)), (37, .putfield 33, 3, (7, 7, 0, 0)), (40, .aload_n 0, 1, (0, 0, 0, 0)), (41, .iconst (-1), 1, (0, 0, 0, 0)), (42, .putfield 36, 3, (7, 8, 0, 0)), (45, .return_, 1, (0, 0, 0, 0))]
def m_83 : VM := (RX7, yX7_begin, cX7_begin, 2, none, 0, 0, k_83)
def k_84 : List VE := [(0, .aload_n 0, 1, (0, 0, 0, 0)), (1, .aload_n 1, 1, (0, 0, 0, 0)), (2, .getfield 9, 3, (7, 0, 0, 0)), (5, .putfield 9, 3, (7, 0, 0, 0)), (8, .aload_n 0, 1, (0, 0, 0, 0)), (9, .aload_n 1, 1, (0, 0, 0, 0)), (10, .getfield 15, 3, (7, 1, 0, 0)), (13, .putfield 15, 3, (7, 1, 0, 0)), (16, .aload_n 0, 1, (0, 0, 0, 0)), (17, .aload_n 1, 1, (0, 0, 0, 0)), (18, .getfield 18, 3, (7, 2, 0, 0)), (21, .putfield 18, 3, (7, 2, 0, 0)), (24, .aload_n 0, 1, (0, 0, 0, 0)), (25, .aload_n 1, 1, (0, 0, 0, 0)), (26, .getfield 21, 3, (7, 3, 0, 0)), (29, .putfield 21, 3, (7, 3, 0, 0)), (32, .aload_n 0, 1, (0, 0, 0, 0)), (33, .aload_n 1, 1, (0, 0, 0, 0)), (34, .getfield 24, 3, (7, 4, 0, 0)), (37, .putfield 24, 3, (7, 4, 0, 0)), (40, .aload_n 0, 1, (0, 0, 0, 0)), (41, .aload_n 1, 1, (0, 0, 0, 0)), (42, .getfield 27, 3, (7, 5, 0, 0)), (45, .putfield 27, 3, (7, 5, 0, 0)), (48, .aload_n 0, 1, (0, 0, 0, 0)), (49, .aload_n 1, 1, (0, 0, 0, 0)), (50, .getfield 30, 3, (7, 6, 0, 0)), (53, .putfield 30, 3, (7, 6, 0, 0)), (56, .aload_n 0, 1, (0, 0, 0, 0)), (57, .aload_n 1, 1, (0, 0, 0, 0)), (58, .getfield 33, 3, (7, 7, 0, 0)), (61, .putfield 33, 3, (7, 7, 0, 0)), (64, .aload_n 0, 1, (0, 0, 0, 0)), (65, .aload_n 1, 1, (0, 0, 0, 0)), (66, .getfield 36, 3, (7, 8, 0, 0)), (69, .putfield 36, 3, (7, 8, 0, 0)), (72, .return_, 1, (0, 0, 0, 0))]
def m_84 : VM := (RX7, yX7_become, cX7_become, 2, none, 0, 0, k_84)
def k_85 : List VE := [(0, .aload_n 0, 1, (0, 0, 0, 0)), (1, .iconst 2, 1, (0, 0, 0, 0)), (2, .putfield 9, 3, (7, 0, 0, 0)), (5, .aload_n 0, 1, (0, 0, 0, 0)), (6, .iconst 0, 1, (0, 0, 0, 0)), (7, .putfield 27, 3, (7, 5, 0, 0)), (10, .aload_n 0, 1, (0, 0, 0, 0)), (11, .iload_n 1, 1, (0, 0, 0, 0)), (12, .putfield 30, 3, (7, 6, 0, 0)), (15, .return_, 1, (0, 0, 0, 0))]
def m_85 : VM := (RX7, yX7_becomeMated, cX7_becomeMated, 2, none, 0, 0, k_85)
def k_86 : List VE := [(0, .aload_n 0, 1, (0, 0, 0, 0)), (1, .getfield 9, 3, (7, 0, 0, 0)), (4, .ifCond .eq 19, 3, (23, 0, 0, 0)), (7, .aload_n 0, 1, (0, 0, 0, 0)), (8, .getfield 9, 3, (7, 0, 0, 0)), (11, .iconst 1, 1, (0, 0, 0, 0)), (12, .if_icmp .eq 11, 3, (23, 0, 0, 0)), (15, .aload_n 0, 1, (0, 0, 0, 0)), (16, .getfield 9, 3, (7, 0, 0, 0)), (19, .iconst 2, 1, (0, 0, 0, 0)), (20, .if_icmp .ne 7, 3, (27, 0, 0, 0)), (23, .iconst 1, 1, (0, 0, 0, 0)), (24, .goto 4, 3, (28, 0, 0, 0)), (27, .iconst 0, 1, (0, 0, 0, 0)), (28, .ireturn, 1, (1, 0, 0, 0))]
def m_86 : VM := (RX7, yX7_isQueen, cX7_isQueen, 1, (some .boolean), 0, 0, k_86)
def k_87 : List VE := [(0, .aload_n 0, 1, (0, 0, 0, 0)), (1, .getfield 9, 3, (7, 0, 0, 0)), (4, .iconst 4, 1, (0, 0, 0, 0)), (5, .if_icmp .eq 11, 3, (16, 0, 0, 0)), (8, .aload_n 0, 1, (0, 0, 0, 0)), (9, .getfield 9, 3, (7, 0, 0, 0)), (12, .iconst 5, 1, (0, 0, 0, 0)), (13, .if_icmp .ne 7, 3, (20, 0, 0, 0)), (16, .iconst 1, 1, (0, 0, 0, 0)), (17, .goto 4, 3, (21, 0, 0, 0)), (20, .iconst 0, 1, (0, 0, 0, 0)), (21, .ireturn, 1, (1, 0, 0, 0))]
def m_87 : VM := (RX7, yX7_isSwarm, cX7_isSwarm, 1, (some .boolean), 0, 0, k_87)
def k_88 : List VE := [(0, .iload_n 1, 1, (0, 0, 0, 0)), (1, .tableswitch 93 0 11 #[63, 68, 93, 93, 93, 93, 93, 93, 73, 78, 83, 88], 63, (0, 0, 0, 0)), (64, .aload_n 0, 1, (0, 0, 0, 0)), (65, .getfield 9, 3, (7, 0, 0, 0)), (68, .ireturn, 1, (0, 0, 0, 0)), (69, .aload_n 0, 1, (0, 0, 0, 0)), (70, .getfield 15, 3, (7, 1, 0, 0)), (73, .ireturn, 1, (0, 0, 0, 0)), (74, .aload_n 0, 1, (0, 0, 0, 0)), (75, .getfield 18, 3, (7, 2, 0, 0)), (78, .ireturn, 1, (0, 0, 0, 0)), (79, .aload_n 0, 1, (0, 0, 0, 0)), (80, .getfield 21, 3, (7, 3, 0, 0)), (83, .ireturn, 1, (0, 0, 0, 0)), (84, .aload_n 0, 1, (0, 0, 0, 0)), (85, .getfield 24, 3, (7, 4, 0, 0)), (88, .ireturn, 1, (0, 0, 0, 0)), (89, .aload_n 0, 1, (0, 0, 0, 0)), (90, .getfield 27, 3, (7, 5, 0, 0)), (93, .ireturn, 1, (0, 0, 0, 0)), (94, .aload_n 0, 1, (0, 0, 0, 0)), (95, .getfield 30, 3, (7, 6, 0, 0)), (98, .ireturn, 1, (0, 0, 0, 0))]
def m_88 : VM := (RX7, yX7_number, cX7_number, 2, (some .int), 0, 0, k_88)
def k_89 : List VE := [(0, .aload_n 0, 1, (0, 0, 0, 0)), (1, .invokespecial 3, 3, (0, 1, 5, 0)), (4, .aload_n 0, 1, (0, 0, 0, 0)), (5, .bipush 40, 2, (0, 0, 0, 0)), (7, .anewarray 9, 3, (14, 1, 36, 0)), (10, .putfield 11, 3, (8, 0, 1, 1)), (13, .aload_n 0, 1, (0, 0, 0, 0)), (14, .sipush 200, 3, (0, 0, 0, 0)), (17, .anewarray 17, 3, (15, 1, 37, 0)), (20, .putfield 19, 3, (8, 1, 1, 1)), (23, .aload_n 0, 1, (0, 0, 0, 0)), (24, .sipush 200, 3, (0, 0, 0, 0)), (27, .anewarray 23, 3, (16, 1, 38, 0)), (30, .putfield 25, 3, (8, 2, 1, 1)), (33, .aload_n 0, 1, (0, 0, 0, 0)), (34, .bipush 24, 2, (0, 0, 0, 0)), (36, .newarray .int, 2, (11, 1, 39, 0)), (38, .putfield 29, 3, (8, 3, 1, 1)), (41, .aload_n 0, 1, (0, 0, 0, 0)), (42, .new 33, 3, (1, 1, 2, 0)), (45, .dup, 1, (0, 0, 0, 0)), (46, .invokespecial 35, 3, (24, 1, 4, 0)), (49, .putfield 36, 3, (8, 4, 1, 1)), (52, .aload_n 0, 1, (0, 0, 0, 0)), (53, .iconst 0, 1, (0, 0, 0, 0)), (54, .putfield 40, 3, (8, 5, 0, 0)), (57, .aload_n 0, 1, (0, 0, 0, 0)), (58, .iconst 0, 1, (0, 0, 0, 0)), (59, .putfield 44, 3, (8, 6, 0, 0)), (62, .aload_n 0, 1, (0, 0, 0, 0)), (63, .iconst 0, 1, (0, 0, 0, 0)), (64, .putfield 47, 3, (8, 7, 0, 0)), (67, .aload_n 0, 1, (0, 0, 0, 0)), (68, .iconst 0, 1, (0, 0, 0, 0)), (69, .putfield 50, 3, (8, 8, 0, 0)), (72, .aload_n 0, 1, (0, 0, 0, 0)), (73, .iconst 0, 1, (0, 0, 0, 0)), (74, .putfield 53, 3, (8, 9, 0, 0)), (77, .aload_n 0, 1, (0, 0, 0, 0)), (78, .iconst 0, 1, (0, 0, 0, 0)), (79, .putfield 56, 3, (8, 10, 0, 0)), (82, .aload_n 0, 1, (0, 0, 0, 0)), (83, .iconst 0, 1, (0, 0, 0, 0)), (84, .putfield 59, 3, (8, 11, 0, 0)), (87, .aload_n 0, 1, (0, 0, 0, 0)), (88, .iconst 0, 1, (0, 0, 0, 0)), (89, .putfield 62, 3, (8, 12, 0, 0)), (92, .iconst 0, 1, (0, 0, 0, 0)), (93, .istore_n 1, 1, (0, 0, 0, 0)), (94, .iload_n 1, 1, (0, 0, 0, 0)), (95, .bipush 24, 2, (0, 0, 0, 0)), (97, .if_icmp .ge 16, 3, (113, 0, 0, 0)), (100, .aload_n 0, 1, (0, 0, 0, 0)), (101, .getfield 29, 3, (8, 3, 1, 1)), (104, .iload_n 1, 1, (0, 0, 0, 0)), (105, .iconst (-1), 1, (0, 0, 0, 0)), (106, .iastore, 1, (0, 0, 0, 0)), (107, .iinc 1 1, 3, (0, 0, 0, 0)), (110, .goto (-16), 3, (94, 0, 0, 0)), (113, .return_, 1, (0, 0, 0, 0))]
def m_89 : VM := (RX8, yX8_init, cX8_init, 2, none, 2, 40, k_89)
def k_90_0 : List VE := [(0, .aload_n 0, 1, (0, 0, 0, 0)), (1, .aload_n 1, 1, (0, 0, 0, 0)), (2, .getfield 40, 3, (8, 5, 0, 0)), (5, .putfield 40, 3, (8, 5, 0, 0)), (8, .iconst 0, 1, (0, 0, 0, 0)), (9, .istore_n 2, 1, (0, 0, 0, 0)), (10, .iload_n 2, 1, (0, 0, 0, 0)), (11, .aload_n 0, 1, (0, 0, 0, 0)), (12, .getfield 40, 3, (8, 5, 0, 0)), (15, .if_icmp .ge 22, 3, (37, 0, 0, 0)), (18, .aload_n 0, 1, (0, 0, 0, 0)), (19, .iload_n 2, 1, (0, 0, 0, 0)), (20, .invokevirtual 65, 3, (91, 2, 0, 0)), (23, .aload_n 1, 1, (0, 0, 0, 0)), (24, .iload_n 2, 1, (0, 0, 0, 0)), (25, .invokevirtual 65, 3, (91, 2, 0, 0)), (28, .invokevirtual 69, 3, (44, 2, 0, 0)), (31, .iinc 2 1, 3, (0, 0, 0, 0)), (34, .goto (-24), 3, (10, 0, 0, 0)), (37, .aload_n 0, 1, (0, 0, 0, 0)), (38, .aload_n 1, 1, (0, 0, 0, 0)), (39, .getfield 44, 3, (8, 6, 0, 0)), (42, .putfield 44, 3, (8, 6, 0, 0)), (45, .iconst 0, 1, (0, 0, 0, 0)), (46, .istore_n 2, 1, (0, 0, 0, 0)), (47, .iload_n 2, 1, (0, 0, 0, 0)), (48, .aload_n 0, 1, (0, 0, 0, 0)), (49, .getfield 44, 3, (8, 6, 0, 0)), (52, .if_icmp .ge 22, 3, (74, 0, 0, 0)), (55, .aload_n 0, 1, (0, 0, 0, 0)), (56, .iload_n 2, 1, (0, 0, 0, 0)), (57, .invokevirtual 73, 3, (92, 2, 0, 0)), (60, .aload_n 1, 1, (0, 0, 0, 0)), (61, .iload_n 2, 1, (0, 0, 0, 0)), (62, .invokevirtual 73, 3, (92, 2, 0, 0)), (65, .invokevirtual 77, 3, (30, 2, 0, 0)), (68, .iinc 2 1, 3, (0, 0, 0, 0)), (71, .goto (-24), 3, (47, 0, 0, 0)), (74, .aload_n 0, 1, (0, 0, 0, 0)), (75, .aload_n 1, 1, (0, 0, 0, 0)), (76, .getfield 47, 3, (8, 7, 0, 0)), (79, .putfield 47, 3, (8, 7, 0, 0)), (82, .iconst 0, 1, (0, 0, 0, 0)), (83, .istore_n 2, 1, (0, 0, 0, 0)), (84, .iload_n 2, 1, (0, 0, 0, 0)), (85, .aload_n 0, 1, (0, 0, 0, 0)), (86, .getfield 47, 3, (8, 7, 0, 0)), (89, .if_icmp .ge 22, 3, (111, 0, 0, 0)), (92, .aload_n 0, 1, (0, 0, 0, 0)), (93, .iload_n 2, 1, (0, 0, 0, 0)), (94, .invokevirtual 80, 3, (93, 2, 0, 0)), (97, .aload_n 1, 1, (0, 0, 0, 0)), (98, .iload_n 2, 1, (0, 0, 0, 0)), (99, .invokevirtual 80, 3, (93, 2, 0, 0)), (102, .invokevirtual 84, 3, (84, 2, 0, 0)), (105, .iinc 2 1, 3, (0, 0, 0, 0)), (108, .goto (-24), 3, (84, 0, 0, 0)), (111, .aload_n 1, 1, (0, 0, 0, 0)), (112, .getfield 29, 3, (8, 3, 1, 1)), (115, .iconst 0, 1, (0, 0, 0, 0))]
def k_90_1 : List VE := [(116, .aload_n 0, 1, (0, 0, 0, 0)), (117, .getfield 29, 3, (8, 3, 1, 1)), (120, .iconst 0, 1, (0, 0, 0, 0)), (121, .bipush 24, 2, (0, 0, 0, 0)), (123, .invokestatic 87, 3, (0, 5, 6, 0)), (126, .aload_n 0, 1, (0, 0, 0, 0)), (127, .getfield 36, 3, (8, 4, 1, 1)), (130, .aload_n 1, 1, (0, 0, 0, 0)), (131, .getfield 36, 3, (8, 4, 1, 1)), (134, .invokevirtual 93, 3, (27, 2, 0, 0)), (137, .aload_n 0, 1, (0, 0, 0, 0)), (138, .aload_n 1, 1, (0, 0, 0, 0)), (139, .getfield 50, 3, (8, 8, 0, 0)), (142, .putfield 50, 3, (8, 8, 0, 0)), (145, .aload_n 0, 1, (0, 0, 0, 0)), (146, .aload_n 1, 1, (0, 0, 0, 0)), (147, .getfield 53, 3, (8, 9, 0, 0)), (150, .putfield 53, 3, (8, 9, 0, 0)), (153, .aload_n 0, 1, (0, 0, 0, 0)), (154, .aload_n 1, 1, (0, 0, 0, 0)), (155, .getfield 56, 3, (8, 10, 0, 0)), (158, .putfield 56, 3, (8, 10, 0, 0)), (161, .aload_n 0, 1, (0, 0, 0, 0)), (162, .aload_n 1, 1, (0, 0, 0, 0)), (163, .getfield 59, 3, (8, 11, 0, 0)), (166, .putfield 59, 3, (8, 11, 0, 0)), (169, .aload_n 0, 1, (0, 0, 0, 0)), (170, .aload_n 1, 1, (0, 0, 0, 0)), (171, .getfield 62, 3, (8, 12, 0, 0)), (174, .putfield 62, 3, (8, 12, 0, 0)), (177, .return_, 1, (0, 0, 0, 0))]
def k_90 : List VE := (k_90_0 ++ (k_90_1))
def m_90 : VM := (RX8, yX8_become, cX8_become, 3, none, 3, 89, k_90)
def k_91 : List VE := [(0, .aload_n 0, 1, (0, 0, 0, 0)), (1, .getfield 11, 3, (8, 0, 1, 1)), (4, .iload_n 1, 1, (0, 0, 0, 0)), (5, .aaload, 1, (0, 0, 0, 0)), (6, .ifnonnull 16, 3, (22, 0, 0, 0)), (9, .aload_n 0, 1, (0, 0, 0, 0)), (10, .getfield 11, 3, (8, 0, 1, 1)), (13, .iload_n 1, 1, (0, 0, 0, 0)), (14, .new 9, 3, (3, 2, 4, 0)), (17, .dup, 1, (0, 0, 0, 0)), (18, .invokespecial 96, 3, (42, 1, 4, 0)), (21, .aastore, 1, (0, 0, 0, 0)), (22, .aload_n 0, 1, (0, 0, 0, 0)), (23, .getfield 11, 3, (8, 0, 1, 1)), (26, .iload_n 1, 1, (0, 0, 0, 0)), (27, .aaload, 1, (0, 0, 0, 0)), (28, .areturn, 1, (0, 0, 0, 0))]
def m_91 : VM := (RX8, yX8_hiveOf, cX8_hiveOf, 2, (some (.object "BeeYard$Hive")), 2, 40, k_91)
def k_92 : List VE := [(0, .aload_n 0, 1, (0, 0, 0, 0)), (1, .getfield 19, 3, (8, 1, 1, 1)), (4, .iload_n 1, 1, (0, 0, 0, 0)), (5, .aaload, 1, (0, 0, 0, 0)), (6, .ifnonnull 16, 3, (22, 0, 0, 0)), (9, .aload_n 0, 1, (0, 0, 0, 0)), (10, .getfield 19, 3, (8, 1, 1, 1)), (13, .iload_n 1, 1, (0, 0, 0, 0)), (14, .new 17, 3, (2, 2, 3, 0)), (17, .dup, 1, (0, 0, 0, 0)), (18, .invokespecial 97, 3, (28, 1, 4, 0)), (21, .aastore, 1, (0, 0, 0, 0)), (22, .aload_n 0, 1, (0, 0, 0, 0)), (23, .getfield 19, 3, (8, 1, 1, 1)), (26, .iload_n 1, 1, (0, 0, 0, 0)), (27, .aaload, 1, (0, 0, 0, 0)), (28, .areturn, 1, (0, 0, 0, 0))]
def m_92 : VM := (RX8, yX8_frameOf, cX8_frameOf, 2, (some (.object "BeeYard$Frame")), 2, 40, k_92)
def k_93 : List VE := [(0, .aload_n 0, 1, (0, 0, 0, 0)), (1, .getfield 25, 3, (8, 2, 1, 1)), (4, .iload_n 1, 1, (0, 0, 0, 0)), (5, .aaload, 1, (0, 0, 0, 0)), (6, .ifnonnull 16, 3, (22, 0, 0, 0)), (9, .aload_n 0, 1, (0, 0, 0, 0)), (10, .getfield 25, 3, (8, 2, 1, 1)), (13, .iload_n 1, 1, (0, 0, 0, 0)), (14, .new 23, 3, (7, 2, 8, 0)), (17, .dup, 1, (0, 0, 0, 0)), (18, .invokespecial 98, 3, (82, 1, 4, 0)), (21, .aastore, 1, (0, 0, 0, 0)), (22, .aload_n 0, 1, (0, 0, 0, 0)), (23, .getfield 25, 3, (8, 2, 1, 1)), (26, .iload_n 1, 1, (0, 0, 0, 0)), (27, .aaload, 1, (0, 0, 0, 0)), (28, .areturn, 1, (0, 0, 0, 0))]
def m_93 : VM := (RX8, yX8_thingOf, cX8_thingOf, 2, (some (.object "BeeYard$Thing")), 2, 40, k_93)
def k_94 : List VE := [(0, .aload_n 0, 1, (0, 0, 0, 0)), (1, .aload_n 0, 1, (0, 0, 0, 0)), (2, .getfield 40, 3, (8, 5, 0, 0)), (5, .invokevirtual 65, 3, (91, 2, 0, 0)), (8, .iload_n 1, 1, (0, 0, 0, 0)), (9, .invokevirtual 99, 3, (43, 2, 0, 0)), (12, .aload_n 0, 1, (0, 0, 0, 0)), (13, .dup, 1, (0, 0, 0, 0)), (14, .getfield 40, 3, (8, 5, 0, 0)), (17, .iconst 1, 1, (0, 0, 0, 0)), (18, .iadd, 1, (0, 0, 0, 0)), (19, .putfield 40, 3, (8, 5, 0, 0)), (22, .aload_n 0, 1, (0, 0, 0, 0)), (23, .getfield 40, 3, (8, 5, 0, 0)), (26, .iconst 1, 1, (0, 0, 0, 0)), (27, .isub, 1, (0, 0, 0, 0)), (28, .ireturn, 1, (0, 0, 0, 0))]
def m_94 : VM := (RX8, yX8_addHive, cX8_addHive, 2, (some .int), 3, 61, k_94)
def k_95 : List VE := [(0, .aload_n 0, 1, (0, 0, 0, 0)), (1, .aload_n 0, 1, (0, 0, 0, 0)), (2, .getfield 44, 3, (8, 6, 0, 0)), (5, .invokevirtual 73, 3, (92, 2, 0, 0)), (8, .iload_n 2, 1, (0, 0, 0, 0)), (9, .invokevirtual 103, 3, (29, 2, 0, 0)), (12, .aload_n 0, 1, (0, 0, 0, 0)), (13, .iload_n 1, 1, (0, 0, 0, 0)), (14, .aload_n 0, 1, (0, 0, 0, 0)), (15, .getfield 44, 3, (8, 6, 0, 0)), (18, .invokevirtual 104, 3, (99, 3, 0, 0)), (21, .aload_n 0, 1, (0, 0, 0, 0)), (22, .dup, 1, (0, 0, 0, 0)), (23, .getfield 44, 3, (8, 6, 0, 0)), (26, .iconst 1, 1, (0, 0, 0, 0)), (27, .iadd, 1, (0, 0, 0, 0)), (28, .putfield 44, 3, (8, 6, 0, 0)), (31, .aload_n 0, 1, (0, 0, 0, 0)), (32, .getfield 44, 3, (8, 6, 0, 0)), (35, .iconst 1, 1, (0, 0, 0, 0)), (36, .isub, 1, (0, 0, 0, 0)), (37, .ireturn, 1, (0, 0, 0, 0))]
def m_95 : VM := (RX8, yX8_addFrame, cX8_addFrame, 3, (some .int), 4, 83, k_95)
def k_96 : List VE := [(0, .aload_n 0, 1, (0, 0, 0, 0)), (1, .aload_n 0, 1, (0, 0, 0, 0)), (2, .getfield 47, 3, (8, 7, 0, 0)), (5, .invokevirtual 80, 3, (93, 2, 0, 0)), (8, .iload_n 1, 1, (0, 0, 0, 0)), (9, .invokevirtual 108, 3, (83, 2, 0, 0)), (12, .aload_n 0, 1, (0, 0, 0, 0)), (13, .dup, 1, (0, 0, 0, 0)), (14, .getfield 47, 3, (8, 7, 0, 0)), (17, .iconst 1, 1, (0, 0, 0, 0)), (18, .iadd, 1, (0, 0, 0, 0)), (19, .putfield 47, 3, (8, 7, 0, 0)), (22, .aload_n 0, 1, (0, 0, 0, 0)), (23, .getfield 47, 3, (8, 7, 0, 0)), (26, .iconst 1, 1, (0, 0, 0, 0)), (27, .isub, 1, (0, 0, 0, 0)), (28, .ireturn, 1, (0, 0, 0, 0))]
def m_96 : VM := (RX8, yX8_addThing, cX8_addThing, 2, (some .int), 3, 61, k_96)
def k_97 : List VE := [(0, .iload_n 1, 1, (0, 0, 0, 0)), (1, .bipush 96, 2, (0, 0, 0, 0)), (3, .idiv, 1, (0, 0, 0, 0)), (4, .istore_n 2, 1, (0, 0, 0, 0)), (5, .iload_n 2, 1, (0, 0, 0, 0)), (6, .aload_n 0, 1, (0, 0, 0, 0)), (7, .getfield 40, 3, (8, 5, 0, 0)), (10, .if_icmp .ge 22, 3, (32, 0, 0, 0)), (13, .iload_n 1, 1, (0, 0, 0, 0)), (14, .bipush 96, 2, (0, 0, 0, 0)), (16, .irem, 1, (0, 0, 0, 0)), (17, .aload_n 0, 1, (0, 0, 0, 0)), (18, .iload_n 2, 1, (0, 0, 0, 0)), (19, .invokevirtual 65, 3, (91, 2, 0, 0)), (22, .invokevirtual 109, 3, (45, 1, 0, 0)), (25, .if_icmp .ge 7, 3, (32, 0, 0, 0)), (28, .iconst 1, 1, (0, 0, 0, 0)), (29, .goto 4, 3, (33, 0, 0, 0)), (32, .iconst 0, 1, (0, 0, 0, 0)), (33, .ireturn, 1, (1, 0, 0, 0))]
def m_97 : VM := (RX8, yX8_hasPlace, cX8_hasPlace, 3, (some .boolean), 3, 61, k_97)
def k_98 : List VE := [(0, .aload_n 0, 1, (0, 0, 0, 0)), (1, .iload_n 1, 1, (0, 0, 0, 0)), (2, .bipush 96, 2, (0, 0, 0, 0)), (4, .idiv, 1, (0, 0, 0, 0)), (5, .invokevirtual 65, 3, (91, 2, 0, 0)), (8, .getfield 113, 3, (3, 0, 1, 1)), (11, .iload_n 1, 1, (0, 0, 0, 0)), (12, .bipush 96, 2, (0, 0, 0, 0)), (14, .irem, 1, (0, 0, 0, 0)), (15, .iaload, 1, (0, 0, 0, 0)), (16, .ireturn, 1, (0, 0, 0, 0))]
def m_98 : VM := (RX8, yX8_frameNumberAt, cX8_frameNumberAt, 2, (some .int), 3, 61, k_98)
def k_99 : List VE := [(0, .aload_n 0, 1, (0, 0, 0, 0)), (1, .iload_n 1, 1, (0, 0, 0, 0)), (2, .bipush 96, 2, (0, 0, 0, 0)), (4, .idiv, 1, (0, 0, 0, 0)), (5, .invokevirtual 65, 3, (91, 2, 0, 0)), (8, .getfield 113, 3, (3, 0, 1, 1)), (11, .iload_n 1, 1, (0, 0, 0, 0)), (12, .bipush 96, 2, (0, 0, 0, 0)), (14, .irem, 1, (0, 0, 0, 0)), (15, .iload_n 2, 1, (0, 0, 0, 0)), (16, .iastore, 1, (0, 0, 0, 0)), (17, .return_, 1, (0, 0, 0, 0))]
def m_99 : VM := (RX8, yX8_setFrameNumberAt, cX8_setFrameNumberAt, 3, none, 3, 61, k_99)
def k_100 : List VE := [(0, .aload_n 0, 1, (0, 0, 0, 0)), (1, .aload_n 0, 1, (0, 0, 0, 0)), (2, .iload_n 1, 1, (0, 0, 0, 0)), (3, .invokevirtual 116, 3, (98, 2, 0, 0)), (6, .invokevirtual 73, 3, (92, 2, 0, 0)), (9, .areturn, 1, (0, 0, 0, 0))]
def m_100 : VM := (RX8, yX8_frameAt, cX8_frameAt, 2, (some (.object "BeeYard$Frame")), 4, 82, k_100)
def k_101 : List VE := [(0, .aload_n 0, 1, (0, 0, 0, 0)), (1, .iconst (-1), 1, (0, 0, 0, 0)), (2, .invokevirtual 120, 3, (102, 2, 0, 0)), (5, .ireturn, 1, (0, 0, 0, 0))]
def m_101 : VM := (RX8, yX8_freeBenchPlace, cX8_freeBenchPlace, 1, (some .int), 1, 22, k_101)
def k_102 : List VE := [(0, .iconst 0, 1, (0, 0, 0, 0)), (1, .istore_n 2, 1, (0, 0, 0, 0)), (2, .iload_n 2, 1, (0, 0, 0, 0)), (3, .bipush 24, 2, (0, 0, 0, 0)), (5, .if_icmp .ge 21, 3, (26, 0, 0, 0)), (8, .aload_n 0, 1, (0, 0, 0, 0)), (9, .getfield 29, 3, (8, 3, 1, 1)), (12, .iload_n 2, 1, (0, 0, 0, 0)), (13, .iaload, 1, (0, 0, 0, 0)), (14, .iload_n 1, 1, (0, 0, 0, 0)), (15, .if_icmp .ne 5, 3, (20, 0, 0, 0)), (18, .iload_n 2, 1, (0, 0, 0, 0)), (19, .ireturn, 1, (0, 0, 0, 0)), (20, .iinc 2 1, 3, (0, 0, 0, 0)), (23, .goto (-21), 3, (2, 0, 0, 0)), (26, .iconst (-1), 1, (0, 0, 0, 0)), (27, .ireturn, 1, (0, 0, 0, 0))]
def m_102 : VM := (RX8, yX8_benchPlaceOf, cX8_benchPlaceOf, 3, (some .int), 0, 0, k_102)
def k_103 : List VE := [(0, .iconst 0, 1, (0, 0, 0, 0)), (1, .istore_n 2, 1, (0, 0, 0, 0)), (2, .iload_n 2, 1, (0, 0, 0, 0)), (3, .aload_n 0, 1, (0, 0, 0, 0)), (4, .getfield 40, 3, (8, 5, 0, 0)), (7, .if_icmp .ge 52, 3, (59, 0, 0, 0)), (10, .aload_n 0, 1, (0, 0, 0, 0)), (11, .iload_n 2, 1, (0, 0, 0, 0)), (12, .invokevirtual 65, 3, (91, 2, 0, 0)), (15, .astore_n 3, 1, (0, 0, 0, 0)), (16, .iconst 0, 1, (0, 0, 0, 0)), (17, .istore 4, 2, (0, 0, 0, 0)), (19, .iload 4, 2, (0, 0, 0, 0)), (21, .aload_n 3, 1, (0, 0, 0, 0)), (22, .invokevirtual 109, 3, (45, 1, 0, 0)), (25, .if_icmp .ge 28, 3, (53, 0, 0, 0)), (28, .aload_n 3, 1, (0, 0, 0, 0)), (29, .getfield 113, 3, (3, 0, 1, 1)), (32, .iload 4, 2, (0, 0, 0, 0)), (34, .iaload, 1, (0, 0, 0, 0)), (35, .iload_n 1, 1, (0, 0, 0, 0)), (36, .if_icmp .ne 11, 3, (47, 0, 0, 0)), (39, .iload_n 2, 1, (0, 0, 0, 0)), (40, .bipush 96, 2, (0, 0, 0, 0)), (42, .imul, 1, (0, 0, 0, 0)), (43, .iload 4, 2, (0, 0, 0, 0)), (45, .iadd, 1, (0, 0, 0, 0)), (46, .ireturn, 1, (0, 0, 0, 0)), (47, .iinc 4 1, 3, (0, 0, 0, 0)), (50, .goto (-31), 3, (19, 0, 0, 0)), (53, .iinc 2 1, 3, (0, 0, 0, 0)), (56, .goto (-54), 3, (2, 0, 0, 0)), (59, .iconst (-1), 1, (0, 0, 0, 0)), (60, .ireturn, 1, (0, 0, 0, 0))]
def m_103 : VM := (RX8, yX8_placeOf, cX8_placeOf, 5, (some .int), 3, 61, k_103)
def k_104 : List VE := [(0, .iload_n 2, 1, (0, 0, 0, 0)), (1, .istore_n 3, 1, (0, 0, 0, 0)), (2, .iload_n 3, 1, (0, 0, 0, 0)), (3, .aload_n 0, 1, (0, 0, 0, 0)), (4, .getfield 40, 3, (8, 5, 0, 0)), (7, .bipush 96, 2, (0, 0, 0, 0)), (9, .imul, 1, (0, 0, 0, 0)), (10, .if_icmp .ge 40, 3, (50, 0, 0, 0)), (13, .aload_n 0, 1, (0, 0, 0, 0)), (14, .iload_n 3, 1, (0, 0, 0, 0)), (15, .invokevirtual 123, 3, (97, 2, 0, 0)), (18, .ifCond .eq 26, 3, (44, 0, 0, 0)), (21, .aload_n 0, 1, (0, 0, 0, 0)), (22, .iload_n 3, 1, (0, 0, 0, 0)), (23, .invokevirtual 116, 3, (98, 2, 0, 0)), (26, .iconst (-1), 1, (0, 0, 0, 0)), (27, .if_icmp .eq 17, 3, (44, 0, 0, 0)), (30, .aload_n 0, 1, (0, 0, 0, 0)), (31, .iload_n 3, 1, (0, 0, 0, 0)), (32, .invokevirtual 127, 3, (100, 2, 0, 0)), (35, .iload_n 1, 1, (0, 0, 0, 0)), (36, .invokevirtual 130, 3, (31, 2, 0, 0)), (39, .ifCond .eq 5, 3, (44, 0, 0, 0)), (42, .iload_n 3, 1, (0, 0, 0, 0)), (43, .ireturn, 1, (0, 0, 0, 0)), (44, .iinc 3 1, 3, (0, 0, 0, 0)), (47, .goto (-45), 3, (2, 0, 0, 0)), (50, .iconst (-1), 1, (0, 0, 0, 0)), (51, .ireturn, 1, (0, 0, 0, 0))]
def m_104 : VM := (RX8, yX8_placeWithValue, cX8_placeWithValue, 4, (some .int), 5, 103, k_104)
def k_105 : List VE := [(0, .iload_n 1, 1, (0, 0, 0, 0)), (1, .iload_n 2, 1, (0, 0, 0, 0)), (2, .if_icmp .eq 25, 3, (27, 0, 0, 0)), (5, .aload_n 0, 1, (0, 0, 0, 0)), (6, .dup, 1, (0, 0, 0, 0)), (7, .getfield 59, 3, (8, 11, 0, 0)), (10, .aload_n 0, 1, (0, 0, 0, 0)), (11, .iload_n 1, 1, (0, 0, 0, 0)), (12, .invokevirtual 127, 3, (100, 2, 0, 0)), (15, .aload_n 0, 1, (0, 0, 0, 0)), (16, .iload_n 2, 1, (0, 0, 0, 0)), (17, .invokevirtual 127, 3, (100, 2, 0, 0)), (20, .invokevirtual 133, 3, (36, 2, 0, 0)), (23, .iadd, 1, (0, 0, 0, 0)), (24, .putfield 59, 3, (8, 11, 0, 0)), (27, .return_, 1, (0, 0, 0, 0))]
def m_105 : VM := (RX8, yX8_moveFields, cX8_moveFields, 3, none, 5, 103, k_105)
def k_106 : List VE := [(0, .iconst 0, 1, (0, 0, 0, 0)), (1, .istore_n 3, 1, (0, 0, 0, 0)), (2, .iconst 0, 1, (0, 0, 0, 0)), (3, .istore 4, 2, (0, 0, 0, 0)), (5, .iload 4, 2, (0, 0, 0, 0)), (7, .aload_n 1, 1, (0, 0, 0, 0)), (8, .invokevirtual 109, 3, (45, 1, 0, 0)), (11, .if_icmp .ge 45, 3, (56, 0, 0, 0)), (14, .iload_n 3, 1, (0, 0, 0, 0)), (15, .iload_n 2, 1, (0, 0, 0, 0)), (16, .if_icmp .ge 40, 3, (56, 0, 0, 0)), (19, .aload_n 1, 1, (0, 0, 0, 0)), (20, .getfield 113, 3, (3, 0, 1, 1)), (23, .iload 4, 2, (0, 0, 0, 0)), (25, .iaload, 1, (0, 0, 0, 0)), (26, .iconst (-1), 1, (0, 0, 0, 0)), (27, .if_icmp .eq 23, 3, (50, 0, 0, 0)), (30, .iload_n 3, 1, (0, 0, 0, 0)), (31, .aload_n 0, 1, (0, 0, 0, 0)), (32, .aload_n 1, 1, (0, 0, 0, 0)), (33, .getfield 113, 3, (3, 0, 1, 1)), (36, .iload 4, 2, (0, 0, 0, 0)), (38, .iaload, 1, (0, 0, 0, 0)), (39, .invokevirtual 73, 3, (92, 2, 0, 0)), (42, .iload_n 2, 1, (0, 0, 0, 0)), (43, .iload_n 3, 1, (0, 0, 0, 0)), (44, .isub, 1, (0, 0, 0, 0)), (45, .invokevirtual 137, 3, (33, 2, 0, 0)), (48, .iadd, 1, (0, 0, 0, 0)), (49, .istore_n 3, 1, (0, 0, 0, 0)), (50, .iinc 4 1, 3, (0, 0, 0, 0)), (53, .goto (-48), 3, (5, 0, 0, 0)), (56, .iload_n 3, 1, (0, 0, 0, 0)), (57, .ireturn, 1, (0, 0, 0, 0))]
def m_106 : VM := (RX8, yX8_fillHoney, cX8_fillHoney, 5, (some .int), 3, 61, k_106)
def k_107 : List VE := [(0, .iload_n 1, 1, (0, 0, 0, 0)), (1, .tableswitch 51 0 3 #[31, 36, 41, 46], 31, (0, 0, 0, 0)), (32, .aload_n 0, 1, (0, 0, 0, 0)), (33, .invokevirtual 140, 3, (108, 1, 0, 0)), (36, .ireturn, 1, (0, 0, 0, 0)), (37, .aload_n 0, 1, (0, 0, 0, 0)), (38, .getfield 53, 3, (8, 9, 0, 0)), (41, .ireturn, 1, (0, 0, 0, 0)), (42, .aload_n 0, 1, (0, 0, 0, 0)), (43, .getfield 56, 3, (8, 10, 0, 0)), (46, .ireturn, 1, (0, 0, 0, 0)), (47, .aload_n 0, 1, (0, 0, 0, 0)), (48, .getfield 59, 3, (8, 11, 0, 0)), (51, .ireturn, 1, (0, 0, 0, 0)), (52, .aload_n 0, 1, (0, 0, 0, 0)), (53, .getfield 62, 3, (8, 12, 0, 0)), (56, .ireturn, 1, (0, 0, 0, 0))]
def m_107 : VM := (RX8, yX8_honeyNumber, cX8_honeyNumber, 2, (some .int), 4, 83, k_107)
def k_108 : List VE := [(0, .iconst 0, 1, (0, 0, 0, 0)), (1, .istore_n 1, 1, (0, 0, 0, 0)), (2, .iconst 0, 1, (0, 0, 0, 0)), (3, .istore_n 2, 1, (0, 0, 0, 0)), (4, .iload_n 2, 1, (0, 0, 0, 0)), (5, .aload_n 0, 1, (0, 0, 0, 0)), (6, .getfield 44, 3, (8, 6, 0, 0)), (9, .if_icmp .ge 20, 3, (29, 0, 0, 0)), (12, .iload_n 1, 1, (0, 0, 0, 0)), (13, .aload_n 0, 1, (0, 0, 0, 0)), (14, .iload_n 2, 1, (0, 0, 0, 0)), (15, .invokevirtual 73, 3, (92, 2, 0, 0)), (18, .invokevirtual 143, 3, (32, 1, 0, 0)), (21, .iadd, 1, (0, 0, 0, 0)), (22, .istore_n 1, 1, (0, 0, 0, 0)), (23, .iinc 2 1, 3, (0, 0, 0, 0)), (26, .goto (-22), 3, (4, 0, 0, 0)), (29, .iload_n 1, 1, (0, 0, 0, 0)), (30, .ireturn, 1, (0, 0, 0, 0))]
def m_108 : VM := (RX8, yX8_honeyInAllFrames, cX8_honeyInAllFrames, 3, (some .int), 3, 61, k_108)
def k_109 : List VE := [(0, .iconst 0, 1, (0, 0, 0, 0)), (1, .istore_n 3, 1, (0, 0, 0, 0)), (2, .iconst 0, 1, (0, 0, 0, 0)), (3, .istore 4, 2, (0, 0, 0, 0)), (5, .iload 4, 2, (0, 0, 0, 0)), (7, .aload_n 1, 1, (0, 0, 0, 0)), (8, .invokevirtual 109, 3, (45, 1, 0, 0)), (11, .if_icmp .ge 38, 3, (49, 0, 0, 0)), (14, .aload_n 1, 1, (0, 0, 0, 0)), (15, .getfield 113, 3, (3, 0, 1, 1)), (18, .iload 4, 2, (0, 0, 0, 0)), (20, .iaload, 1, (0, 0, 0, 0)), (21, .iconst (-1), 1, (0, 0, 0, 0)), (22, .if_icmp .eq 21, 3, (43, 0, 0, 0)), (25, .iload_n 3, 1, (0, 0, 0, 0)), (26, .aload_n 0, 1, (0, 0, 0, 0)), (27, .aload_n 1, 1, (0, 0, 0, 0)), (28, .getfield 113, 3, (3, 0, 1, 1)), (31, .iload 4, 2, (0, 0, 0, 0)), (33, .iaload, 1, (0, 0, 0, 0)), (34, .invokevirtual 73, 3, (92, 2, 0, 0)), (37, .iload_n 2, 1, (0, 0, 0, 0)), (38, .invokevirtual 146, 3, (39, 2, 0, 0)), (41, .iadd, 1, (0, 0, 0, 0)), (42, .istore_n 3, 1, (0, 0, 0, 0)), (43, .iinc 4 1, 3, (0, 0, 0, 0)), (46, .goto (-41), 3, (5, 0, 0, 0)), (49, .iload_n 3, 1, (0, 0, 0, 0)), (50, .ireturn, 1, (0, 0, 0, 0))]
def m_109 : VM := (RX8, yX8_fieldsNumber, cX8_fieldsNumber, 5, (some .int), 3, 68, k_109)
def k_110 : List VE := [(0, .iconst 0, 1, (0, 0, 0, 0)), (1, .istore_n 2, 1, (0, 0, 0, 0)), (2, .iload_n 2, 1, (0, 0, 0, 0)), (3, .aload_n 0, 1, (0, 0, 0, 0)), (4, .getfield 40, 3, (8, 5, 0, 0)), (7, .if_icmp .ge 23, 3, (30, 0, 0, 0)), (10, .aload_n 0, 1, (0, 0, 0, 0)), (11, .iload_n 2, 1, (0, 0, 0, 0)), (12, .invokevirtual 65, 3, (91, 2, 0, 0)), (15, .getfield 149, 3, (3, 5, 0, 0)), (18, .iload_n 1, 1, (0, 0, 0, 0)), (19, .if_icmp .ne 5, 3, (24, 0, 0, 0)), (22, .iload_n 2, 1, (0, 0, 0, 0)), (23, .ireturn, 1, (0, 0, 0, 0)), (24, .iinc 2 1, 3, (0, 0, 0, 0)), (27, .goto (-25), 3, (2, 0, 0, 0)), (30, .iconst (-1), 1, (0, 0, 0, 0)), (31, .ireturn, 1, (0, 0, 0, 0))]
def m_110 : VM := (RX8, yX8_hiveWithInSlot, cX8_hiveWithInSlot, 3, (some .int), 3, 61, k_110)
def k_111 : List VE := [(0, .iconst 0, 1, (0, 0, 0, 0)), (1, .istore_n 2, 1, (0, 0, 0, 0)), (2, .iload_n 2, 1, (0, 0, 0, 0)), (3, .aload_n 0, 1, (0, 0, 0, 0)), (4, .getfield 47, 3, (8, 7, 0, 0)), (7, .if_icmp .ge 23, 3, (30, 0, 0, 0)), (10, .aload_n 0, 1, (0, 0, 0, 0)), (11, .iload_n 2, 1, (0, 0, 0, 0)), (12, .invokevirtual 80, 3, (93, 2, 0, 0)), (15, .getfield 152, 3, (7, 8, 0, 0)), (18, .iload_n 1, 1, (0, 0, 0, 0)), (19, .if_icmp .ne 5, 3, (24, 0, 0, 0)), (22, .iload_n 2, 1, (0, 0, 0, 0)), (23, .ireturn, 1, (0, 0, 0, 0)), (24, .iinc 2 1, 3, (0, 0, 0, 0)), (27, .goto (-25), 3, (2, 0, 0, 0)), (30, .iconst (-1), 1, (0, 0, 0, 0)), (31, .ireturn, 1, (0, 0, 0, 0))]
def m_111 : VM := (RX8, yX8_swarmAround, cX8_swarmAround, 3, (some .int), 3, 61, k_111)
def k_112 : List VE := [(0, .aload_n 0, 1, (0, 0, 0, 0)), (1, .iload_n 1, 1, (0, 0, 0, 0)), (2, .invokevirtual 155, 3, (110, 2, 0, 0)), (5, .iconst (-1), 1, (0, 0, 0, 0)), (6, .if_icmp .ne 12, 3, (18, 0, 0, 0)), (9, .aload_n 0, 1, (0, 0, 0, 0)), (10, .iload_n 1, 1, (0, 0, 0, 0)), (11, .invokevirtual 158, 3, (111, 2, 0, 0)), (14, .iconst (-1), 1, (0, 0, 0, 0)), (15, .if_icmp .eq 7, 3, (22, 0, 0, 0)), (18, .iconst 1, 1, (0, 0, 0, 0)), (19, .goto 4, 3, (23, 0, 0, 0)), (22, .iconst 0, 1, (0, 0, 0, 0)), (23, .ireturn, 1, (1, 0, 0, 0))]
def m_112 : VM := (RX8, yX8_isHeld, cX8_isHeld, 2, (some .boolean), 4, 83, k_112)
def k_113 : List VE := [(0, .iconst 0, 1, (0, 0, 0, 0)), (1, .istore_n 1, 1, (0, 0, 0, 0)), (2, .iconst 0, 1, (0, 0, 0, 0)), (3, .istore_n 2, 1, (0, 0, 0, 0)), (4, .iload_n 2, 1, (0, 0, 0, 0)), (5, .aload_n 0, 1, (0, 0, 0, 0)), (6, .getfield 40, 3, (8, 5, 0, 0)), (9, .if_icmp .ge 23, 3, (32, 0, 0, 0)), (12, .aload_n 0, 1, (0, 0, 0, 0)), (13, .iload_n 2, 1, (0, 0, 0, 0)), (14, .invokevirtual 65, 3, (91, 2, 0, 0)), (17, .getfield 161, 3, (3, 9, 0, 0)), (20, .ifCond .le 6, 3, (26, 0, 0, 0)), (23, .iinc 1 1, 3, (0, 0, 0, 0)), (26, .iinc 2 1, 3, (0, 0, 0, 0)), (29, .goto (-25), 3, (4, 0, 0, 0)), (32, .iload_n 1, 1, (0, 0, 0, 0)), (33, .ireturn, 1, (0, 0, 0, 0))]
def m_113 : VM := (RX8, yX8_countTreated, cX8_countTreated, 3, (some .int), 3, 61, k_113)
def k_114 : List VE := [(0, .iconst 0, 1, (0, 0, 0, 0)), (1, .istore_n 1, 1, (0, 0, 0, 0)), (2, .iload_n 1, 1, (0, 0, 0, 0)), (3, .aload_n 0, 1, (0, 0, 0, 0)), (4, .getfield 40, 3, (8, 5, 0, 0)), (7, .if_icmp .ge 33, 3, (40, 0, 0, 0)), (10, .aload_n 0, 1, (0, 0, 0, 0)), (11, .iload_n 1, 1, (0, 0, 0, 0)), (12, .invokevirtual 65, 3, (91, 2, 0, 0)), (15, .getfield 161, 3, (3, 9, 0, 0)), (18, .ifCond .le 16, 3, (34, 0, 0, 0)), (21, .aload_n 0, 1, (0, 0, 0, 0)), (22, .iload_n 1, 1, (0, 0, 0, 0)), (23, .invokevirtual 65, 3, (91, 2, 0, 0)), (26, .getfield 164, 3, (3, 8, 0, 0)), (29, .ifCond .ne 5, 3, (34, 0, 0, 0)), (32, .iconst 1, 1, (0, 0, 0, 0)), (33, .ireturn, 1, (1, 0, 0, 0)), (34, .iinc 1 1, 3, (0, 0, 0, 0)), (37, .goto (-35), 3, (2, 0, 0, 0)), (40, .iconst 0, 1, (0, 0, 0, 0)), (41, .ireturn, 1, (1, 0, 0, 0))]
def m_114 : VM := (RX8, yX8_lacksWashedTreated, cX8_lacksWashedTreated, 2, (some .boolean), 3, 61, k_114)
def k_115 : List VE := [(0, .aload_n 0, 1, (0, 0, 0, 0)), (1, .dup, 1, (0, 0, 0, 0)), (2, .getfield 50, 3, (8, 8, 0, 0)), (5, .iconst 1, 1, (0, 0, 0, 0)), (6, .iadd, 1, (0, 0, 0, 0)), (7, .putfield 50, 3, (8, 8, 0, 0)), (10, .iconst 0, 1, (0, 0, 0, 0)), (11, .istore_n 2, 1, (0, 0, 0, 0)), (12, .iload_n 2, 1, (0, 0, 0, 0)), (13, .aload_n 0, 1, (0, 0, 0, 0)), (14, .getfield 47, 3, (8, 7, 0, 0)), (17, .if_icmp .ge 18, 3, (35, 0, 0, 0)), (20, .aload_n 1, 1, (0, 0, 0, 0)), (21, .aload_n 0, 1, (0, 0, 0, 0)), (22, .iload_n 2, 1, (0, 0, 0, 0)), (23, .invokevirtual 80, 3, (93, 2, 0, 0)), (26, .invokevirtual 167, 3, (10, 2, 0, 0)), (29, .iinc 2 1, 3, (0, 0, 0, 0)), (32, .goto (-20), 3, (12, 0, 0, 0)), (35, .iconst 0, 1, (0, 0, 0, 0)), (36, .istore_n 2, 1, (0, 0, 0, 0)), (37, .iload_n 2, 1, (0, 0, 0, 0)), (38, .aload_n 0, 1, (0, 0, 0, 0)), (39, .getfield 40, 3, (8, 5, 0, 0)), (42, .if_icmp .ge 52, 3, (94, 0, 0, 0)), (45, .aload_n 0, 1, (0, 0, 0, 0)), (46, .iload_n 2, 1, (0, 0, 0, 0)), (47, .invokevirtual 65, 3, (91, 2, 0, 0)), (50, .astore_n 3, 1, (0, 0, 0, 0)), (51, .aload_n 0, 1, (0, 0, 0, 0)), (52, .aload_n 3, 1, (0, 0, 0, 0)), (53, .invokevirtual 172, 3, (116, 2, 0, 0)), (56, .aload_n 0, 1, (0, 0, 0, 0)), (57, .aload_n 3, 1, (0, 0, 0, 0)), (58, .aload_n 0, 1, (0, 0, 0, 0)), (59, .aload_n 3, 1, (0, 0, 0, 0)), (60, .aload_n 1, 1, (0, 0, 0, 0)), (61, .invokevirtual 175, 3, (117, 3, 0, 0)), (64, .invokevirtual 179, 3, (118, 3, 0, 0)), (67, .aload_n 0, 1, (0, 0, 0, 0)), (68, .aload_n 3, 1, (0, 0, 0, 0)), (69, .invokevirtual 183, 3, (119, 2, 0, 0)), (72, .aload_n 3, 1, (0, 0, 0, 0)), (73, .dup, 1, (0, 0, 0, 0)), (74, .getfield 186, 3, (3, 2, 0, 0)), (77, .aload_n 3, 1, (0, 0, 0, 0)), (78, .getfield 186, 3, (3, 2, 0, 0)), (81, .bipush 40, 2, (0, 0, 0, 0)), (83, .idiv, 1, (0, 0, 0, 0)), (84, .isub, 1, (0, 0, 0, 0)), (85, .putfield 186, 3, (3, 2, 0, 0)), (88, .iinc 2 1, 3, (0, 0, 0, 0)), (91, .goto (-54), 3, (37, 0, 0, 0)), (94, .return_, 1, (0, 0, 0, 0))]
def m_115 : VM := (RX8, yX8_passDay, cX8_passDay, 4, none, 4, 89, k_115)
def k_116 : List VE := [(0, .iconst 0, 1, (0, 0, 0, 0)), (1, .istore_n 2, 1, (0, 0, 0, 0)), (2, .iload_n 2, 1, (0, 0, 0, 0)), (3, .aload_n 1, 1, (0, 0, 0, 0)), (4, .invokevirtual 109, 3, (45, 1, 0, 0)), (7, .if_icmp .ge 33, 3, (40, 0, 0, 0)), (10, .aload_n 1, 1, (0, 0, 0, 0)), (11, .getfield 113, 3, (3, 0, 1, 1)), (14, .iload_n 2, 1, (0, 0, 0, 0)), (15, .iaload, 1, (0, 0, 0, 0)), (16, .iconst (-1), 1, (0, 0, 0, 0)), (17, .if_icmp .eq 17, 3, (34, 0, 0, 0)), (20, .aload_n 0, 1, (0, 0, 0, 0)), (21, .aload_n 1, 1, (0, 0, 0, 0)), (22, .getfield 113, 3, (3, 0, 1, 1)), (25, .iload_n 2, 1, (0, 0, 0, 0)), (26, .iaload, 1, (0, 0, 0, 0)), (27, .invokevirtual 73, 3, (92, 2, 0, 0)), (30, .aload_n 1, 1, (0, 0, 0, 0)), (31, .invokevirtual 189, 3, (37, 2, 0, 0)), (34, .iinc 2 1, 3, (0, 0, 0, 0)), (37, .goto (-35), 3, (2, 0, 0, 0)), (40, .return_, 1, (0, 0, 0, 0))]
def m_116 : VM := (RX8, yX8_growYoung, cX8_growYoung, 3, none, 3, 61, k_116)
def k_117 : List VE := [(0, .aload_n 1, 1, (0, 0, 0, 0)), (1, .getfield 149, 3, (3, 5, 0, 0)), (4, .iconst (-1), 1, (0, 0, 0, 0)), (5, .if_icmp .ne 10, 3, (15, 0, 0, 0)), (8, .aload_n 1, 1, (0, 0, 0, 0)), (9, .iconst 1, 1, (0, 0, 0, 0)), (10, .putfield 190, 3, (3, 11, 0, 0)), (13, .iconst 0, 1, (0, 0, 0, 0)), (14, .ireturn, 1, (0, 0, 0, 0)), (15, .aload_n 0, 1, (0, 0, 0, 0)), (16, .aload_n 1, 1, (0, 0, 0, 0)), (17, .getfield 149, 3, (3, 5, 0, 0)), (20, .invokevirtual 80, 3, (93, 2, 0, 0)), (23, .astore_n 3, 1, (0, 0, 0, 0)), (24, .aload_n 3, 1, (0, 0, 0, 0)), (25, .invokevirtual 193, 3, (86, 1, 0, 0)), (28, .ifCond .ne 10, 3, (38, 0, 0, 0)), (31, .aload_n 1, 1, (0, 0, 0, 0)), (32, .iconst 3, 1, (0, 0, 0, 0)), (33, .putfield 190, 3, (3, 11, 0, 0)), (36, .iconst 0, 1, (0, 0, 0, 0)), (37, .ireturn, 1, (0, 0, 0, 0)), (38, .aload_n 1, 1, (0, 0, 0, 0)), (39, .iconst 0, 1, (0, 0, 0, 0)), (40, .putfield 190, 3, (3, 11, 0, 0)), (43, .aload_n 2, 1, (0, 0, 0, 0)), (44, .aload_n 3, 1, (0, 0, 0, 0)), (45, .invokevirtual 197, 3, (5, 2, 0, 0)), (48, .ireturn, 1, (0, 0, 0, 0))]
def m_117 : VM := (RX8, yX8_eggsOf, cX8_eggsOf, 4, (some .int), 3, 65, k_117)
def k_118 : List VE := [(0, .iload_n 2, 1, (0, 0, 0, 0)), (1, .ifCond .ge 9, 3, (10, 0, 0, 0)), (4, .sipush 400, 3, (0, 0, 0, 0)), (7, .goto 6, 3, (13, 0, 0, 0)), (10, .sipush 300, 3, (0, 0, 0, 0)), (13, .istore_n 3, 1, (0, 0, 0, 0)), (14, .iload_n 2, 1, (0, 0, 0, 0)), (15, .ifCond .ge 8, 3, (23, 0, 0, 0)), (18, .iload_n 2, 1, (0, 0, 0, 0)), (19, .ineg, 1, (0, 0, 0, 0)), (20, .goto 4, 3, (24, 0, 0, 0)), (23, .iload_n 2, 1, (0, 0, 0, 0)), (24, .istore 4, 2, (0, 0, 0, 0)), (26, .iconst 0, 1, (0, 0, 0, 0)), (27, .istore 5, 2, (0, 0, 0, 0)), (29, .iload 5, 2, (0, 0, 0, 0)), (31, .aload_n 1, 1, (0, 0, 0, 0)), (32, .invokevirtual 109, 3, (45, 1, 0, 0)), (35, .if_icmp .ge 71, 3, (106, 0, 0, 0)), (38, .iload 4, 2, (0, 0, 0, 0)), (40, .ifCond .le 66, 3, (106, 0, 0, 0)), (43, .iload 5, 2, (0, 0, 0, 0)), (45, .bipush 12, 2, (0, 0, 0, 0)), (47, .idiv, 1, (0, 0, 0, 0)), (48, .istore 6, 2, (0, 0, 0, 0)), (50, .bipush 6, 2, (0, 0, 0, 0)), (52, .iload 5, 2, (0, 0, 0, 0)), (54, .bipush 12, 2, (0, 0, 0, 0)), (56, .irem, 1, (0, 0, 0, 0)), (57, .invokestatic 201, 3, (183, 2, 3, 0)), (60, .istore 7, 2, (0, 0, 0, 0)), (62, .aload_n 1, 1, (0, 0, 0, 0)), (63, .getfield 113, 3, (3, 0, 1, 1)), (66, .iload 6, 2, (0, 0, 0, 0)), (68, .bipush 12, 2, (0, 0, 0, 0)), (70, .imul, 1, (0, 0, 0, 0)), (71, .iload 7, 2, (0, 0, 0, 0)), (73, .iadd, 1, (0, 0, 0, 0)), (74, .iaload, 1, (0, 0, 0, 0)), (75, .istore 8, 2, (0, 0, 0, 0)), (77, .iload 8, 2, (0, 0, 0, 0)), (79, .iconst (-1), 1, (0, 0, 0, 0)), (80, .if_icmp .eq 20, 3, (100, 0, 0, 0)), (83, .iload 4, 2, (0, 0, 0, 0)), (85, .aload_n 0, 1, (0, 0, 0, 0)), (86, .iload 8, 2, (0, 0, 0, 0)), (88, .invokevirtual 73, 3, (92, 2, 0, 0)), (91, .iload_n 3, 1, (0, 0, 0, 0)), (92, .iload 4, 2, (0, 0, 0, 0)), (94, .invokevirtual 205, 3, (38, 3, 0, 0)), (97, .isub, 1, (0, 0, 0, 0)), (98, .istore 4, 2, (0, 0, 0, 0)), (100, .iinc 5 1, 3, (0, 0, 0, 0)), (103, .goto (-74), 3, (29, 0, 0, 0)), (106, .return_, 1, (0, 0, 0, 0))]
def m_118 : VM := (RX8, yX8_layYoung, cX8_layYoung, 9, none, 3, 61, k_118)
def k_119 : List VE := [(0, .aload_n 1, 1, (0, 0, 0, 0)), (1, .dup, 1, (0, 0, 0, 0)), (2, .getfield 208, 3, (3, 4, 0, 0)), (5, .aload_n 1, 1, (0, 0, 0, 0)), (6, .getfield 186, 3, (3, 2, 0, 0)), (9, .aload_n 1, 1, (0, 0, 0, 0)), (10, .getfield 211, 3, (3, 3, 0, 0)), (13, .iadd, 1, (0, 0, 0, 0)), (14, .iadd, 1, (0, 0, 0, 0)), (15, .putfield 208, 3, (3, 4, 0, 0)), (18, .aload_n 1, 1, (0, 0, 0, 0)), (19, .getfield 208, 3, (3, 4, 0, 0)), (22, .bipush 100, 2, (0, 0, 0, 0)), (24, .idiv, 1, (0, 0, 0, 0)), (25, .istore_n 2, 1, (0, 0, 0, 0)), (26, .aload_n 1, 1, (0, 0, 0, 0)), (27, .dup, 1, (0, 0, 0, 0)), (28, .getfield 208, 3, (3, 4, 0, 0)), (31, .iload_n 2, 1, (0, 0, 0, 0)), (32, .bipush 100, 2, (0, 0, 0, 0)), (34, .imul, 1, (0, 0, 0, 0)), (35, .isub, 1, (0, 0, 0, 0)), (36, .putfield 208, 3, (3, 4, 0, 0)), (39, .iconst 0, 1, (0, 0, 0, 0)), (40, .istore_n 3, 1, (0, 0, 0, 0)), (41, .iconst 0, 1, (0, 0, 0, 0)), (42, .istore 4, 2, (0, 0, 0, 0)), (44, .iload 4, 2, (0, 0, 0, 0)), (46, .aload_n 1, 1, (0, 0, 0, 0)), (47, .invokevirtual 109, 3, (45, 1, 0, 0)), (50, .if_icmp .ge 45, 3, (95, 0, 0, 0)), (53, .iload_n 3, 1, (0, 0, 0, 0)), (54, .iload_n 2, 1, (0, 0, 0, 0)), (55, .if_icmp .ge 40, 3, (95, 0, 0, 0)), (58, .aload_n 1, 1, (0, 0, 0, 0)), (59, .getfield 113, 3, (3, 0, 1, 1)), (62, .iload 4, 2, (0, 0, 0, 0)), (64, .iaload, 1, (0, 0, 0, 0)), (65, .iconst (-1), 1, (0, 0, 0, 0)), (66, .if_icmp .eq 23, 3, (89, 0, 0, 0)), (69, .iload_n 3, 1, (0, 0, 0, 0)), (70, .aload_n 0, 1, (0, 0, 0, 0)), (71, .aload_n 1, 1, (0, 0, 0, 0)), (72, .getfield 113, 3, (3, 0, 1, 1)), (75, .iload 4, 2, (0, 0, 0, 0)), (77, .iaload, 1, (0, 0, 0, 0)), (78, .invokevirtual 73, 3, (92, 2, 0, 0)), (81, .iload_n 2, 1, (0, 0, 0, 0)), (82, .iload_n 3, 1, (0, 0, 0, 0)), (83, .isub, 1, (0, 0, 0, 0)), (84, .invokevirtual 214, 3, (34, 2, 0, 0)), (87, .iadd, 1, (0, 0, 0, 0)), (88, .istore_n 3, 1, (0, 0, 0, 0)), (89, .iinc 4 1, 3, (0, 0, 0, 0)), (92, .goto (-48), 3, (44, 0, 0, 0)), (95, .aload_n 0, 1, (0, 0, 0, 0)), (96, .dup, 1, (0, 0, 0, 0)), (97, .getfield 56, 3, (8, 10, 0, 0)), (100, .iload_n 3, 1, (0, 0, 0, 0)), (101, .iadd, 1, (0, 0, 0, 0)), (102, .putfield 56, 3, (8, 10, 0, 0)), (105, .aload_n 1, 1, (0, 0, 0, 0)), (106, .dup, 1, (0, 0, 0, 0)), (107, .getfield 186, 3, (3, 2, 0, 0)), (110, .aload_n 1, 1, (0, 0, 0, 0)), (111, .getfield 186, 3, (3, 2, 0, 0)), (114, .iload_n 2, 1, (0, 0, 0, 0)), (115, .iload_n 3, 1, (0, 0, 0, 0)), (116, .isub, 1, (0, 0, 0, 0)), (117, .bipush 100, 2, (0, 0, 0, 0)), (119, .imul, 1, (0, 0, 0, 0)), (120, .invokestatic 217, 3, (0, 2, 8, 0)), (123, .isub, 1, (0, 0, 0, 0)), (124, .putfield 186, 3, (3, 2, 0, 0)), (127, .return_, 1, (0, 0, 0, 0))]
def m_119 : VM := (RX8, yX8_eatHoney, cX8_eatHoney, 5, none, 3, 61, k_119)
def k_120_0 : List VE := [(0, .iload_n 1, 1, (0, 0, 0, 0)), (1, .bipush 31, 2, (0, 0, 0, 0)), (3, .imul, 1, (0, 0, 0, 0)), (4, .aload_n 0, 1, (0, 0, 0, 0)), (5, .getfield 40, 3, (8, 5, 0, 0)), (8, .iadd, 1, (0, 0, 0, 0)), (9, .istore_n 2, 1, (0, 0, 0, 0)), (10, .iconst 0, 1, (0, 0, 0, 0)), (11, .istore_n 3, 1, (0, 0, 0, 0)), (12, .iload_n 3, 1, (0, 0, 0, 0)), (13, .aload_n 0, 1, (0, 0, 0, 0)), (14, .getfield 40, 3, (8, 5, 0, 0)), (17, .if_icmp .ge 19, 3, (36, 0, 0, 0)), (20, .aload_n 0, 1, (0, 0, 0, 0)), (21, .iload_n 3, 1, (0, 0, 0, 0)), (22, .invokevirtual 65, 3, (91, 2, 0, 0)), (25, .iload_n 2, 1, (0, 0, 0, 0)), (26, .invokevirtual 222, 3, (56, 2, 0, 0)), (29, .istore_n 2, 1, (0, 0, 0, 0)), (30, .iinc 3 1, 3, (0, 0, 0, 0)), (33, .goto (-21), 3, (12, 0, 0, 0)), (36, .iload_n 2, 1, (0, 0, 0, 0)), (37, .bipush 31, 2, (0, 0, 0, 0)), (39, .imul, 1, (0, 0, 0, 0)), (40, .aload_n 0, 1, (0, 0, 0, 0)), (41, .getfield 44, 3, (8, 6, 0, 0)), (44, .iadd, 1, (0, 0, 0, 0)), (45, .istore_n 2, 1, (0, 0, 0, 0)), (46, .iconst 0, 1, (0, 0, 0, 0)), (47, .istore_n 3, 1, (0, 0, 0, 0)), (48, .iload_n 3, 1, (0, 0, 0, 0)), (49, .aload_n 0, 1, (0, 0, 0, 0)), (50, .getfield 44, 3, (8, 6, 0, 0)), (53, .if_icmp .ge 19, 3, (72, 0, 0, 0)), (56, .aload_n 0, 1, (0, 0, 0, 0)), (57, .iload_n 3, 1, (0, 0, 0, 0)), (58, .invokevirtual 73, 3, (92, 2, 0, 0)), (61, .iload_n 2, 1, (0, 0, 0, 0)), (62, .invokevirtual 225, 3, (41, 2, 0, 0)), (65, .istore_n 2, 1, (0, 0, 0, 0)), (66, .iinc 3 1, 3, (0, 0, 0, 0)), (69, .goto (-21), 3, (48, 0, 0, 0)), (72, .iload_n 2, 1, (0, 0, 0, 0)), (73, .bipush 31, 2, (0, 0, 0, 0)), (75, .imul, 1, (0, 0, 0, 0)), (76, .aload_n 0, 1, (0, 0, 0, 0)), (77, .getfield 47, 3, (8, 7, 0, 0)), (80, .iadd, 1, (0, 0, 0, 0)), (81, .istore_n 2, 1, (0, 0, 0, 0)), (82, .iconst 0, 1, (0, 0, 0, 0)), (83, .istore_n 3, 1, (0, 0, 0, 0)), (84, .iload_n 3, 1, (0, 0, 0, 0)), (85, .aload_n 0, 1, (0, 0, 0, 0)), (86, .getfield 47, 3, (8, 7, 0, 0)), (89, .if_icmp .ge 35, 3, (124, 0, 0, 0)), (92, .iload_n 2, 1, (0, 0, 0, 0)), (93, .bipush 31, 2, (0, 0, 0, 0)), (95, .imul, 1, (0, 0, 0, 0)), (96, .aload_n 0, 1, (0, 0, 0, 0)), (97, .iload_n 3, 1, (0, 0, 0, 0))]
def k_120_1 : List VE := [(98, .invokevirtual 80, 3, (93, 2, 0, 0)), (101, .getfield 226, 3, (7, 0, 0, 0)), (104, .iadd, 1, (0, 0, 0, 0)), (105, .bipush 31, 2, (0, 0, 0, 0)), (107, .imul, 1, (0, 0, 0, 0)), (108, .aload_n 0, 1, (0, 0, 0, 0)), (109, .iload_n 3, 1, (0, 0, 0, 0)), (110, .invokevirtual 80, 3, (93, 2, 0, 0)), (113, .getfield 229, 3, (7, 1, 0, 0)), (116, .iadd, 1, (0, 0, 0, 0)), (117, .istore_n 2, 1, (0, 0, 0, 0)), (118, .iinc 3 1, 3, (0, 0, 0, 0)), (121, .goto (-37), 3, (84, 0, 0, 0)), (124, .iload_n 2, 1, (0, 0, 0, 0)), (125, .bipush 31, 2, (0, 0, 0, 0)), (127, .imul, 1, (0, 0, 0, 0)), (128, .aload_n 0, 1, (0, 0, 0, 0)), (129, .getfield 50, 3, (8, 8, 0, 0)), (132, .iadd, 1, (0, 0, 0, 0)), (133, .istore_n 2, 1, (0, 0, 0, 0)), (134, .iconst 0, 1, (0, 0, 0, 0)), (135, .istore_n 3, 1, (0, 0, 0, 0)), (136, .iload_n 3, 1, (0, 0, 0, 0)), (137, .iconst 5, 1, (0, 0, 0, 0)), (138, .if_icmp .ge 20, 3, (158, 0, 0, 0)), (141, .iload_n 2, 1, (0, 0, 0, 0)), (142, .bipush 31, 2, (0, 0, 0, 0)), (144, .imul, 1, (0, 0, 0, 0)), (145, .aload_n 0, 1, (0, 0, 0, 0)), (146, .iload_n 3, 1, (0, 0, 0, 0)), (147, .invokevirtual 230, 3, (107, 2, 0, 0)), (150, .iadd, 1, (0, 0, 0, 0)), (151, .istore_n 2, 1, (0, 0, 0, 0)), (152, .iinc 3 1, 3, (0, 0, 0, 0)), (155, .goto (-19), 3, (136, 0, 0, 0)), (158, .iload_n 2, 1, (0, 0, 0, 0)), (159, .bipush 31, 2, (0, 0, 0, 0)), (161, .imul, 1, (0, 0, 0, 0)), (162, .aload_n 0, 1, (0, 0, 0, 0)), (163, .getfield 36, 3, (8, 4, 1, 1)), (166, .getfield 233, 3, (1, 3, 0, 0)), (169, .iadd, 1, (0, 0, 0, 0)), (170, .ireturn, 1, (0, 0, 0, 0))]
def k_120 : List VE := (k_120_0 ++ (k_120_1))
def m_120 : VM := (RX8, yX8_digestFrom, cX8_digestFrom, 4, (some .int), 5, 104, k_120)
def k_121 : List VE := [(0, .aload_n 0, 1, (0, 0, 0, 0)), (1, .invokespecial 3, 3, (0, 1, 5, 0)), (4, .aload_n 0, 1, (0, 0, 0, 0)), (5, .new 9, 3, (8, 0, 9, 0)), (8, .dup, 1, (0, 0, 0, 0)), (9, .invokespecial 11, 3, (89, 1, 2, 0)), (12, .putfield 12, 3, (9, 0, 1, 0)), (15, .aload_n 0, 1, (0, 0, 0, 0)), (16, .new 9, 3, (8, 0, 9, 1)), (19, .dup, 1, (0, 0, 0, 0)), (20, .invokespecial 11, 3, (89, 1, 2, 0)), (23, .putfield 16, 3, (9, 1, 1, 0)), (26, .aload_n 0, 1, (0, 0, 0, 0)), (27, .iconst 0, 1, (0, 0, 0, 0)), (28, .putfield 19, 3, (9, 2, 2, 0)), (31, .aload_n 0, 1, (0, 0, 0, 0)), (32, .iconst 0, 1, (0, 0, 0, 0)), (33, .putfield 23, 3, (9, 3, 0, 0)), (36, .aload_n 0, 1, (0, 0, 0, 0)), (37, .iconst 0, 1, (0, 0, 0, 0)), (38, .putfield 27, 3, (9, 4, 0, 0)), (41, .aload_n 0, 1, (0, 0, 0, 0)), (42, .iconst 0, 1, (0, 0, 0, 0)), (43, .putfield 30, 3, (9, 5, 0, 0)), (46, .aload_n 0, 1, (0, 0, 0, 0)), (47, .new 33, 3, (0, 0, 1, 0)), (50, .dup, 1, (0, 0, 0, 0)), (51, .invokespecial 35, 3, (1, 1, 4, 0)), (54, .putfield 36, 3, (9, 6, 1, 1)), (57, .aload_n 0, 1, (0, 0, 0, 0)), (58, .new 40, 3, (4, 0, 5, 0)), (61, .dup, 1, (0, 0, 0, 0)), (62, .invokespecial 42, 3, (57, 1, 4, 0)), (65, .putfield 43, 3, (9, 7, 1, 1)), (68, .aload_n 0, 1, (0, 0, 0, 0)), (69, .new 47, 3, (5, 0, 6, 0)), (72, .dup, 1, (0, 0, 0, 0)), (73, .invokespecial 49, 3, (73, 1, 4, 0)), (76, .putfield 50, 3, (9, 8, 1, 1)), (79, .aload_n 0, 1, (0, 0, 0, 0)), (80, .new 54, 3, (6, 0, 7, 1)), (83, .dup, 1, (0, 0, 0, 0)), (84, .bipush 100, 2, (0, 0, 0, 0)), (86, .invokespecial 56, 3, (79, 2, 2, 0)), (89, .putfield 59, 3, (9, 9, 1, 1)), (92, .aload_n 0, 1, (0, 0, 0, 0)), (93, .new 54, 3, (6, 0, 7, 2)), (96, .dup, 1, (0, 0, 0, 0)), (97, .bipush 64, 2, (0, 0, 0, 0)), (99, .invokespecial 56, 3, (79, 2, 2, 0)), (102, .putfield 63, 3, (9, 10, 1, 1)), (105, .return_, 1, (0, 0, 0, 0))]
def m_121 : VM := (RX9, yX9_init, cX9_init, 1, none, 3, 61, k_121)
def k_122 : List VE := [(0, .iload_n 1, 1, (0, 0, 0, 0)), (1, .ifCond .lt 22, 3, (23, 0, 0, 0)), (4, .iload_n 1, 1, (0, 0, 0, 0)), (5, .sipush 20000, 3, (0, 0, 0, 0)), (8, .if_icmp .gt 15, 3, (23, 0, 0, 0)), (11, .aload_n 0, 1, (0, 0, 0, 0)), (12, .getfield 12, 3, (9, 0, 1, 0)), (15, .getfield 66, 3, (8, 5, 0, 0)), (18, .bipush 40, 2, (0, 0, 0, 0)), (20, .if_icmp .lt 10, 3, (30, 0, 0, 0)), (23, .aload_n 0, 1, (0, 0, 0, 0)), (24, .bipush 6, 2, (0, 0, 0, 0)), (26, .invokevirtual 69, 3, (170, 2, 0, 0)), (29, .ireturn, 1, (0, 0, 0, 0)), (30, .aload_n 0, 1, (0, 0, 0, 0)), (31, .invokevirtual 73, 3, (171, 1, 0, 0)), (34, .aload_n 0, 1, (0, 0, 0, 0)), (35, .aload_n 0, 1, (0, 0, 0, 0)), (36, .getfield 12, 3, (9, 0, 1, 0)), (39, .iload_n 1, 1, (0, 0, 0, 0)), (40, .invokevirtual 76, 3, (94, 2, 0, 0)), (43, .invokevirtual 79, 3, (169, 2, 0, 0)), (46, .ireturn, 1, (0, 0, 0, 0))]
def m_122 : VM := (RX9, yX9_hive, cX9_hive, 2, (some .int), 5, 131, k_122)
def k_123 : List VE := [(0, .aload_n 0, 1, (0, 0, 0, 0)), (1, .iload_n 1, 1, (0, 0, 0, 0)), (2, .invokevirtual 82, 3, (172, 2, 0, 0)), (5, .istore_n 2, 1, (0, 0, 0, 0)), (6, .iload_n 2, 1, (0, 0, 0, 0)), (7, .ifCond .eq 9, 3, (16, 0, 0, 0)), (10, .aload_n 0, 1, (0, 0, 0, 0)), (11, .iload_n 2, 1, (0, 0, 0, 0)), (12, .invokevirtual 69, 3, (170, 2, 0, 0)), (15, .ireturn, 1, (0, 0, 0, 0)), (16, .aload_n 0, 1, (0, 0, 0, 0)), (17, .getfield 12, 3, (9, 0, 1, 0)), (20, .iload_n 1, 1, (0, 0, 0, 0)), (21, .invokevirtual 85, 3, (91, 2, 0, 0)), (24, .astore_n 3, 1, (0, 0, 0, 0)), (25, .aload_n 3, 1, (0, 0, 0, 0)), (26, .getfield 89, 3, (3, 1, 0, 0)), (29, .bipush 8, 2, (0, 0, 0, 0)), (31, .if_icmp .lt 10, 3, (41, 0, 0, 0)), (34, .aload_n 0, 1, (0, 0, 0, 0)), (35, .bipush 6, 2, (0, 0, 0, 0)), (37, .invokevirtual 69, 3, (170, 2, 0, 0)), (40, .ireturn, 1, (0, 0, 0, 0)), (41, .aload_n 0, 1, (0, 0, 0, 0)), (42, .invokevirtual 73, 3, (171, 1, 0, 0)), (45, .aload_n 0, 1, (0, 0, 0, 0)), (46, .aload_n 3, 1, (0, 0, 0, 0)), (47, .invokevirtual 94, 3, (46, 1, 0, 0)), (50, .invokevirtual 79, 3, (169, 2, 0, 0)), (53, .ireturn, 1, (0, 0, 0, 0))]
def m_123 : VM := (RX9, yX9_box, cX9_box, 4, (some .int), 5, 131, k_123)
def k_124 : List VE := [(0, .aload_n 0, 1, (0, 0, 0, 0)), (1, .iload_n 1, 1, (0, 0, 0, 0)), (2, .invokevirtual 98, 3, (175, 2, 0, 0)), (5, .istore_n 3, 1, (0, 0, 0, 0)), (6, .iload_n 3, 1, (0, 0, 0, 0)), (7, .ifCond .eq 9, 3, (16, 0, 0, 0)), (10, .aload_n 0, 1, (0, 0, 0, 0)), (11, .iload_n 3, 1, (0, 0, 0, 0)), (12, .invokevirtual 69, 3, (170, 2, 0, 0)), (15, .ireturn, 1, (0, 0, 0, 0)), (16, .iload_n 2, 1, (0, 0, 0, 0)), (17, .bipush 64, 2, (0, 0, 0, 0)), (19, .if_icmp .gt 28, 3, (47, 0, 0, 0)), (22, .aload_n 0, 1, (0, 0, 0, 0)), (23, .getfield 12, 3, (9, 0, 1, 0)), (26, .getfield 101, 3, (8, 6, 0, 0)), (29, .sipush 200, 3, (0, 0, 0, 0)), (32, .if_icmp .ge 15, 3, (47, 0, 0, 0)), (35, .aload_n 0, 1, (0, 0, 0, 0)), (36, .getfield 12, 3, (9, 0, 1, 0)), (39, .iload_n 1, 1, (0, 0, 0, 0)), (40, .invokevirtual 104, 3, (98, 2, 0, 0)), (43, .iconst (-1), 1, (0, 0, 0, 0)), (44, .if_icmp .eq 10, 3, (54, 0, 0, 0)), (47, .aload_n 0, 1, (0, 0, 0, 0)), (48, .bipush 6, 2, (0, 0, 0, 0)), (50, .invokevirtual 69, 3, (170, 2, 0, 0)), (53, .ireturn, 1, (0, 0, 0, 0)), (54, .iload_n 2, 1, (0, 0, 0, 0)), (55, .ifCond .ge 9, 3, (64, 0, 0, 0)), (58, .aload_n 0, 1, (0, 0, 0, 0)), (59, .iconst 5, 1, (0, 0, 0, 0)), (60, .invokevirtual 69, 3, (170, 2, 0, 0)), (63, .ireturn, 1, (0, 0, 0, 0)), (64, .aload_n 0, 1, (0, 0, 0, 0)), (65, .invokevirtual 73, 3, (171, 1, 0, 0)), (68, .aload_n 0, 1, (0, 0, 0, 0)), (69, .aload_n 0, 1, (0, 0, 0, 0)), (70, .getfield 12, 3, (9, 0, 1, 0)), (73, .iload_n 1, 1, (0, 0, 0, 0)), (74, .iload_n 2, 1, (0, 0, 0, 0)), (75, .invokevirtual 107, 3, (95, 3, 0, 0)), (78, .invokevirtual 79, 3, (169, 2, 0, 0)), (81, .ireturn, 1, (0, 0, 0, 0))]
def m_124 : VM := (RX9, yX9_frame, cX9_frame, 4, (some .int), 5, 131, k_124)
def k_125 : List VE := [(0, .aload_n 0, 1, (0, 0, 0, 0)), (1, .iload_n 1, 1, (0, 0, 0, 0)), (2, .invokevirtual 111, 3, (176, 2, 0, 0)), (5, .istore_n 2, 1, (0, 0, 0, 0)), (6, .iload_n 2, 1, (0, 0, 0, 0)), (7, .ifCond .eq 9, 3, (16, 0, 0, 0)), (10, .aload_n 0, 1, (0, 0, 0, 0)), (11, .iload_n 2, 1, (0, 0, 0, 0)), (12, .invokevirtual 69, 3, (170, 2, 0, 0)), (15, .ireturn, 1, (0, 0, 0, 0)), (16, .aload_n 0, 1, (0, 0, 0, 0)), (17, .getfield 12, 3, (9, 0, 1, 0)), (20, .invokevirtual 114, 3, (101, 1, 0, 0)), (23, .istore_n 3, 1, (0, 0, 0, 0)), (24, .iload_n 3, 1, (0, 0, 0, 0)), (25, .iconst (-1), 1, (0, 0, 0, 0)), (26, .if_icmp .ne 10, 3, (36, 0, 0, 0)), (29, .aload_n 0, 1, (0, 0, 0, 0)), (30, .bipush 6, 2, (0, 0, 0, 0)), (32, .invokevirtual 69, 3, (170, 2, 0, 0)), (35, .ireturn, 1, (0, 0, 0, 0)), (36, .aload_n 0, 1, (0, 0, 0, 0)), (37, .invokevirtual 73, 3, (171, 1, 0, 0)), (40, .aload_n 0, 1, (0, 0, 0, 0)), (41, .getfield 12, 3, (9, 0, 1, 0)), (44, .getfield 117, 3, (8, 3, 1, 1)), (47, .iload_n 3, 1, (0, 0, 0, 0)), (48, .aload_n 0, 1, (0, 0, 0, 0)), (49, .getfield 12, 3, (9, 0, 1, 0)), (52, .iload_n 1, 1, (0, 0, 0, 0)), (53, .invokevirtual 104, 3, (98, 2, 0, 0)), (56, .iastore, 1, (0, 0, 0, 0)), (57, .aload_n 0, 1, (0, 0, 0, 0)), (58, .getfield 12, 3, (9, 0, 1, 0)), (61, .iload_n 1, 1, (0, 0, 0, 0)), (62, .iconst (-1), 1, (0, 0, 0, 0)), (63, .invokevirtual 121, 3, (99, 3, 0, 0)), (66, .aload_n 0, 1, (0, 0, 0, 0)), (67, .iload_n 3, 1, (0, 0, 0, 0)), (68, .invokevirtual 79, 3, (169, 2, 0, 0)), (71, .ireturn, 1, (0, 0, 0, 0))]
def m_125 : VM := (RX9, yX9_out, cX9_out, 4, (some .int), 6, 131, k_125)
def k_126 : List VE := [(0, .iload_n 1, 1, (0, 0, 0, 0)), (1, .ifCond .lt 9, 3, (10, 0, 0, 0)), (4, .iload_n 1, 1, (0, 0, 0, 0)), (5, .bipush 24, 2, (0, 0, 0, 0)), (7, .if_icmp .lt 9, 3, (16, 0, 0, 0)), (10, .aload_n 0, 1, (0, 0, 0, 0)), (11, .iconst 2, 1, (0, 0, 0, 0)), (12, .invokevirtual 69, 3, (170, 2, 0, 0)), (15, .ireturn, 1, (0, 0, 0, 0)), (16, .aload_n 0, 1, (0, 0, 0, 0)), (17, .getfield 12, 3, (9, 0, 1, 0)), (20, .getfield 117, 3, (8, 3, 1, 1)), (23, .iload_n 1, 1, (0, 0, 0, 0)), (24, .iaload, 1, (0, 0, 0, 0)), (25, .iconst (-1), 1, (0, 0, 0, 0)), (26, .if_icmp .ne 9, 3, (35, 0, 0, 0)), (29, .aload_n 0, 1, (0, 0, 0, 0)), (30, .iconst 1, 1, (0, 0, 0, 0)), (31, .invokevirtual 69, 3, (170, 2, 0, 0)), (34, .ireturn, 1, (0, 0, 0, 0)), (35, .aload_n 0, 1, (0, 0, 0, 0)), (36, .iload_n 2, 1, (0, 0, 0, 0)), (37, .invokevirtual 98, 3, (175, 2, 0, 0)), (40, .istore_n 3, 1, (0, 0, 0, 0)), (41, .iload_n 3, 1, (0, 0, 0, 0)), (42, .ifCond .eq 9, 3, (51, 0, 0, 0)), (45, .aload_n 0, 1, (0, 0, 0, 0)), (46, .iload_n 3, 1, (0, 0, 0, 0)), (47, .invokevirtual 69, 3, (170, 2, 0, 0)), (50, .ireturn, 1, (0, 0, 0, 0)), (51, .aload_n 0, 1, (0, 0, 0, 0)), (52, .getfield 12, 3, (9, 0, 1, 0)), (55, .iload_n 2, 1, (0, 0, 0, 0)), (56, .invokevirtual 104, 3, (98, 2, 0, 0)), (59, .iconst (-1), 1, (0, 0, 0, 0)), (60, .if_icmp .eq 10, 3, (70, 0, 0, 0)), (63, .aload_n 0, 1, (0, 0, 0, 0)), (64, .bipush 6, 2, (0, 0, 0, 0)), (66, .invokevirtual 69, 3, (170, 2, 0, 0)), (69, .ireturn, 1, (0, 0, 0, 0)), (70, .aload_n 0, 1, (0, 0, 0, 0)), (71, .invokevirtual 73, 3, (171, 1, 0, 0)), (74, .aload_n 0, 1, (0, 0, 0, 0)), (75, .getfield 12, 3, (9, 0, 1, 0)), (78, .iload_n 2, 1, (0, 0, 0, 0)), (79, .aload_n 0, 1, (0, 0, 0, 0)), (80, .getfield 12, 3, (9, 0, 1, 0)), (83, .getfield 117, 3, (8, 3, 1, 1)), (86, .iload_n 1, 1, (0, 0, 0, 0)), (87, .iaload, 1, (0, 0, 0, 0)), (88, .invokevirtual 121, 3, (99, 3, 0, 0)), (91, .aload_n 0, 1, (0, 0, 0, 0)), (92, .getfield 12, 3, (9, 0, 1, 0)), (95, .getfield 117, 3, (8, 3, 1, 1)), (98, .iload_n 1, 1, (0, 0, 0, 0)), (99, .iconst (-1), 1, (0, 0, 0, 0)), (100, .iastore, 1, (0, 0, 0, 0)), (101, .aload_n 0, 1, (0, 0, 0, 0)), (102, .iconst 1, 1, (0, 0, 0, 0)), (103, .invokevirtual 79, 3, (169, 2, 0, 0)), (106, .ireturn, 1, (0, 0, 0, 0))]
def m_126 : VM := (RX9, yX9_back, cX9_back, 4, (some .int), 5, 131, k_126)
def k_127 : List VE := [(0, .aload_n 0, 1, (0, 0, 0, 0)), (1, .iload_n 1, 1, (0, 0, 0, 0)), (2, .invokevirtual 111, 3, (176, 2, 0, 0)), (5, .istore_n 2, 1, (0, 0, 0, 0)), (6, .iload_n 2, 1, (0, 0, 0, 0)), (7, .ifCond .eq 9, 3, (16, 0, 0, 0)), (10, .aload_n 0, 1, (0, 0, 0, 0)), (11, .iload_n 2, 1, (0, 0, 0, 0)), (12, .invokevirtual 69, 3, (170, 2, 0, 0)), (15, .ireturn, 1, (0, 0, 0, 0)), (16, .aload_n 0, 1, (0, 0, 0, 0)), (17, .aload_n 0, 1, (0, 0, 0, 0)), (18, .getfield 12, 3, (9, 0, 1, 0)), (21, .iload_n 1, 1, (0, 0, 0, 0)), (22, .invokevirtual 104, 3, (98, 2, 0, 0)), (25, .invokevirtual 79, 3, (169, 2, 0, 0)), (28, .ireturn, 1, (0, 0, 0, 0))]
def m_127 : VM := (RX9, yX9_at, cX9_at, 3, (some .int), 6, 126, k_127)
def k_128 : List VE := [(0, .iload_n 1, 1, (0, 0, 0, 0)), (1, .ifCond .lt 10, 3, (11, 0, 0, 0)), (4, .iload_n 1, 1, (0, 0, 0, 0)), (5, .sipush 200, 3, (0, 0, 0, 0)), (8, .if_icmp .lt 9, 3, (17, 0, 0, 0)), (11, .aload_n 0, 1, (0, 0, 0, 0)), (12, .iconst 2, 1, (0, 0, 0, 0)), (13, .invokevirtual 69, 3, (170, 2, 0, 0)), (16, .ireturn, 1, (0, 0, 0, 0)), (17, .iload_n 1, 1, (0, 0, 0, 0)), (18, .aload_n 0, 1, (0, 0, 0, 0)), (19, .getfield 12, 3, (9, 0, 1, 0)), (22, .getfield 101, 3, (8, 6, 0, 0)), (25, .if_icmp .lt 9, 3, (34, 0, 0, 0)), (28, .aload_n 0, 1, (0, 0, 0, 0)), (29, .iconst 1, 1, (0, 0, 0, 0)), (30, .invokevirtual 69, 3, (170, 2, 0, 0)), (33, .ireturn, 1, (0, 0, 0, 0)), (34, .aload_n 0, 1, (0, 0, 0, 0)), (35, .getfield 12, 3, (9, 0, 1, 0)), (38, .iload_n 1, 1, (0, 0, 0, 0)), (39, .invokevirtual 125, 3, (102, 2, 0, 0)), (42, .istore_n 2, 1, (0, 0, 0, 0)), (43, .aload_n 0, 1, (0, 0, 0, 0)), (44, .iload_n 2, 1, (0, 0, 0, 0)), (45, .iconst (-1), 1, (0, 0, 0, 0)), (46, .if_icmp .eq 10, 3, (56, 0, 0, 0)), (49, .bipush (-2), 2, (0, 0, 0, 0)), (51, .iload_n 2, 1, (0, 0, 0, 0)), (52, .isub, 1, (0, 0, 0, 0)), (53, .goto 11, 3, (64, 0, 0, 0)), (56, .aload_n 0, 1, (0, 0, 0, 0)), (57, .getfield 12, 3, (9, 0, 1, 0)), (60, .iload_n 1, 1, (0, 0, 0, 0)), (61, .invokevirtual 128, 3, (103, 2, 0, 0)), (64, .invokevirtual 79, 3, (169, 2, 0, 0)), (67, .ireturn, 1, (0, 0, 0, 0))]
def m_128 : VM := (RX9, yX9_where, cX9_where, 3, (some .int), 4, 85, k_128)
def k_129 : List VE := [(0, .aload_n 0, 1, (0, 0, 0, 0)), (1, .iload_n 1, 1, (0, 0, 0, 0)), (2, .iload_n 2, 1, (0, 0, 0, 0)), (3, .invokevirtual 131, 3, (177, 3, 0, 0)), (6, .istore_n 3, 1, (0, 0, 0, 0)), (7, .iload_n 3, 1, (0, 0, 0, 0)), (8, .ifCond .eq 9, 3, (17, 0, 0, 0)), (11, .aload_n 0, 1, (0, 0, 0, 0)), (12, .iload_n 3, 1, (0, 0, 0, 0)), (13, .invokevirtual 69, 3, (170, 2, 0, 0)), (16, .ireturn, 1, (0, 0, 0, 0)), (17, .aload_n 0, 1, (0, 0, 0, 0)), (18, .aload_n 0, 1, (0, 0, 0, 0)), (19, .getfield 12, 3, (9, 0, 1, 0)), (22, .iload_n 1, 1, (0, 0, 0, 0)), (23, .invokevirtual 134, 3, (100, 2, 0, 0)), (26, .getfield 138, 3, (2, 0, 1, 1)), (29, .iload_n 2, 1, (0, 0, 0, 0)), (30, .iaload, 1, (0, 0, 0, 0)), (31, .invokevirtual 79, 3, (169, 2, 0, 0)), (34, .ireturn, 1, (0, 0, 0, 0))]
def m_129 : VM := (RX9, yX9_field, cX9_field, 4, (some .int), 7, 149, k_129)
def k_130 : List VE := [(0, .aload_n 0, 1, (0, 0, 0, 0)), (1, .iload_n 1, 1, (0, 0, 0, 0)), (2, .iload_n 2, 1, (0, 0, 0, 0)), (3, .invokevirtual 131, 3, (177, 3, 0, 0)), (6, .istore 4, 2, (0, 0, 0, 0)), (8, .iload 4, 2, (0, 0, 0, 0)), (10, .ifCond .eq 10, 3, (20, 0, 0, 0)), (13, .aload_n 0, 1, (0, 0, 0, 0)), (14, .iload 4, 2, (0, 0, 0, 0)), (16, .invokevirtual 69, 3, (170, 2, 0, 0)), (19, .ireturn, 1, (0, 0, 0, 0)), (20, .iload_n 3, 1, (0, 0, 0, 0)), (21, .ifCond .eq 31, 3, (52, 0, 0, 0)), (24, .iload_n 3, 1, (0, 0, 0, 0)), (25, .sipush 200, 3, (0, 0, 0, 0)), (28, .if_icmp .eq 24, 3, (52, 0, 0, 0)), (31, .iload_n 3, 1, (0, 0, 0, 0)), (32, .sipush 300, 3, (0, 0, 0, 0)), (35, .if_icmp .eq 17, 3, (52, 0, 0, 0)), (38, .iload_n 3, 1, (0, 0, 0, 0)), (39, .sipush 400, 3, (0, 0, 0, 0)), (42, .if_icmp .eq 10, 3, (52, 0, 0, 0)), (45, .aload_n 0, 1, (0, 0, 0, 0)), (46, .bipush 6, 2, (0, 0, 0, 0)), (48, .invokevirtual 69, 3, (170, 2, 0, 0)), (51, .ireturn, 1, (0, 0, 0, 0)), (52, .aload_n 0, 1, (0, 0, 0, 0)), (53, .invokevirtual 73, 3, (171, 1, 0, 0)), (56, .aload_n 0, 1, (0, 0, 0, 0)), (57, .getfield 12, 3, (9, 0, 1, 0)), (60, .iload_n 1, 1, (0, 0, 0, 0)), (61, .invokevirtual 134, 3, (100, 2, 0, 0)), (64, .astore 5, 2, (0, 0, 0, 0)), (66, .aload 5, 2, (0, 0, 0, 0)), (68, .getfield 138, 3, (2, 0, 1, 1)), (71, .iload_n 2, 1, (0, 0, 0, 0)), (72, .iaload, 1, (0, 0, 0, 0)), (73, .istore 6, 2, (0, 0, 0, 0)), (75, .aload_n 0, 1, (0, 0, 0, 0)), (76, .getfield 12, 3, (9, 0, 1, 0)), (79, .dup, 1, (0, 0, 0, 0)), (80, .getfield 143, 3, (8, 11, 0, 0)), (83, .iload 6, 2, (0, 0, 0, 0)), (85, .invokestatic 146, 3, (180, 1, 1, 0)), (88, .iadd, 1, (0, 0, 0, 0)), (89, .putfield 143, 3, (8, 11, 0, 0)), (92, .aload 5, 2, (0, 0, 0, 0)), (94, .getfield 138, 3, (2, 0, 1, 1)), (97, .iload_n 2, 1, (0, 0, 0, 0)), (98, .iload_n 3, 1, (0, 0, 0, 0)), (99, .iastore, 1, (0, 0, 0, 0)), (100, .aload_n 0, 1, (0, 0, 0, 0)), (101, .iload 6, 2, (0, 0, 0, 0)), (103, .invokevirtual 79, 3, (169, 2, 0, 0)), (106, .ireturn, 1, (0, 0, 0, 0))]
def m_130 : VM := (RX9, yX9_put, cX9_put, 7, (some .int), 7, 149, k_130)
def k_131 : List VE := [(0, .iload_n 2, 1, (0, 0, 0, 0)), (1, .ifCond .lt 10, 3, (11, 0, 0, 0)), (4, .iload_n 2, 1, (0, 0, 0, 0)), (5, .sipush 3840, 3, (0, 0, 0, 0)), (8, .if_icmp .lt 9, 3, (17, 0, 0, 0)), (11, .aload_n 0, 1, (0, 0, 0, 0)), (12, .iconst 2, 1, (0, 0, 0, 0)), (13, .invokevirtual 69, 3, (170, 2, 0, 0)), (16, .ireturn, 1, (0, 0, 0, 0)), (17, .aload_n 0, 1, (0, 0, 0, 0)), (18, .aload_n 0, 1, (0, 0, 0, 0)), (19, .getfield 12, 3, (9, 0, 1, 0)), (22, .iload_n 1, 1, (0, 0, 0, 0)), (23, .iload_n 2, 1, (0, 0, 0, 0)), (24, .invokevirtual 149, 3, (104, 3, 0, 0)), (27, .invokevirtual 79, 3, (169, 2, 0, 0)), (30, .ireturn, 1, (0, 0, 0, 0))]
def m_131 : VM := (RX9, yX9_find, cX9_find, 3, (some .int), 6, 126, k_131)
def k_132 : List VE := [(0, .aload_n 0, 1, (0, 0, 0, 0)), (1, .iload_n 1, 1, (0, 0, 0, 0)), (2, .invokevirtual 82, 3, (172, 2, 0, 0)), (5, .istore_n 2, 1, (0, 0, 0, 0)), (6, .iload_n 2, 1, (0, 0, 0, 0)), (7, .ifCond .eq 9, 3, (16, 0, 0, 0)), (10, .aload_n 0, 1, (0, 0, 0, 0)), (11, .iload_n 2, 1, (0, 0, 0, 0)), (12, .invokevirtual 69, 3, (170, 2, 0, 0)), (15, .ireturn, 1, (0, 0, 0, 0)), (16, .aload_n 0, 1, (0, 0, 0, 0)), (17, .getfield 12, 3, (9, 0, 1, 0)), (20, .iload_n 1, 1, (0, 0, 0, 0)), (21, .invokevirtual 85, 3, (91, 2, 0, 0)), (24, .invokevirtual 152, 3, (53, 1, 0, 0)), (27, .istore_n 3, 1, (0, 0, 0, 0)), (28, .aload_n 0, 1, (0, 0, 0, 0)), (29, .iload_n 3, 1, (0, 0, 0, 0)), (30, .iconst (-1), 1, (0, 0, 0, 0)), (31, .if_icmp .ne 7, 3, (38, 0, 0, 0)), (34, .iconst (-1), 1, (0, 0, 0, 0)), (35, .goto 9, 3, (44, 0, 0, 0)), (38, .iload_n 1, 1, (0, 0, 0, 0)), (39, .bipush 96, 2, (0, 0, 0, 0)), (41, .imul, 1, (0, 0, 0, 0)), (42, .iload_n 3, 1, (0, 0, 0, 0)), (43, .iadd, 1, (0, 0, 0, 0)), (44, .invokevirtual 79, 3, (169, 2, 0, 0)), (47, .ireturn, 1, (0, 0, 0, 0))]
def m_132 : VM := (RX9, yX9_gap, cX9_gap, 4, (some .int), 3, 61, k_132)
def k_133 : List VE := [(0, .aload_n 0, 1, (0, 0, 0, 0)), (1, .iload_n 1, 1, (0, 0, 0, 0)), (2, .invokevirtual 82, 3, (172, 2, 0, 0)), (5, .istore_n 3, 1, (0, 0, 0, 0)), (6, .iload_n 3, 1, (0, 0, 0, 0)), (7, .ifCond .eq 9, 3, (16, 0, 0, 0)), (10, .aload_n 0, 1, (0, 0, 0, 0)), (11, .iload_n 3, 1, (0, 0, 0, 0)), (12, .invokevirtual 69, 3, (170, 2, 0, 0)), (15, .ireturn, 1, (0, 0, 0, 0)), (16, .iload_n 2, 1, (0, 0, 0, 0)), (17, .ifCond .lt 9, 3, (26, 0, 0, 0)), (20, .iload_n 2, 1, (0, 0, 0, 0)), (21, .bipush 11, 2, (0, 0, 0, 0)), (23, .if_icmp .le 10, 3, (33, 0, 0, 0)), (26, .aload_n 0, 1, (0, 0, 0, 0)), (27, .bipush 6, 2, (0, 0, 0, 0)), (29, .invokevirtual 69, 3, (170, 2, 0, 0)), (32, .ireturn, 1, (0, 0, 0, 0)), (33, .aload_n 0, 1, (0, 0, 0, 0)), (34, .getfield 12, 3, (9, 0, 1, 0)), (37, .iload_n 1, 1, (0, 0, 0, 0)), (38, .invokevirtual 85, 3, (91, 2, 0, 0)), (41, .astore 4, 2, (0, 0, 0, 0)), (43, .aload_n 0, 1, (0, 0, 0, 0)), (44, .iload_n 2, 1, (0, 0, 0, 0)), (45, .bipush 6, 2, (0, 0, 0, 0)), (47, .if_icmp .ge 12, 3, (59, 0, 0, 0)), (50, .aload 4, 2, (0, 0, 0, 0)), (52, .iload_n 2, 1, (0, 0, 0, 0)), (53, .invokevirtual 155, 3, (55, 2, 0, 0)), (56, .goto 13, 3, (69, 0, 0, 0)), (59, .aload_n 0, 1, (0, 0, 0, 0)), (60, .getfield 12, 3, (9, 0, 1, 0)), (63, .aload 4, 2, (0, 0, 0, 0)), (65, .iload_n 2, 1, (0, 0, 0, 0)), (66, .invokevirtual 158, 3, (109, 3, 0, 0)), (69, .invokevirtual 79, 3, (169, 2, 0, 0)), (72, .ireturn, 1, (0, 0, 0, 0))]
def m_133 : VM := (RX9, yX9_inspect, cX9_inspect, 5, (some .int), 4, 92, k_133)
def k_134 : List VE := [(0, .aload_n 0, 1, (0, 0, 0, 0)), (1, .iload_n 1, 1, (0, 0, 0, 0)), (2, .invokevirtual 82, 3, (172, 2, 0, 0)), (5, .istore_n 3, 1, (0, 0, 0, 0)), (6, .iload_n 3, 1, (0, 0, 0, 0)), (7, .ifCond .eq 9, 3, (16, 0, 0, 0)), (10, .aload_n 0, 1, (0, 0, 0, 0)), (11, .iload_n 3, 1, (0, 0, 0, 0)), (12, .invokevirtual 69, 3, (170, 2, 0, 0)), (15, .ireturn, 1, (0, 0, 0, 0)), (16, .iload_n 2, 1, (0, 0, 0, 0)), (17, .ifCond .lt 10, 3, (27, 0, 0, 0)), (20, .iload_n 2, 1, (0, 0, 0, 0)), (21, .sipush 10000, 3, (0, 0, 0, 0)), (24, .if_icmp .le 10, 3, (34, 0, 0, 0)), (27, .aload_n 0, 1, (0, 0, 0, 0)), (28, .bipush 6, 2, (0, 0, 0, 0)), (30, .invokevirtual 69, 3, (170, 2, 0, 0)), (33, .ireturn, 1, (0, 0, 0, 0)), (34, .aload_n 0, 1, (0, 0, 0, 0)), (35, .invokevirtual 73, 3, (171, 1, 0, 0)), (38, .aload_n 0, 1, (0, 0, 0, 0)), (39, .getfield 12, 3, (9, 0, 1, 0)), (42, .aload_n 0, 1, (0, 0, 0, 0)), (43, .getfield 12, 3, (9, 0, 1, 0)), (46, .iload_n 1, 1, (0, 0, 0, 0)), (47, .invokevirtual 85, 3, (91, 2, 0, 0)), (50, .iload_n 2, 1, (0, 0, 0, 0)), (51, .invokevirtual 162, 3, (106, 3, 0, 0)), (54, .istore 4, 2, (0, 0, 0, 0)), (56, .aload_n 0, 1, (0, 0, 0, 0)), (57, .getfield 12, 3, (9, 0, 1, 0)), (60, .dup, 1, (0, 0, 0, 0)), (61, .getfield 165, 3, (8, 12, 0, 0)), (64, .iload_n 2, 1, (0, 0, 0, 0)), (65, .iadd, 1, (0, 0, 0, 0)), (66, .putfield 165, 3, (8, 12, 0, 0)), (69, .aload_n 0, 1, (0, 0, 0, 0)), (70, .getfield 12, 3, (9, 0, 1, 0)), (73, .dup, 1, (0, 0, 0, 0)), (74, .getfield 143, 3, (8, 11, 0, 0)), (77, .iload_n 2, 1, (0, 0, 0, 0)), (78, .iload 4, 2, (0, 0, 0, 0)), (80, .isub, 1, (0, 0, 0, 0)), (81, .iadd, 1, (0, 0, 0, 0)), (82, .putfield 143, 3, (8, 11, 0, 0)), (85, .aload_n 0, 1, (0, 0, 0, 0)), (86, .iload 4, 2, (0, 0, 0, 0)), (88, .invokevirtual 79, 3, (169, 2, 0, 0)), (91, .ireturn, 1, (0, 0, 0, 0))]
def m_134 : VM := (RX9, yX9_bring, cX9_bring, 5, (some .int), 5, 131, k_134)
def k_135 : List VE := [(0, .aload_n 0, 1, (0, 0, 0, 0)), (1, .iload_n 1, 1, (0, 0, 0, 0)), (2, .invokevirtual 111, 3, (176, 2, 0, 0)), (5, .istore_n 2, 1, (0, 0, 0, 0)), (6, .iload_n 2, 1, (0, 0, 0, 0)), (7, .ifCond .eq 9, 3, (16, 0, 0, 0)), (10, .aload_n 0, 1, (0, 0, 0, 0)), (11, .iload_n 2, 1, (0, 0, 0, 0)), (12, .invokevirtual 69, 3, (170, 2, 0, 0)), (15, .ireturn, 1, (0, 0, 0, 0)), (16, .aload_n 0, 1, (0, 0, 0, 0)), (17, .getfield 12, 3, (9, 0, 1, 0)), (20, .getfield 168, 3, (8, 4, 1, 1)), (23, .getfield 172, 3, (1, 3, 0, 0)), (26, .sipush 200, 3, (0, 0, 0, 0)), (29, .if_icmp .lt 10, 3, (39, 0, 0, 0)), (32, .aload_n 0, 1, (0, 0, 0, 0)), (33, .bipush 6, 2, (0, 0, 0, 0)), (35, .invokevirtual 69, 3, (170, 2, 0, 0)), (38, .ireturn, 1, (0, 0, 0, 0)), (39, .aload_n 0, 1, (0, 0, 0, 0)), (40, .invokevirtual 73, 3, (171, 1, 0, 0)), (43, .aload_n 0, 1, (0, 0, 0, 0)), (44, .getfield 12, 3, (9, 0, 1, 0)), (47, .iload_n 1, 1, (0, 0, 0, 0)), (48, .invokevirtual 134, 3, (100, 2, 0, 0)), (51, .invokevirtual 177, 3, (35, 1, 0, 0)), (54, .istore_n 3, 1, (0, 0, 0, 0)), (55, .aload_n 0, 1, (0, 0, 0, 0)), (56, .getfield 12, 3, (9, 0, 1, 0)), (59, .dup, 1, (0, 0, 0, 0)), (60, .getfield 180, 3, (8, 9, 0, 0)), (63, .iload_n 3, 1, (0, 0, 0, 0)), (64, .iadd, 1, (0, 0, 0, 0)), (65, .putfield 180, 3, (8, 9, 0, 0)), (68, .aload_n 0, 1, (0, 0, 0, 0)), (69, .getfield 12, 3, (9, 0, 1, 0)), (72, .getfield 168, 3, (8, 4, 1, 1)), (75, .aload_n 0, 1, (0, 0, 0, 0)), (76, .getfield 30, 3, (9, 5, 0, 0)), (79, .iload_n 1, 1, (0, 0, 0, 0)), (80, .iload_n 3, 1, (0, 0, 0, 0)), (81, .invokevirtual 183, 3, (25, 4, 0, 0)), (84, .aload_n 0, 1, (0, 0, 0, 0)), (85, .dup, 1, (0, 0, 0, 0)), (86, .getfield 30, 3, (9, 5, 0, 0)), (89, .iconst 1, 1, (0, 0, 0, 0)), (90, .iadd, 1, (0, 0, 0, 0)), (91, .putfield 30, 3, (9, 5, 0, 0)), (94, .aload_n 0, 1, (0, 0, 0, 0)), (95, .iload_n 3, 1, (0, 0, 0, 0)), (96, .invokevirtual 79, 3, (169, 2, 0, 0)), (99, .ireturn, 1, (0, 0, 0, 0))]
def m_135 : VM := (RX9, yX9_harvest, cX9_harvest, 4, (some .int), 6, 131, k_135)
def k_136 : List VE := [(0, .iload_n 1, 1, (0, 0, 0, 0)), (1, .ifCond .lt 10, 3, (11, 0, 0, 0)), (4, .iload_n 1, 1, (0, 0, 0, 0)), (5, .sipush 200, 3, (0, 0, 0, 0)), (8, .if_icmp .lt 9, 3, (17, 0, 0, 0)), (11, .aload_n 0, 1, (0, 0, 0, 0)), (12, .iconst 2, 1, (0, 0, 0, 0)), (13, .invokevirtual 69, 3, (170, 2, 0, 0)), (16, .ireturn, 1, (0, 0, 0, 0)), (17, .iload_n 1, 1, (0, 0, 0, 0)), (18, .aload_n 0, 1, (0, 0, 0, 0)), (19, .getfield 12, 3, (9, 0, 1, 0)), (22, .getfield 168, 3, (8, 4, 1, 1)), (25, .getfield 172, 3, (1, 3, 0, 0)), (28, .if_icmp .lt 9, 3, (37, 0, 0, 0)), (31, .aload_n 0, 1, (0, 0, 0, 0)), (32, .iconst 1, 1, (0, 0, 0, 0)), (33, .invokevirtual 69, 3, (170, 2, 0, 0)), (36, .ireturn, 1, (0, 0, 0, 0)), (37, .iload_n 2, 1, (0, 0, 0, 0)), (38, .ifCond .lt 8, 3, (46, 0, 0, 0)), (41, .iload_n 2, 1, (0, 0, 0, 0)), (42, .iconst 2, 1, (0, 0, 0, 0)), (43, .if_icmp .le 9, 3, (52, 0, 0, 0)), (46, .aload_n 0, 1, (0, 0, 0, 0)), (47, .iconst 2, 1, (0, 0, 0, 0)), (48, .invokevirtual 69, 3, (170, 2, 0, 0)), (51, .ireturn, 1, (0, 0, 0, 0)), (52, .aload_n 0, 1, (0, 0, 0, 0)), (53, .aload_n 0, 1, (0, 0, 0, 0)), (54, .getfield 12, 3, (9, 0, 1, 0)), (57, .getfield 168, 3, (8, 4, 1, 1)), (60, .iload_n 1, 1, (0, 0, 0, 0)), (61, .iload_n 2, 1, (0, 0, 0, 0)), (62, .invokevirtual 187, 3, (26, 3, 0, 0)), (65, .invokevirtual 79, 3, (169, 2, 0, 0)), (68, .ireturn, 1, (0, 0, 0, 0))]
def m_136 : VM := (RX9, yX9_ledger, cX9_ledger, 3, (some .int), 1, 22, k_136)
def k_137 : List VE := [(0, .iload_n 1, 1, (0, 0, 0, 0)), (1, .ifCond .lt 8, 3, (9, 0, 0, 0)), (4, .iload_n 1, 1, (0, 0, 0, 0)), (5, .iconst 4, 1, (0, 0, 0, 0)), (6, .if_icmp .le 10, 3, (16, 0, 0, 0)), (9, .aload_n 0, 1, (0, 0, 0, 0)), (10, .bipush 6, 2, (0, 0, 0, 0)), (12, .invokevirtual 69, 3, (170, 2, 0, 0)), (15, .ireturn, 1, (0, 0, 0, 0)), (16, .aload_n 0, 1, (0, 0, 0, 0)), (17, .aload_n 0, 1, (0, 0, 0, 0)), (18, .getfield 12, 3, (9, 0, 1, 0)), (21, .iload_n 1, 1, (0, 0, 0, 0)), (22, .invokevirtual 190, 3, (107, 2, 0, 0)), (25, .invokevirtual 79, 3, (169, 2, 0, 0)), (28, .ireturn, 1, (0, 0, 0, 0))]
def m_137 : VM := (RX9, yX9_honey, cX9_honey, 2, (some .int), 5, 104, k_137)
def k_138 : List VE := [(0, .iload_n 3, 1, (0, 0, 0, 0)), (1, .bipush 12, 2, (0, 0, 0, 0)), (3, .if_icmp .le 10, 3, (13, 0, 0, 0)), (6, .aload_n 0, 1, (0, 0, 0, 0)), (7, .bipush 6, 2, (0, 0, 0, 0)), (9, .invokevirtual 69, 3, (170, 2, 0, 0)), (12, .ireturn, 1, (0, 0, 0, 0)), (13, .iload_n 3, 1, (0, 0, 0, 0)), (14, .ifCond .ge 9, 3, (23, 0, 0, 0)), (17, .aload_n 0, 1, (0, 0, 0, 0)), (18, .iconst 5, 1, (0, 0, 0, 0)), (19, .invokevirtual 69, 3, (170, 2, 0, 0)), (22, .ireturn, 1, (0, 0, 0, 0)), (23, .aload_n 0, 1, (0, 0, 0, 0)), (24, .iconst 0, 1, (0, 0, 0, 0)), (25, .putfield 27, 3, (9, 4, 0, 0)), (28, .iconst 0, 1, (0, 0, 0, 0)), (29, .istore 4, 2, (0, 0, 0, 0)), (31, .iload 4, 2, (0, 0, 0, 0)), (33, .iload_n 3, 1, (0, 0, 0, 0)), (34, .if_icmp .ge 69, 3, (103, 0, 0, 0)), (37, .aload_n 0, 1, (0, 0, 0, 0)), (38, .iload_n 1, 1, (0, 0, 0, 0)), (39, .iload 4, 2, (0, 0, 0, 0)), (41, .iadd, 1, (0, 0, 0, 0)), (42, .iload_n 2, 1, (0, 0, 0, 0)), (43, .iload 4, 2, (0, 0, 0, 0)), (45, .iadd, 1, (0, 0, 0, 0)), (46, .invokevirtual 193, 3, (178, 3, 0, 0)), (49, .istore 5, 2, (0, 0, 0, 0)), (51, .iload 5, 2, (0, 0, 0, 0)), (53, .ifCond .eq 10, 3, (63, 0, 0, 0)), (56, .aload_n 0, 1, (0, 0, 0, 0)), (57, .iload 5, 2, (0, 0, 0, 0)), (59, .invokevirtual 69, 3, (170, 2, 0, 0)), (62, .ireturn, 1, (0, 0, 0, 0)), (63, .iload 4, 2, (0, 0, 0, 0)), (65, .ifCond .ne 7, 3, (72, 0, 0, 0)), (68, .aload_n 0, 1, (0, 0, 0, 0)), (69, .invokevirtual 73, 3, (171, 1, 0, 0)), (72, .aload_n 0, 1, (0, 0, 0, 0)), (73, .getfield 12, 3, (9, 0, 1, 0)), (76, .iload_n 1, 1, (0, 0, 0, 0)), (77, .iload 4, 2, (0, 0, 0, 0)), (79, .iadd, 1, (0, 0, 0, 0)), (80, .iload_n 2, 1, (0, 0, 0, 0)), (81, .iload 4, 2, (0, 0, 0, 0)), (83, .iadd, 1, (0, 0, 0, 0)), (84, .invokevirtual 196, 3, (105, 3, 0, 0)), (87, .aload_n 0, 1, (0, 0, 0, 0)), (88, .dup, 1, (0, 0, 0, 0)), (89, .getfield 27, 3, (9, 4, 0, 0)), (92, .iconst 1, 1, (0, 0, 0, 0)), (93, .iadd, 1, (0, 0, 0, 0)), (94, .putfield 27, 3, (9, 4, 0, 0)), (97, .iinc 4 1, 3, (0, 0, 0, 0)), (100, .goto (-69), 3, (31, 0, 0, 0)), (103, .aload_n 0, 1, (0, 0, 0, 0)), (104, .iload_n 3, 1, (0, 0, 0, 0)), (105, .invokevirtual 79, 3, (169, 2, 0, 0)), (108, .ireturn, 1, (0, 0, 0, 0))]
def m_138 : VM := (RX9, yX9_move, cX9_move, 6, (some .int), 7, 149, k_138)
def k_139 : List VE := [(0, .aload_n 0, 1, (0, 0, 0, 0)), (1, .getfield 27, 3, (9, 4, 0, 0)), (4, .ireturn, 1, (0, 0, 0, 0))]
def m_139 : VM := (RX9, yX9_moved, cX9_moved, 1, (some .int), 0, 0, k_139)
def k_140 : List VE := [(0, .aload_n 0, 1, (0, 0, 0, 0)), (1, .iload_n 1, 1, (0, 0, 0, 0)), (2, .iload_n 2, 1, (0, 0, 0, 0)), (3, .invokevirtual 199, 3, (173, 3, 0, 0)), (6, .istore_n 3, 1, (0, 0, 0, 0)), (7, .iload_n 3, 1, (0, 0, 0, 0)), (8, .ifCond .eq 9, 3, (17, 0, 0, 0)), (11, .aload_n 0, 1, (0, 0, 0, 0)), (12, .iload_n 3, 1, (0, 0, 0, 0)), (13, .invokevirtual 69, 3, (170, 2, 0, 0)), (16, .ireturn, 1, (0, 0, 0, 0)), (17, .aload_n 0, 1, (0, 0, 0, 0)), (18, .getfield 12, 3, (9, 0, 1, 0)), (21, .iload_n 1, 1, (0, 0, 0, 0)), (22, .invokevirtual 85, 3, (91, 2, 0, 0)), (25, .astore 4, 2, (0, 0, 0, 0)), (27, .aload_n 0, 1, (0, 0, 0, 0)), (28, .getfield 12, 3, (9, 0, 1, 0)), (31, .iload_n 2, 1, (0, 0, 0, 0)), (32, .invokevirtual 85, 3, (91, 2, 0, 0)), (35, .astore 5, 2, (0, 0, 0, 0)), (37, .aload 4, 2, (0, 0, 0, 0)), (39, .getfield 89, 3, (3, 1, 0, 0)), (42, .ifCond .ne 9, 3, (51, 0, 0, 0)), (45, .aload_n 0, 1, (0, 0, 0, 0)), (46, .iconst 2, 1, (0, 0, 0, 0)), (47, .invokevirtual 69, 3, (170, 2, 0, 0)), (50, .ireturn, 1, (0, 0, 0, 0)), (51, .iload_n 1, 1, (0, 0, 0, 0)), (52, .iload_n 2, 1, (0, 0, 0, 0)), (53, .if_icmp .eq 13, 3, (66, 0, 0, 0)), (56, .aload 5, 2, (0, 0, 0, 0)), (58, .getfield 89, 3, (3, 1, 0, 0)), (61, .bipush 8, 2, (0, 0, 0, 0)), (63, .if_icmp .lt 10, 3, (73, 0, 0, 0)), (66, .aload_n 0, 1, (0, 0, 0, 0)), (67, .bipush 6, 2, (0, 0, 0, 0)), (69, .invokevirtual 69, 3, (170, 2, 0, 0)), (72, .ireturn, 1, (0, 0, 0, 0)), (73, .aload_n 0, 1, (0, 0, 0, 0)), (74, .invokevirtual 73, 3, (171, 1, 0, 0)), (77, .aload 5, 2, (0, 0, 0, 0)), (79, .aload 4, 2, (0, 0, 0, 0)), (81, .aload 4, 2, (0, 0, 0, 0)), (83, .getfield 89, 3, (3, 1, 0, 0)), (86, .iconst 1, 1, (0, 0, 0, 0)), (87, .isub, 1, (0, 0, 0, 0)), (88, .invokevirtual 202, 3, (47, 3, 0, 0)), (91, .aload_n 0, 1, (0, 0, 0, 0)), (92, .aload 5, 2, (0, 0, 0, 0)), (94, .getfield 89, 3, (3, 1, 0, 0)), (97, .iconst 1, 1, (0, 0, 0, 0)), (98, .isub, 1, (0, 0, 0, 0)), (99, .invokevirtual 79, 3, (169, 2, 0, 0)), (102, .ireturn, 1, (0, 0, 0, 0))]
def m_140 : VM := (RX9, yX9_stack, cX9_stack, 6, (some .int), 5, 131, k_140)
def k_141 : List VE := [(0, .aload_n 0, 1, (0, 0, 0, 0)), (1, .iload_n 1, 1, (0, 0, 0, 0)), (2, .iload_n 2, 1, (0, 0, 0, 0)), (3, .invokevirtual 199, 3, (173, 3, 0, 0)), (6, .istore_n 3, 1, (0, 0, 0, 0)), (7, .iload_n 3, 1, (0, 0, 0, 0)), (8, .ifCond .eq 9, 3, (17, 0, 0, 0)), (11, .aload_n 0, 1, (0, 0, 0, 0)), (12, .iload_n 3, 1, (0, 0, 0, 0)), (13, .invokevirtual 69, 3, (170, 2, 0, 0)), (16, .ireturn, 1, (0, 0, 0, 0)), (17, .aload_n 0, 1, (0, 0, 0, 0)), (18, .getfield 12, 3, (9, 0, 1, 0)), (21, .iload_n 1, 1, (0, 0, 0, 0)), (22, .invokevirtual 85, 3, (91, 2, 0, 0)), (25, .astore 4, 2, (0, 0, 0, 0)), (27, .aload_n 0, 1, (0, 0, 0, 0)), (28, .getfield 12, 3, (9, 0, 1, 0)), (31, .iload_n 2, 1, (0, 0, 0, 0)), (32, .invokevirtual 85, 3, (91, 2, 0, 0)), (35, .astore 5, 2, (0, 0, 0, 0)), (37, .iload_n 1, 1, (0, 0, 0, 0)), (38, .iload_n 2, 1, (0, 0, 0, 0)), (39, .if_icmp .eq 19, 3, (58, 0, 0, 0)), (42, .aload 4, 2, (0, 0, 0, 0)), (44, .getfield 89, 3, (3, 1, 0, 0)), (47, .aload 5, 2, (0, 0, 0, 0)), (49, .getfield 89, 3, (3, 1, 0, 0)), (52, .iadd, 1, (0, 0, 0, 0)), (53, .bipush 8, 2, (0, 0, 0, 0)), (55, .if_icmp .le 10, 3, (65, 0, 0, 0)), (58, .aload_n 0, 1, (0, 0, 0, 0)), (59, .bipush 6, 2, (0, 0, 0, 0)), (61, .invokevirtual 69, 3, (170, 2, 0, 0)), (64, .ireturn, 1, (0, 0, 0, 0)), (65, .aload_n 0, 1, (0, 0, 0, 0)), (66, .invokevirtual 73, 3, (171, 1, 0, 0)), (69, .aload 4, 2, (0, 0, 0, 0)), (71, .getfield 89, 3, (3, 1, 0, 0)), (74, .istore 6, 2, (0, 0, 0, 0)), (76, .aload 4, 2, (0, 0, 0, 0)), (78, .aload 5, 2, (0, 0, 0, 0)), (80, .iconst 0, 1, (0, 0, 0, 0)), (81, .invokevirtual 202, 3, (47, 3, 0, 0)), (84, .aload 4, 2, (0, 0, 0, 0)), (86, .aload 5, 2, (0, 0, 0, 0)), (88, .invokevirtual 206, 3, (48, 2, 0, 0)), (91, .aload_n 0, 1, (0, 0, 0, 0)), (92, .iload 6, 2, (0, 0, 0, 0)), (94, .invokevirtual 79, 3, (169, 2, 0, 0)), (97, .ireturn, 1, (0, 0, 0, 0))]
def m_141 : VM := (RX9, yX9_join, cX9_join, 7, (some .int), 5, 131, k_141)
def k_142 : List VE := [(0, .aload_n 0, 1, (0, 0, 0, 0)), (1, .iload_n 1, 1, (0, 0, 0, 0)), (2, .iload_n 3, 1, (0, 0, 0, 0)), (3, .invokevirtual 199, 3, (173, 3, 0, 0)), (6, .istore 4, 2, (0, 0, 0, 0)), (8, .iload 4, 2, (0, 0, 0, 0)), (10, .ifCond .eq 10, 3, (20, 0, 0, 0)), (13, .aload_n 0, 1, (0, 0, 0, 0)), (14, .iload 4, 2, (0, 0, 0, 0)), (16, .invokevirtual 69, 3, (170, 2, 0, 0)), (19, .ireturn, 1, (0, 0, 0, 0)), (20, .aload_n 0, 1, (0, 0, 0, 0)), (21, .getfield 12, 3, (9, 0, 1, 0)), (24, .iload_n 1, 1, (0, 0, 0, 0)), (25, .invokevirtual 85, 3, (91, 2, 0, 0)), (28, .astore 5, 2, (0, 0, 0, 0)), (30, .aload_n 0, 1, (0, 0, 0, 0)), (31, .getfield 12, 3, (9, 0, 1, 0)), (34, .iload_n 3, 1, (0, 0, 0, 0)), (35, .invokevirtual 85, 3, (91, 2, 0, 0)), (38, .astore 6, 2, (0, 0, 0, 0)), (40, .iload_n 1, 1, (0, 0, 0, 0)), (41, .iload_n 3, 1, (0, 0, 0, 0)), (42, .if_icmp .eq 11, 3, (53, 0, 0, 0)), (45, .aload 6, 2, (0, 0, 0, 0)), (47, .getfield 89, 3, (3, 1, 0, 0)), (50, .ifCond .le 10, 3, (60, 0, 0, 0)), (53, .aload_n 0, 1, (0, 0, 0, 0)), (54, .bipush 6, 2, (0, 0, 0, 0)), (56, .invokevirtual 69, 3, (170, 2, 0, 0)), (59, .ireturn, 1, (0, 0, 0, 0)), (60, .iload_n 2, 1, (0, 0, 0, 0)), (61, .ifCond .lt 12, 3, (73, 0, 0, 0)), (64, .iload_n 2, 1, (0, 0, 0, 0)), (65, .aload 5, 2, (0, 0, 0, 0)), (67, .getfield 89, 3, (3, 1, 0, 0)), (70, .if_icmp .le 9, 3, (79, 0, 0, 0)), (73, .aload_n 0, 1, (0, 0, 0, 0)), (74, .iconst 2, 1, (0, 0, 0, 0)), (75, .invokevirtual 69, 3, (170, 2, 0, 0)), (78, .ireturn, 1, (0, 0, 0, 0)), (79, .aload 5, 2, (0, 0, 0, 0)), (81, .getfield 89, 3, (3, 1, 0, 0)), (84, .ifCond .ne 9, 3, (93, 0, 0, 0)), (87, .aload_n 0, 1, (0, 0, 0, 0)), (88, .iconst 4, 1, (0, 0, 0, 0)), (89, .invokevirtual 69, 3, (170, 2, 0, 0)), (92, .ireturn, 1, (0, 0, 0, 0)), (93, .aload_n 0, 1, (0, 0, 0, 0)), (94, .invokevirtual 73, 3, (171, 1, 0, 0)), (97, .aload 5, 2, (0, 0, 0, 0)), (99, .getfield 89, 3, (3, 1, 0, 0)), (102, .iload_n 2, 1, (0, 0, 0, 0)), (103, .isub, 1, (0, 0, 0, 0)), (104, .istore 7, 2, (0, 0, 0, 0)), (106, .aload 6, 2, (0, 0, 0, 0)), (108, .aload 5, 2, (0, 0, 0, 0)), (110, .iload 7, 2, (0, 0, 0, 0)), (112, .aload 5, 2, (0, 0, 0, 0)), (114, .getfield 89, 3, (3, 1, 0, 0)), (117, .invokevirtual 210, 3, (49, 4, 0, 0)), (120, .aload 6, 2, (0, 0, 0, 0)), (122, .aload 5, 2, (0, 0, 0, 0)), (124, .iload_n 2, 1, (0, 0, 0, 0)), (125, .invokevirtual 202, 3, (47, 3, 0, 0)), (128, .aload_n 0, 1, (0, 0, 0, 0)), (129, .iload 7, 2, (0, 0, 0, 0)), (131, .invokevirtual 79, 3, (169, 2, 0, 0)), (134, .ireturn, 1, (0, 0, 0, 0))]
def m_142 : VM := (RX9, yX9_split, cX9_split, 8, (some .int), 5, 131, k_142)
def k_143 : List VE := [(0, .iload_n 1, 1, (0, 0, 0, 0)), (1, .ifCond .lt 21, 3, (22, 0, 0, 0)), (4, .iload_n 1, 1, (0, 0, 0, 0)), (5, .iconst 3, 1, (0, 0, 0, 0)), (6, .if_icmp .gt 16, 3, (22, 0, 0, 0)), (9, .aload_n 0, 1, (0, 0, 0, 0)), (10, .getfield 12, 3, (9, 0, 1, 0)), (13, .getfield 214, 3, (8, 7, 0, 0)), (16, .sipush 200, 3, (0, 0, 0, 0)), (19, .if_icmp .lt 10, 3, (29, 0, 0, 0)), (22, .aload_n 0, 1, (0, 0, 0, 0)), (23, .bipush 6, 2, (0, 0, 0, 0)), (25, .invokevirtual 69, 3, (170, 2, 0, 0)), (28, .ireturn, 1, (0, 0, 0, 0)), (29, .aload_n 0, 1, (0, 0, 0, 0)), (30, .invokevirtual 73, 3, (171, 1, 0, 0)), (33, .aload_n 0, 1, (0, 0, 0, 0)), (34, .aload_n 0, 1, (0, 0, 0, 0)), (35, .getfield 12, 3, (9, 0, 1, 0)), (38, .iload_n 1, 1, (0, 0, 0, 0)), (39, .invokevirtual 217, 3, (96, 2, 0, 0)), (42, .invokevirtual 79, 3, (169, 2, 0, 0)), (45, .ireturn, 1, (0, 0, 0, 0))]
def m_143 : VM := (RX9, yX9_thing, cX9_thing, 2, (some .int), 5, 131, k_143)
def k_144 : List VE := [(0, .aload_n 0, 1, (0, 0, 0, 0)), (1, .iload_n 1, 1, (0, 0, 0, 0)), (2, .iload_n 2, 1, (0, 0, 0, 0)), (3, .iload_n 3, 1, (0, 0, 0, 0)), (4, .invokevirtual 220, 3, (179, 4, 0, 0)), (7, .istore 4, 2, (0, 0, 0, 0)), (9, .iload 4, 2, (0, 0, 0, 0)), (11, .ifCond .eq 10, 3, (21, 0, 0, 0)), (14, .aload_n 0, 1, (0, 0, 0, 0)), (15, .iload 4, 2, (0, 0, 0, 0)), (17, .invokevirtual 69, 3, (170, 2, 0, 0)), (20, .ireturn, 1, (0, 0, 0, 0)), (21, .aload_n 0, 1, (0, 0, 0, 0)), (22, .invokevirtual 73, 3, (171, 1, 0, 0)), (25, .aload_n 0, 1, (0, 0, 0, 0)), (26, .getfield 12, 3, (9, 0, 1, 0)), (29, .iload_n 1, 1, (0, 0, 0, 0)), (30, .invokevirtual 224, 3, (93, 2, 0, 0)), (33, .astore 5, 2, (0, 0, 0, 0)), (35, .aload 5, 2, (0, 0, 0, 0)), (37, .iload_n 2, 1, (0, 0, 0, 0)), (38, .putfield 228, 3, (7, 2, 0, 0)), (41, .aload 5, 2, (0, 0, 0, 0)), (43, .iload_n 3, 1, (0, 0, 0, 0)), (44, .putfield 233, 3, (7, 3, 0, 0)), (47, .aload_n 0, 1, (0, 0, 0, 0)), (48, .getfield 43, 3, (9, 7, 1, 1)), (51, .aload_n 0, 1, (0, 0, 0, 0)), (52, .getfield 12, 3, (9, 0, 1, 0)), (55, .invokevirtual 236, 3, (63, 2, 0, 0)), (58, .aload_n 0, 1, (0, 0, 0, 0)), (59, .aload 5, 2, (0, 0, 0, 0)), (61, .getfield 240, 3, (7, 4, 0, 0)), (64, .invokevirtual 79, 3, (169, 2, 0, 0)), (67, .ireturn, 1, (0, 0, 0, 0))]
def m_144 : VM := (RX9, yX9_line, cX9_line, 6, (some .int), 5, 131, k_144)
def k_145 : List VE := [(0, .aload_n 0, 1, (0, 0, 0, 0)), (1, .iload_n 1, 1, (0, 0, 0, 0)), (2, .invokevirtual 243, 3, (174, 2, 0, 0)), (5, .istore_n 3, 1, (0, 0, 0, 0)), (6, .iload_n 3, 1, (0, 0, 0, 0)), (7, .ifCond .ne 9, 3, (16, 0, 0, 0)), (10, .aload_n 0, 1, (0, 0, 0, 0)), (11, .iload_n 2, 1, (0, 0, 0, 0)), (12, .invokevirtual 243, 3, (174, 2, 0, 0)), (15, .istore_n 3, 1, (0, 0, 0, 0)), (16, .iload_n 3, 1, (0, 0, 0, 0)), (17, .ifCond .eq 9, 3, (26, 0, 0, 0)), (20, .aload_n 0, 1, (0, 0, 0, 0)), (21, .iload_n 3, 1, (0, 0, 0, 0)), (22, .invokevirtual 69, 3, (170, 2, 0, 0)), (25, .ireturn, 1, (0, 0, 0, 0)), (26, .aload_n 0, 1, (0, 0, 0, 0)), (27, .aload_n 0, 1, (0, 0, 0, 0)), (28, .getfield 43, 3, (9, 7, 1, 1)), (31, .aload_n 0, 1, (0, 0, 0, 0)), (32, .getfield 12, 3, (9, 0, 1, 0)), (35, .iload_n 1, 1, (0, 0, 0, 0)), (36, .iload_n 2, 1, (0, 0, 0, 0)), (37, .invokevirtual 246, 3, (64, 4, 0, 0)), (40, .invokevirtual 79, 3, (169, 2, 0, 0)), (43, .ireturn, 1, (0, 0, 0, 0))]
def m_145 : VM := (RX9, yX9_kin, cX9_kin, 4, (some .int), 6, 138, k_145)
def k_146_0 : List VE := [(0, .aload_n 0, 1, (0, 0, 0, 0)), (1, .iload_n 1, 1, (0, 0, 0, 0)), (2, .invokevirtual 243, 3, (174, 2, 0, 0)), (5, .istore_n 3, 1, (0, 0, 0, 0)), (6, .iload_n 3, 1, (0, 0, 0, 0)), (7, .ifCond .eq 9, 3, (16, 0, 0, 0)), (10, .aload_n 0, 1, (0, 0, 0, 0)), (11, .iload_n 3, 1, (0, 0, 0, 0)), (12, .invokevirtual 69, 3, (170, 2, 0, 0)), (15, .ireturn, 1, (0, 0, 0, 0)), (16, .iload_n 2, 1, (0, 0, 0, 0)), (17, .ifCond .lt 9, 3, (26, 0, 0, 0)), (20, .iload_n 2, 1, (0, 0, 0, 0)), (21, .bipush 14, 2, (0, 0, 0, 0)), (23, .if_icmp .le 10, 3, (33, 0, 0, 0)), (26, .aload_n 0, 1, (0, 0, 0, 0)), (27, .bipush 6, 2, (0, 0, 0, 0)), (29, .invokevirtual 69, 3, (170, 2, 0, 0)), (32, .ireturn, 1, (0, 0, 0, 0)), (33, .aload_n 0, 1, (0, 0, 0, 0)), (34, .getfield 12, 3, (9, 0, 1, 0)), (37, .iload_n 1, 1, (0, 0, 0, 0)), (38, .invokevirtual 224, 3, (93, 2, 0, 0)), (41, .astore 4, 2, (0, 0, 0, 0)), (43, .iload_n 2, 1, (0, 0, 0, 0)), (44, .iconst 4, 1, (0, 0, 0, 0)), (45, .if_icmp .eq 9, 3, (54, 0, 0, 0)), (48, .iload_n 2, 1, (0, 0, 0, 0)), (49, .bipush 7, 2, (0, 0, 0, 0)), (51, .if_icmp .ne 17, 3, (68, 0, 0, 0)), (54, .aload 4, 2, (0, 0, 0, 0)), (56, .invokevirtual 250, 3, (86, 1, 0, 0)), (59, .ifCond .ne 9, 3, (68, 0, 0, 0)), (62, .aload_n 0, 1, (0, 0, 0, 0)), (63, .iconst 3, 1, (0, 0, 0, 0)), (64, .invokevirtual 69, 3, (170, 2, 0, 0)), (67, .ireturn, 1, (0, 0, 0, 0)), (68, .iload_n 2, 1, (0, 0, 0, 0)), (69, .bipush 11, 2, (0, 0, 0, 0)), (71, .if_icmp .eq 9, 3, (80, 0, 0, 0)), (74, .iload_n 2, 1, (0, 0, 0, 0)), (75, .bipush 12, 2, (0, 0, 0, 0)), (77, .if_icmp .ne 18, 3, (95, 0, 0, 0)), (80, .aload 4, 2, (0, 0, 0, 0)), (82, .getfield 254, 3, (7, 0, 0, 0)), (85, .iconst 2, 1, (0, 0, 0, 0)), (86, .if_icmp .eq 9, 3, (95, 0, 0, 0)), (89, .aload_n 0, 1, (0, 0, 0, 0)), (90, .iconst 3, 1, (0, 0, 0, 0)), (91, .invokevirtual 69, 3, (170, 2, 0, 0)), (94, .ireturn, 1, (0, 0, 0, 0)), (95, .iload_n 2, 1, (0, 0, 0, 0)), (96, .bipush 13, 2, (0, 0, 0, 0)), (98, .if_icmp .ne 16, 3, (114, 0, 0, 0)), (101, .aload_n 0, 1, (0, 0, 0, 0)), (102, .aload_n 0, 1, (0, 0, 0, 0)), (103, .getfield 12, 3, (9, 0, 1, 0)), (106, .iload_n 1, 1, (0, 0, 0, 0)), (107, .invokevirtual 257, 3, (110, 2, 0, 0)), (110, .invokevirtual 79, 3, (169, 2, 0, 0))]
def k_146_1 : List VE := [(113, .ireturn, 1, (0, 0, 0, 0)), (114, .iload_n 2, 1, (0, 0, 0, 0)), (115, .bipush 14, 2, (0, 0, 0, 0)), (117, .if_icmp .ne 16, 3, (133, 0, 0, 0)), (120, .aload_n 0, 1, (0, 0, 0, 0)), (121, .aload_n 0, 1, (0, 0, 0, 0)), (122, .getfield 12, 3, (9, 0, 1, 0)), (125, .iload_n 1, 1, (0, 0, 0, 0)), (126, .invokevirtual 260, 3, (111, 2, 0, 0)), (129, .invokevirtual 79, 3, (169, 2, 0, 0)), (132, .ireturn, 1, (0, 0, 0, 0)), (133, .aload_n 0, 1, (0, 0, 0, 0)), (134, .iload_n 2, 1, (0, 0, 0, 0)), (135, .iconst 2, 1, (0, 0, 0, 0)), (136, .if_icmp .lt 22, 3, (158, 0, 0, 0)), (139, .iload_n 2, 1, (0, 0, 0, 0)), (140, .bipush 7, 2, (0, 0, 0, 0)), (142, .if_icmp .gt 16, 3, (158, 0, 0, 0)), (145, .aload_n 0, 1, (0, 0, 0, 0)), (146, .getfield 36, 3, (9, 6, 1, 1)), (149, .aload 4, 2, (0, 0, 0, 0)), (151, .iload_n 2, 1, (0, 0, 0, 0)), (152, .invokevirtual 263, 3, (2, 3, 0, 0)), (155, .goto 9, 3, (164, 0, 0, 0)), (158, .aload 4, 2, (0, 0, 0, 0)), (160, .iload_n 2, 1, (0, 0, 0, 0)), (161, .invokevirtual 267, 3, (88, 2, 0, 0)), (164, .invokevirtual 79, 3, (169, 2, 0, 0)), (167, .ireturn, 1, (0, 0, 0, 0))]
def k_146 : List VE := (k_146_0 ++ (k_146_1))
def m_146 : VM := (RX9, yX9_ask, cX9_ask, 5, (some .int), 5, 108, k_146)
def k_147 : List VE := [(0, .aload_n 0, 1, (0, 0, 0, 0)), (1, .iload_n 1, 1, (0, 0, 0, 0)), (2, .invokevirtual 82, 3, (172, 2, 0, 0)), (5, .istore_n 3, 1, (0, 0, 0, 0)), (6, .iload_n 3, 1, (0, 0, 0, 0)), (7, .ifCond .ne 14, 3, (21, 0, 0, 0)), (10, .iload_n 2, 1, (0, 0, 0, 0)), (11, .iconst (-1), 1, (0, 0, 0, 0)), (12, .if_icmp .eq 9, 3, (21, 0, 0, 0)), (15, .aload_n 0, 1, (0, 0, 0, 0)), (16, .iload_n 2, 1, (0, 0, 0, 0)), (17, .invokevirtual 243, 3, (174, 2, 0, 0)), (20, .istore_n 3, 1, (0, 0, 0, 0)), (21, .iload_n 3, 1, (0, 0, 0, 0)), (22, .ifCond .ne 22, 3, (44, 0, 0, 0)), (25, .iload_n 2, 1, (0, 0, 0, 0)), (26, .iconst (-1), 1, (0, 0, 0, 0)), (27, .if_icmp .eq 17, 3, (44, 0, 0, 0)), (30, .aload_n 0, 1, (0, 0, 0, 0)), (31, .getfield 12, 3, (9, 0, 1, 0)), (34, .iload_n 2, 1, (0, 0, 0, 0)), (35, .invokevirtual 268, 3, (112, 2, 0, 0)), (38, .ifCond .eq 6, 3, (44, 0, 0, 0)), (41, .bipush 6, 2, (0, 0, 0, 0)), (43, .istore_n 3, 1, (0, 0, 0, 0)), (44, .iload_n 3, 1, (0, 0, 0, 0)), (45, .ifCond .eq 9, 3, (54, 0, 0, 0)), (48, .aload_n 0, 1, (0, 0, 0, 0)), (49, .iload_n 3, 1, (0, 0, 0, 0)), (50, .invokevirtual 69, 3, (170, 2, 0, 0)), (53, .ireturn, 1, (0, 0, 0, 0)), (54, .aload_n 0, 1, (0, 0, 0, 0)), (55, .invokevirtual 73, 3, (171, 1, 0, 0)), (58, .aload_n 0, 1, (0, 0, 0, 0)), (59, .getfield 12, 3, (9, 0, 1, 0)), (62, .iload_n 1, 1, (0, 0, 0, 0)), (63, .invokevirtual 85, 3, (91, 2, 0, 0)), (66, .astore 4, 2, (0, 0, 0, 0)), (68, .aload 4, 2, (0, 0, 0, 0)), (70, .getfield 272, 3, (3, 5, 0, 0)), (73, .istore 5, 2, (0, 0, 0, 0)), (75, .aload 4, 2, (0, 0, 0, 0)), (77, .iload_n 2, 1, (0, 0, 0, 0)), (78, .putfield 272, 3, (3, 5, 0, 0)), (81, .aload_n 0, 1, (0, 0, 0, 0)), (82, .iload 5, 2, (0, 0, 0, 0)), (84, .invokevirtual 79, 3, (169, 2, 0, 0)), (87, .ireturn, 1, (0, 0, 0, 0))]
def m_147 : VM := (RX9, yX9_slot, cX9_slot, 6, (some .int), 5, 131, k_147)
def k_148 : List VE := [(0, .aload_n 0, 1, (0, 0, 0, 0)), (1, .iload_n 1, 1, (0, 0, 0, 0)), (2, .invokevirtual 243, 3, (174, 2, 0, 0)), (5, .istore_n 3, 1, (0, 0, 0, 0)), (6, .iload_n 3, 1, (0, 0, 0, 0)), (7, .ifCond .eq 9, 3, (16, 0, 0, 0)), (10, .aload_n 0, 1, (0, 0, 0, 0)), (11, .iload_n 3, 1, (0, 0, 0, 0)), (12, .invokevirtual 69, 3, (170, 2, 0, 0)), (15, .ireturn, 1, (0, 0, 0, 0)), (16, .aload_n 0, 1, (0, 0, 0, 0)), (17, .getfield 12, 3, (9, 0, 1, 0)), (20, .iload_n 1, 1, (0, 0, 0, 0)), (21, .invokevirtual 224, 3, (93, 2, 0, 0)), (24, .astore 4, 2, (0, 0, 0, 0)), (26, .aload 4, 2, (0, 0, 0, 0)), (28, .getfield 254, 3, (7, 0, 0, 0)), (31, .iconst 2, 1, (0, 0, 0, 0)), (32, .if_icmp .eq 9, 3, (41, 0, 0, 0)), (35, .aload_n 0, 1, (0, 0, 0, 0)), (36, .iconst 3, 1, (0, 0, 0, 0)), (37, .invokevirtual 69, 3, (170, 2, 0, 0)), (40, .ireturn, 1, (0, 0, 0, 0)), (41, .iload_n 2, 1, (0, 0, 0, 0)), (42, .ifCond .lt 10, 3, (52, 0, 0, 0)), (45, .iload_n 2, 1, (0, 0, 0, 0)), (46, .sipush 200, 3, (0, 0, 0, 0)), (49, .if_icmp .le 10, 3, (59, 0, 0, 0)), (52, .aload_n 0, 1, (0, 0, 0, 0)), (53, .bipush 6, 2, (0, 0, 0, 0)), (55, .invokevirtual 69, 3, (170, 2, 0, 0)), (58, .ireturn, 1, (0, 0, 0, 0)), (59, .aload_n 0, 1, (0, 0, 0, 0)), (60, .invokevirtual 73, 3, (171, 1, 0, 0)), (63, .aload 4, 2, (0, 0, 0, 0)), (65, .getfield 275, 3, (7, 5, 0, 0)), (68, .istore 5, 2, (0, 0, 0, 0)), (70, .aload 4, 2, (0, 0, 0, 0)), (72, .iload_n 2, 1, (0, 0, 0, 0)), (73, .putfield 275, 3, (7, 5, 0, 0)), (76, .aload_n 0, 1, (0, 0, 0, 0)), (77, .iload 5, 2, (0, 0, 0, 0)), (79, .invokevirtual 79, 3, (169, 2, 0, 0)), (82, .ireturn, 1, (0, 0, 0, 0))]
def m_148 : VM := (RX9, yX9_lay, cX9_lay, 6, (some .int), 5, 131, k_148)
def k_149 : List VE := [(0, .aload_n 0, 1, (0, 0, 0, 0)), (1, .iload_n 1, 1, (0, 0, 0, 0)), (2, .invokevirtual 243, 3, (174, 2, 0, 0)), (5, .istore_n 3, 1, (0, 0, 0, 0)), (6, .iload_n 3, 1, (0, 0, 0, 0)), (7, .ifCond .ne 20, 3, (27, 0, 0, 0)), (10, .aload_n 0, 1, (0, 0, 0, 0)), (11, .getfield 12, 3, (9, 0, 1, 0)), (14, .iload_n 1, 1, (0, 0, 0, 0)), (15, .invokevirtual 224, 3, (93, 2, 0, 0)), (18, .getfield 254, 3, (7, 0, 0, 0)), (21, .iconst 1, 1, (0, 0, 0, 0)), (22, .if_icmp .eq 5, 3, (27, 0, 0, 0)), (25, .iconst 3, 1, (0, 0, 0, 0)), (26, .istore_n 3, 1, (0, 0, 0, 0)), (27, .iload_n 3, 1, (0, 0, 0, 0)), (28, .ifCond .ne 9, 3, (37, 0, 0, 0)), (31, .aload_n 0, 1, (0, 0, 0, 0)), (32, .iload_n 2, 1, (0, 0, 0, 0)), (33, .invokevirtual 243, 3, (174, 2, 0, 0)), (36, .istore_n 3, 1, (0, 0, 0, 0)), (37, .iload_n 3, 1, (0, 0, 0, 0)), (38, .ifCond .ne 20, 3, (58, 0, 0, 0)), (41, .aload_n 0, 1, (0, 0, 0, 0)), (42, .getfield 12, 3, (9, 0, 1, 0)), (45, .iload_n 2, 1, (0, 0, 0, 0)), (46, .invokevirtual 224, 3, (93, 2, 0, 0)), (49, .getfield 254, 3, (7, 0, 0, 0)), (52, .iconst 3, 1, (0, 0, 0, 0)), (53, .if_icmp .eq 5, 3, (58, 0, 0, 0)), (56, .iconst 3, 1, (0, 0, 0, 0)), (57, .istore_n 3, 1, (0, 0, 0, 0)), (58, .iload_n 3, 1, (0, 0, 0, 0)), (59, .ifCond .eq 9, 3, (68, 0, 0, 0)), (62, .aload_n 0, 1, (0, 0, 0, 0)), (63, .iload_n 3, 1, (0, 0, 0, 0)), (64, .invokevirtual 69, 3, (170, 2, 0, 0)), (67, .ireturn, 1, (0, 0, 0, 0)), (68, .aload_n 0, 1, (0, 0, 0, 0)), (69, .invokevirtual 73, 3, (171, 1, 0, 0)), (72, .aload_n 0, 1, (0, 0, 0, 0)), (73, .getfield 12, 3, (9, 0, 1, 0)), (76, .iload_n 1, 1, (0, 0, 0, 0)), (77, .invokevirtual 224, 3, (93, 2, 0, 0)), (80, .iload_n 2, 1, (0, 0, 0, 0)), (81, .invokevirtual 278, 3, (85, 2, 0, 0)), (84, .aload_n 0, 1, (0, 0, 0, 0)), (85, .iconst 1, 1, (0, 0, 0, 0)), (86, .invokevirtual 79, 3, (169, 2, 0, 0)), (89, .ireturn, 1, (0, 0, 0, 0))]
def m_149 : VM := (RX9, yX9_mate, cX9_mate, 4, (some .int), 5, 131, k_149)
def k_150 : List VE := [(0, .iload_n 1, 1, (0, 0, 0, 0)), (1, .iconst 1, 1, (0, 0, 0, 0)), (2, .if_icmp .lt 9, 3, (11, 0, 0, 0)), (5, .iload_n 1, 1, (0, 0, 0, 0)), (6, .bipush 30, 2, (0, 0, 0, 0)), (8, .if_icmp .le 10, 3, (18, 0, 0, 0)), (11, .aload_n 0, 1, (0, 0, 0, 0)), (12, .bipush 6, 2, (0, 0, 0, 0)), (14, .invokevirtual 69, 3, (170, 2, 0, 0)), (17, .ireturn, 1, (0, 0, 0, 0)), (18, .aload_n 0, 1, (0, 0, 0, 0)), (19, .invokevirtual 73, 3, (171, 1, 0, 0)), (22, .iconst 0, 1, (0, 0, 0, 0)), (23, .istore_n 2, 1, (0, 0, 0, 0)), (24, .iload_n 2, 1, (0, 0, 0, 0)), (25, .iload_n 1, 1, (0, 0, 0, 0)), (26, .if_icmp .ge 20, 3, (46, 0, 0, 0)), (29, .aload_n 0, 1, (0, 0, 0, 0)), (30, .getfield 12, 3, (9, 0, 1, 0)), (33, .aload_n 0, 1, (0, 0, 0, 0)), (34, .getfield 36, 3, (9, 6, 1, 1)), (37, .invokevirtual 281, 3, (115, 2, 0, 0)), (40, .iinc 2 1, 3, (0, 0, 0, 0)), (43, .goto (-19), 3, (24, 0, 0, 0)), (46, .aload_n 0, 1, (0, 0, 0, 0)), (47, .aload_n 0, 1, (0, 0, 0, 0)), (48, .getfield 12, 3, (9, 0, 1, 0)), (51, .getfield 285, 3, (8, 8, 0, 0)), (54, .invokevirtual 79, 3, (169, 2, 0, 0)), (57, .ireturn, 1, (0, 0, 0, 0))]
def m_150 : VM := (RX9, yX9_day, cX9_day, 3, (some .int), 5, 131, k_150)
def k_151 : List VE := [(0, .aload_n 0, 1, (0, 0, 0, 0)), (1, .iload_n 1, 1, (0, 0, 0, 0)), (2, .invokevirtual 82, 3, (172, 2, 0, 0)), (5, .istore_n 3, 1, (0, 0, 0, 0)), (6, .iload_n 3, 1, (0, 0, 0, 0)), (7, .ifCond .eq 9, 3, (16, 0, 0, 0)), (10, .aload_n 0, 1, (0, 0, 0, 0)), (11, .iload_n 3, 1, (0, 0, 0, 0)), (12, .invokevirtual 69, 3, (170, 2, 0, 0)), (15, .ireturn, 1, (0, 0, 0, 0)), (16, .iload_n 2, 1, (0, 0, 0, 0)), (17, .iconst 4, 1, (0, 0, 0, 0)), (18, .if_icmp .eq 8, 3, (26, 0, 0, 0)), (21, .iload_n 2, 1, (0, 0, 0, 0)), (22, .iconst 5, 1, (0, 0, 0, 0)), (23, .if_icmp .ne 16, 3, (39, 0, 0, 0)), (26, .aload_n 0, 1, (0, 0, 0, 0)), (27, .getfield 12, 3, (9, 0, 1, 0)), (30, .getfield 214, 3, (8, 7, 0, 0)), (33, .sipush 200, 3, (0, 0, 0, 0)), (36, .if_icmp .lt 10, 3, (46, 0, 0, 0)), (39, .aload_n 0, 1, (0, 0, 0, 0)), (40, .bipush 6, 2, (0, 0, 0, 0)), (42, .invokevirtual 69, 3, (170, 2, 0, 0)), (45, .ireturn, 1, (0, 0, 0, 0)), (46, .aload_n 0, 1, (0, 0, 0, 0)), (47, .invokevirtual 73, 3, (171, 1, 0, 0)), (50, .aload_n 0, 1, (0, 0, 0, 0)), (51, .getfield 12, 3, (9, 0, 1, 0)), (54, .iload_n 2, 1, (0, 0, 0, 0)), (55, .invokevirtual 217, 3, (96, 2, 0, 0)), (58, .istore 4, 2, (0, 0, 0, 0)), (60, .aload_n 0, 1, (0, 0, 0, 0)), (61, .getfield 12, 3, (9, 0, 1, 0)), (64, .iload_n 1, 1, (0, 0, 0, 0)), (65, .invokevirtual 85, 3, (91, 2, 0, 0)), (68, .aload_n 0, 1, (0, 0, 0, 0)), (69, .getfield 12, 3, (9, 0, 1, 0)), (72, .iload 4, 2, (0, 0, 0, 0)), (74, .invokevirtual 224, 3, (93, 2, 0, 0)), (77, .invokevirtual 288, 3, (50, 2, 0, 0)), (80, .aload_n 0, 1, (0, 0, 0, 0)), (81, .iload 4, 2, (0, 0, 0, 0)), (83, .invokevirtual 79, 3, (169, 2, 0, 0)), (86, .ireturn, 1, (0, 0, 0, 0))]
def m_151 : VM := (RX9, yX9_swarm, cX9_swarm, 5, (some .int), 5, 131, k_151)
def k_152 : List VE := [(0, .aload_n 0, 1, (0, 0, 0, 0)), (1, .iload_n 1, 1, (0, 0, 0, 0)), (2, .invokevirtual 243, 3, (174, 2, 0, 0)), (5, .istore_n 3, 1, (0, 0, 0, 0)), (6, .iload_n 3, 1, (0, 0, 0, 0)), (7, .ifCond .ne 19, 3, (26, 0, 0, 0)), (10, .aload_n 0, 1, (0, 0, 0, 0)), (11, .getfield 12, 3, (9, 0, 1, 0)), (14, .iload_n 1, 1, (0, 0, 0, 0)), (15, .invokevirtual 224, 3, (93, 2, 0, 0)), (18, .invokevirtual 292, 3, (87, 1, 0, 0)), (21, .ifCond .ne 5, 3, (26, 0, 0, 0)), (24, .iconst 3, 1, (0, 0, 0, 0)), (25, .istore_n 3, 1, (0, 0, 0, 0)), (26, .iload_n 3, 1, (0, 0, 0, 0)), (27, .ifCond .ne 9, 3, (36, 0, 0, 0)), (30, .aload_n 0, 1, (0, 0, 0, 0)), (31, .iload_n 2, 1, (0, 0, 0, 0)), (32, .invokevirtual 82, 3, (172, 2, 0, 0)), (35, .istore_n 3, 1, (0, 0, 0, 0)), (36, .iload_n 3, 1, (0, 0, 0, 0)), (37, .ifCond .eq 9, 3, (46, 0, 0, 0)), (40, .aload_n 0, 1, (0, 0, 0, 0)), (41, .iload_n 3, 1, (0, 0, 0, 0)), (42, .invokevirtual 69, 3, (170, 2, 0, 0)), (45, .ireturn, 1, (0, 0, 0, 0)), (46, .aload_n 0, 1, (0, 0, 0, 0)), (47, .invokevirtual 73, 3, (171, 1, 0, 0)), (50, .aload_n 0, 1, (0, 0, 0, 0)), (51, .getfield 12, 3, (9, 0, 1, 0)), (54, .iload_n 1, 1, (0, 0, 0, 0)), (55, .invokevirtual 224, 3, (93, 2, 0, 0)), (58, .astore 4, 2, (0, 0, 0, 0)), (60, .aload_n 0, 1, (0, 0, 0, 0)), (61, .getfield 36, 3, (9, 6, 1, 1)), (64, .aload 4, 2, (0, 0, 0, 0)), (66, .invokevirtual 295, 3, (4, 2, 0, 0)), (69, .istore 5, 2, (0, 0, 0, 0)), (71, .aload_n 0, 1, (0, 0, 0, 0)), (72, .getfield 12, 3, (9, 0, 1, 0)), (75, .iload_n 2, 1, (0, 0, 0, 0)), (76, .invokevirtual 85, 3, (91, 2, 0, 0)), (79, .aload 4, 2, (0, 0, 0, 0)), (81, .iload 5, 2, (0, 0, 0, 0)), (83, .invokevirtual 299, 3, (51, 3, 0, 0)), (86, .aload_n 0, 1, (0, 0, 0, 0)), (87, .iload 5, 2, (0, 0, 0, 0)), (89, .invokevirtual 79, 3, (169, 2, 0, 0)), (92, .ireturn, 1, (0, 0, 0, 0))]
def m_152 : VM := (RX9, yX9_settle, cX9_settle, 6, (some .int), 5, 131, k_152)
def k_153 : List VE := [(0, .aload_n 0, 1, (0, 0, 0, 0)), (1, .iload_n 1, 1, (0, 0, 0, 0)), (2, .invokevirtual 82, 3, (172, 2, 0, 0)), (5, .istore_n 3, 1, (0, 0, 0, 0)), (6, .iload_n 3, 1, (0, 0, 0, 0)), (7, .ifCond .eq 9, 3, (16, 0, 0, 0)), (10, .aload_n 0, 1, (0, 0, 0, 0)), (11, .iload_n 3, 1, (0, 0, 0, 0)), (12, .invokevirtual 69, 3, (170, 2, 0, 0)), (15, .ireturn, 1, (0, 0, 0, 0)), (16, .iload_n 2, 1, (0, 0, 0, 0)), (17, .bipush 100, 2, (0, 0, 0, 0)), (19, .if_icmp .le 10, 3, (29, 0, 0, 0)), (22, .aload_n 0, 1, (0, 0, 0, 0)), (23, .bipush 6, 2, (0, 0, 0, 0)), (25, .invokevirtual 69, 3, (170, 2, 0, 0)), (28, .ireturn, 1, (0, 0, 0, 0)), (29, .iload_n 2, 1, (0, 0, 0, 0)), (30, .ifCond .ge 9, 3, (39, 0, 0, 0)), (33, .aload_n 0, 1, (0, 0, 0, 0)), (34, .iconst 5, 1, (0, 0, 0, 0)), (35, .invokevirtual 69, 3, (170, 2, 0, 0)), (38, .ireturn, 1, (0, 0, 0, 0)), (39, .iload_n 2, 1, (0, 0, 0, 0)), (40, .ifCond .ne 9, 3, (49, 0, 0, 0)), (43, .aload_n 0, 1, (0, 0, 0, 0)), (44, .iconst 4, 1, (0, 0, 0, 0)), (45, .invokevirtual 69, 3, (170, 2, 0, 0)), (48, .ireturn, 1, (0, 0, 0, 0)), (49, .aload_n 0, 1, (0, 0, 0, 0)), (50, .getfield 12, 3, (9, 0, 1, 0)), (53, .iload_n 1, 1, (0, 0, 0, 0)), (54, .invokevirtual 85, 3, (91, 2, 0, 0)), (57, .getfield 303, 3, (3, 2, 0, 0)), (60, .istore 4, 2, (0, 0, 0, 0)), (62, .aload_n 0, 1, (0, 0, 0, 0)), (63, .getfield 59, 3, (9, 9, 1, 1)), (66, .iload_n 2, 1, (0, 0, 0, 0)), (67, .invokevirtual 306, 3, (80, 2, 0, 0)), (70, .iconst 0, 1, (0, 0, 0, 0)), (71, .istore 5, 2, (0, 0, 0, 0)), (73, .iload 5, 2, (0, 0, 0, 0)), (75, .iload_n 2, 1, (0, 0, 0, 0)), (76, .if_icmp .ge 41, 3, (117, 0, 0, 0)), (79, .aload_n 0, 1, (0, 0, 0, 0)), (80, .getfield 59, 3, (9, 9, 1, 1)), (83, .getfield 309, 3, (6, 0, 1, 1)), (86, .iload 5, 2, (0, 0, 0, 0)), (88, .iload 5, 2, (0, 0, 0, 0)), (90, .iload 4, 2, (0, 0, 0, 0)), (92, .iload_n 2, 1, (0, 0, 0, 0)), (93, .irem, 1, (0, 0, 0, 0)), (94, .if_icmp .ge 12, 3, (106, 0, 0, 0)), (97, .iload 4, 2, (0, 0, 0, 0)), (99, .iload_n 2, 1, (0, 0, 0, 0)), (100, .idiv, 1, (0, 0, 0, 0)), (101, .iconst 1, 1, (0, 0, 0, 0)), (102, .iadd, 1, (0, 0, 0, 0)), (103, .goto 7, 3, (110, 0, 0, 0)), (106, .iload 4, 2, (0, 0, 0, 0)), (108, .iload_n 2, 1, (0, 0, 0, 0)), (109, .idiv, 1, (0, 0, 0, 0)), (110, .iastore, 1, (0, 0, 0, 0)), (111, .iinc 5 1, 3, (0, 0, 0, 0)), (114, .goto (-41), 3, (73, 0, 0, 0)), (117, .aload_n 0, 1, (0, 0, 0, 0)), (118, .iload 4, 2, (0, 0, 0, 0)), (120, .iload_n 2, 1, (0, 0, 0, 0)), (121, .idiv, 1, (0, 0, 0, 0)), (122, .invokevirtual 79, 3, (169, 2, 0, 0)), (125, .ireturn, 1, (0, 0, 0, 0))]
def m_153 : VM := (RX9, yX9_share, cX9_share, 6, (some .int), 3, 61, k_153)
def k_154 : List VE := [(0, .aload_n 0, 1, (0, 0, 0, 0)), (1, .getfield 59, 3, (9, 9, 1, 1)), (4, .iload_n 1, 1, (0, 0, 0, 0)), (5, .invokevirtual 312, 3, (81, 2, 0, 0)), (8, .istore_n 2, 1, (0, 0, 0, 0)), (9, .iload_n 2, 1, (0, 0, 0, 0)), (10, .ifCond .eq 9, 3, (19, 0, 0, 0)), (13, .aload_n 0, 1, (0, 0, 0, 0)), (14, .iload_n 2, 1, (0, 0, 0, 0)), (15, .invokevirtual 69, 3, (170, 2, 0, 0)), (18, .ireturn, 1, (0, 0, 0, 0)), (19, .aload_n 0, 1, (0, 0, 0, 0)), (20, .aload_n 0, 1, (0, 0, 0, 0)), (21, .getfield 59, 3, (9, 9, 1, 1)), (24, .getfield 309, 3, (6, 0, 1, 1)), (27, .iload_n 1, 1, (0, 0, 0, 0)), (28, .iaload, 1, (0, 0, 0, 0)), (29, .invokevirtual 79, 3, (169, 2, 0, 0)), (32, .ireturn, 1, (0, 0, 0, 0))]
def m_154 : VM := (RX9, yX9_shared, cX9_shared, 3, (some .int), 1, 21, k_154)
def k_155 : List VE := [(0, .aload_n 0, 1, (0, 0, 0, 0)), (1, .iload_n 1, 1, (0, 0, 0, 0)), (2, .invokevirtual 82, 3, (172, 2, 0, 0)), (5, .istore 4, 2, (0, 0, 0, 0)), (7, .iload 4, 2, (0, 0, 0, 0)), (9, .ifCond .eq 10, 3, (19, 0, 0, 0)), (12, .aload_n 0, 1, (0, 0, 0, 0)), (13, .iload 4, 2, (0, 0, 0, 0)), (15, .invokevirtual 69, 3, (170, 2, 0, 0)), (18, .ireturn, 1, (0, 0, 0, 0)), (19, .iload_n 2, 1, (0, 0, 0, 0)), (20, .ifCond .lt 21, 3, (41, 0, 0, 0)), (23, .iload_n 2, 1, (0, 0, 0, 0)), (24, .sipush 10000, 3, (0, 0, 0, 0)), (27, .if_icmp .gt 14, 3, (41, 0, 0, 0)), (30, .iload_n 3, 1, (0, 0, 0, 0)), (31, .ifCond .lt 10, 3, (41, 0, 0, 0)), (34, .iload_n 3, 1, (0, 0, 0, 0)), (35, .sipush 10000, 3, (0, 0, 0, 0)), (38, .if_icmp .le 10, 3, (48, 0, 0, 0)), (41, .aload_n 0, 1, (0, 0, 0, 0)), (42, .bipush 6, 2, (0, 0, 0, 0)), (44, .invokevirtual 69, 3, (170, 2, 0, 0)), (47, .ireturn, 1, (0, 0, 0, 0)), (48, .iload_n 3, 1, (0, 0, 0, 0)), (49, .ifCond .ne 9, 3, (58, 0, 0, 0)), (52, .aload_n 0, 1, (0, 0, 0, 0)), (53, .iconst 4, 1, (0, 0, 0, 0)), (54, .invokevirtual 69, 3, (170, 2, 0, 0)), (57, .ireturn, 1, (0, 0, 0, 0)), (58, .aload_n 0, 1, (0, 0, 0, 0)), (59, .invokevirtual 73, 3, (171, 1, 0, 0)), (62, .aload_n 0, 1, (0, 0, 0, 0)), (63, .getfield 12, 3, (9, 0, 1, 0)), (66, .iload_n 1, 1, (0, 0, 0, 0)), (67, .invokevirtual 85, 3, (91, 2, 0, 0)), (70, .astore 5, 2, (0, 0, 0, 0)), (72, .aload 5, 2, (0, 0, 0, 0)), (74, .dup, 1, (0, 0, 0, 0)), (75, .getfield 315, 3, (3, 6, 0, 0)), (78, .iconst 1, 1, (0, 0, 0, 0)), (79, .iadd, 1, (0, 0, 0, 0)), (80, .putfield 315, 3, (3, 6, 0, 0)), (83, .aload 5, 2, (0, 0, 0, 0)), (85, .dup, 1, (0, 0, 0, 0)), (86, .getfield 318, 3, (3, 7, 0, 0)), (89, .iload_n 2, 1, (0, 0, 0, 0)), (90, .iadd, 1, (0, 0, 0, 0)), (91, .putfield 318, 3, (3, 7, 0, 0)), (94, .aload 5, 2, (0, 0, 0, 0)), (96, .dup, 1, (0, 0, 0, 0)), (97, .getfield 321, 3, (3, 8, 0, 0)), (100, .iload_n 3, 1, (0, 0, 0, 0)), (101, .iadd, 1, (0, 0, 0, 0)), (102, .putfield 321, 3, (3, 8, 0, 0)), (105, .aload_n 0, 1, (0, 0, 0, 0)), (106, .aload 5, 2, (0, 0, 0, 0)), (108, .getfield 315, 3, (3, 6, 0, 0)), (111, .invokevirtual 79, 3, (169, 2, 0, 0)), (114, .ireturn, 1, (0, 0, 0, 0))]
def m_155 : VM := (RX9, yX9_sample, cX9_sample, 6, (some .int), 5, 131, k_155)
def k_156 : List VE := [(0, .aload_n 0, 1, (0, 0, 0, 0)), (1, .iload_n 1, 1, (0, 0, 0, 0)), (2, .invokevirtual 82, 3, (172, 2, 0, 0)), (5, .istore_n 3, 1, (0, 0, 0, 0)), (6, .iload_n 3, 1, (0, 0, 0, 0)), (7, .ifCond .eq 9, 3, (16, 0, 0, 0)), (10, .aload_n 0, 1, (0, 0, 0, 0)), (11, .iload_n 3, 1, (0, 0, 0, 0)), (12, .invokevirtual 69, 3, (170, 2, 0, 0)), (15, .ireturn, 1, (0, 0, 0, 0)), (16, .iload_n 2, 1, (0, 0, 0, 0)), (17, .ifCond .lt 8, 3, (25, 0, 0, 0)), (20, .iload_n 2, 1, (0, 0, 0, 0)), (21, .iconst 3, 1, (0, 0, 0, 0)), (22, .if_icmp .le 10, 3, (32, 0, 0, 0)), (25, .aload_n 0, 1, (0, 0, 0, 0)), (26, .bipush 6, 2, (0, 0, 0, 0)), (28, .invokevirtual 69, 3, (170, 2, 0, 0)), (31, .ireturn, 1, (0, 0, 0, 0)), (32, .aload_n 0, 1, (0, 0, 0, 0)), (33, .getfield 12, 3, (9, 0, 1, 0)), (36, .iload_n 1, 1, (0, 0, 0, 0)), (37, .invokevirtual 85, 3, (91, 2, 0, 0)), (40, .astore 4, 2, (0, 0, 0, 0)), (42, .iload_n 2, 1, (0, 0, 0, 0)), (43, .iconst 2, 1, (0, 0, 0, 0)), (44, .irem, 1, (0, 0, 0, 0)), (45, .ifCond .ne 11, 3, (56, 0, 0, 0)), (48, .aload 4, 2, (0, 0, 0, 0)), (50, .getfield 318, 3, (3, 7, 0, 0)), (53, .goto 8, 3, (61, 0, 0, 0)), (56, .aload 4, 2, (0, 0, 0, 0)), (58, .getfield 321, 3, (3, 8, 0, 0)), (61, .istore 5, 2, (0, 0, 0, 0)), (63, .iload_n 2, 1, (0, 0, 0, 0)), (64, .iconst 2, 1, (0, 0, 0, 0)), (65, .if_icmp .ge 10, 3, (75, 0, 0, 0)), (68, .aload_n 0, 1, (0, 0, 0, 0)), (69, .iload 5, 2, (0, 0, 0, 0)), (71, .invokevirtual 79, 3, (169, 2, 0, 0)), (74, .ireturn, 1, (0, 0, 0, 0)), (75, .aload 4, 2, (0, 0, 0, 0)), (77, .getfield 321, 3, (3, 8, 0, 0)), (80, .ifCond .ne 9, 3, (89, 0, 0, 0)), (83, .aload_n 0, 1, (0, 0, 0, 0)), (84, .iconst 4, 1, (0, 0, 0, 0)), (85, .invokevirtual 69, 3, (170, 2, 0, 0)), (88, .ireturn, 1, (0, 0, 0, 0)), (89, .aload 4, 2, (0, 0, 0, 0)), (91, .getfield 318, 3, (3, 7, 0, 0)), (94, .aload 4, 2, (0, 0, 0, 0)), (96, .getfield 321, 3, (3, 8, 0, 0)), (99, .invokestatic 324, 3, (184, 2, 1, 0)), (102, .istore 6, 2, (0, 0, 0, 0)), (104, .aload_n 0, 1, (0, 0, 0, 0)), (105, .iload 6, 2, (0, 0, 0, 0)), (107, .ifCond .ne 8, 3, (115, 0, 0, 0)), (110, .iload 5, 2, (0, 0, 0, 0)), (112, .goto 8, 3, (120, 0, 0, 0)), (115, .iload 5, 2, (0, 0, 0, 0)), (117, .iload 6, 2, (0, 0, 0, 0)), (119, .idiv, 1, (0, 0, 0, 0)), (120, .invokevirtual 79, 3, (169, 2, 0, 0)), (123, .ireturn, 1, (0, 0, 0, 0))]
def m_156 : VM := (RX9, yX9_mites, cX9_mites, 7, (some .int), 3, 61, k_156)
def k_157 : List VE := [(0, .aload_n 0, 1, (0, 0, 0, 0)), (1, .iload_n 1, 1, (0, 0, 0, 0)), (2, .iload_n 2, 1, (0, 0, 0, 0)), (3, .invokevirtual 199, 3, (173, 3, 0, 0)), (6, .istore_n 3, 1, (0, 0, 0, 0)), (7, .iload_n 3, 1, (0, 0, 0, 0)), (8, .ifCond .eq 9, 3, (17, 0, 0, 0)), (11, .aload_n 0, 1, (0, 0, 0, 0)), (12, .iload_n 3, 1, (0, 0, 0, 0)), (13, .invokevirtual 69, 3, (170, 2, 0, 0)), (16, .ireturn, 1, (0, 0, 0, 0)), (17, .aload_n 0, 1, (0, 0, 0, 0)), (18, .getfield 12, 3, (9, 0, 1, 0)), (21, .iload_n 1, 1, (0, 0, 0, 0)), (22, .invokevirtual 85, 3, (91, 2, 0, 0)), (25, .astore 4, 2, (0, 0, 0, 0)), (27, .aload_n 0, 1, (0, 0, 0, 0)), (28, .getfield 12, 3, (9, 0, 1, 0)), (31, .iload_n 2, 1, (0, 0, 0, 0)), (32, .invokevirtual 85, 3, (91, 2, 0, 0)), (35, .astore 5, 2, (0, 0, 0, 0)), (37, .aload 4, 2, (0, 0, 0, 0)), (39, .getfield 321, 3, (3, 8, 0, 0)), (42, .ifCond .eq 11, 3, (53, 0, 0, 0)), (45, .aload 5, 2, (0, 0, 0, 0)), (47, .getfield 321, 3, (3, 8, 0, 0)), (50, .ifCond .ne 9, 3, (59, 0, 0, 0)), (53, .aload_n 0, 1, (0, 0, 0, 0)), (54, .iconst 4, 1, (0, 0, 0, 0)), (55, .invokevirtual 69, 3, (170, 2, 0, 0)), (58, .ireturn, 1, (0, 0, 0, 0)), (59, .aload 4, 2, (0, 0, 0, 0)), (61, .getfield 318, 3, (3, 7, 0, 0)), (64, .i2l, 1, (0, 0, 0, 0)), (65, .aload 5, 2, (0, 0, 0, 0)), (67, .getfield 321, 3, (3, 8, 0, 0)), (70, .i2l, 1, (0, 0, 0, 0)), (71, .lmul, 1, (0, 0, 0, 0)), (72, .lstore 6, 2, (0, 0, 0, 0)), (74, .aload 5, 2, (0, 0, 0, 0)), (76, .getfield 318, 3, (3, 7, 0, 0)), (79, .i2l, 1, (0, 0, 0, 0)), (80, .aload 4, 2, (0, 0, 0, 0)), (82, .getfield 321, 3, (3, 8, 0, 0)), (85, .i2l, 1, (0, 0, 0, 0)), (86, .lmul, 1, (0, 0, 0, 0)), (87, .lstore 8, 2, (0, 0, 0, 0)), (89, .aload_n 0, 1, (0, 0, 0, 0)), (90, .lload 6, 2, (0, 0, 0, 0)), (92, .lload 8, 2, (0, 0, 0, 0)), (94, .lcmp, 1, (0, 0, 0, 0)), (95, .ifCond .ge 7, 3, (102, 0, 0, 0)), (98, .iconst 0, 1, (0, 0, 0, 0)), (99, .goto 16, 3, (115, 0, 0, 0)), (102, .lload 6, 2, (0, 0, 0, 0)), (104, .lload 8, 2, (0, 0, 0, 0)), (106, .lcmp, 1, (0, 0, 0, 0)), (107, .ifCond .ne 7, 3, (114, 0, 0, 0)), (110, .iconst 1, 1, (0, 0, 0, 0)), (111, .goto 4, 3, (115, 0, 0, 0)), (114, .iconst 2, 1, (0, 0, 0, 0)), (115, .invokevirtual 79, 3, (169, 2, 0, 0)), (118, .ireturn, 1, (0, 0, 0, 0))]
def m_157 : VM := (RX9, yX9_compare, cX9_compare, 10, (some .int), 3, 61, k_157)
def k_158 : List VE := [(0, .aload_n 0, 1, (0, 0, 0, 0)), (1, .iload_n 1, 1, (0, 0, 0, 0)), (2, .invokevirtual 82, 3, (172, 2, 0, 0)), (5, .istore_n 2, 1, (0, 0, 0, 0)), (6, .iload_n 2, 1, (0, 0, 0, 0)), (7, .ifCond .eq 9, 3, (16, 0, 0, 0)), (10, .aload_n 0, 1, (0, 0, 0, 0)), (11, .iload_n 2, 1, (0, 0, 0, 0)), (12, .invokevirtual 69, 3, (170, 2, 0, 0)), (15, .ireturn, 1, (0, 0, 0, 0)), (16, .aload_n 0, 1, (0, 0, 0, 0)), (17, .invokevirtual 73, 3, (171, 1, 0, 0)), (20, .aload_n 0, 1, (0, 0, 0, 0)), (21, .getfield 12, 3, (9, 0, 1, 0)), (24, .iload_n 1, 1, (0, 0, 0, 0)), (25, .invokevirtual 85, 3, (91, 2, 0, 0)), (28, .invokevirtual 327, 3, (52, 1, 0, 0)), (31, .aload_n 0, 1, (0, 0, 0, 0)), (32, .iconst 1, 1, (0, 0, 0, 0)), (33, .invokevirtual 79, 3, (169, 2, 0, 0)), (36, .ireturn, 1, (0, 0, 0, 0))]
def m_158 : VM := (RX9, yX9_treat, cX9_treat, 3, (some .int), 5, 131, k_158)
def k_159 : List VE := [(0, .aload_n 0, 1, (0, 0, 0, 0)), (1, .iload_n 1, 1, (0, 0, 0, 0)), (2, .invokevirtual 82, 3, (172, 2, 0, 0)), (5, .istore 4, 2, (0, 0, 0, 0)), (7, .iload 4, 2, (0, 0, 0, 0)), (9, .ifCond .eq 10, 3, (19, 0, 0, 0)), (12, .aload_n 0, 1, (0, 0, 0, 0)), (13, .iload 4, 2, (0, 0, 0, 0)), (15, .invokevirtual 69, 3, (170, 2, 0, 0)), (18, .ireturn, 1, (0, 0, 0, 0)), (19, .iload_n 2, 1, (0, 0, 0, 0)), (20, .ifCond .ne 11, 3, (31, 0, 0, 0)), (23, .iload_n 3, 1, (0, 0, 0, 0)), (24, .ifCond .ne 7, 3, (31, 0, 0, 0)), (27, .iconst 1, 1, (0, 0, 0, 0)), (28, .goto 4, 3, (32, 0, 0, 0)), (31, .iconst 0, 1, (0, 0, 0, 0)), (32, .istore 5, 2, (0, 0, 0, 0)), (34, .iload 5, 2, (0, 0, 0, 0)), (36, .ifCond .ne 33, 3, (69, 0, 0, 0)), (39, .iload_n 2, 1, (0, 0, 0, 0)), (40, .iconst 1, 1, (0, 0, 0, 0)), (41, .if_icmp .lt 21, 3, (62, 0, 0, 0)), (44, .iload_n 2, 1, (0, 0, 0, 0)), (45, .bipush 30, 2, (0, 0, 0, 0)), (47, .if_icmp .gt 15, 3, (62, 0, 0, 0)), (50, .iload_n 3, 1, (0, 0, 0, 0)), (51, .iconst 1, 1, (0, 0, 0, 0)), (52, .if_icmp .lt 10, 3, (62, 0, 0, 0)), (55, .iload_n 3, 1, (0, 0, 0, 0)), (56, .sipush 1000, 3, (0, 0, 0, 0)), (59, .if_icmp .le 10, 3, (69, 0, 0, 0)), (62, .aload_n 0, 1, (0, 0, 0, 0)), (63, .bipush 6, 2, (0, 0, 0, 0)), (65, .invokevirtual 69, 3, (170, 2, 0, 0)), (68, .ireturn, 1, (0, 0, 0, 0)), (69, .aload_n 0, 1, (0, 0, 0, 0)), (70, .invokevirtual 73, 3, (171, 1, 0, 0)), (73, .aload_n 0, 1, (0, 0, 0, 0)), (74, .getfield 12, 3, (9, 0, 1, 0)), (77, .iload_n 1, 1, (0, 0, 0, 0)), (78, .invokevirtual 85, 3, (91, 2, 0, 0)), (81, .astore 6, 2, (0, 0, 0, 0)), (83, .aload 6, 2, (0, 0, 0, 0)), (85, .iload_n 2, 1, (0, 0, 0, 0)), (86, .putfield 330, 3, (3, 9, 0, 0)), (89, .aload 6, 2, (0, 0, 0, 0)), (91, .iload_n 3, 1, (0, 0, 0, 0)), (92, .putfield 333, 3, (3, 10, 0, 0)), (95, .aload_n 0, 1, (0, 0, 0, 0)), (96, .iconst 1, 1, (0, 0, 0, 0)), (97, .invokevirtual 79, 3, (169, 2, 0, 0)), (100, .ireturn, 1, (0, 0, 0, 0))]
def m_159 : VM := (RX9, yX9_due, cX9_due, 7, (some .int), 5, 131, k_159)
def k_160 : List VE := [(0, .iload_n 1, 1, (0, 0, 0, 0)), (1, .ifCond .lt 21, 3, (22, 0, 0, 0)), (4, .iload_n 1, 1, (0, 0, 0, 0)), (5, .sipush 10000, 3, (0, 0, 0, 0)), (8, .if_icmp .gt 14, 3, (22, 0, 0, 0)), (11, .iload_n 2, 1, (0, 0, 0, 0)), (12, .ifCond .lt 10, 3, (22, 0, 0, 0)), (15, .iload_n 2, 1, (0, 0, 0, 0)), (16, .sipush 10000, 3, (0, 0, 0, 0)), (19, .if_icmp .le 10, 3, (29, 0, 0, 0)), (22, .aload_n 0, 1, (0, 0, 0, 0)), (23, .bipush 6, 2, (0, 0, 0, 0)), (25, .invokevirtual 69, 3, (170, 2, 0, 0)), (28, .ireturn, 1, (0, 0, 0, 0)), (29, .aload_n 0, 1, (0, 0, 0, 0)), (30, .getfield 12, 3, (9, 0, 1, 0)), (33, .invokevirtual 336, 3, (113, 1, 0, 0)), (36, .istore_n 3, 1, (0, 0, 0, 0)), (37, .iload_n 3, 1, (0, 0, 0, 0)), (38, .bipush 8, 2, (0, 0, 0, 0)), (40, .if_icmp .le 10, 3, (50, 0, 0, 0)), (43, .aload_n 0, 1, (0, 0, 0, 0)), (44, .bipush 8, 2, (0, 0, 0, 0)), (46, .invokevirtual 69, 3, (170, 2, 0, 0)), (49, .ireturn, 1, (0, 0, 0, 0)), (50, .aload_n 0, 1, (0, 0, 0, 0)), (51, .getfield 12, 3, (9, 0, 1, 0)), (54, .invokevirtual 339, 3, (114, 1, 0, 0)), (57, .ifCond .ne 11, 3, (68, 0, 0, 0)), (60, .iload_n 2, 1, (0, 0, 0, 0)), (61, .ifCond .ne 13, 3, (74, 0, 0, 0)), (64, .iload_n 3, 1, (0, 0, 0, 0)), (65, .ifCond .le 9, 3, (74, 0, 0, 0)), (68, .aload_n 0, 1, (0, 0, 0, 0)), (69, .iconst 4, 1, (0, 0, 0, 0)), (70, .invokevirtual 69, 3, (170, 2, 0, 0)), (73, .ireturn, 1, (0, 0, 0, 0)), (74, .aload_n 0, 1, (0, 0, 0, 0)), (75, .aload_n 0, 1, (0, 0, 0, 0)), (76, .getfield 50, 3, (9, 8, 1, 1)), (79, .aload_n 0, 1, (0, 0, 0, 0)), (80, .getfield 12, 3, (9, 0, 1, 0)), (83, .iload_n 1, 1, (0, 0, 0, 0)), (84, .iload_n 2, 1, (0, 0, 0, 0)), (85, .invokevirtual 342, 3, (74, 4, 0, 0)), (88, .invokevirtual 79, 3, (169, 2, 0, 0)), (91, .ireturn, 1, (0, 0, 0, 0))]
def m_160 : VM := (RX9, yX9_plan, cX9_plan, 4, (some .int), 5, 113, k_160)
def k_161 : List VE := [(0, .aload_n 0, 1, (0, 0, 0, 0)), (1, .getfield 50, 3, (9, 8, 1, 1)), (4, .getfield 345, 3, (5, 0, 1, 1)), (7, .iload_n 1, 1, (0, 0, 0, 0)), (8, .invokevirtual 312, 3, (81, 2, 0, 0)), (11, .istore_n 2, 1, (0, 0, 0, 0)), (12, .iload_n 2, 1, (0, 0, 0, 0)), (13, .ifCond .eq 9, 3, (22, 0, 0, 0)), (16, .aload_n 0, 1, (0, 0, 0, 0)), (17, .iload_n 2, 1, (0, 0, 0, 0)), (18, .invokevirtual 69, 3, (170, 2, 0, 0)), (21, .ireturn, 1, (0, 0, 0, 0)), (22, .aload_n 0, 1, (0, 0, 0, 0)), (23, .aload_n 0, 1, (0, 0, 0, 0)), (24, .getfield 50, 3, (9, 8, 1, 1)), (27, .getfield 345, 3, (5, 0, 1, 1)), (30, .getfield 309, 3, (6, 0, 1, 1)), (33, .iload_n 1, 1, (0, 0, 0, 0)), (34, .iaload, 1, (0, 0, 0, 0)), (35, .invokevirtual 79, 3, (169, 2, 0, 0)), (38, .ireturn, 1, (0, 0, 0, 0))]
def m_161 : VM := (RX9, yX9_chosen, cX9_chosen, 3, (some .int), 1, 21, k_161)
def k_162 : List VE := [(0, .aload_n 0, 1, (0, 0, 0, 0)), (1, .iload_n 1, 1, (0, 0, 0, 0)), (2, .invokevirtual 111, 3, (176, 2, 0, 0)), (5, .istore_n 2, 1, (0, 0, 0, 0)), (6, .iload_n 2, 1, (0, 0, 0, 0)), (7, .ifCond .eq 9, 3, (16, 0, 0, 0)), (10, .aload_n 0, 1, (0, 0, 0, 0)), (11, .iload_n 2, 1, (0, 0, 0, 0)), (12, .invokevirtual 69, 3, (170, 2, 0, 0)), (15, .ireturn, 1, (0, 0, 0, 0)), (16, .aload_n 0, 1, (0, 0, 0, 0)), (17, .getfield 12, 3, (9, 0, 1, 0)), (20, .iload_n 1, 1, (0, 0, 0, 0)), (21, .invokevirtual 134, 3, (100, 2, 0, 0)), (24, .astore_n 3, 1, (0, 0, 0, 0)), (25, .aload_n 0, 1, (0, 0, 0, 0)), (26, .getfield 63, 3, (9, 10, 1, 1)), (29, .aload_n 3, 1, (0, 0, 0, 0)), (30, .getfield 348, 3, (2, 1, 0, 0)), (33, .invokevirtual 306, 3, (80, 2, 0, 0)), (36, .iconst 0, 1, (0, 0, 0, 0)), (37, .istore 4, 2, (0, 0, 0, 0)), (39, .iload 4, 2, (0, 0, 0, 0)), (41, .aload_n 3, 1, (0, 0, 0, 0)), (42, .getfield 348, 3, (2, 1, 0, 0)), (45, .if_icmp .ge 29, 3, (74, 0, 0, 0)), (48, .aload_n 0, 1, (0, 0, 0, 0)), (49, .getfield 63, 3, (9, 10, 1, 1)), (52, .getfield 309, 3, (6, 0, 1, 1)), (55, .iload 4, 2, (0, 0, 0, 0)), (57, .aload_n 3, 1, (0, 0, 0, 0)), (58, .getfield 138, 3, (2, 0, 1, 1)), (61, .iload 4, 2, (0, 0, 0, 0)), (63, .iaload, 1, (0, 0, 0, 0)), (64, .invokestatic 351, 3, (182, 1, 1, 0)), (67, .iastore, 1, (0, 0, 0, 0)), (68, .iinc 4 1, 3, (0, 0, 0, 0)), (71, .goto (-32), 3, (39, 0, 0, 0)), (74, .aload_n 0, 1, (0, 0, 0, 0)), (75, .aload_n 3, 1, (0, 0, 0, 0)), (76, .getfield 348, 3, (2, 1, 0, 0)), (79, .invokevirtual 79, 3, (169, 2, 0, 0)), (82, .ireturn, 1, (0, 0, 0, 0))]
def m_162 : VM := (RX9, yX9_export, cX9_export, 5, (some .int), 6, 126, k_162)
def k_163 : List VE := [(0, .aload_n 0, 1, (0, 0, 0, 0)), (1, .getfield 63, 3, (9, 10, 1, 1)), (4, .iload_n 1, 1, (0, 0, 0, 0)), (5, .invokevirtual 312, 3, (81, 2, 0, 0)), (8, .istore_n 2, 1, (0, 0, 0, 0)), (9, .iload_n 2, 1, (0, 0, 0, 0)), (10, .ifCond .eq 9, 3, (19, 0, 0, 0)), (13, .aload_n 0, 1, (0, 0, 0, 0)), (14, .iload_n 2, 1, (0, 0, 0, 0)), (15, .invokevirtual 69, 3, (170, 2, 0, 0)), (18, .ireturn, 1, (0, 0, 0, 0)), (19, .aload_n 0, 1, (0, 0, 0, 0)), (20, .aload_n 0, 1, (0, 0, 0, 0)), (21, .getfield 63, 3, (9, 10, 1, 1)), (24, .getfield 309, 3, (6, 0, 1, 1)), (27, .iload_n 1, 1, (0, 0, 0, 0)), (28, .iaload, 1, (0, 0, 0, 0)), (29, .invokevirtual 79, 3, (169, 2, 0, 0)), (32, .ireturn, 1, (0, 0, 0, 0))]
def m_163 : VM := (RX9, yX9_letter, cX9_letter, 3, (some .int), 1, 21, k_163)
def k_164 : List VE := [(0, .aload_n 0, 1, (0, 0, 0, 0)), (1, .getfield 63, 3, (9, 10, 1, 1)), (4, .getfield 355, 3, (6, 2, 0, 0)), (7, .ifCond .ne 9, 3, (16, 0, 0, 0)), (10, .aload_n 0, 1, (0, 0, 0, 0)), (11, .iconst 1, 1, (0, 0, 0, 0)), (12, .invokevirtual 69, 3, (170, 2, 0, 0)), (15, .ireturn, 1, (0, 0, 0, 0)), (16, .aload_n 0, 1, (0, 0, 0, 0)), (17, .getfield 63, 3, (9, 10, 1, 1)), (20, .getfield 358, 3, (6, 1, 0, 0)), (23, .istore 4, 2, (0, 0, 0, 0)), (25, .iload_n 3, 1, (0, 0, 0, 0)), (26, .ifCond .lt 39, 3, (65, 0, 0, 0)), (29, .iload_n 1, 1, (0, 0, 0, 0)), (30, .ifCond .lt 35, 3, (65, 0, 0, 0)), (33, .iload_n 1, 1, (0, 0, 0, 0)), (34, .iload 4, 2, (0, 0, 0, 0)), (36, .if_icmp .gt 29, 3, (65, 0, 0, 0)), (39, .iload_n 2, 1, (0, 0, 0, 0)), (40, .ifCond .lt 25, 3, (65, 0, 0, 0)), (43, .iload_n 2, 1, (0, 0, 0, 0)), (44, .iload 4, 2, (0, 0, 0, 0)), (46, .if_icmp .gt 19, 3, (65, 0, 0, 0)), (49, .iload_n 3, 1, (0, 0, 0, 0)), (50, .iload 4, 2, (0, 0, 0, 0)), (52, .iload_n 1, 1, (0, 0, 0, 0)), (53, .isub, 1, (0, 0, 0, 0)), (54, .if_icmp .gt 11, 3, (65, 0, 0, 0)), (57, .iload_n 3, 1, (0, 0, 0, 0)), (58, .iload 4, 2, (0, 0, 0, 0)), (60, .iload_n 2, 1, (0, 0, 0, 0)), (61, .isub, 1, (0, 0, 0, 0)), (62, .if_icmp .le 9, 3, (71, 0, 0, 0)), (65, .aload_n 0, 1, (0, 0, 0, 0)), (66, .iconst 2, 1, (0, 0, 0, 0)), (67, .invokevirtual 69, 3, (170, 2, 0, 0)), (70, .ireturn, 1, (0, 0, 0, 0)), (71, .aload_n 0, 1, (0, 0, 0, 0)), (72, .getfield 63, 3, (9, 10, 1, 1)), (75, .getfield 309, 3, (6, 0, 1, 1)), (78, .iload_n 1, 1, (0, 0, 0, 0)), (79, .aload_n 0, 1, (0, 0, 0, 0)), (80, .getfield 63, 3, (9, 10, 1, 1)), (83, .getfield 309, 3, (6, 0, 1, 1)), (86, .iload_n 2, 1, (0, 0, 0, 0)), (87, .iload_n 3, 1, (0, 0, 0, 0)), (88, .invokestatic 359, 3, (0, 5, 6, 0)), (91, .aload_n 0, 1, (0, 0, 0, 0)), (92, .iload_n 3, 1, (0, 0, 0, 0)), (93, .invokevirtual 79, 3, (169, 2, 0, 0)), (96, .ireturn, 1, (0, 0, 0, 0))]
def m_164 : VM := (RX9, yX9_copy, cX9_copy, 5, (some .int), 1, 68, k_164)
def k_165 : List VE := [(0, .iload_n 1, 1, (0, 0, 0, 0)), (1, .ifCond .lt 9, 3, (10, 0, 0, 0)), (4, .iload_n 1, 1, (0, 0, 0, 0)), (5, .bipush 17, 2, (0, 0, 0, 0)), (7, .if_icmp .lt 7, 3, (14, 0, 0, 0)), (10, .iconst 0, 1, (0, 0, 0, 0)), (11, .goto 12, 3, (23, 0, 0, 0)), (14, .aload_n 0, 1, (0, 0, 0, 0)), (15, .getfield 36, 3, (9, 6, 1, 1)), (18, .getfield 365, 3, (0, 0, 1, 1)), (21, .iload_n 1, 1, (0, 0, 0, 0)), (22, .iaload, 1, (0, 0, 0, 0)), (23, .ireturn, 1, (0, 0, 0, 0))]
def m_165 : VM := (RX9, yX9_trace, cX9_trace, 2, (some .int), 0, 0, k_165)
def k_166 : List VE := [(0, .aload_n 0, 1, (0, 0, 0, 0)), (1, .getfield 19, 3, (9, 2, 0, 0)), (4, .ifCond .ne 9, 3, (13, 0, 0, 0)), (7, .aload_n 0, 1, (0, 0, 0, 0)), (8, .iconst 0, 1, (0, 0, 0, 0)), (9, .invokevirtual 79, 3, (169, 2, 0, 0)), (12, .ireturn, 1, (0, 0, 0, 0)), (13, .aload_n 0, 1, (0, 0, 0, 0)), (14, .getfield 12, 3, (9, 0, 1, 0)), (17, .astore_n 1, 1, (0, 0, 0, 0)), (18, .aload_n 0, 1, (0, 0, 0, 0)), (19, .aload_n 0, 1, (0, 0, 0, 0)), (20, .getfield 16, 3, (9, 1, 1, 0)), (23, .putfield 12, 3, (9, 0, 1, 0)), (26, .aload_n 0, 1, (0, 0, 0, 0)), (27, .aload_n 1, 1, (0, 0, 0, 0)), (28, .putfield 16, 3, (9, 1, 1, 0)), (31, .aload_n 0, 1, (0, 0, 0, 0)), (32, .iconst 0, 1, (0, 0, 0, 0)), (33, .putfield 19, 3, (9, 2, 2, 0)), (36, .aload_n 0, 1, (0, 0, 0, 0)), (37, .iconst 1, 1, (0, 0, 0, 0)), (38, .invokevirtual 79, 3, (169, 2, 0, 0)), (41, .ireturn, 1, (0, 0, 0, 0))]
def m_166 : VM := (RX9, yX9_undo, cX9_undo, 2, (some .int), 1, 21, k_166)
def k_167 : List VE := [(0, .aload_n 0, 1, (0, 0, 0, 0)), (1, .getfield 12, 3, (9, 0, 1, 0)), (4, .bipush 17, 2, (0, 0, 0, 0)), (6, .invokevirtual 368, 3, (120, 2, 0, 0)), (9, .istore_n 1, 1, (0, 0, 0, 0)), (10, .iconst 0, 1, (0, 0, 0, 0)), (11, .istore_n 2, 1, (0, 0, 0, 0)), (12, .iload_n 2, 1, (0, 0, 0, 0)), (13, .bipush 17, 2, (0, 0, 0, 0)), (15, .if_icmp .ge 24, 3, (39, 0, 0, 0)), (18, .iload_n 1, 1, (0, 0, 0, 0)), (19, .bipush 31, 2, (0, 0, 0, 0)), (21, .imul, 1, (0, 0, 0, 0)), (22, .aload_n 0, 1, (0, 0, 0, 0)), (23, .getfield 36, 3, (9, 6, 1, 1)), (26, .getfield 365, 3, (0, 0, 1, 1)), (29, .iload_n 2, 1, (0, 0, 0, 0)), (30, .iaload, 1, (0, 0, 0, 0)), (31, .iadd, 1, (0, 0, 0, 0)), (32, .istore_n 1, 1, (0, 0, 0, 0)), (33, .iinc 2 1, 3, (0, 0, 0, 0)), (36, .goto (-24), 3, (12, 0, 0, 0)), (39, .iload_n 1, 1, (0, 0, 0, 0)), (40, .ireturn, 1, (0, 0, 0, 0))]
def m_167 : VM := (RX9, yX9_digest, cX9_digest, 3, (some .int), 6, 127, k_167)
def k_168 : List VE := [(0, .aload_n 0, 1, (0, 0, 0, 0)), (1, .getfield 23, 3, (9, 3, 0, 0)), (4, .ireturn, 1, (0, 0, 0, 0))]
def m_168 : VM := (RX9, yX9_status, cX9_status, 1, (some .int), 0, 0, k_168)
def k_169 : List VE := [(0, .aload_n 0, 1, (0, 0, 0, 0)), (1, .iconst 0, 1, (0, 0, 0, 0)), (2, .putfield 23, 3, (9, 3, 0, 0)), (5, .iload_n 1, 1, (0, 0, 0, 0)), (6, .ireturn, 1, (0, 0, 0, 0))]
def m_169 : VM := (RX9, yX9_accept, cX9_accept, 2, (some .int), 0, 0, k_169)
def k_170 : List VE := [(0, .aload_n 0, 1, (0, 0, 0, 0)), (1, .iload_n 1, 1, (0, 0, 0, 0)), (2, .putfield 23, 3, (9, 3, 0, 0)), (5, .iconst (-1), 1, (0, 0, 0, 0)), (6, .ireturn, 1, (0, 0, 0, 0))]
def m_170 : VM := (RX9, yX9_refuse, cX9_refuse, 2, (some .int), 0, 0, k_170)
def k_171 : List VE := [(0, .aload_n 0, 1, (0, 0, 0, 0)), (1, .getfield 16, 3, (9, 1, 1, 0)), (4, .aload_n 0, 1, (0, 0, 0, 0)), (5, .getfield 12, 3, (9, 0, 1, 0)), (8, .invokevirtual 371, 3, (90, 2, 0, 0)), (11, .aload_n 0, 1, (0, 0, 0, 0)), (12, .iconst 1, 1, (0, 0, 0, 0)), (13, .putfield 19, 3, (9, 2, 2, 0)), (16, .return_, 1, (0, 0, 0, 0))]
def m_171 : VM := (RX9, yX9_beginChange, cX9_beginChange, 1, none, 4, 111, k_171)
def k_172 : List VE := [(0, .iload_n 1, 1, (0, 0, 0, 0)), (1, .ifCond .lt 9, 3, (10, 0, 0, 0)), (4, .iload_n 1, 1, (0, 0, 0, 0)), (5, .bipush 40, 2, (0, 0, 0, 0)), (7, .if_icmp .lt 5, 3, (12, 0, 0, 0)), (10, .iconst 2, 1, (0, 0, 0, 0)), (11, .ireturn, 1, (0, 0, 0, 0)), (12, .iload_n 1, 1, (0, 0, 0, 0)), (13, .aload_n 0, 1, (0, 0, 0, 0)), (14, .getfield 12, 3, (9, 0, 1, 0)), (17, .getfield 66, 3, (8, 5, 0, 0)), (20, .if_icmp .ge 7, 3, (27, 0, 0, 0)), (23, .iconst 0, 1, (0, 0, 0, 0)), (24, .goto 4, 3, (28, 0, 0, 0)), (27, .iconst 1, 1, (0, 0, 0, 0)), (28, .ireturn, 1, (0, 0, 0, 0))]
def m_172 : VM := (RX9, yX9_hiveFault, cX9_hiveFault, 2, (some .int), 0, 0, k_172)
def k_173 : List VE := [(0, .aload_n 0, 1, (0, 0, 0, 0)), (1, .iload_n 1, 1, (0, 0, 0, 0)), (2, .invokevirtual 82, 3, (172, 2, 0, 0)), (5, .istore_n 3, 1, (0, 0, 0, 0)), (6, .iload_n 3, 1, (0, 0, 0, 0)), (7, .ifCond .eq 7, 3, (14, 0, 0, 0)), (10, .iload_n 3, 1, (0, 0, 0, 0)), (11, .goto 8, 3, (19, 0, 0, 0)), (14, .aload_n 0, 1, (0, 0, 0, 0)), (15, .iload_n 2, 1, (0, 0, 0, 0)), (16, .invokevirtual 82, 3, (172, 2, 0, 0)), (19, .ireturn, 1, (0, 0, 0, 0))]
def m_173 : VM := (RX9, yX9_twoHivesFault, cX9_twoHivesFault, 4, (some .int), 1, 21, k_173)
def k_174 : List VE := [(0, .iload_n 1, 1, (0, 0, 0, 0)), (1, .ifCond .lt 10, 3, (11, 0, 0, 0)), (4, .iload_n 1, 1, (0, 0, 0, 0)), (5, .sipush 200, 3, (0, 0, 0, 0)), (8, .if_icmp .lt 5, 3, (13, 0, 0, 0)), (11, .iconst 2, 1, (0, 0, 0, 0)), (12, .ireturn, 1, (0, 0, 0, 0)), (13, .iload_n 1, 1, (0, 0, 0, 0)), (14, .aload_n 0, 1, (0, 0, 0, 0)), (15, .getfield 12, 3, (9, 0, 1, 0)), (18, .getfield 214, 3, (8, 7, 0, 0)), (21, .if_icmp .ge 7, 3, (28, 0, 0, 0)), (24, .iconst 0, 1, (0, 0, 0, 0)), (25, .goto 4, 3, (29, 0, 0, 0)), (28, .iconst 1, 1, (0, 0, 0, 0)), (29, .ireturn, 1, (0, 0, 0, 0))]
def m_174 : VM := (RX9, yX9_thingFault, cX9_thingFault, 2, (some .int), 0, 0, k_174)
def k_175 : List VE := [(0, .iload_n 1, 1, (0, 0, 0, 0)), (1, .ifCond .lt 10, 3, (11, 0, 0, 0)), (4, .iload_n 1, 1, (0, 0, 0, 0)), (5, .sipush 3840, 3, (0, 0, 0, 0)), (8, .if_icmp .lt 5, 3, (13, 0, 0, 0)), (11, .iconst 2, 1, (0, 0, 0, 0)), (12, .ireturn, 1, (0, 0, 0, 0)), (13, .aload_n 0, 1, (0, 0, 0, 0)), (14, .getfield 12, 3, (9, 0, 1, 0)), (17, .iload_n 1, 1, (0, 0, 0, 0)), (18, .invokevirtual 374, 3, (97, 2, 0, 0)), (21, .ifCond .eq 7, 3, (28, 0, 0, 0)), (24, .iconst 0, 1, (0, 0, 0, 0)), (25, .goto 4, 3, (29, 0, 0, 0)), (28, .iconst 1, 1, (0, 0, 0, 0)), (29, .ireturn, 1, (0, 0, 0, 0))]
def m_175 : VM := (RX9, yX9_placeFault, cX9_placeFault, 2, (some .int), 4, 83, k_175)
def k_176 : List VE := [(0, .aload_n 0, 1, (0, 0, 0, 0)), (1, .iload_n 1, 1, (0, 0, 0, 0)), (2, .invokevirtual 98, 3, (175, 2, 0, 0)), (5, .istore_n 2, 1, (0, 0, 0, 0)), (6, .iload_n 2, 1, (0, 0, 0, 0)), (7, .ifCond .eq 5, 3, (12, 0, 0, 0)), (10, .iload_n 2, 1, (0, 0, 0, 0)), (11, .ireturn, 1, (0, 0, 0, 0)), (12, .aload_n 0, 1, (0, 0, 0, 0)), (13, .getfield 12, 3, (9, 0, 1, 0)), (16, .iload_n 1, 1, (0, 0, 0, 0)), (17, .invokevirtual 104, 3, (98, 2, 0, 0)), (20, .iconst (-1), 1, (0, 0, 0, 0)), (21, .if_icmp .ne 7, 3, (28, 0, 0, 0)), (24, .iconst 1, 1, (0, 0, 0, 0)), (25, .goto 4, 3, (29, 0, 0, 0)), (28, .iconst 0, 1, (0, 0, 0, 0)), (29, .ireturn, 1, (0, 0, 0, 0))]
def m_176 : VM := (RX9, yX9_frameFault, cX9_frameFault, 3, (some .int), 5, 104, k_176)
def k_177 : List VE := [(0, .aload_n 0, 1, (0, 0, 0, 0)), (1, .iload_n 1, 1, (0, 0, 0, 0)), (2, .invokevirtual 111, 3, (176, 2, 0, 0)), (5, .istore_n 3, 1, (0, 0, 0, 0)), (6, .iload_n 3, 1, (0, 0, 0, 0)), (7, .ifCond .eq 5, 3, (12, 0, 0, 0)), (10, .iload_n 3, 1, (0, 0, 0, 0)), (11, .ireturn, 1, (0, 0, 0, 0)), (12, .iload_n 2, 1, (0, 0, 0, 0)), (13, .ifCond .lt 18, 3, (31, 0, 0, 0)), (16, .iload_n 2, 1, (0, 0, 0, 0)), (17, .aload_n 0, 1, (0, 0, 0, 0)), (18, .getfield 12, 3, (9, 0, 1, 0)), (21, .iload_n 1, 1, (0, 0, 0, 0)), (22, .invokevirtual 134, 3, (100, 2, 0, 0)), (25, .getfield 348, 3, (2, 1, 0, 0)), (28, .if_icmp .lt 7, 3, (35, 0, 0, 0)), (31, .iconst 2, 1, (0, 0, 0, 0)), (32, .goto 4, 3, (36, 0, 0, 0)), (35, .iconst 0, 1, (0, 0, 0, 0)), (36, .ireturn, 1, (0, 0, 0, 0))]
def m_177 : VM := (RX9, yX9_fieldFault, cX9_fieldFault, 4, (some .int), 6, 126, k_177)
def k_178 : List VE := [(0, .aload_n 0, 1, (0, 0, 0, 0)), (1, .iload_n 1, 1, (0, 0, 0, 0)), (2, .invokevirtual 111, 3, (176, 2, 0, 0)), (5, .istore_n 3, 1, (0, 0, 0, 0)), (6, .iload_n 3, 1, (0, 0, 0, 0)), (7, .ifCond .ne 9, 3, (16, 0, 0, 0)), (10, .aload_n 0, 1, (0, 0, 0, 0)), (11, .iload_n 2, 1, (0, 0, 0, 0)), (12, .invokevirtual 111, 3, (176, 2, 0, 0)), (15, .istore_n 3, 1, (0, 0, 0, 0)), (16, .iload_n 3, 1, (0, 0, 0, 0)), (17, .ifCond .eq 5, 3, (22, 0, 0, 0)), (20, .iload_n 3, 1, (0, 0, 0, 0)), (21, .ireturn, 1, (0, 0, 0, 0)), (22, .aload_n 0, 1, (0, 0, 0, 0)), (23, .getfield 12, 3, (9, 0, 1, 0)), (26, .iload_n 2, 1, (0, 0, 0, 0)), (27, .invokevirtual 134, 3, (100, 2, 0, 0)), (30, .getfield 348, 3, (2, 1, 0, 0)), (33, .aload_n 0, 1, (0, 0, 0, 0)), (34, .getfield 12, 3, (9, 0, 1, 0)), (37, .iload_n 1, 1, (0, 0, 0, 0)), (38, .invokevirtual 134, 3, (100, 2, 0, 0)), (41, .getfield 348, 3, (2, 1, 0, 0)), (44, .if_icmp .ge 7, 3, (51, 0, 0, 0)), (47, .iconst 2, 1, (0, 0, 0, 0)), (48, .goto 4, 3, (52, 0, 0, 0)), (51, .iconst 0, 1, (0, 0, 0, 0)), (52, .ireturn, 1, (0, 0, 0, 0))]
def m_178 : VM := (RX9, yX9_moveFault, cX9_moveFault, 4, (some .int), 6, 126, k_178)
def k_179_0 : List VE := [(0, .aload_n 0, 1, (0, 0, 0, 0)), (1, .iload_n 1, 1, (0, 0, 0, 0)), (2, .invokevirtual 243, 3, (174, 2, 0, 0)), (5, .istore 4, 2, (0, 0, 0, 0)), (7, .iload 4, 2, (0, 0, 0, 0)), (9, .ifCond .ne 37, 3, (46, 0, 0, 0)), (12, .iload_n 2, 1, (0, 0, 0, 0)), (13, .iconst (-1), 1, (0, 0, 0, 0)), (14, .if_icmp .eq 32, 3, (46, 0, 0, 0)), (17, .aload_n 0, 1, (0, 0, 0, 0)), (18, .iload_n 2, 1, (0, 0, 0, 0)), (19, .invokevirtual 243, 3, (174, 2, 0, 0)), (22, .istore 4, 2, (0, 0, 0, 0)), (24, .iload 4, 2, (0, 0, 0, 0)), (26, .ifCond .ne 20, 3, (46, 0, 0, 0)), (29, .aload_n 0, 1, (0, 0, 0, 0)), (30, .getfield 12, 3, (9, 0, 1, 0)), (33, .iload_n 2, 1, (0, 0, 0, 0)), (34, .invokevirtual 224, 3, (93, 2, 0, 0)), (37, .invokevirtual 250, 3, (86, 1, 0, 0)), (40, .ifCond .ne 6, 3, (46, 0, 0, 0)), (43, .iconst 3, 1, (0, 0, 0, 0)), (44, .istore 4, 2, (0, 0, 0, 0)), (46, .iload 4, 2, (0, 0, 0, 0)), (48, .ifCond .ne 38, 3, (86, 0, 0, 0)), (51, .iload_n 3, 1, (0, 0, 0, 0)), (52, .iconst (-1), 1, (0, 0, 0, 0)), (53, .if_icmp .eq 33, 3, (86, 0, 0, 0)), (56, .aload_n 0, 1, (0, 0, 0, 0)), (57, .iload_n 3, 1, (0, 0, 0, 0)), (58, .invokevirtual 243, 3, (174, 2, 0, 0)), (61, .istore 4, 2, (0, 0, 0, 0)), (63, .iload 4, 2, (0, 0, 0, 0)), (65, .ifCond .ne 21, 3, (86, 0, 0, 0)), (68, .aload_n 0, 1, (0, 0, 0, 0)), (69, .getfield 12, 3, (9, 0, 1, 0)), (72, .iload_n 3, 1, (0, 0, 0, 0)), (73, .invokevirtual 224, 3, (93, 2, 0, 0)), (76, .getfield 254, 3, (7, 0, 0, 0)), (79, .iconst 3, 1, (0, 0, 0, 0)), (80, .if_icmp .eq 6, 3, (86, 0, 0, 0)), (83, .iconst 3, 1, (0, 0, 0, 0)), (84, .istore 4, 2, (0, 0, 0, 0)), (86, .iload 4, 2, (0, 0, 0, 0)), (88, .ifCond .eq 6, 3, (94, 0, 0, 0)), (91, .iload 4, 2, (0, 0, 0, 0)), (93, .ireturn, 1, (0, 0, 0, 0)), (94, .aload_n 0, 1, (0, 0, 0, 0)), (95, .getfield 12, 3, (9, 0, 1, 0)), (98, .iload_n 1, 1, (0, 0, 0, 0)), (99, .invokevirtual 224, 3, (93, 2, 0, 0)), (102, .getfield 254, 3, (7, 0, 0, 0)), (105, .iconst 3, 1, (0, 0, 0, 0)), (106, .if_icmp .ne 11, 3, (117, 0, 0, 0)), (109, .iload_n 3, 1, (0, 0, 0, 0)), (110, .iconst (-1), 1, (0, 0, 0, 0)), (111, .if_icmp .eq 6, 3, (117, 0, 0, 0)), (114, .bipush 6, 2, (0, 0, 0, 0)), (116, .ireturn, 1, (0, 0, 0, 0)), (117, .aload_n 0, 1, (0, 0, 0, 0))]
def k_179_1 : List VE := [(118, .getfield 43, 3, (9, 7, 1, 1)), (121, .aload_n 0, 1, (0, 0, 0, 0)), (122, .getfield 12, 3, (9, 0, 1, 0)), (125, .iload_n 1, 1, (0, 0, 0, 0)), (126, .invokevirtual 377, 3, (60, 3, 0, 0)), (129, .aload_n 0, 1, (0, 0, 0, 0)), (130, .getfield 43, 3, (9, 7, 1, 1)), (133, .iload_n 2, 1, (0, 0, 0, 0)), (134, .invokevirtual 381, 3, (58, 2, 0, 0)), (137, .ifCond .ne 14, 3, (151, 0, 0, 0)), (140, .aload_n 0, 1, (0, 0, 0, 0)), (141, .getfield 43, 3, (9, 7, 1, 1)), (144, .iload_n 3, 1, (0, 0, 0, 0)), (145, .invokevirtual 381, 3, (58, 2, 0, 0)), (148, .ifCond .eq 6, 3, (154, 0, 0, 0)), (151, .bipush 7, 2, (0, 0, 0, 0)), (153, .ireturn, 1, (0, 0, 0, 0)), (154, .aload_n 0, 1, (0, 0, 0, 0)), (155, .getfield 43, 3, (9, 7, 1, 1)), (158, .aload_n 0, 1, (0, 0, 0, 0)), (159, .getfield 12, 3, (9, 0, 1, 0)), (162, .iload_n 1, 1, (0, 0, 0, 0)), (163, .iload_n 2, 1, (0, 0, 0, 0)), (164, .iload_n 3, 1, (0, 0, 0, 0)), (165, .invokevirtual 384, 3, (61, 5, 0, 0)), (168, .bipush 15, 2, (0, 0, 0, 0)), (170, .if_icmp .le 8, 3, (178, 0, 0, 0)), (173, .bipush 6, 2, (0, 0, 0, 0)), (175, .goto 4, 3, (179, 0, 0, 0)), (178, .iconst 0, 1, (0, 0, 0, 0)), (179, .ireturn, 1, (0, 0, 0, 0))]
def k_179 : List VE := (k_179_0 ++ (k_179_1))
def m_179 : VM := (RX9, yX9_lineFault, cX9_lineFault, 5, (some .int), 4, 89, k_179)
def k_180 : List VE := [(0, .iload_n 0, 1, (0, 0, 0, 0)), (1, .ifCond .le 13, 3, (14, 0, 0, 0)), (4, .iload_n 0, 1, (0, 0, 0, 0)), (5, .bipush 100, 2, (0, 0, 0, 0)), (7, .if_icmp .gt 7, 3, (14, 0, 0, 0)), (10, .iload_n 0, 1, (0, 0, 0, 0)), (11, .goto 4, 3, (15, 0, 0, 0)), (14, .iconst 0, 1, (0, 0, 0, 0)), (15, .ireturn, 1, (0, 0, 0, 0))]
def m_180 : VM := (RX9, yX9_honeyIn, cX9_honeyIn, 1, (some .int), 0, 0, k_180)
def k_181 : List VE := [(0, .iload_n 0, 1, (0, 0, 0, 0)), (1, .sipush 300, 3, (0, 0, 0, 0)), (4, .if_icmp .lt 7, 3, (11, 0, 0, 0)), (7, .iconst 1, 1, (0, 0, 0, 0)), (8, .goto 4, 3, (12, 0, 0, 0)), (11, .iconst 0, 1, (0, 0, 0, 0)), (12, .ireturn, 1, (1, 0, 0, 0))]
def m_181 : VM := (RX9, yX9_isYoung, cX9_isYoung, 1, (some .boolean), 0, 0, k_181)
def k_182 : List VE := [(0, .iload_n 0, 1, (0, 0, 0, 0)), (1, .ifCond .ne 6, 3, (7, 0, 0, 0)), (4, .bipush 46, 2, (0, 0, 0, 0)), (6, .ireturn, 1, (2, 0, 0, 0)), (7, .iload_n 0, 1, (0, 0, 0, 0)), (8, .bipush 100, 2, (0, 0, 0, 0)), (10, .if_icmp .gt 6, 3, (16, 0, 0, 0)), (13, .bipush 104, 2, (0, 0, 0, 0)), (15, .ireturn, 1, (2, 0, 0, 0)), (16, .iload_n 0, 1, (0, 0, 0, 0)), (17, .sipush 200, 3, (0, 0, 0, 0)), (20, .if_icmp .ne 6, 3, (26, 0, 0, 0)), (23, .bipush 112, 2, (0, 0, 0, 0)), (25, .ireturn, 1, (2, 0, 0, 0)), (26, .iload_n 0, 1, (0, 0, 0, 0)), (27, .sipush 400, 3, (0, 0, 0, 0)), (30, .if_icmp .lt 7, 3, (37, 0, 0, 0)), (33, .iconst 1, 1, (0, 0, 0, 0)), (34, .goto 4, 3, (38, 0, 0, 0)), (37, .iconst 0, 1, (0, 0, 0, 0)), (38, .istore_n 1, 1, (0, 0, 0, 0)), (39, .iload_n 1, 1, (0, 0, 0, 0)), (40, .ifCond .eq 11, 3, (51, 0, 0, 0)), (43, .iload_n 0, 1, (0, 0, 0, 0)), (44, .sipush 400, 3, (0, 0, 0, 0)), (47, .isub, 1, (0, 0, 0, 0)), (48, .goto 8, 3, (56, 0, 0, 0)), (51, .iload_n 0, 1, (0, 0, 0, 0)), (52, .sipush 300, 3, (0, 0, 0, 0)), (55, .isub, 1, (0, 0, 0, 0)), (56, .istore_n 2, 1, (0, 0, 0, 0)), (57, .iload_n 2, 1, (0, 0, 0, 0)), (58, .iconst 3, 1, (0, 0, 0, 0)), (59, .if_icmp .ge 15, 3, (74, 0, 0, 0)), (62, .iload_n 1, 1, (0, 0, 0, 0)), (63, .ifCond .eq 8, 3, (71, 0, 0, 0)), (66, .bipush 69, 2, (0, 0, 0, 0)), (68, .goto 5, 3, (73, 0, 0, 0)), (71, .bipush 101, 2, (0, 0, 0, 0)), (73, .ireturn, 1, (2, 0, 0, 0)), (74, .iload_n 2, 1, (0, 0, 0, 0)), (75, .bipush 9, 2, (0, 0, 0, 0)), (77, .if_icmp .ge 15, 3, (92, 0, 0, 0)), (80, .iload_n 1, 1, (0, 0, 0, 0)), (81, .ifCond .eq 8, 3, (89, 0, 0, 0)), (84, .bipush 66, 2, (0, 0, 0, 0)), (86, .goto 5, 3, (91, 0, 0, 0)), (89, .bipush 98, 2, (0, 0, 0, 0)), (91, .ireturn, 1, (2, 0, 0, 0)), (92, .iload_n 1, 1, (0, 0, 0, 0)), (93, .ifCond .eq 8, 3, (101, 0, 0, 0)), (96, .bipush 83, 2, (0, 0, 0, 0)), (98, .goto 5, 3, (103, 0, 0, 0)), (101, .bipush 115, 2, (0, 0, 0, 0)), (103, .ireturn, 1, (2, 0, 0, 0))]
def m_182 : VM := (RX9, yX9_letterOf, cX9_letterOf, 3, (some .char), 0, 0, k_182)
def k_183 : List VE := [(0, .iload_n 1, 1, (0, 0, 0, 0)), (1, .iconst 2, 1, (0, 0, 0, 0)), (2, .irem, 1, (0, 0, 0, 0)), (3, .ifCond .ne 11, 3, (14, 0, 0, 0)), (6, .iload_n 0, 1, (0, 0, 0, 0)), (7, .iload_n 1, 1, (0, 0, 0, 0)), (8, .iconst 2, 1, (0, 0, 0, 0)), (9, .idiv, 1, (0, 0, 0, 0)), (10, .iadd, 1, (0, 0, 0, 0)), (11, .goto 10, 3, (21, 0, 0, 0)), (14, .iload_n 0, 1, (0, 0, 0, 0)), (15, .iconst 1, 1, (0, 0, 0, 0)), (16, .isub, 1, (0, 0, 0, 0)), (17, .iload_n 1, 1, (0, 0, 0, 0)), (18, .iconst 2, 1, (0, 0, 0, 0)), (19, .idiv, 1, (0, 0, 0, 0)), (20, .isub, 1, (0, 0, 0, 0)), (21, .ireturn, 1, (0, 0, 0, 0))]
def m_183 : VM := (RX9, yX9_fromMiddle, cX9_fromMiddle, 2, (some .int), 0, 0, k_183)
def k_184 : List VE := [(0, .iload_n 0, 1, (0, 0, 0, 0)), (1, .istore_n 2, 1, (0, 0, 0, 0)), (2, .iload_n 1, 1, (0, 0, 0, 0)), (3, .istore_n 3, 1, (0, 0, 0, 0)), (4, .iconst 0, 1, (0, 0, 0, 0)), (5, .istore 4, 2, (0, 0, 0, 0)), (7, .iload 4, 2, (0, 0, 0, 0)), (9, .bipush 64, 2, (0, 0, 0, 0)), (11, .if_icmp .ge 23, 3, (34, 0, 0, 0)), (14, .iload_n 3, 1, (0, 0, 0, 0)), (15, .ifCond .eq 19, 3, (34, 0, 0, 0)), (18, .iload_n 2, 1, (0, 0, 0, 0)), (19, .iload_n 3, 1, (0, 0, 0, 0)), (20, .irem, 1, (0, 0, 0, 0)), (21, .istore 5, 2, (0, 0, 0, 0)), (23, .iload_n 3, 1, (0, 0, 0, 0)), (24, .istore_n 2, 1, (0, 0, 0, 0)), (25, .iload 5, 2, (0, 0, 0, 0)), (27, .istore_n 3, 1, (0, 0, 0, 0)), (28, .iinc 4 1, 3, (0, 0, 0, 0)), (31, .goto (-24), 3, (7, 0, 0, 0)), (34, .iload_n 2, 1, (0, 0, 0, 0)), (35, .ireturn, 1, (0, 0, 0, 0))]
def m_184 : VM := (RX9, yX9_commonDivisor, cX9_commonDivisor, 6, (some .int), 0, 0, k_184)
def k_185_0 : List VE := [(0, .aload_n 0, 1, (0, 0, 0, 0)), (1, .invokespecial 1, 3, (0, 1, 5, 0)), (4, .aload_n 0, 1, (0, 0, 0, 0)), (5, .sipush 19520, 3, (0, 0, 0, 0)), (8, .newarray .int, 2, (11, 1, 40, 0)), (10, .putfield 7, 3, (10, 0, 1, 1)), (13, .aload_n 0, 1, (0, 0, 0, 0)), (14, .sipush 19520, 3, (0, 0, 0, 0)), (17, .newarray .int, 2, (11, 1, 41, 0)), (19, .putfield 13, 3, (10, 1, 1, 1)), (22, .aload_n 0, 1, (0, 0, 0, 0)), (23, .bipush 17, 2, (0, 0, 0, 0)), (25, .newarray .int, 2, (11, 1, 42, 0)), (27, .putfield 16, 3, (10, 4, 1, 1)), (30, .aload_n 0, 1, (0, 0, 0, 0)), (31, .bipush 100, 2, (0, 0, 0, 0)), (33, .newarray .int, 2, (11, 1, 43, 0)), (35, .putfield 19, 3, (10, 7, 1, 1)), (38, .aload_n 0, 1, (0, 0, 0, 0)), (39, .iconst (-1), 1, (0, 0, 0, 0)), (40, .putfield 22, 3, (10, 8, 0, 0)), (43, .aload_n 0, 1, (0, 0, 0, 0)), (44, .bipush 64, 2, (0, 0, 0, 0)), (46, .newarray .int, 2, (11, 1, 44, 0)), (48, .putfield 26, 3, (10, 9, 1, 1)), (51, .aload_n 0, 1, (0, 0, 0, 0)), (52, .iconst (-1), 1, (0, 0, 0, 0)), (53, .putfield 29, 3, (10, 10, 0, 0)), (56, .aload_n 0, 1, (0, 0, 0, 0)), (57, .bipush 8, 2, (0, 0, 0, 0)), (59, .newarray .int, 2, (11, 1, 45, 0)), (61, .putfield 32, 3, (10, 11, 1, 1)), (64, .aload_n 0, 1, (0, 0, 0, 0)), (65, .iconst (-1), 1, (0, 0, 0, 0)), (66, .putfield 35, 3, (10, 12, 0, 0)), (69, .aload_n 0, 1, (0, 0, 0, 0)), (70, .sipush 200, 3, (0, 0, 0, 0)), (73, .newarray .int, 2, (11, 1, 46, 0)), (75, .putfield 38, 3, (10, 13, 1, 1)), (78, .aload_n 0, 1, (0, 0, 0, 0)), (79, .ldc 41, 2, (0, 0, 0, 40000)), (81, .newarray .int, 2, (11, 1, 47, 0)), (83, .putfield 42, 3, (10, 14, 1, 1)), (86, .aload_n 0, 1, (0, 0, 0, 0)), (87, .sipush 200, 3, (0, 0, 0, 0)), (90, .newarray .int, 2, (11, 1, 48, 0)), (92, .putfield 45, 3, (10, 15, 1, 1)), (95, .aload_n 0, 1, (0, 0, 0, 0)), (96, .bipush 40, 2, (0, 0, 0, 0)), (98, .newarray .int, 2, (11, 1, 49, 0)), (100, .putfield 48, 3, (10, 16, 1, 1)), (103, .aload_n 0, 1, (0, 0, 0, 0)), (104, .bipush 8, 2, (0, 0, 0, 0)), (106, .newarray .long, 2, (13, 1, 50, 0)), (108, .putfield 51, 3, (10, 17, 1, 1)), (111, .aload_n 0, 1, (0, 0, 0, 0)), (112, .sipush 256, 3, (0, 0, 0, 0)), (115, .newarray .long, 2, (13, 1, 51, 0)), (117, .putfield 55, 3, (10, 18, 1, 1)), (120, .aload_n 0, 1, (0, 0, 0, 0))]
def k_185_1 : List VE := [(121, .sipush 256, 3, (0, 0, 0, 0)), (124, .newarray .int, 2, (11, 1, 52, 0)), (126, .putfield 58, 3, (10, 19, 1, 1)), (129, .iconst 0, 1, (0, 0, 0, 0)), (130, .istore_n 1, 1, (0, 0, 0, 0)), (131, .iload_n 1, 1, (0, 0, 0, 0)), (132, .sipush 3840, 3, (0, 0, 0, 0)), (135, .if_icmp .ge 19, 3, (154, 0, 0, 0)), (138, .aload_n 0, 1, (0, 0, 0, 0)), (139, .getfield 7, 3, (10, 0, 1, 1)), (142, .bipush 10, 2, (0, 0, 0, 0)), (144, .iload_n 1, 1, (0, 0, 0, 0)), (145, .iadd, 1, (0, 0, 0, 0)), (146, .iconst (-1), 1, (0, 0, 0, 0)), (147, .iastore, 1, (0, 0, 0, 0)), (148, .iinc 1 1, 3, (0, 0, 0, 0)), (151, .goto (-20), 3, (131, 0, 0, 0)), (154, .iconst 0, 1, (0, 0, 0, 0)), (155, .istore_n 1, 1, (0, 0, 0, 0)), (156, .iload_n 1, 1, (0, 0, 0, 0)), (157, .bipush 24, 2, (0, 0, 0, 0)), (159, .if_icmp .ge 20, 3, (179, 0, 0, 0)), (162, .aload_n 0, 1, (0, 0, 0, 0)), (163, .getfield 7, 3, (10, 0, 1, 1)), (166, .sipush 16850, 3, (0, 0, 0, 0)), (169, .iload_n 1, 1, (0, 0, 0, 0)), (170, .iadd, 1, (0, 0, 0, 0)), (171, .iconst (-1), 1, (0, 0, 0, 0)), (172, .iastore, 1, (0, 0, 0, 0)), (173, .iinc 1 1, 3, (0, 0, 0, 0)), (176, .goto (-20), 3, (156, 0, 0, 0)), (179, .return_, 1, (0, 0, 0, 0))]
def k_185 : List VE := (k_185_0 ++ (k_185_1))
def m_185 : VM := (RX10, yX10_init, cX10_init, 2, none, 1, 20, k_185)
def k_186 : List VE := [(0, .aload_n 0, 1, (0, 0, 0, 0)), (1, .iload_n 1, 1, (0, 0, 0, 0)), (2, .putfield 61, 3, (10, 5, 0, 0)), (5, .iconst (-1), 1, (0, 0, 0, 0)), (6, .ireturn, 1, (0, 0, 0, 0))]
def m_186 : VM := (RX10, yX10_no, cX10_no, 2, (some .int), 0, 0, k_186)
def k_187 : List VE := [(0, .aload_n 0, 1, (0, 0, 0, 0)), (1, .iconst 0, 1, (0, 0, 0, 0)), (2, .putfield 61, 3, (10, 5, 0, 0)), (5, .iload_n 1, 1, (0, 0, 0, 0)), (6, .ireturn, 1, (0, 0, 0, 0))]
def m_187 : VM := (RX10, yX10_yes, cX10_yes, 2, (some .int), 0, 0, k_187)
def k_188 : List VE := [(0, .iconst 0, 1, (0, 0, 0, 0)), (1, .istore_n 1, 1, (0, 0, 0, 0)), (2, .iload_n 1, 1, (0, 0, 0, 0)), (3, .sipush 19520, 3, (0, 0, 0, 0)), (6, .if_icmp .ge 21, 3, (27, 0, 0, 0)), (9, .aload_n 0, 1, (0, 0, 0, 0)), (10, .getfield 13, 3, (10, 1, 1, 1)), (13, .iload_n 1, 1, (0, 0, 0, 0)), (14, .aload_n 0, 1, (0, 0, 0, 0)), (15, .getfield 7, 3, (10, 0, 1, 1)), (18, .iload_n 1, 1, (0, 0, 0, 0)), (19, .iaload, 1, (0, 0, 0, 0)), (20, .iastore, 1, (0, 0, 0, 0)), (21, .iinc 1 1, 3, (0, 0, 0, 0)), (24, .goto (-22), 3, (2, 0, 0, 0)), (27, .aload_n 0, 1, (0, 0, 0, 0)), (28, .iconst 1, 1, (0, 0, 0, 0)), (29, .putfield 64, 3, (10, 2, 2, 0)), (32, .return_, 1, (0, 0, 0, 0))]
def m_188 : VM := (RX10, yX10_keep, cX10_keep, 2, none, 0, 0, k_188)
def k_189 : List VE := [(0, .iload_n 0, 1, (0, 0, 0, 0)), (1, .iload_n 1, 1, (0, 0, 0, 0)), (2, .if_icmp .lt 12, 3, (14, 0, 0, 0)), (5, .iload_n 0, 1, (0, 0, 0, 0)), (6, .iload_n 2, 1, (0, 0, 0, 0)), (7, .if_icmp .gt 7, 3, (14, 0, 0, 0)), (10, .iconst 1, 1, (0, 0, 0, 0)), (11, .goto 4, 3, (15, 0, 0, 0)), (14, .iconst 0, 1, (0, 0, 0, 0)), (15, .ireturn, 1, (1, 0, 0, 0))]
def m_189 : VM := (RX10, yX10_isIn, cX10_isIn, 3, (some .boolean), 0, 0, k_189)
def k_190 : List VE := [(0, .aload_n 0, 1, (0, 0, 0, 0)), (1, .getfield 7, 3, (10, 0, 1, 1)), (4, .sipush 16880, 3, (0, 0, 0, 0)), (7, .bipush 11, 2, (0, 0, 0, 0)), (9, .iload_n 1, 1, (0, 0, 0, 0)), (10, .imul, 1, (0, 0, 0, 0)), (11, .iadd, 1, (0, 0, 0, 0)), (12, .iload_n 2, 1, (0, 0, 0, 0)), (13, .iadd, 1, (0, 0, 0, 0)), (14, .iaload, 1, (0, 0, 0, 0)), (15, .ireturn, 1, (0, 0, 0, 0))]
def m_190 : VM := (RX10, yX10_hiveAt, cX10_hiveAt, 3, (some .int), 0, 0, k_190)
def k_191 : List VE := [(0, .aload_n 0, 1, (0, 0, 0, 0)), (1, .getfield 7, 3, (10, 0, 1, 1)), (4, .sipush 16880, 3, (0, 0, 0, 0)), (7, .bipush 11, 2, (0, 0, 0, 0)), (9, .iload_n 1, 1, (0, 0, 0, 0)), (10, .imul, 1, (0, 0, 0, 0)), (11, .iadd, 1, (0, 0, 0, 0)), (12, .iload_n 2, 1, (0, 0, 0, 0)), (13, .iadd, 1, (0, 0, 0, 0)), (14, .iload_n 3, 1, (0, 0, 0, 0)), (15, .iastore, 1, (0, 0, 0, 0)), (16, .return_, 1, (0, 0, 0, 0))]
def m_191 : VM := (RX10, yX10_setHive, cX10_setHive, 4, none, 0, 0, k_191)
def k_192 : List VE := [(0, .aload_n 0, 1, (0, 0, 0, 0)), (1, .getfield 7, 3, (10, 0, 1, 1)), (4, .sipush 17320, 3, (0, 0, 0, 0)), (7, .bipush 8, 2, (0, 0, 0, 0)), (9, .iload_n 1, 1, (0, 0, 0, 0)), (10, .imul, 1, (0, 0, 0, 0)), (11, .iadd, 1, (0, 0, 0, 0)), (12, .iload_n 2, 1, (0, 0, 0, 0)), (13, .iadd, 1, (0, 0, 0, 0)), (14, .iaload, 1, (0, 0, 0, 0)), (15, .ireturn, 1, (0, 0, 0, 0))]
def m_192 : VM := (RX10, yX10_thingAt, cX10_thingAt, 3, (some .int), 0, 0, k_192)
def k_193 : List VE := [(0, .aload_n 0, 1, (0, 0, 0, 0)), (1, .getfield 7, 3, (10, 0, 1, 1)), (4, .sipush 17320, 3, (0, 0, 0, 0)), (7, .bipush 8, 2, (0, 0, 0, 0)), (9, .iload_n 1, 1, (0, 0, 0, 0)), (10, .imul, 1, (0, 0, 0, 0)), (11, .iadd, 1, (0, 0, 0, 0)), (12, .iload_n 2, 1, (0, 0, 0, 0)), (13, .iadd, 1, (0, 0, 0, 0)), (14, .iload_n 3, 1, (0, 0, 0, 0)), (15, .iastore, 1, (0, 0, 0, 0)), (16, .return_, 1, (0, 0, 0, 0))]
def m_193 : VM := (RX10, yX10_setThing, cX10_setThing, 4, none, 0, 0, k_193)
def k_194 : List VE := [(0, .aload_n 0, 1, (0, 0, 0, 0)), (1, .getfield 7, 3, (10, 0, 1, 1)), (4, .bipush 10, 2, (0, 0, 0, 0)), (6, .iload_n 1, 1, (0, 0, 0, 0)), (7, .iadd, 1, (0, 0, 0, 0)), (8, .iaload, 1, (0, 0, 0, 0)), (9, .ireturn, 1, (0, 0, 0, 0))]
def m_194 : VM := (RX10, yX10_frameAt, cX10_frameAt, 2, (some .int), 0, 0, k_194)
def k_195 : List VE := [(0, .aload_n 0, 1, (0, 0, 0, 0)), (1, .getfield 7, 3, (10, 0, 1, 1)), (4, .sipush 3850, 3, (0, 0, 0, 0)), (7, .iload_n 1, 1, (0, 0, 0, 0)), (8, .iadd, 1, (0, 0, 0, 0)), (9, .iaload, 1, (0, 0, 0, 0)), (10, .ireturn, 1, (0, 0, 0, 0))]
def m_195 : VM := (RX10, yX10_fieldsOf, cX10_fieldsOf, 2, (some .int), 0, 0, k_195)
def k_196 : List VE := [(0, .aload_n 0, 1, (0, 0, 0, 0)), (1, .getfield 7, 3, (10, 0, 1, 1)), (4, .sipush 4050, 3, (0, 0, 0, 0)), (7, .bipush 64, 2, (0, 0, 0, 0)), (9, .iload_n 1, 1, (0, 0, 0, 0)), (10, .imul, 1, (0, 0, 0, 0)), (11, .iadd, 1, (0, 0, 0, 0)), (12, .iload_n 2, 1, (0, 0, 0, 0)), (13, .iadd, 1, (0, 0, 0, 0)), (14, .iaload, 1, (0, 0, 0, 0)), (15, .ireturn, 1, (0, 0, 0, 0))]
def m_196 : VM := (RX10, yX10_fieldAt, cX10_fieldAt, 3, (some .int), 0, 0, k_196)
def k_197 : List VE := [(0, .aload_n 0, 1, (0, 0, 0, 0)), (1, .getfield 7, 3, (10, 0, 1, 1)), (4, .sipush 4050, 3, (0, 0, 0, 0)), (7, .bipush 64, 2, (0, 0, 0, 0)), (9, .iload_n 1, 1, (0, 0, 0, 0)), (10, .imul, 1, (0, 0, 0, 0)), (11, .iadd, 1, (0, 0, 0, 0)), (12, .iload_n 2, 1, (0, 0, 0, 0)), (13, .iadd, 1, (0, 0, 0, 0)), (14, .iload_n 3, 1, (0, 0, 0, 0)), (15, .iastore, 1, (0, 0, 0, 0)), (16, .return_, 1, (0, 0, 0, 0))]
def m_197 : VM := (RX10, yX10_setField, cX10_setField, 4, none, 0, 0, k_197)
def k_198 : List VE := [(0, .iload_n 1, 1, (0, 0, 0, 0)), (1, .iconst 0, 1, (0, 0, 0, 0)), (2, .bipush 39, 2, (0, 0, 0, 0)), (4, .invokestatic 68, 3, (189, 3, 1, 0)), (7, .ifCond .ne 7, 3, (14, 0, 0, 0)), (10, .iconst 2, 1, (0, 0, 0, 0)), (11, .goto 18, 3, (29, 0, 0, 0)), (14, .iload_n 1, 1, (0, 0, 0, 0)), (15, .aload_n 0, 1, (0, 0, 0, 0)), (16, .getfield 7, 3, (10, 0, 1, 1)), (19, .iconst 0, 1, (0, 0, 0, 0)), (20, .iaload, 1, (0, 0, 0, 0)), (21, .if_icmp .lt 7, 3, (28, 0, 0, 0)), (24, .iconst 1, 1, (0, 0, 0, 0)), (25, .goto 4, 3, (29, 0, 0, 0)), (28, .iconst 0, 1, (0, 0, 0, 0)), (29, .ireturn, 1, (0, 0, 0, 0))]
def m_198 : VM := (RX10, yX10_hiveWhy, cX10_hiveWhy, 2, (some .int), 1, 22, k_198)
def k_199 : List VE := [(0, .iload_n 1, 1, (0, 0, 0, 0)), (1, .iconst 0, 1, (0, 0, 0, 0)), (2, .sipush 199, 3, (0, 0, 0, 0)), (5, .invokestatic 68, 3, (189, 3, 1, 0)), (8, .ifCond .ne 7, 3, (15, 0, 0, 0)), (11, .iconst 2, 1, (0, 0, 0, 0)), (12, .goto 18, 3, (30, 0, 0, 0)), (15, .iload_n 1, 1, (0, 0, 0, 0)), (16, .aload_n 0, 1, (0, 0, 0, 0)), (17, .getfield 7, 3, (10, 0, 1, 1)), (20, .iconst 2, 1, (0, 0, 0, 0)), (21, .iaload, 1, (0, 0, 0, 0)), (22, .if_icmp .lt 7, 3, (29, 0, 0, 0)), (25, .iconst 1, 1, (0, 0, 0, 0)), (26, .goto 4, 3, (30, 0, 0, 0)), (29, .iconst 0, 1, (0, 0, 0, 0)), (30, .ireturn, 1, (0, 0, 0, 0))]
def m_199 : VM := (RX10, yX10_thingWhy, cX10_thingWhy, 2, (some .int), 1, 22, k_199)
def k_200 : List VE := [(0, .iload_n 1, 1, (0, 0, 0, 0)), (1, .iconst 0, 1, (0, 0, 0, 0)), (2, .sipush 3839, 3, (0, 0, 0, 0)), (5, .invokestatic 68, 3, (189, 3, 1, 0)), (8, .ifCond .ne 5, 3, (13, 0, 0, 0)), (11, .iconst 2, 1, (0, 0, 0, 0)), (12, .ireturn, 1, (0, 0, 0, 0)), (13, .iload_n 1, 1, (0, 0, 0, 0)), (14, .bipush 96, 2, (0, 0, 0, 0)), (16, .idiv, 1, (0, 0, 0, 0)), (17, .istore_n 2, 1, (0, 0, 0, 0)), (18, .iload_n 2, 1, (0, 0, 0, 0)), (19, .aload_n 0, 1, (0, 0, 0, 0)), (20, .getfield 7, 3, (10, 0, 1, 1)), (23, .iconst 0, 1, (0, 0, 0, 0)), (24, .iaload, 1, (0, 0, 0, 0)), (25, .if_icmp .ge 20, 3, (45, 0, 0, 0)), (28, .iload_n 1, 1, (0, 0, 0, 0)), (29, .bipush 96, 2, (0, 0, 0, 0)), (31, .irem, 1, (0, 0, 0, 0)), (32, .bipush 12, 2, (0, 0, 0, 0)), (34, .idiv, 1, (0, 0, 0, 0)), (35, .aload_n 0, 1, (0, 0, 0, 0)), (36, .iload_n 2, 1, (0, 0, 0, 0)), (37, .bipush 10, 2, (0, 0, 0, 0)), (39, .invokevirtual 72, 3, (190, 3, 0, 0)), (42, .if_icmp .lt 7, 3, (49, 0, 0, 0)), (45, .iconst 1, 1, (0, 0, 0, 0)), (46, .goto 4, 3, (50, 0, 0, 0)), (49, .iconst 0, 1, (0, 0, 0, 0)), (50, .ireturn, 1, (0, 0, 0, 0))]
def m_200 : VM := (RX10, yX10_placeWhy, cX10_placeWhy, 3, (some .int), 1, 22, k_200)
def k_201 : List VE := [(0, .aload_n 0, 1, (0, 0, 0, 0)), (1, .iload_n 1, 1, (0, 0, 0, 0)), (2, .invokevirtual 76, 3, (200, 2, 0, 0)), (5, .istore_n 2, 1, (0, 0, 0, 0)), (6, .iload_n 2, 1, (0, 0, 0, 0)), (7, .ifCond .le 7, 3, (14, 0, 0, 0)), (10, .iload_n 2, 1, (0, 0, 0, 0)), (11, .goto 16, 3, (27, 0, 0, 0)), (14, .aload_n 0, 1, (0, 0, 0, 0)), (15, .iload_n 1, 1, (0, 0, 0, 0)), (16, .invokevirtual 80, 3, (194, 2, 0, 0)), (19, .ifCond .ge 7, 3, (26, 0, 0, 0)), (22, .iconst 1, 1, (0, 0, 0, 0)), (23, .goto 4, 3, (27, 0, 0, 0)), (26, .iconst 0, 1, (0, 0, 0, 0)), (27, .ireturn, 1, (0, 0, 0, 0))]
def m_201 : VM := (RX10, yX10_frameWhy, cX10_frameWhy, 3, (some .int), 2, 44, k_201)
def k_202 : List VE := [(0, .iload_n 0, 1, (0, 0, 0, 0)), (1, .ifCond .le 7, 3, (8, 0, 0, 0)), (4, .iload_n 0, 1, (0, 0, 0, 0)), (5, .goto 4, 3, (9, 0, 0, 0)), (8, .iload_n 1, 1, (0, 0, 0, 0)), (9, .ireturn, 1, (0, 0, 0, 0))]
def m_202 : VM := (RX10, yX10_first, cX10_first, 2, (some .int), 0, 0, k_202)
def k_203 : List VE := [(0, .iload_n 0, 1, (0, 0, 0, 0)), (1, .ifCond .le 13, 3, (14, 0, 0, 0)), (4, .iload_n 0, 1, (0, 0, 0, 0)), (5, .bipush 100, 2, (0, 0, 0, 0)), (7, .if_icmp .gt 7, 3, (14, 0, 0, 0)), (10, .iconst 1, 1, (0, 0, 0, 0)), (11, .goto 4, 3, (15, 0, 0, 0)), (14, .iconst 0, 1, (0, 0, 0, 0)), (15, .ireturn, 1, (1, 0, 0, 0))]
def m_203 : VM := (RX10, yX10_isHoney, cX10_isHoney, 1, (some .boolean), 0, 0, k_203)
def k_204 : List VE := [(0, .aload_n 0, 1, (0, 0, 0, 0)), (1, .iload_n 1, 1, (0, 0, 0, 0)), (2, .iconst 0, 1, (0, 0, 0, 0)), (3, .invokevirtual 83, 3, (192, 3, 0, 0)), (6, .iconst 2, 1, (0, 0, 0, 0)), (7, .if_icmp .gt 7, 3, (14, 0, 0, 0)), (10, .iconst 1, 1, (0, 0, 0, 0)), (11, .goto 4, 3, (15, 0, 0, 0)), (14, .iconst 0, 1, (0, 0, 0, 0)), (15, .ireturn, 1, (1, 0, 0, 0))]
def m_204 : VM := (RX10, yX10_isQueen, cX10_isQueen, 2, (some .boolean), 1, 22, k_204)
def k_205 : List VE := [(0, .aload_n 0, 1, (0, 0, 0, 0)), (1, .getfield 16, 3, (10, 4, 1, 1)), (4, .iload_n 1, 1, (0, 0, 0, 0)), (5, .dup2, 1, (0, 0, 0, 0)), (6, .iaload, 1, (0, 0, 0, 0)), (7, .iconst 1, 1, (0, 0, 0, 0)), (8, .iadd, 1, (0, 0, 0, 0)), (9, .iastore, 1, (0, 0, 0, 0)), (10, .return_, 1, (0, 0, 0, 0))]
def m_205 : VM := (RX10, yX10_run, cX10_run, 2, none, 0, 0, k_205)
def k_206 : List VE := [(0, .aload_n 0, 1, (0, 0, 0, 0)), (1, .iload_n 1, 1, (0, 0, 0, 0)), (2, .iconst 0, 1, (0, 0, 0, 0)), (3, .invokevirtual 83, 3, (192, 3, 0, 0)), (6, .istore_n 2, 1, (0, 0, 0, 0)), (7, .aload_n 0, 1, (0, 0, 0, 0)), (8, .iload_n 1, 1, (0, 0, 0, 0)), (9, .iconst 1, 1, (0, 0, 0, 0)), (10, .invokevirtual 83, 3, (192, 3, 0, 0)), (13, .istore_n 3, 1, (0, 0, 0, 0)), (14, .iload_n 2, 1, (0, 0, 0, 0)), (15, .iconst 2, 1, (0, 0, 0, 0)), (16, .if_icmp .gt 8, 3, (24, 0, 0, 0)), (19, .aload_n 0, 1, (0, 0, 0, 0)), (20, .iconst 3, 1, (0, 0, 0, 0)), (21, .invokevirtual 86, 3, (205, 2, 0, 0)), (24, .iload_n 2, 1, (0, 0, 0, 0)), (25, .iconst 3, 1, (0, 0, 0, 0)), (26, .if_icmp .ne 9, 3, (35, 0, 0, 0)), (29, .aload_n 0, 1, (0, 0, 0, 0)), (30, .bipush 8, 2, (0, 0, 0, 0)), (32, .invokevirtual 86, 3, (205, 2, 0, 0)), (35, .iload_n 2, 1, (0, 0, 0, 0)), (36, .iconst 5, 1, (0, 0, 0, 0)), (37, .if_icmp .ne 9, 3, (46, 0, 0, 0)), (40, .aload_n 0, 1, (0, 0, 0, 0)), (41, .bipush 11, 2, (0, 0, 0, 0)), (43, .invokevirtual 86, 3, (205, 2, 0, 0)), (46, .aload_n 0, 1, (0, 0, 0, 0)), (47, .iconst 1, 1, (0, 0, 0, 0)), (48, .invokevirtual 86, 3, (205, 2, 0, 0)), (51, .iload_n 2, 1, (0, 0, 0, 0)), (52, .iconst 2, 1, (0, 0, 0, 0)), (53, .if_icmp .gt 11, 3, (64, 0, 0, 0)), (56, .iload_n 3, 1, (0, 0, 0, 0)), (57, .sipush 1000, 3, (0, 0, 0, 0)), (60, .iadd, 1, (0, 0, 0, 0)), (61, .goto 28, 3, (89, 0, 0, 0)), (64, .iload_n 2, 1, (0, 0, 0, 0)), (65, .iconst 3, 1, (0, 0, 0, 0)), (66, .if_icmp .ne 9, 3, (75, 0, 0, 0)), (69, .iconst (-1), 1, (0, 0, 0, 0)), (70, .iload_n 3, 1, (0, 0, 0, 0)), (71, .isub, 1, (0, 0, 0, 0)), (72, .goto 17, 3, (89, 0, 0, 0)), (75, .iload_n 2, 1, (0, 0, 0, 0)), (76, .iconst 5, 1, (0, 0, 0, 0)), (77, .if_icmp .ne 11, 3, (88, 0, 0, 0)), (80, .iload_n 3, 1, (0, 0, 0, 0)), (81, .sipush 5000, 3, (0, 0, 0, 0)), (84, .iadd, 1, (0, 0, 0, 0)), (85, .goto 4, 3, (89, 0, 0, 0)), (88, .iload_n 3, 1, (0, 0, 0, 0)), (89, .ireturn, 1, (0, 0, 0, 0))]
def m_206 : VM := (RX10, yX10_tells, cX10_tells, 4, (some .int), 1, 22, k_206)
def k_207 : List VE := [(0, .aload_n 0, 1, (0, 0, 0, 0)), (1, .iload_n 1, 1, (0, 0, 0, 0)), (2, .iconst 0, 1, (0, 0, 0, 0)), (3, .invokevirtual 83, 3, (192, 3, 0, 0)), (6, .istore_n 2, 1, (0, 0, 0, 0)), (7, .iload_n 2, 1, (0, 0, 0, 0)), (8, .iconst 1, 1, (0, 0, 0, 0)), (9, .if_icmp .ne 8, 3, (17, 0, 0, 0)), (12, .aload_n 0, 1, (0, 0, 0, 0)), (13, .iconst 5, 1, (0, 0, 0, 0)), (14, .invokevirtual 86, 3, (205, 2, 0, 0)), (17, .iload_n 2, 1, (0, 0, 0, 0)), (18, .iconst 4, 1, (0, 0, 0, 0)), (19, .if_icmp .lt 9, 3, (28, 0, 0, 0)), (22, .aload_n 0, 1, (0, 0, 0, 0)), (23, .bipush 9, 2, (0, 0, 0, 0)), (25, .invokevirtual 86, 3, (205, 2, 0, 0)), (28, .iload_n 2, 1, (0, 0, 0, 0)), (29, .iconst 1, 1, (0, 0, 0, 0)), (30, .if_icmp .ne 7, 3, (37, 0, 0, 0)), (33, .iconst 2, 1, (0, 0, 0, 0)), (34, .goto 4, 3, (38, 0, 0, 0)), (37, .iconst 1, 1, (0, 0, 0, 0)), (38, .istore_n 3, 1, (0, 0, 0, 0)), (39, .iconst 0, 1, (0, 0, 0, 0)), (40, .istore 4, 2, (0, 0, 0, 0)), (42, .iload 4, 2, (0, 0, 0, 0)), (44, .iload_n 3, 1, (0, 0, 0, 0)), (45, .if_icmp .ge 14, 3, (59, 0, 0, 0)), (48, .aload_n 0, 1, (0, 0, 0, 0)), (49, .iconst 0, 1, (0, 0, 0, 0)), (50, .invokevirtual 86, 3, (205, 2, 0, 0)), (53, .iinc 4 1, 3, (0, 0, 0, 0)), (56, .goto (-14), 3, (42, 0, 0, 0)), (59, .aload_n 0, 1, (0, 0, 0, 0)), (60, .iload_n 1, 1, (0, 0, 0, 0)), (61, .iconst 1, 1, (0, 0, 0, 0)), (62, .aload_n 0, 1, (0, 0, 0, 0)), (63, .iload_n 1, 1, (0, 0, 0, 0)), (64, .iconst 1, 1, (0, 0, 0, 0)), (65, .invokevirtual 83, 3, (192, 3, 0, 0)), (68, .iload_n 3, 1, (0, 0, 0, 0)), (69, .iadd, 1, (0, 0, 0, 0)), (70, .invokevirtual 90, 3, (193, 4, 0, 0)), (73, .iload_n 2, 1, (0, 0, 0, 0)), (74, .iconst 4, 1, (0, 0, 0, 0)), (75, .if_icmp .lt 28, 3, (103, 0, 0, 0)), (78, .aload_n 0, 1, (0, 0, 0, 0)), (79, .iload_n 1, 1, (0, 0, 0, 0)), (80, .bipush 6, 2, (0, 0, 0, 0)), (82, .aload_n 0, 1, (0, 0, 0, 0)), (83, .iload_n 1, 1, (0, 0, 0, 0)), (84, .bipush 6, 2, (0, 0, 0, 0)), (86, .invokevirtual 83, 3, (192, 3, 0, 0)), (89, .aload_n 0, 1, (0, 0, 0, 0)), (90, .iload_n 1, 1, (0, 0, 0, 0)), (91, .bipush 6, 2, (0, 0, 0, 0)), (93, .invokevirtual 83, 3, (192, 3, 0, 0)), (96, .bipush 10, 2, (0, 0, 0, 0)), (98, .idiv, 1, (0, 0, 0, 0)), (99, .isub, 1, (0, 0, 0, 0)), (100, .invokevirtual 90, 3, (193, 4, 0, 0)), (103, .return_, 1, (0, 0, 0, 0))]
def m_207 : VM := (RX10, yX10_ages, cX10_ages, 5, none, 1, 23, k_207)
def k_208 : List VE := [(0, .aload_n 0, 1, (0, 0, 0, 0)), (1, .iload_n 1, 1, (0, 0, 0, 0)), (2, .iconst 0, 1, (0, 0, 0, 0)), (3, .invokevirtual 83, 3, (192, 3, 0, 0)), (6, .istore_n 2, 1, (0, 0, 0, 0)), (7, .iload_n 2, 1, (0, 0, 0, 0)), (8, .iconst 5, 1, (0, 0, 0, 0)), (9, .if_icmp .ne 9, 3, (18, 0, 0, 0)), (12, .aload_n 0, 1, (0, 0, 0, 0)), (13, .bipush 12, 2, (0, 0, 0, 0)), (15, .invokevirtual 86, 3, (205, 2, 0, 0)), (18, .aload_n 0, 1, (0, 0, 0, 0)), (19, .iload_n 2, 1, (0, 0, 0, 0)), (20, .iconst 4, 1, (0, 0, 0, 0)), (21, .if_icmp .lt 8, 3, (29, 0, 0, 0)), (24, .bipush 10, 2, (0, 0, 0, 0)), (26, .goto 4, 3, (30, 0, 0, 0)), (29, .iconst 2, 1, (0, 0, 0, 0)), (30, .invokevirtual 86, 3, (205, 2, 0, 0)), (33, .iload_n 2, 1, (0, 0, 0, 0)), (34, .iconst 4, 1, (0, 0, 0, 0)), (35, .if_icmp .lt 13, 3, (48, 0, 0, 0)), (38, .aload_n 0, 1, (0, 0, 0, 0)), (39, .iload_n 1, 1, (0, 0, 0, 0)), (40, .bipush 6, 2, (0, 0, 0, 0)), (42, .invokevirtual 83, 3, (192, 3, 0, 0)), (45, .goto 4, 3, (49, 0, 0, 0)), (48, .iconst 0, 1, (0, 0, 0, 0)), (49, .istore_n 3, 1, (0, 0, 0, 0)), (50, .iload_n 2, 1, (0, 0, 0, 0)), (51, .iconst 5, 1, (0, 0, 0, 0)), (52, .if_icmp .ne 16, 3, (68, 0, 0, 0)), (55, .iload_n 3, 1, (0, 0, 0, 0)), (56, .sipush 1000, 3, (0, 0, 0, 0)), (59, .if_icmp .le 9, 3, (68, 0, 0, 0)), (62, .sipush 1000, 3, (0, 0, 0, 0)), (65, .goto 4, 3, (69, 0, 0, 0)), (68, .iload_n 3, 1, (0, 0, 0, 0)), (69, .ireturn, 1, (0, 0, 0, 0))]
def m_208 : VM := (RX10, yX10_carries, cX10_carries, 4, (some .int), 1, 22, k_208)
def k_209 : List VE := [(0, .aload_n 0, 1, (0, 0, 0, 0)), (1, .iload_n 1, 1, (0, 0, 0, 0)), (2, .iconst 0, 1, (0, 0, 0, 0)), (3, .invokevirtual 83, 3, (192, 3, 0, 0)), (6, .istore_n 2, 1, (0, 0, 0, 0)), (7, .aload_n 0, 1, (0, 0, 0, 0)), (8, .iload_n 1, 1, (0, 0, 0, 0)), (9, .iconst 1, 1, (0, 0, 0, 0)), (10, .invokevirtual 83, 3, (192, 3, 0, 0)), (13, .istore_n 3, 1, (0, 0, 0, 0)), (14, .iload_n 2, 1, (0, 0, 0, 0)), (15, .iconst 1, 1, (0, 0, 0, 0)), (16, .if_icmp .ne 25, 3, (41, 0, 0, 0)), (19, .aload_n 0, 1, (0, 0, 0, 0)), (20, .bipush 6, 2, (0, 0, 0, 0)), (22, .invokevirtual 86, 3, (205, 2, 0, 0)), (25, .iload_n 3, 1, (0, 0, 0, 0)), (26, .bipush 30, 2, (0, 0, 0, 0)), (28, .if_icmp .gt 5, 3, (33, 0, 0, 0)), (31, .iconst 0, 1, (0, 0, 0, 0)), (32, .ireturn, 1, (0, 0, 0, 0)), (33, .aload_n 0, 1, (0, 0, 0, 0)), (34, .iconst 4, 1, (0, 0, 0, 0)), (35, .invokevirtual 86, 3, (205, 2, 0, 0)), (38, .bipush (-5), 2, (0, 0, 0, 0)), (40, .ireturn, 1, (0, 0, 0, 0)), (41, .iload_n 2, 1, (0, 0, 0, 0)), (42, .iconst 2, 1, (0, 0, 0, 0)), (43, .if_icmp .ne 9, 3, (52, 0, 0, 0)), (46, .aload_n 0, 1, (0, 0, 0, 0)), (47, .bipush 7, 2, (0, 0, 0, 0)), (49, .invokevirtual 86, 3, (205, 2, 0, 0)), (52, .aload_n 0, 1, (0, 0, 0, 0)), (53, .iconst 4, 1, (0, 0, 0, 0)), (54, .invokevirtual 86, 3, (205, 2, 0, 0)), (57, .iconst 5, 1, (0, 0, 0, 0)), (58, .aload_n 0, 1, (0, 0, 0, 0)), (59, .iload_n 1, 1, (0, 0, 0, 0)), (60, .iconst 4, 1, (0, 0, 0, 0)), (61, .invokevirtual 83, 3, (192, 3, 0, 0)), (64, .iadd, 1, (0, 0, 0, 0)), (65, .iload_n 3, 1, (0, 0, 0, 0)), (66, .bipush 100, 2, (0, 0, 0, 0)), (68, .idiv, 1, (0, 0, 0, 0)), (69, .isub, 1, (0, 0, 0, 0)), (70, .istore 4, 2, (0, 0, 0, 0)), (72, .iload_n 2, 1, (0, 0, 0, 0)), (73, .ifCond .ne 7, 3, (80, 0, 0, 0)), (76, .iconst 5, 1, (0, 0, 0, 0)), (77, .goto 14, 3, (91, 0, 0, 0)), (80, .iload 4, 2, (0, 0, 0, 0)), (82, .ifCond .ge 7, 3, (89, 0, 0, 0)), (85, .iconst 0, 1, (0, 0, 0, 0)), (86, .goto 5, 3, (91, 0, 0, 0)), (89, .iload 4, 2, (0, 0, 0, 0)), (91, .ireturn, 1, (0, 0, 0, 0))]
def m_209 : VM := (RX10, yX10_lays, cX10_lays, 5, (some .int), 1, 22, k_209)
def k_210 : List VE := [(0, .iload_n 1, 1, (0, 0, 0, 0)), (1, .iconst 0, 1, (0, 0, 0, 0)), (2, .sipush 20000, 3, (0, 0, 0, 0)), (5, .invokestatic 68, 3, (189, 3, 1, 0)), (8, .ifCond .eq 14, 3, (22, 0, 0, 0)), (11, .aload_n 0, 1, (0, 0, 0, 0)), (12, .getfield 7, 3, (10, 0, 1, 1)), (15, .iconst 0, 1, (0, 0, 0, 0)), (16, .iaload, 1, (0, 0, 0, 0)), (17, .bipush 40, 2, (0, 0, 0, 0)), (19, .if_icmp .ne 10, 3, (29, 0, 0, 0)), (22, .aload_n 0, 1, (0, 0, 0, 0)), (23, .bipush 6, 2, (0, 0, 0, 0)), (25, .invokevirtual 94, 3, (186, 2, 0, 0)), (28, .ireturn, 1, (0, 0, 0, 0)), (29, .aload_n 0, 1, (0, 0, 0, 0)), (30, .invokevirtual 97, 3, (188, 1, 0, 0)), (33, .aload_n 0, 1, (0, 0, 0, 0)), (34, .getfield 7, 3, (10, 0, 1, 1)), (37, .iconst 0, 1, (0, 0, 0, 0)), (38, .iaload, 1, (0, 0, 0, 0)), (39, .istore_n 2, 1, (0, 0, 0, 0)), (40, .iconst 0, 1, (0, 0, 0, 0)), (41, .istore_n 3, 1, (0, 0, 0, 0)), (42, .iload_n 3, 1, (0, 0, 0, 0)), (43, .bipush 11, 2, (0, 0, 0, 0)), (45, .if_icmp .ge 16, 3, (61, 0, 0, 0)), (48, .aload_n 0, 1, (0, 0, 0, 0)), (49, .iload_n 2, 1, (0, 0, 0, 0)), (50, .iload_n 3, 1, (0, 0, 0, 0)), (51, .iconst 0, 1, (0, 0, 0, 0)), (52, .invokevirtual 100, 3, (191, 4, 0, 0)), (55, .iinc 3 1, 3, (0, 0, 0, 0)), (58, .goto (-16), 3, (42, 0, 0, 0)), (61, .aload_n 0, 1, (0, 0, 0, 0)), (62, .iload_n 2, 1, (0, 0, 0, 0)), (63, .iconst 0, 1, (0, 0, 0, 0)), (64, .iload_n 1, 1, (0, 0, 0, 0)), (65, .invokevirtual 100, 3, (191, 4, 0, 0)), (68, .aload_n 0, 1, (0, 0, 0, 0)), (69, .iload_n 2, 1, (0, 0, 0, 0)), (70, .iconst 3, 1, (0, 0, 0, 0)), (71, .iconst (-1), 1, (0, 0, 0, 0)), (72, .invokevirtual 100, 3, (191, 4, 0, 0)), (75, .aload_n 0, 1, (0, 0, 0, 0)), (76, .getfield 7, 3, (10, 0, 1, 1)), (79, .iconst 0, 1, (0, 0, 0, 0)), (80, .dup2, 1, (0, 0, 0, 0)), (81, .iaload, 1, (0, 0, 0, 0)), (82, .iconst 1, 1, (0, 0, 0, 0)), (83, .iadd, 1, (0, 0, 0, 0)), (84, .iastore, 1, (0, 0, 0, 0)), (85, .aload_n 0, 1, (0, 0, 0, 0)), (86, .iload_n 2, 1, (0, 0, 0, 0)), (87, .invokevirtual 103, 3, (187, 2, 0, 0)), (90, .ireturn, 1, (0, 0, 0, 0))]
def m_210 : VM := (RX10, yX10_hive, cX10_hive, 4, (some .int), 1, 23, k_210)
def k_211 : List VE := [(0, .aload_n 0, 1, (0, 0, 0, 0)), (1, .iload_n 1, 1, (0, 0, 0, 0)), (2, .invokevirtual 106, 3, (198, 2, 0, 0)), (5, .istore_n 2, 1, (0, 0, 0, 0)), (6, .iload_n 2, 1, (0, 0, 0, 0)), (7, .ifCond .ne 18, 3, (25, 0, 0, 0)), (10, .aload_n 0, 1, (0, 0, 0, 0)), (11, .iload_n 1, 1, (0, 0, 0, 0)), (12, .bipush 10, 2, (0, 0, 0, 0)), (14, .invokevirtual 72, 3, (190, 3, 0, 0)), (17, .bipush 8, 2, (0, 0, 0, 0)), (19, .if_icmp .ne 6, 3, (25, 0, 0, 0)), (22, .bipush 6, 2, (0, 0, 0, 0)), (24, .istore_n 2, 1, (0, 0, 0, 0)), (25, .iload_n 2, 1, (0, 0, 0, 0)), (26, .ifCond .le 9, 3, (35, 0, 0, 0)), (29, .aload_n 0, 1, (0, 0, 0, 0)), (30, .iload_n 2, 1, (0, 0, 0, 0)), (31, .invokevirtual 94, 3, (186, 2, 0, 0)), (34, .ireturn, 1, (0, 0, 0, 0)), (35, .aload_n 0, 1, (0, 0, 0, 0)), (36, .invokevirtual 97, 3, (188, 1, 0, 0)), (39, .aload_n 0, 1, (0, 0, 0, 0)), (40, .iload_n 1, 1, (0, 0, 0, 0)), (41, .bipush 10, 2, (0, 0, 0, 0)), (43, .invokevirtual 72, 3, (190, 3, 0, 0)), (46, .istore_n 3, 1, (0, 0, 0, 0)), (47, .aload_n 0, 1, (0, 0, 0, 0)), (48, .iload_n 1, 1, (0, 0, 0, 0)), (49, .bipush 10, 2, (0, 0, 0, 0)), (51, .iload_n 3, 1, (0, 0, 0, 0)), (52, .iconst 1, 1, (0, 0, 0, 0)), (53, .iadd, 1, (0, 0, 0, 0)), (54, .invokevirtual 100, 3, (191, 4, 0, 0)), (57, .aload_n 0, 1, (0, 0, 0, 0)), (58, .iload_n 3, 1, (0, 0, 0, 0)), (59, .invokevirtual 103, 3, (187, 2, 0, 0)), (62, .ireturn, 1, (0, 0, 0, 0))]
def m_211 : VM := (RX10, yX10_box, cX10_box, 4, (some .int), 2, 43, k_211)
def k_212 : List VE := [(0, .aload_n 0, 1, (0, 0, 0, 0)), (1, .iload_n 1, 1, (0, 0, 0, 0)), (2, .invokevirtual 76, 3, (200, 2, 0, 0)), (5, .istore_n 3, 1, (0, 0, 0, 0)), (6, .iload_n 3, 1, (0, 0, 0, 0)), (7, .ifCond .ne 32, 3, (39, 0, 0, 0)), (10, .iload_n 2, 1, (0, 0, 0, 0)), (11, .bipush 64, 2, (0, 0, 0, 0)), (13, .if_icmp .gt 23, 3, (36, 0, 0, 0)), (16, .aload_n 0, 1, (0, 0, 0, 0)), (17, .getfield 7, 3, (10, 0, 1, 1)), (20, .iconst 1, 1, (0, 0, 0, 0)), (21, .iaload, 1, (0, 0, 0, 0)), (22, .sipush 200, 3, (0, 0, 0, 0)), (25, .if_icmp .eq 11, 3, (36, 0, 0, 0)), (28, .aload_n 0, 1, (0, 0, 0, 0)), (29, .iload_n 1, 1, (0, 0, 0, 0)), (30, .invokevirtual 80, 3, (194, 2, 0, 0)), (33, .ifCond .lt 6, 3, (39, 0, 0, 0)), (36, .bipush 6, 2, (0, 0, 0, 0)), (38, .istore_n 3, 1, (0, 0, 0, 0)), (39, .iload_n 3, 1, (0, 0, 0, 0)), (40, .ifCond .ne 9, 3, (49, 0, 0, 0)), (43, .iload_n 2, 1, (0, 0, 0, 0)), (44, .ifCond .ge 5, 3, (49, 0, 0, 0)), (47, .iconst 5, 1, (0, 0, 0, 0)), (48, .istore_n 3, 1, (0, 0, 0, 0)), (49, .iload_n 3, 1, (0, 0, 0, 0)), (50, .ifCond .le 9, 3, (59, 0, 0, 0)), (53, .aload_n 0, 1, (0, 0, 0, 0)), (54, .iload_n 3, 1, (0, 0, 0, 0)), (55, .invokevirtual 94, 3, (186, 2, 0, 0)), (58, .ireturn, 1, (0, 0, 0, 0)), (59, .aload_n 0, 1, (0, 0, 0, 0)), (60, .invokevirtual 97, 3, (188, 1, 0, 0)), (63, .aload_n 0, 1, (0, 0, 0, 0)), (64, .getfield 7, 3, (10, 0, 1, 1)), (67, .iconst 1, 1, (0, 0, 0, 0)), (68, .iaload, 1, (0, 0, 0, 0)), (69, .istore 4, 2, (0, 0, 0, 0)), (71, .aload_n 0, 1, (0, 0, 0, 0)), (72, .getfield 7, 3, (10, 0, 1, 1)), (75, .sipush 3850, 3, (0, 0, 0, 0)), (78, .iload 4, 2, (0, 0, 0, 0)), (80, .iadd, 1, (0, 0, 0, 0)), (81, .iload_n 2, 1, (0, 0, 0, 0)), (82, .iastore, 1, (0, 0, 0, 0)), (83, .iconst 0, 1, (0, 0, 0, 0)), (84, .istore 5, 2, (0, 0, 0, 0)), (86, .iload 5, 2, (0, 0, 0, 0)), (88, .bipush 64, 2, (0, 0, 0, 0)), (90, .if_icmp .ge 18, 3, (108, 0, 0, 0)), (93, .aload_n 0, 1, (0, 0, 0, 0)), (94, .iload 4, 2, (0, 0, 0, 0)), (96, .iload 5, 2, (0, 0, 0, 0)), (98, .iconst 0, 1, (0, 0, 0, 0)), (99, .invokevirtual 109, 3, (197, 4, 0, 0)), (102, .iinc 5 1, 3, (0, 0, 0, 0)), (105, .goto (-19), 3, (86, 0, 0, 0)), (108, .aload_n 0, 1, (0, 0, 0, 0)), (109, .getfield 7, 3, (10, 0, 1, 1)), (112, .bipush 10, 2, (0, 0, 0, 0)), (114, .iload_n 1, 1, (0, 0, 0, 0)), (115, .iadd, 1, (0, 0, 0, 0)), (116, .iload 4, 2, (0, 0, 0, 0)), (118, .iastore, 1, (0, 0, 0, 0)), (119, .aload_n 0, 1, (0, 0, 0, 0)), (120, .getfield 7, 3, (10, 0, 1, 1)), (123, .iconst 1, 1, (0, 0, 0, 0)), (124, .dup2, 1, (0, 0, 0, 0)), (125, .iaload, 1, (0, 0, 0, 0)), (126, .iconst 1, 1, (0, 0, 0, 0)), (127, .iadd, 1, (0, 0, 0, 0)), (128, .iastore, 1, (0, 0, 0, 0)), (129, .aload_n 0, 1, (0, 0, 0, 0)), (130, .iload 4, 2, (0, 0, 0, 0)), (132, .invokevirtual 103, 3, (187, 2, 0, 0)), (135, .ireturn, 1, (0, 0, 0, 0))]
def m_212 : VM := (RX10, yX10_frame, cX10_frame, 6, (some .int), 2, 44, k_212)
def k_213 : List VE := [(0, .aload_n 0, 1, (0, 0, 0, 0)), (1, .iload_n 1, 1, (0, 0, 0, 0)), (2, .invokevirtual 112, 3, (201, 2, 0, 0)), (5, .istore_n 2, 1, (0, 0, 0, 0)), (6, .iconst 0, 1, (0, 0, 0, 0)), (7, .istore_n 3, 1, (0, 0, 0, 0)), (8, .iload_n 3, 1, (0, 0, 0, 0)), (9, .bipush 24, 2, (0, 0, 0, 0)), (11, .if_icmp .ge 22, 3, (33, 0, 0, 0)), (14, .aload_n 0, 1, (0, 0, 0, 0)), (15, .getfield 7, 3, (10, 0, 1, 1)), (18, .sipush 16850, 3, (0, 0, 0, 0)), (21, .iload_n 3, 1, (0, 0, 0, 0)), (22, .iadd, 1, (0, 0, 0, 0)), (23, .iaload, 1, (0, 0, 0, 0)), (24, .ifCond .lt 9, 3, (33, 0, 0, 0)), (27, .iinc 3 1, 3, (0, 0, 0, 0)), (30, .goto (-22), 3, (8, 0, 0, 0)), (33, .iload_n 2, 1, (0, 0, 0, 0)), (34, .ifCond .ne 12, 3, (46, 0, 0, 0)), (37, .iload_n 3, 1, (0, 0, 0, 0)), (38, .bipush 24, 2, (0, 0, 0, 0)), (40, .if_icmp .ne 6, 3, (46, 0, 0, 0)), (43, .bipush 6, 2, (0, 0, 0, 0)), (45, .istore_n 2, 1, (0, 0, 0, 0)), (46, .iload_n 2, 1, (0, 0, 0, 0)), (47, .ifCond .le 9, 3, (56, 0, 0, 0)), (50, .aload_n 0, 1, (0, 0, 0, 0)), (51, .iload_n 2, 1, (0, 0, 0, 0)), (52, .invokevirtual 94, 3, (186, 2, 0, 0)), (55, .ireturn, 1, (0, 0, 0, 0)), (56, .aload_n 0, 1, (0, 0, 0, 0)), (57, .invokevirtual 97, 3, (188, 1, 0, 0)), (60, .aload_n 0, 1, (0, 0, 0, 0)), (61, .getfield 7, 3, (10, 0, 1, 1)), (64, .sipush 16850, 3, (0, 0, 0, 0)), (67, .iload_n 3, 1, (0, 0, 0, 0)), (68, .iadd, 1, (0, 0, 0, 0)), (69, .aload_n 0, 1, (0, 0, 0, 0)), (70, .iload_n 1, 1, (0, 0, 0, 0)), (71, .invokevirtual 80, 3, (194, 2, 0, 0)), (74, .iastore, 1, (0, 0, 0, 0)), (75, .aload_n 0, 1, (0, 0, 0, 0)), (76, .getfield 7, 3, (10, 0, 1, 1)), (79, .bipush 10, 2, (0, 0, 0, 0)), (81, .iload_n 1, 1, (0, 0, 0, 0)), (82, .iadd, 1, (0, 0, 0, 0)), (83, .iconst (-1), 1, (0, 0, 0, 0)), (84, .iastore, 1, (0, 0, 0, 0)), (85, .aload_n 0, 1, (0, 0, 0, 0)), (86, .iload_n 3, 1, (0, 0, 0, 0)), (87, .invokevirtual 103, 3, (187, 2, 0, 0)), (90, .ireturn, 1, (0, 0, 0, 0))]
def m_213 : VM := (RX10, yX10_out, cX10_out, 4, (some .int), 3, 66, k_213)
def k_214 : List VE := [(0, .iload_n 1, 1, (0, 0, 0, 0)), (1, .iconst 0, 1, (0, 0, 0, 0)), (2, .bipush 23, 2, (0, 0, 0, 0)), (4, .invokestatic 68, 3, (189, 3, 1, 0)), (7, .ifCond .ne 7, 3, (14, 0, 0, 0)), (10, .iconst 2, 1, (0, 0, 0, 0)), (11, .goto 25, 3, (36, 0, 0, 0)), (14, .aload_n 0, 1, (0, 0, 0, 0)), (15, .getfield 7, 3, (10, 0, 1, 1)), (18, .sipush 16850, 3, (0, 0, 0, 0)), (21, .iload_n 1, 1, (0, 0, 0, 0)), (22, .iadd, 1, (0, 0, 0, 0)), (23, .iaload, 1, (0, 0, 0, 0)), (24, .ifCond .ge 7, 3, (31, 0, 0, 0)), (27, .iconst 1, 1, (0, 0, 0, 0)), (28, .goto 8, 3, (36, 0, 0, 0)), (31, .aload_n 0, 1, (0, 0, 0, 0)), (32, .iload_n 2, 1, (0, 0, 0, 0)), (33, .invokevirtual 76, 3, (200, 2, 0, 0)), (36, .istore_n 3, 1, (0, 0, 0, 0)), (37, .iload_n 3, 1, (0, 0, 0, 0)), (38, .ifCond .ne 14, 3, (52, 0, 0, 0)), (41, .aload_n 0, 1, (0, 0, 0, 0)), (42, .iload_n 2, 1, (0, 0, 0, 0)), (43, .invokevirtual 80, 3, (194, 2, 0, 0)), (46, .ifCond .lt 6, 3, (52, 0, 0, 0)), (49, .bipush 6, 2, (0, 0, 0, 0)), (51, .istore_n 3, 1, (0, 0, 0, 0)), (52, .iload_n 3, 1, (0, 0, 0, 0)), (53, .ifCond .le 9, 3, (62, 0, 0, 0)), (56, .aload_n 0, 1, (0, 0, 0, 0)), (57, .iload_n 3, 1, (0, 0, 0, 0)), (58, .invokevirtual 94, 3, (186, 2, 0, 0)), (61, .ireturn, 1, (0, 0, 0, 0)), (62, .aload_n 0, 1, (0, 0, 0, 0)), (63, .invokevirtual 97, 3, (188, 1, 0, 0)), (66, .aload_n 0, 1, (0, 0, 0, 0)), (67, .getfield 7, 3, (10, 0, 1, 1)), (70, .bipush 10, 2, (0, 0, 0, 0)), (72, .iload_n 2, 1, (0, 0, 0, 0)), (73, .iadd, 1, (0, 0, 0, 0)), (74, .aload_n 0, 1, (0, 0, 0, 0)), (75, .getfield 7, 3, (10, 0, 1, 1)), (78, .sipush 16850, 3, (0, 0, 0, 0)), (81, .iload_n 1, 1, (0, 0, 0, 0)), (82, .iadd, 1, (0, 0, 0, 0)), (83, .iaload, 1, (0, 0, 0, 0)), (84, .iastore, 1, (0, 0, 0, 0)), (85, .aload_n 0, 1, (0, 0, 0, 0)), (86, .getfield 7, 3, (10, 0, 1, 1)), (89, .sipush 16850, 3, (0, 0, 0, 0)), (92, .iload_n 1, 1, (0, 0, 0, 0)), (93, .iadd, 1, (0, 0, 0, 0)), (94, .iconst (-1), 1, (0, 0, 0, 0)), (95, .iastore, 1, (0, 0, 0, 0)), (96, .aload_n 0, 1, (0, 0, 0, 0)), (97, .iconst 1, 1, (0, 0, 0, 0)), (98, .invokevirtual 103, 3, (187, 2, 0, 0)), (101, .ireturn, 1, (0, 0, 0, 0))]
def m_214 : VM := (RX10, yX10_back, cX10_back, 4, (some .int), 2, 44, k_214)
def k_215 : List VE := [(0, .aload_n 0, 1, (0, 0, 0, 0)), (1, .iload_n 1, 1, (0, 0, 0, 0)), (2, .invokevirtual 112, 3, (201, 2, 0, 0)), (5, .istore_n 2, 1, (0, 0, 0, 0)), (6, .iload_n 2, 1, (0, 0, 0, 0)), (7, .ifCond .le 11, 3, (18, 0, 0, 0)), (10, .aload_n 0, 1, (0, 0, 0, 0)), (11, .iload_n 2, 1, (0, 0, 0, 0)), (12, .invokevirtual 94, 3, (186, 2, 0, 0)), (15, .goto 12, 3, (27, 0, 0, 0)), (18, .aload_n 0, 1, (0, 0, 0, 0)), (19, .aload_n 0, 1, (0, 0, 0, 0)), (20, .iload_n 1, 1, (0, 0, 0, 0)), (21, .invokevirtual 80, 3, (194, 2, 0, 0)), (24, .invokevirtual 103, 3, (187, 2, 0, 0)), (27, .ireturn, 1, (0, 0, 0, 0))]
def m_215 : VM := (RX10, yX10_at, cX10_at, 3, (some .int), 3, 66, k_215)
def k_216 : List VE := [(0, .iload_n 1, 1, (0, 0, 0, 0)), (1, .iconst 0, 1, (0, 0, 0, 0)), (2, .sipush 199, 3, (0, 0, 0, 0)), (5, .invokestatic 68, 3, (189, 3, 1, 0)), (8, .ifCond .ne 9, 3, (17, 0, 0, 0)), (11, .aload_n 0, 1, (0, 0, 0, 0)), (12, .iconst 2, 1, (0, 0, 0, 0)), (13, .invokevirtual 94, 3, (186, 2, 0, 0)), (16, .ireturn, 1, (0, 0, 0, 0)), (17, .iload_n 1, 1, (0, 0, 0, 0)), (18, .aload_n 0, 1, (0, 0, 0, 0)), (19, .getfield 7, 3, (10, 0, 1, 1)), (22, .iconst 1, 1, (0, 0, 0, 0)), (23, .iaload, 1, (0, 0, 0, 0)), (24, .if_icmp .lt 9, 3, (33, 0, 0, 0)), (27, .aload_n 0, 1, (0, 0, 0, 0)), (28, .iconst 1, 1, (0, 0, 0, 0)), (29, .invokevirtual 94, 3, (186, 2, 0, 0)), (32, .ireturn, 1, (0, 0, 0, 0)), (33, .iconst (-1), 1, (0, 0, 0, 0)), (34, .istore_n 2, 1, (0, 0, 0, 0)), (35, .iconst 0, 1, (0, 0, 0, 0)), (36, .istore_n 3, 1, (0, 0, 0, 0)), (37, .iload_n 3, 1, (0, 0, 0, 0)), (38, .sipush 3840, 3, (0, 0, 0, 0)), (41, .if_icmp .ge 24, 3, (65, 0, 0, 0)), (44, .aload_n 0, 1, (0, 0, 0, 0)), (45, .iload_n 3, 1, (0, 0, 0, 0)), (46, .invokevirtual 80, 3, (194, 2, 0, 0)), (49, .iload_n 1, 1, (0, 0, 0, 0)), (50, .if_icmp .ne 7, 3, (57, 0, 0, 0)), (53, .iload_n 3, 1, (0, 0, 0, 0)), (54, .goto 4, 3, (58, 0, 0, 0)), (57, .iload_n 2, 1, (0, 0, 0, 0)), (58, .istore_n 2, 1, (0, 0, 0, 0)), (59, .iinc 3 1, 3, (0, 0, 0, 0)), (62, .goto (-25), 3, (37, 0, 0, 0)), (65, .iconst 0, 1, (0, 0, 0, 0)), (66, .istore_n 3, 1, (0, 0, 0, 0)), (67, .iload_n 3, 1, (0, 0, 0, 0)), (68, .bipush 24, 2, (0, 0, 0, 0)), (70, .if_icmp .ge 32, 3, (102, 0, 0, 0)), (73, .aload_n 0, 1, (0, 0, 0, 0)), (74, .getfield 7, 3, (10, 0, 1, 1)), (77, .sipush 16850, 3, (0, 0, 0, 0)), (80, .iload_n 3, 1, (0, 0, 0, 0)), (81, .iadd, 1, (0, 0, 0, 0)), (82, .iaload, 1, (0, 0, 0, 0)), (83, .iload_n 1, 1, (0, 0, 0, 0)), (84, .if_icmp .ne 10, 3, (94, 0, 0, 0)), (87, .bipush (-2), 2, (0, 0, 0, 0)), (89, .iload_n 3, 1, (0, 0, 0, 0)), (90, .isub, 1, (0, 0, 0, 0)), (91, .goto 4, 3, (95, 0, 0, 0)), (94, .iload_n 2, 1, (0, 0, 0, 0)), (95, .istore_n 2, 1, (0, 0, 0, 0)), (96, .iinc 3 1, 3, (0, 0, 0, 0)), (99, .goto (-32), 3, (67, 0, 0, 0)), (102, .aload_n 0, 1, (0, 0, 0, 0)), (103, .iload_n 2, 1, (0, 0, 0, 0)), (104, .invokevirtual 103, 3, (187, 2, 0, 0)), (107, .ireturn, 1, (0, 0, 0, 0))]
def m_216 : VM := (RX10, yX10_where, cX10_where, 4, (some .int), 1, 22, k_216)
def k_217 : List VE := [(0, .aload_n 0, 1, (0, 0, 0, 0)), (1, .iload_n 1, 1, (0, 0, 0, 0)), (2, .invokevirtual 112, 3, (201, 2, 0, 0)), (5, .istore_n 3, 1, (0, 0, 0, 0)), (6, .iload_n 3, 1, (0, 0, 0, 0)), (7, .ifCond .le 7, 3, (14, 0, 0, 0)), (10, .iload_n 3, 1, (0, 0, 0, 0)), (11, .goto 27, 3, (38, 0, 0, 0)), (14, .iload_n 2, 1, (0, 0, 0, 0)), (15, .iconst 0, 1, (0, 0, 0, 0)), (16, .aload_n 0, 1, (0, 0, 0, 0)), (17, .aload_n 0, 1, (0, 0, 0, 0)), (18, .iload_n 1, 1, (0, 0, 0, 0)), (19, .invokevirtual 80, 3, (194, 2, 0, 0)), (22, .invokevirtual 115, 3, (195, 2, 0, 0)), (25, .iconst 1, 1, (0, 0, 0, 0)), (26, .isub, 1, (0, 0, 0, 0)), (27, .invokestatic 68, 3, (189, 3, 1, 0)), (30, .ifCond .eq 7, 3, (37, 0, 0, 0)), (33, .iconst 0, 1, (0, 0, 0, 0)), (34, .goto 4, 3, (38, 0, 0, 0)), (37, .iconst 2, 1, (0, 0, 0, 0)), (38, .ireturn, 1, (0, 0, 0, 0))]
def m_217 : VM := (RX10, yX10_fieldWhy, cX10_fieldWhy, 4, (some .int), 3, 66, k_217)
def k_218 : List VE := [(0, .aload_n 0, 1, (0, 0, 0, 0)), (1, .iload_n 1, 1, (0, 0, 0, 0)), (2, .iload_n 2, 1, (0, 0, 0, 0)), (3, .invokevirtual 118, 3, (217, 3, 0, 0)), (6, .istore_n 3, 1, (0, 0, 0, 0)), (7, .iload_n 3, 1, (0, 0, 0, 0)), (8, .ifCond .le 11, 3, (19, 0, 0, 0)), (11, .aload_n 0, 1, (0, 0, 0, 0)), (12, .iload_n 3, 1, (0, 0, 0, 0)), (13, .invokevirtual 94, 3, (186, 2, 0, 0)), (16, .goto 17, 3, (33, 0, 0, 0)), (19, .aload_n 0, 1, (0, 0, 0, 0)), (20, .aload_n 0, 1, (0, 0, 0, 0)), (21, .aload_n 0, 1, (0, 0, 0, 0)), (22, .iload_n 1, 1, (0, 0, 0, 0)), (23, .invokevirtual 80, 3, (194, 2, 0, 0)), (26, .iload_n 2, 1, (0, 0, 0, 0)), (27, .invokevirtual 121, 3, (196, 3, 0, 0)), (30, .invokevirtual 103, 3, (187, 2, 0, 0)), (33, .ireturn, 1, (0, 0, 0, 0))]
def m_218 : VM := (RX10, yX10_field, cX10_field, 4, (some .int), 4, 89, k_218)
def k_219 : List VE := [(0, .aload_n 0, 1, (0, 0, 0, 0)), (1, .iload_n 1, 1, (0, 0, 0, 0)), (2, .iload_n 2, 1, (0, 0, 0, 0)), (3, .invokevirtual 118, 3, (217, 3, 0, 0)), (6, .istore 4, 2, (0, 0, 0, 0)), (8, .iload 4, 2, (0, 0, 0, 0)), (10, .ifCond .ne 32, 3, (42, 0, 0, 0)), (13, .iload_n 3, 1, (0, 0, 0, 0)), (14, .ifCond .eq 28, 3, (42, 0, 0, 0)), (17, .iload_n 3, 1, (0, 0, 0, 0)), (18, .sipush 200, 3, (0, 0, 0, 0)), (21, .if_icmp .eq 21, 3, (42, 0, 0, 0)), (24, .iload_n 3, 1, (0, 0, 0, 0)), (25, .sipush 300, 3, (0, 0, 0, 0)), (28, .if_icmp .eq 14, 3, (42, 0, 0, 0)), (31, .iload_n 3, 1, (0, 0, 0, 0)), (32, .sipush 400, 3, (0, 0, 0, 0)), (35, .if_icmp .eq 7, 3, (42, 0, 0, 0)), (38, .bipush 6, 2, (0, 0, 0, 0)), (40, .istore 4, 2, (0, 0, 0, 0)), (42, .iload 4, 2, (0, 0, 0, 0)), (44, .ifCond .le 10, 3, (54, 0, 0, 0)), (47, .aload_n 0, 1, (0, 0, 0, 0)), (48, .iload 4, 2, (0, 0, 0, 0)), (50, .invokevirtual 94, 3, (186, 2, 0, 0)), (53, .ireturn, 1, (0, 0, 0, 0)), (54, .aload_n 0, 1, (0, 0, 0, 0)), (55, .invokevirtual 97, 3, (188, 1, 0, 0)), (58, .aload_n 0, 1, (0, 0, 0, 0)), (59, .iload_n 1, 1, (0, 0, 0, 0)), (60, .invokevirtual 80, 3, (194, 2, 0, 0)), (63, .istore 5, 2, (0, 0, 0, 0)), (65, .aload_n 0, 1, (0, 0, 0, 0)), (66, .iload 5, 2, (0, 0, 0, 0)), (68, .iload_n 2, 1, (0, 0, 0, 0)), (69, .invokevirtual 121, 3, (196, 3, 0, 0)), (72, .istore 6, 2, (0, 0, 0, 0)), (74, .aload_n 0, 1, (0, 0, 0, 0)), (75, .getfield 7, 3, (10, 0, 1, 1)), (78, .bipush 6, 2, (0, 0, 0, 0)), (80, .dup2, 1, (0, 0, 0, 0)), (81, .iaload, 1, (0, 0, 0, 0)), (82, .iload 6, 2, (0, 0, 0, 0)), (84, .invokestatic 124, 3, (203, 1, 1, 0)), (87, .ifCond .eq 8, 3, (95, 0, 0, 0)), (90, .iload 6, 2, (0, 0, 0, 0)), (92, .goto 4, 3, (96, 0, 0, 0)), (95, .iconst 0, 1, (0, 0, 0, 0)), (96, .iadd, 1, (0, 0, 0, 0)), (97, .iastore, 1, (0, 0, 0, 0)), (98, .aload_n 0, 1, (0, 0, 0, 0)), (99, .iload 5, 2, (0, 0, 0, 0)), (101, .iload_n 2, 1, (0, 0, 0, 0)), (102, .iload_n 3, 1, (0, 0, 0, 0)), (103, .invokevirtual 109, 3, (197, 4, 0, 0)), (106, .aload_n 0, 1, (0, 0, 0, 0)), (107, .iload 6, 2, (0, 0, 0, 0)), (109, .invokevirtual 103, 3, (187, 2, 0, 0)), (112, .ireturn, 1, (0, 0, 0, 0))]
def m_219 : VM := (RX10, yX10_put, cX10_put, 7, (some .int), 4, 89, k_219)
def k_220_0 : List VE := [(0, .aload_n 0, 1, (0, 0, 0, 0)), (1, .iload_n 1, 1, (0, 0, 0, 0)), (2, .invokevirtual 106, 3, (198, 2, 0, 0)), (5, .istore_n 3, 1, (0, 0, 0, 0)), (6, .iload_n 3, 1, (0, 0, 0, 0)), (7, .ifCond .ne 17, 3, (24, 0, 0, 0)), (10, .iload_n 2, 1, (0, 0, 0, 0)), (11, .iconst 0, 1, (0, 0, 0, 0)), (12, .sipush 10000, 3, (0, 0, 0, 0)), (15, .invokestatic 68, 3, (189, 3, 1, 0)), (18, .ifCond .ne 6, 3, (24, 0, 0, 0)), (21, .bipush 6, 2, (0, 0, 0, 0)), (23, .istore_n 3, 1, (0, 0, 0, 0)), (24, .iload_n 3, 1, (0, 0, 0, 0)), (25, .ifCond .le 9, 3, (34, 0, 0, 0)), (28, .aload_n 0, 1, (0, 0, 0, 0)), (29, .iload_n 3, 1, (0, 0, 0, 0)), (30, .invokevirtual 94, 3, (186, 2, 0, 0)), (33, .ireturn, 1, (0, 0, 0, 0)), (34, .aload_n 0, 1, (0, 0, 0, 0)), (35, .invokevirtual 97, 3, (188, 1, 0, 0)), (38, .iload_n 2, 1, (0, 0, 0, 0)), (39, .istore 4, 2, (0, 0, 0, 0)), (41, .bipush 96, 2, (0, 0, 0, 0)), (43, .iload_n 1, 1, (0, 0, 0, 0)), (44, .imul, 1, (0, 0, 0, 0)), (45, .istore 5, 2, (0, 0, 0, 0)), (47, .iload 5, 2, (0, 0, 0, 0)), (49, .bipush 96, 2, (0, 0, 0, 0)), (51, .iload_n 1, 1, (0, 0, 0, 0)), (52, .imul, 1, (0, 0, 0, 0)), (53, .bipush 12, 2, (0, 0, 0, 0)), (55, .aload_n 0, 1, (0, 0, 0, 0)), (56, .iload_n 1, 1, (0, 0, 0, 0)), (57, .bipush 10, 2, (0, 0, 0, 0)), (59, .invokevirtual 72, 3, (190, 3, 0, 0)), (62, .imul, 1, (0, 0, 0, 0)), (63, .iadd, 1, (0, 0, 0, 0)), (64, .if_icmp .ge 109, 3, (173, 0, 0, 0)), (67, .aload_n 0, 1, (0, 0, 0, 0)), (68, .iload 5, 2, (0, 0, 0, 0)), (70, .invokevirtual 80, 3, (194, 2, 0, 0)), (73, .istore 6, 2, (0, 0, 0, 0)), (75, .iconst 0, 1, (0, 0, 0, 0)), (76, .istore 7, 2, (0, 0, 0, 0)), (78, .iload 6, 2, (0, 0, 0, 0)), (80, .ifCond .lt 87, 3, (167, 0, 0, 0)), (83, .iload 7, 2, (0, 0, 0, 0)), (85, .aload_n 0, 1, (0, 0, 0, 0)), (86, .iload 6, 2, (0, 0, 0, 0)), (88, .invokevirtual 115, 3, (195, 2, 0, 0)), (91, .if_icmp .ge 76, 3, (167, 0, 0, 0)), (94, .iload 4, 2, (0, 0, 0, 0)), (96, .ifCond .le 71, 3, (167, 0, 0, 0)), (99, .aload_n 0, 1, (0, 0, 0, 0)), (100, .iload 6, 2, (0, 0, 0, 0)), (102, .iload 7, 2, (0, 0, 0, 0)), (104, .invokevirtual 121, 3, (196, 3, 0, 0)), (107, .istore 8, 2, (0, 0, 0, 0)), (109, .iload 8, 2, (0, 0, 0, 0))]
def k_220_1 : List VE := [(111, .bipush 100, 2, (0, 0, 0, 0)), (113, .if_icmp .le 6, 3, (119, 0, 0, 0)), (116, .goto 45, 3, (161, 0, 0, 0)), (119, .iload 4, 2, (0, 0, 0, 0)), (121, .bipush 100, 2, (0, 0, 0, 0)), (123, .iload 8, 2, (0, 0, 0, 0)), (125, .isub, 1, (0, 0, 0, 0)), (126, .if_icmp .ge 8, 3, (134, 0, 0, 0)), (129, .iload 4, 2, (0, 0, 0, 0)), (131, .goto 8, 3, (139, 0, 0, 0)), (134, .bipush 100, 2, (0, 0, 0, 0)), (136, .iload 8, 2, (0, 0, 0, 0)), (138, .isub, 1, (0, 0, 0, 0)), (139, .istore 9, 2, (0, 0, 0, 0)), (141, .aload_n 0, 1, (0, 0, 0, 0)), (142, .iload 6, 2, (0, 0, 0, 0)), (144, .iload 7, 2, (0, 0, 0, 0)), (146, .iload 8, 2, (0, 0, 0, 0)), (148, .iload 9, 2, (0, 0, 0, 0)), (150, .iadd, 1, (0, 0, 0, 0)), (151, .invokevirtual 109, 3, (197, 4, 0, 0)), (154, .iload 4, 2, (0, 0, 0, 0)), (156, .iload 9, 2, (0, 0, 0, 0)), (158, .isub, 1, (0, 0, 0, 0)), (159, .istore 4, 2, (0, 0, 0, 0)), (161, .iinc 7 1, 3, (0, 0, 0, 0)), (164, .goto (-86), 3, (78, 0, 0, 0)), (167, .iinc 5 1, 3, (0, 0, 0, 0)), (170, .goto (-123), 3, (47, 0, 0, 0)), (173, .aload_n 0, 1, (0, 0, 0, 0)), (174, .getfield 7, 3, (10, 0, 1, 1)), (177, .bipush 7, 2, (0, 0, 0, 0)), (179, .dup2, 1, (0, 0, 0, 0)), (180, .iaload, 1, (0, 0, 0, 0)), (181, .iload_n 2, 1, (0, 0, 0, 0)), (182, .iadd, 1, (0, 0, 0, 0)), (183, .iastore, 1, (0, 0, 0, 0)), (184, .aload_n 0, 1, (0, 0, 0, 0)), (185, .getfield 7, 3, (10, 0, 1, 1)), (188, .bipush 6, 2, (0, 0, 0, 0)), (190, .dup2, 1, (0, 0, 0, 0)), (191, .iaload, 1, (0, 0, 0, 0)), (192, .iload 4, 2, (0, 0, 0, 0)), (194, .iadd, 1, (0, 0, 0, 0)), (195, .iastore, 1, (0, 0, 0, 0)), (196, .aload_n 0, 1, (0, 0, 0, 0)), (197, .iload_n 2, 1, (0, 0, 0, 0)), (198, .iload 4, 2, (0, 0, 0, 0)), (200, .isub, 1, (0, 0, 0, 0)), (201, .invokevirtual 103, 3, (187, 2, 0, 0)), (204, .ireturn, 1, (0, 0, 0, 0))]
def k_220 : List VE := (k_220_0 ++ (k_220_1))
def m_220 : VM := (RX10, yX10_bring, cX10_bring, 10, (some .int), 2, 43, k_220)
def k_221 : List VE := [(0, .iconst 0, 1, (0, 0, 0, 0)), (1, .istore_n 2, 1, (0, 0, 0, 0)), (2, .iconst 0, 1, (0, 0, 0, 0)), (3, .istore_n 3, 1, (0, 0, 0, 0)), (4, .iload_n 3, 1, (0, 0, 0, 0)), (5, .aload_n 0, 1, (0, 0, 0, 0)), (6, .iload_n 1, 1, (0, 0, 0, 0)), (7, .invokevirtual 115, 3, (195, 2, 0, 0)), (10, .if_icmp .ge 34, 3, (44, 0, 0, 0)), (13, .iload_n 2, 1, (0, 0, 0, 0)), (14, .aload_n 0, 1, (0, 0, 0, 0)), (15, .iload_n 1, 1, (0, 0, 0, 0)), (16, .iload_n 3, 1, (0, 0, 0, 0)), (17, .invokevirtual 121, 3, (196, 3, 0, 0)), (20, .invokestatic 124, 3, (203, 1, 1, 0)), (23, .ifCond .eq 12, 3, (35, 0, 0, 0)), (26, .aload_n 0, 1, (0, 0, 0, 0)), (27, .iload_n 1, 1, (0, 0, 0, 0)), (28, .iload_n 3, 1, (0, 0, 0, 0)), (29, .invokevirtual 121, 3, (196, 3, 0, 0)), (32, .goto 4, 3, (36, 0, 0, 0)), (35, .iconst 0, 1, (0, 0, 0, 0)), (36, .iadd, 1, (0, 0, 0, 0)), (37, .istore_n 2, 1, (0, 0, 0, 0)), (38, .iinc 3 1, 3, (0, 0, 0, 0)), (41, .goto (-37), 3, (4, 0, 0, 0)), (44, .iload_n 2, 1, (0, 0, 0, 0)), (45, .ireturn, 1, (0, 0, 0, 0))]
def m_221 : VM := (RX10, yX10_honeyIn, cX10_honeyIn, 4, (some .int), 1, 22, k_221)
def k_222_0 : List VE := [(0, .aload_n 0, 1, (0, 0, 0, 0)), (1, .iload_n 1, 1, (0, 0, 0, 0)), (2, .invokevirtual 112, 3, (201, 2, 0, 0)), (5, .istore_n 2, 1, (0, 0, 0, 0)), (6, .iload_n 2, 1, (0, 0, 0, 0)), (7, .ifCond .ne 19, 3, (26, 0, 0, 0)), (10, .aload_n 0, 1, (0, 0, 0, 0)), (11, .getfield 7, 3, (10, 0, 1, 1)), (14, .bipush 8, 2, (0, 0, 0, 0)), (16, .iaload, 1, (0, 0, 0, 0)), (17, .sipush 200, 3, (0, 0, 0, 0)), (20, .if_icmp .ne 6, 3, (26, 0, 0, 0)), (23, .bipush 6, 2, (0, 0, 0, 0)), (25, .istore_n 2, 1, (0, 0, 0, 0)), (26, .iload_n 2, 1, (0, 0, 0, 0)), (27, .ifCond .le 9, 3, (36, 0, 0, 0)), (30, .aload_n 0, 1, (0, 0, 0, 0)), (31, .iload_n 2, 1, (0, 0, 0, 0)), (32, .invokevirtual 94, 3, (186, 2, 0, 0)), (35, .ireturn, 1, (0, 0, 0, 0)), (36, .aload_n 0, 1, (0, 0, 0, 0)), (37, .invokevirtual 97, 3, (188, 1, 0, 0)), (40, .aload_n 0, 1, (0, 0, 0, 0)), (41, .iload_n 1, 1, (0, 0, 0, 0)), (42, .invokevirtual 80, 3, (194, 2, 0, 0)), (45, .istore_n 3, 1, (0, 0, 0, 0)), (46, .aload_n 0, 1, (0, 0, 0, 0)), (47, .iload_n 3, 1, (0, 0, 0, 0)), (48, .invokevirtual 128, 3, (221, 2, 0, 0)), (51, .istore 4, 2, (0, 0, 0, 0)), (53, .iconst 0, 1, (0, 0, 0, 0)), (54, .istore 5, 2, (0, 0, 0, 0)), (56, .iload 5, 2, (0, 0, 0, 0)), (58, .aload_n 0, 1, (0, 0, 0, 0)), (59, .iload_n 3, 1, (0, 0, 0, 0)), (60, .invokevirtual 115, 3, (195, 2, 0, 0)), (63, .if_icmp .ge 30, 3, (93, 0, 0, 0)), (66, .aload_n 0, 1, (0, 0, 0, 0)), (67, .iload_n 3, 1, (0, 0, 0, 0)), (68, .iload 5, 2, (0, 0, 0, 0)), (70, .invokevirtual 121, 3, (196, 3, 0, 0)), (73, .invokestatic 124, 3, (203, 1, 1, 0)), (76, .ifCond .eq 11, 3, (87, 0, 0, 0)), (79, .aload_n 0, 1, (0, 0, 0, 0)), (80, .iload_n 3, 1, (0, 0, 0, 0)), (81, .iload 5, 2, (0, 0, 0, 0)), (83, .iconst 0, 1, (0, 0, 0, 0)), (84, .invokevirtual 109, 3, (197, 4, 0, 0)), (87, .iinc 5 1, 3, (0, 0, 0, 0)), (90, .goto (-34), 3, (56, 0, 0, 0)), (93, .aload_n 0, 1, (0, 0, 0, 0)), (94, .getfield 7, 3, (10, 0, 1, 1)), (97, .iconst 4, 1, (0, 0, 0, 0)), (98, .dup2, 1, (0, 0, 0, 0)), (99, .iaload, 1, (0, 0, 0, 0)), (100, .iload 4, 2, (0, 0, 0, 0)), (102, .iadd, 1, (0, 0, 0, 0)), (103, .iastore, 1, (0, 0, 0, 0)), (104, .sipush 18920, 3, (0, 0, 0, 0)), (107, .iconst 3, 1, (0, 0, 0, 0))]
def k_222_1 : List VE := [(108, .aload_n 0, 1, (0, 0, 0, 0)), (109, .getfield 7, 3, (10, 0, 1, 1)), (112, .bipush 8, 2, (0, 0, 0, 0)), (114, .iaload, 1, (0, 0, 0, 0)), (115, .imul, 1, (0, 0, 0, 0)), (116, .iadd, 1, (0, 0, 0, 0)), (117, .istore 5, 2, (0, 0, 0, 0)), (119, .aload_n 0, 1, (0, 0, 0, 0)), (120, .getfield 7, 3, (10, 0, 1, 1)), (123, .iload 5, 2, (0, 0, 0, 0)), (125, .aload_n 0, 1, (0, 0, 0, 0)), (126, .getfield 131, 3, (10, 3, 0, 0)), (129, .iastore, 1, (0, 0, 0, 0)), (130, .aload_n 0, 1, (0, 0, 0, 0)), (131, .getfield 7, 3, (10, 0, 1, 1)), (134, .iload 5, 2, (0, 0, 0, 0)), (136, .iconst 1, 1, (0, 0, 0, 0)), (137, .iadd, 1, (0, 0, 0, 0)), (138, .iload_n 1, 1, (0, 0, 0, 0)), (139, .iastore, 1, (0, 0, 0, 0)), (140, .aload_n 0, 1, (0, 0, 0, 0)), (141, .getfield 7, 3, (10, 0, 1, 1)), (144, .iload 5, 2, (0, 0, 0, 0)), (146, .iconst 2, 1, (0, 0, 0, 0)), (147, .iadd, 1, (0, 0, 0, 0)), (148, .iload 4, 2, (0, 0, 0, 0)), (150, .iastore, 1, (0, 0, 0, 0)), (151, .aload_n 0, 1, (0, 0, 0, 0)), (152, .getfield 7, 3, (10, 0, 1, 1)), (155, .bipush 8, 2, (0, 0, 0, 0)), (157, .dup2, 1, (0, 0, 0, 0)), (158, .iaload, 1, (0, 0, 0, 0)), (159, .iconst 1, 1, (0, 0, 0, 0)), (160, .iadd, 1, (0, 0, 0, 0)), (161, .iastore, 1, (0, 0, 0, 0)), (162, .aload_n 0, 1, (0, 0, 0, 0)), (163, .dup, 1, (0, 0, 0, 0)), (164, .getfield 131, 3, (10, 3, 0, 0)), (167, .iconst 1, 1, (0, 0, 0, 0)), (168, .iadd, 1, (0, 0, 0, 0)), (169, .putfield 131, 3, (10, 3, 0, 0)), (172, .aload_n 0, 1, (0, 0, 0, 0)), (173, .iload 4, 2, (0, 0, 0, 0)), (175, .invokevirtual 103, 3, (187, 2, 0, 0)), (178, .ireturn, 1, (0, 0, 0, 0))]
def k_222 : List VE := (k_222_0 ++ (k_222_1))
def m_222 : VM := (RX10, yX10_harvest, cX10_harvest, 6, (some .int), 3, 66, k_222)
def k_223 : List VE := [(0, .iload_n 1, 1, (0, 0, 0, 0)), (1, .iconst 0, 1, (0, 0, 0, 0)), (2, .sipush 199, 3, (0, 0, 0, 0)), (5, .invokestatic 68, 3, (189, 3, 1, 0)), (8, .ifCond .ne 9, 3, (17, 0, 0, 0)), (11, .aload_n 0, 1, (0, 0, 0, 0)), (12, .iconst 2, 1, (0, 0, 0, 0)), (13, .invokevirtual 94, 3, (186, 2, 0, 0)), (16, .ireturn, 1, (0, 0, 0, 0)), (17, .iload_n 1, 1, (0, 0, 0, 0)), (18, .aload_n 0, 1, (0, 0, 0, 0)), (19, .getfield 7, 3, (10, 0, 1, 1)), (22, .bipush 8, 2, (0, 0, 0, 0)), (24, .iaload, 1, (0, 0, 0, 0)), (25, .if_icmp .lt 9, 3, (34, 0, 0, 0)), (28, .aload_n 0, 1, (0, 0, 0, 0)), (29, .iconst 1, 1, (0, 0, 0, 0)), (30, .invokevirtual 94, 3, (186, 2, 0, 0)), (33, .ireturn, 1, (0, 0, 0, 0)), (34, .iload_n 2, 1, (0, 0, 0, 0)), (35, .iconst 0, 1, (0, 0, 0, 0)), (36, .iconst 2, 1, (0, 0, 0, 0)), (37, .invokestatic 68, 3, (189, 3, 1, 0)), (40, .ifCond .eq 24, 3, (64, 0, 0, 0)), (43, .aload_n 0, 1, (0, 0, 0, 0)), (44, .aload_n 0, 1, (0, 0, 0, 0)), (45, .getfield 7, 3, (10, 0, 1, 1)), (48, .sipush 18920, 3, (0, 0, 0, 0)), (51, .iconst 3, 1, (0, 0, 0, 0)), (52, .iload_n 1, 1, (0, 0, 0, 0)), (53, .imul, 1, (0, 0, 0, 0)), (54, .iadd, 1, (0, 0, 0, 0)), (55, .iload_n 2, 1, (0, 0, 0, 0)), (56, .iadd, 1, (0, 0, 0, 0)), (57, .iaload, 1, (0, 0, 0, 0)), (58, .invokevirtual 103, 3, (187, 2, 0, 0)), (61, .goto 8, 3, (69, 0, 0, 0)), (64, .aload_n 0, 1, (0, 0, 0, 0)), (65, .iconst 2, 1, (0, 0, 0, 0)), (66, .invokevirtual 94, 3, (186, 2, 0, 0)), (69, .ireturn, 1, (0, 0, 0, 0))]
def m_223 : VM := (RX10, yX10_ledger, cX10_ledger, 3, (some .int), 1, 22, k_223)
def k_224 : List VE := [(0, .iload_n 1, 1, (0, 0, 0, 0)), (1, .ifCond .le 14, 3, (15, 0, 0, 0)), (4, .aload_n 0, 1, (0, 0, 0, 0)), (5, .getfield 7, 3, (10, 0, 1, 1)), (8, .iconst 4, 1, (0, 0, 0, 0)), (9, .iload_n 1, 1, (0, 0, 0, 0)), (10, .iadd, 1, (0, 0, 0, 0)), (11, .iconst 1, 1, (0, 0, 0, 0)), (12, .isub, 1, (0, 0, 0, 0)), (13, .iaload, 1, (0, 0, 0, 0)), (14, .ireturn, 1, (0, 0, 0, 0)), (15, .iconst 0, 1, (0, 0, 0, 0)), (16, .istore_n 2, 1, (0, 0, 0, 0)), (17, .iconst 0, 1, (0, 0, 0, 0)), (18, .istore_n 3, 1, (0, 0, 0, 0)), (19, .iload_n 3, 1, (0, 0, 0, 0)), (20, .aload_n 0, 1, (0, 0, 0, 0)), (21, .getfield 7, 3, (10, 0, 1, 1)), (24, .iconst 1, 1, (0, 0, 0, 0)), (25, .iaload, 1, (0, 0, 0, 0)), (26, .if_icmp .ge 17, 3, (43, 0, 0, 0)), (29, .iload_n 2, 1, (0, 0, 0, 0)), (30, .aload_n 0, 1, (0, 0, 0, 0)), (31, .iload_n 3, 1, (0, 0, 0, 0)), (32, .invokevirtual 128, 3, (221, 2, 0, 0)), (35, .iadd, 1, (0, 0, 0, 0)), (36, .istore_n 2, 1, (0, 0, 0, 0)), (37, .iinc 3 1, 3, (0, 0, 0, 0)), (40, .goto (-21), 3, (19, 0, 0, 0)), (43, .iload_n 2, 1, (0, 0, 0, 0)), (44, .ireturn, 1, (0, 0, 0, 0))]
def m_224 : VM := (RX10, yX10_honeyOf, cX10_honeyOf, 4, (some .int), 2, 45, k_224)
def k_225 : List VE := [(0, .iload_n 1, 1, (0, 0, 0, 0)), (1, .iconst 0, 1, (0, 0, 0, 0)), (2, .iconst 4, 1, (0, 0, 0, 0)), (3, .invokestatic 68, 3, (189, 3, 1, 0)), (6, .ifCond .eq 15, 3, (21, 0, 0, 0)), (9, .aload_n 0, 1, (0, 0, 0, 0)), (10, .aload_n 0, 1, (0, 0, 0, 0)), (11, .iload_n 1, 1, (0, 0, 0, 0)), (12, .invokevirtual 134, 3, (224, 2, 0, 0)), (15, .invokevirtual 103, 3, (187, 2, 0, 0)), (18, .goto 9, 3, (27, 0, 0, 0)), (21, .aload_n 0, 1, (0, 0, 0, 0)), (22, .bipush 6, 2, (0, 0, 0, 0)), (24, .invokevirtual 94, 3, (186, 2, 0, 0)), (27, .ireturn, 1, (0, 0, 0, 0))]
def m_225 : VM := (RX10, yX10_honey, cX10_honey, 2, (some .int), 3, 68, k_225)
def k_226 : List VE := [(0, .aload_n 0, 1, (0, 0, 0, 0)), (1, .iload_n 1, 1, (0, 0, 0, 0)), (2, .invokevirtual 112, 3, (201, 2, 0, 0)), (5, .aload_n 0, 1, (0, 0, 0, 0)), (6, .iload_n 2, 1, (0, 0, 0, 0)), (7, .invokevirtual 112, 3, (201, 2, 0, 0)), (10, .invokestatic 137, 3, (202, 2, 1, 0)), (13, .istore_n 3, 1, (0, 0, 0, 0)), (14, .iload_n 3, 1, (0, 0, 0, 0)), (15, .ifCond .le 7, 3, (22, 0, 0, 0)), (18, .iload_n 3, 1, (0, 0, 0, 0)), (19, .goto 29, 3, (48, 0, 0, 0)), (22, .aload_n 0, 1, (0, 0, 0, 0)), (23, .aload_n 0, 1, (0, 0, 0, 0)), (24, .iload_n 2, 1, (0, 0, 0, 0)), (25, .invokevirtual 80, 3, (194, 2, 0, 0)), (28, .invokevirtual 115, 3, (195, 2, 0, 0)), (31, .aload_n 0, 1, (0, 0, 0, 0)), (32, .aload_n 0, 1, (0, 0, 0, 0)), (33, .iload_n 1, 1, (0, 0, 0, 0)), (34, .invokevirtual 80, 3, (194, 2, 0, 0)), (37, .invokevirtual 115, 3, (195, 2, 0, 0)), (40, .if_icmp .ge 7, 3, (47, 0, 0, 0)), (43, .iconst 2, 1, (0, 0, 0, 0)), (44, .goto 4, 3, (48, 0, 0, 0)), (47, .iconst 0, 1, (0, 0, 0, 0)), (48, .ireturn, 1, (0, 0, 0, 0))]
def m_226 : VM := (RX10, yX10_moveWhy, cX10_moveWhy, 4, (some .int), 3, 66, k_226)
def k_227 : List VE := [(0, .iconst 0, 1, (0, 0, 0, 0)), (1, .istore_n 3, 1, (0, 0, 0, 0)), (2, .iload_n 3, 1, (0, 0, 0, 0)), (3, .aload_n 0, 1, (0, 0, 0, 0)), (4, .iload_n 1, 1, (0, 0, 0, 0)), (5, .invokevirtual 115, 3, (195, 2, 0, 0)), (8, .if_icmp .ge 60, 3, (68, 0, 0, 0)), (11, .aload_n 0, 1, (0, 0, 0, 0)), (12, .iload_n 2, 1, (0, 0, 0, 0)), (13, .iload_n 3, 1, (0, 0, 0, 0)), (14, .invokevirtual 121, 3, (196, 3, 0, 0)), (17, .istore 4, 2, (0, 0, 0, 0)), (19, .aload_n 0, 1, (0, 0, 0, 0)), (20, .getfield 7, 3, (10, 0, 1, 1)), (23, .bipush 6, 2, (0, 0, 0, 0)), (25, .dup2, 1, (0, 0, 0, 0)), (26, .iaload, 1, (0, 0, 0, 0)), (27, .iload 4, 2, (0, 0, 0, 0)), (29, .invokestatic 124, 3, (203, 1, 1, 0)), (32, .ifCond .eq 8, 3, (40, 0, 0, 0)), (35, .iload 4, 2, (0, 0, 0, 0)), (37, .goto 4, 3, (41, 0, 0, 0)), (40, .iconst 0, 1, (0, 0, 0, 0)), (41, .iadd, 1, (0, 0, 0, 0)), (42, .iastore, 1, (0, 0, 0, 0)), (43, .aload_n 0, 1, (0, 0, 0, 0)), (44, .iload_n 2, 1, (0, 0, 0, 0)), (45, .iload_n 3, 1, (0, 0, 0, 0)), (46, .aload_n 0, 1, (0, 0, 0, 0)), (47, .iload_n 1, 1, (0, 0, 0, 0)), (48, .iload_n 3, 1, (0, 0, 0, 0)), (49, .invokevirtual 121, 3, (196, 3, 0, 0)), (52, .invokevirtual 109, 3, (197, 4, 0, 0)), (55, .aload_n 0, 1, (0, 0, 0, 0)), (56, .iload_n 1, 1, (0, 0, 0, 0)), (57, .iload_n 3, 1, (0, 0, 0, 0)), (58, .iconst 0, 1, (0, 0, 0, 0)), (59, .invokevirtual 109, 3, (197, 4, 0, 0)), (62, .iinc 3 1, 3, (0, 0, 0, 0)), (65, .goto (-63), 3, (2, 0, 0, 0)), (68, .return_, 1, (0, 0, 0, 0))]
def m_227 : VM := (RX10, yX10_moveOne, cX10_moveOne, 5, none, 1, 23, k_227)
def k_228 : List VE := [(0, .iload_n 3, 1, (0, 0, 0, 0)), (1, .bipush 12, 2, (0, 0, 0, 0)), (3, .if_icmp .le 10, 3, (13, 0, 0, 0)), (6, .aload_n 0, 1, (0, 0, 0, 0)), (7, .bipush 6, 2, (0, 0, 0, 0)), (9, .invokevirtual 94, 3, (186, 2, 0, 0)), (12, .ireturn, 1, (0, 0, 0, 0)), (13, .iload_n 3, 1, (0, 0, 0, 0)), (14, .ifCond .ge 9, 3, (23, 0, 0, 0)), (17, .aload_n 0, 1, (0, 0, 0, 0)), (18, .iconst 5, 1, (0, 0, 0, 0)), (19, .invokevirtual 94, 3, (186, 2, 0, 0)), (22, .ireturn, 1, (0, 0, 0, 0)), (23, .aload_n 0, 1, (0, 0, 0, 0)), (24, .iconst 0, 1, (0, 0, 0, 0)), (25, .putfield 140, 3, (10, 6, 0, 0)), (28, .iconst 0, 1, (0, 0, 0, 0)), (29, .istore 4, 2, (0, 0, 0, 0)), (31, .aload_n 0, 1, (0, 0, 0, 0)), (32, .getfield 140, 3, (10, 6, 0, 0)), (35, .iload_n 3, 1, (0, 0, 0, 0)), (36, .if_icmp .ge 87, 3, (123, 0, 0, 0)), (39, .iload 4, 2, (0, 0, 0, 0)), (41, .ifCond .ne 82, 3, (123, 0, 0, 0)), (44, .aload_n 0, 1, (0, 0, 0, 0)), (45, .iload_n 1, 1, (0, 0, 0, 0)), (46, .aload_n 0, 1, (0, 0, 0, 0)), (47, .getfield 140, 3, (10, 6, 0, 0)), (50, .iadd, 1, (0, 0, 0, 0)), (51, .iload_n 2, 1, (0, 0, 0, 0)), (52, .aload_n 0, 1, (0, 0, 0, 0)), (53, .getfield 140, 3, (10, 6, 0, 0)), (56, .iadd, 1, (0, 0, 0, 0)), (57, .invokevirtual 143, 3, (226, 3, 0, 0)), (60, .istore 4, 2, (0, 0, 0, 0)), (62, .iload 4, 2, (0, 0, 0, 0)), (64, .ifCond .le 6, 3, (70, 0, 0, 0)), (67, .goto (-36), 3, (31, 0, 0, 0)), (70, .aload_n 0, 1, (0, 0, 0, 0)), (71, .getfield 140, 3, (10, 6, 0, 0)), (74, .ifCond .ne 7, 3, (81, 0, 0, 0)), (77, .aload_n 0, 1, (0, 0, 0, 0)), (78, .invokevirtual 97, 3, (188, 1, 0, 0)), (81, .iload_n 1, 1, (0, 0, 0, 0)), (82, .iload_n 2, 1, (0, 0, 0, 0)), (83, .if_icmp .eq 27, 3, (110, 0, 0, 0)), (86, .aload_n 0, 1, (0, 0, 0, 0)), (87, .aload_n 0, 1, (0, 0, 0, 0)), (88, .iload_n 1, 1, (0, 0, 0, 0)), (89, .aload_n 0, 1, (0, 0, 0, 0)), (90, .getfield 140, 3, (10, 6, 0, 0)), (93, .iadd, 1, (0, 0, 0, 0)), (94, .invokevirtual 80, 3, (194, 2, 0, 0)), (97, .aload_n 0, 1, (0, 0, 0, 0)), (98, .iload_n 2, 1, (0, 0, 0, 0)), (99, .aload_n 0, 1, (0, 0, 0, 0)), (100, .getfield 140, 3, (10, 6, 0, 0)), (103, .iadd, 1, (0, 0, 0, 0)), (104, .invokevirtual 80, 3, (194, 2, 0, 0)), (107, .invokevirtual 146, 3, (227, 3, 0, 0)), (110, .aload_n 0, 1, (0, 0, 0, 0)), (111, .dup, 1, (0, 0, 0, 0)), (112, .getfield 140, 3, (10, 6, 0, 0)), (115, .iconst 1, 1, (0, 0, 0, 0)), (116, .iadd, 1, (0, 0, 0, 0)), (117, .putfield 140, 3, (10, 6, 0, 0)), (120, .goto (-89), 3, (31, 0, 0, 0)), (123, .iload 4, 2, (0, 0, 0, 0)), (125, .ifCond .le 12, 3, (137, 0, 0, 0)), (128, .aload_n 0, 1, (0, 0, 0, 0)), (129, .iload 4, 2, (0, 0, 0, 0)), (131, .invokevirtual 94, 3, (186, 2, 0, 0)), (134, .goto 8, 3, (142, 0, 0, 0)), (137, .aload_n 0, 1, (0, 0, 0, 0)), (138, .iload_n 3, 1, (0, 0, 0, 0)), (139, .invokevirtual 103, 3, (187, 2, 0, 0)), (142, .ireturn, 1, (0, 0, 0, 0))]
def m_228 : VM := (RX10, yX10_move, cX10_move, 5, (some .int), 4, 89, k_228)
def k_229 : List VE := [(0, .aload_n 0, 1, (0, 0, 0, 0)), (1, .getfield 140, 3, (10, 6, 0, 0)), (4, .ireturn, 1, (0, 0, 0, 0))]
def m_229 : VM := (RX10, yX10_moved, cX10_moved, 1, (some .int), 0, 0, k_229)
def k_230 : List VE := [(0, .iconst 0, 1, (0, 0, 0, 0)), (1, .istore_n 3, 1, (0, 0, 0, 0)), (2, .iload_n 3, 1, (0, 0, 0, 0)), (3, .bipush 12, 2, (0, 0, 0, 0)), (5, .if_icmp .ge 52, 3, (57, 0, 0, 0)), (8, .aload_n 0, 1, (0, 0, 0, 0)), (9, .getfield 7, 3, (10, 0, 1, 1)), (12, .bipush 10, 2, (0, 0, 0, 0)), (14, .bipush 12, 2, (0, 0, 0, 0)), (16, .iload_n 2, 1, (0, 0, 0, 0)), (17, .imul, 1, (0, 0, 0, 0)), (18, .iadd, 1, (0, 0, 0, 0)), (19, .iload_n 3, 1, (0, 0, 0, 0)), (20, .iadd, 1, (0, 0, 0, 0)), (21, .aload_n 0, 1, (0, 0, 0, 0)), (22, .getfield 7, 3, (10, 0, 1, 1)), (25, .bipush 10, 2, (0, 0, 0, 0)), (27, .bipush 12, 2, (0, 0, 0, 0)), (29, .iload_n 1, 1, (0, 0, 0, 0)), (30, .imul, 1, (0, 0, 0, 0)), (31, .iadd, 1, (0, 0, 0, 0)), (32, .iload_n 3, 1, (0, 0, 0, 0)), (33, .iadd, 1, (0, 0, 0, 0)), (34, .iaload, 1, (0, 0, 0, 0)), (35, .iastore, 1, (0, 0, 0, 0)), (36, .aload_n 0, 1, (0, 0, 0, 0)), (37, .getfield 7, 3, (10, 0, 1, 1)), (40, .bipush 10, 2, (0, 0, 0, 0)), (42, .bipush 12, 2, (0, 0, 0, 0)), (44, .iload_n 1, 1, (0, 0, 0, 0)), (45, .imul, 1, (0, 0, 0, 0)), (46, .iadd, 1, (0, 0, 0, 0)), (47, .iload_n 3, 1, (0, 0, 0, 0)), (48, .iadd, 1, (0, 0, 0, 0)), (49, .iconst (-1), 1, (0, 0, 0, 0)), (50, .iastore, 1, (0, 0, 0, 0)), (51, .iinc 3 1, 3, (0, 0, 0, 0)), (54, .goto (-52), 3, (2, 0, 0, 0)), (57, .return_, 1, (0, 0, 0, 0))]
def m_230 : VM := (RX10, yX10_carry, cX10_carry, 4, none, 0, 0, k_230)
def k_231 : List VE := [(0, .aload_n 0, 1, (0, 0, 0, 0)), (1, .iload_n 1, 1, (0, 0, 0, 0)), (2, .bipush 10, 2, (0, 0, 0, 0)), (4, .invokevirtual 72, 3, (190, 3, 0, 0)), (7, .istore 4, 2, (0, 0, 0, 0)), (9, .aload_n 0, 1, (0, 0, 0, 0)), (10, .iload_n 3, 1, (0, 0, 0, 0)), (11, .bipush 10, 2, (0, 0, 0, 0)), (13, .invokevirtual 72, 3, (190, 3, 0, 0)), (16, .istore 5, 2, (0, 0, 0, 0)), (18, .iload_n 2, 1, (0, 0, 0, 0)), (19, .istore 6, 2, (0, 0, 0, 0)), (21, .iload 6, 2, (0, 0, 0, 0)), (23, .iload 4, 2, (0, 0, 0, 0)), (25, .if_icmp .ge 32, 3, (57, 0, 0, 0)), (28, .aload_n 0, 1, (0, 0, 0, 0)), (29, .bipush 8, 2, (0, 0, 0, 0)), (31, .iload_n 1, 1, (0, 0, 0, 0)), (32, .imul, 1, (0, 0, 0, 0)), (33, .iload 6, 2, (0, 0, 0, 0)), (35, .iadd, 1, (0, 0, 0, 0)), (36, .bipush 8, 2, (0, 0, 0, 0)), (38, .iload_n 3, 1, (0, 0, 0, 0)), (39, .imul, 1, (0, 0, 0, 0)), (40, .iload 5, 2, (0, 0, 0, 0)), (42, .iadd, 1, (0, 0, 0, 0)), (43, .iload 6, 2, (0, 0, 0, 0)), (45, .iadd, 1, (0, 0, 0, 0)), (46, .iload_n 2, 1, (0, 0, 0, 0)), (47, .isub, 1, (0, 0, 0, 0)), (48, .invokevirtual 150, 3, (230, 3, 0, 0)), (51, .iinc 6 1, 3, (0, 0, 0, 0)), (54, .goto (-33), 3, (21, 0, 0, 0)), (57, .aload_n 0, 1, (0, 0, 0, 0)), (58, .iload_n 1, 1, (0, 0, 0, 0)), (59, .bipush 10, 2, (0, 0, 0, 0)), (61, .iload_n 2, 1, (0, 0, 0, 0)), (62, .invokevirtual 100, 3, (191, 4, 0, 0)), (65, .aload_n 0, 1, (0, 0, 0, 0)), (66, .iload_n 3, 1, (0, 0, 0, 0)), (67, .bipush 10, 2, (0, 0, 0, 0)), (69, .iload 5, 2, (0, 0, 0, 0)), (71, .iload 4, 2, (0, 0, 0, 0)), (73, .iadd, 1, (0, 0, 0, 0)), (74, .iload_n 2, 1, (0, 0, 0, 0)), (75, .isub, 1, (0, 0, 0, 0)), (76, .invokevirtual 100, 3, (191, 4, 0, 0)), (79, .return_, 1, (0, 0, 0, 0))]
def m_231 : VM := (RX10, yX10_carryFrom, cX10_carryFrom, 7, none, 1, 23, k_231)
def k_232 : List VE := [(0, .aload_n 0, 1, (0, 0, 0, 0)), (1, .iload_n 1, 1, (0, 0, 0, 0)), (2, .invokevirtual 106, 3, (198, 2, 0, 0)), (5, .aload_n 0, 1, (0, 0, 0, 0)), (6, .iload_n 2, 1, (0, 0, 0, 0)), (7, .invokevirtual 106, 3, (198, 2, 0, 0)), (10, .invokestatic 137, 3, (202, 2, 1, 0)), (13, .istore_n 3, 1, (0, 0, 0, 0)), (14, .iload_n 3, 1, (0, 0, 0, 0)), (15, .ifCond .ne 15, 3, (30, 0, 0, 0)), (18, .aload_n 0, 1, (0, 0, 0, 0)), (19, .iload_n 1, 1, (0, 0, 0, 0)), (20, .bipush 10, 2, (0, 0, 0, 0)), (22, .invokevirtual 72, 3, (190, 3, 0, 0)), (25, .ifCond .ne 5, 3, (30, 0, 0, 0)), (28, .iconst 2, 1, (0, 0, 0, 0)), (29, .istore_n 3, 1, (0, 0, 0, 0)), (30, .iload_n 3, 1, (0, 0, 0, 0)), (31, .ifCond .ne 23, 3, (54, 0, 0, 0)), (34, .iload_n 2, 1, (0, 0, 0, 0)), (35, .iload_n 1, 1, (0, 0, 0, 0)), (36, .if_icmp .eq 15, 3, (51, 0, 0, 0)), (39, .aload_n 0, 1, (0, 0, 0, 0)), (40, .iload_n 2, 1, (0, 0, 0, 0)), (41, .bipush 10, 2, (0, 0, 0, 0)), (43, .invokevirtual 72, 3, (190, 3, 0, 0)), (46, .bipush 8, 2, (0, 0, 0, 0)), (48, .if_icmp .ne 6, 3, (54, 0, 0, 0)), (51, .bipush 6, 2, (0, 0, 0, 0)), (53, .istore_n 3, 1, (0, 0, 0, 0)), (54, .iload_n 3, 1, (0, 0, 0, 0)), (55, .ifCond .le 9, 3, (64, 0, 0, 0)), (58, .aload_n 0, 1, (0, 0, 0, 0)), (59, .iload_n 3, 1, (0, 0, 0, 0)), (60, .invokevirtual 94, 3, (186, 2, 0, 0)), (63, .ireturn, 1, (0, 0, 0, 0)), (64, .aload_n 0, 1, (0, 0, 0, 0)), (65, .invokevirtual 97, 3, (188, 1, 0, 0)), (68, .aload_n 0, 1, (0, 0, 0, 0)), (69, .iload_n 2, 1, (0, 0, 0, 0)), (70, .bipush 10, 2, (0, 0, 0, 0)), (72, .invokevirtual 72, 3, (190, 3, 0, 0)), (75, .istore 4, 2, (0, 0, 0, 0)), (77, .aload_n 0, 1, (0, 0, 0, 0)), (78, .iload_n 1, 1, (0, 0, 0, 0)), (79, .aload_n 0, 1, (0, 0, 0, 0)), (80, .iload_n 1, 1, (0, 0, 0, 0)), (81, .bipush 10, 2, (0, 0, 0, 0)), (83, .invokevirtual 72, 3, (190, 3, 0, 0)), (86, .iconst 1, 1, (0, 0, 0, 0)), (87, .isub, 1, (0, 0, 0, 0)), (88, .iload_n 2, 1, (0, 0, 0, 0)), (89, .invokevirtual 153, 3, (231, 4, 0, 0)), (92, .aload_n 0, 1, (0, 0, 0, 0)), (93, .iload 4, 2, (0, 0, 0, 0)), (95, .invokevirtual 103, 3, (187, 2, 0, 0)), (98, .ireturn, 1, (0, 0, 0, 0))]
def m_232 : VM := (RX10, yX10_stack, cX10_stack, 5, (some .int), 2, 49, k_232)
def k_233_0 : List VE := [(0, .aload_n 0, 1, (0, 0, 0, 0)), (1, .iload_n 1, 1, (0, 0, 0, 0)), (2, .invokevirtual 106, 3, (198, 2, 0, 0)), (5, .aload_n 0, 1, (0, 0, 0, 0)), (6, .iload_n 2, 1, (0, 0, 0, 0)), (7, .invokevirtual 106, 3, (198, 2, 0, 0)), (10, .invokestatic 137, 3, (202, 2, 1, 0)), (13, .istore_n 3, 1, (0, 0, 0, 0)), (14, .iload_n 3, 1, (0, 0, 0, 0)), (15, .ifCond .ne 31, 3, (46, 0, 0, 0)), (18, .iload_n 2, 1, (0, 0, 0, 0)), (19, .iload_n 1, 1, (0, 0, 0, 0)), (20, .if_icmp .eq 23, 3, (43, 0, 0, 0)), (23, .aload_n 0, 1, (0, 0, 0, 0)), (24, .iload_n 1, 1, (0, 0, 0, 0)), (25, .bipush 10, 2, (0, 0, 0, 0)), (27, .invokevirtual 72, 3, (190, 3, 0, 0)), (30, .aload_n 0, 1, (0, 0, 0, 0)), (31, .iload_n 2, 1, (0, 0, 0, 0)), (32, .bipush 10, 2, (0, 0, 0, 0)), (34, .invokevirtual 72, 3, (190, 3, 0, 0)), (37, .iadd, 1, (0, 0, 0, 0)), (38, .bipush 8, 2, (0, 0, 0, 0)), (40, .if_icmp .le 6, 3, (46, 0, 0, 0)), (43, .bipush 6, 2, (0, 0, 0, 0)), (45, .istore_n 3, 1, (0, 0, 0, 0)), (46, .iload_n 3, 1, (0, 0, 0, 0)), (47, .ifCond .le 9, 3, (56, 0, 0, 0)), (50, .aload_n 0, 1, (0, 0, 0, 0)), (51, .iload_n 3, 1, (0, 0, 0, 0)), (52, .invokevirtual 94, 3, (186, 2, 0, 0)), (55, .ireturn, 1, (0, 0, 0, 0)), (56, .aload_n 0, 1, (0, 0, 0, 0)), (57, .invokevirtual 97, 3, (188, 1, 0, 0)), (60, .aload_n 0, 1, (0, 0, 0, 0)), (61, .iload_n 1, 1, (0, 0, 0, 0)), (62, .bipush 10, 2, (0, 0, 0, 0)), (64, .invokevirtual 72, 3, (190, 3, 0, 0)), (67, .istore 4, 2, (0, 0, 0, 0)), (69, .aload_n 0, 1, (0, 0, 0, 0)), (70, .iload_n 2, 1, (0, 0, 0, 0)), (71, .iconst 0, 1, (0, 0, 0, 0)), (72, .iload_n 1, 1, (0, 0, 0, 0)), (73, .invokevirtual 153, 3, (231, 4, 0, 0)), (76, .iconst 0, 1, (0, 0, 0, 0)), (77, .istore 5, 2, (0, 0, 0, 0)), (79, .iload 5, 2, (0, 0, 0, 0)), (81, .bipush 6, 2, (0, 0, 0, 0)), (83, .if_icmp .gt 48, 3, (131, 0, 0, 0)), (86, .iload 5, 2, (0, 0, 0, 0)), (88, .iconst 3, 1, (0, 0, 0, 0)), (89, .if_icmp .ne 6, 3, (95, 0, 0, 0)), (92, .goto 33, 3, (125, 0, 0, 0)), (95, .aload_n 0, 1, (0, 0, 0, 0)), (96, .iload_n 1, 1, (0, 0, 0, 0)), (97, .iload 5, 2, (0, 0, 0, 0)), (99, .aload_n 0, 1, (0, 0, 0, 0)), (100, .iload_n 1, 1, (0, 0, 0, 0)), (101, .iload 5, 2, (0, 0, 0, 0)), (103, .invokevirtual 72, 3, (190, 3, 0, 0))]
def k_233_1 : List VE := [(106, .aload_n 0, 1, (0, 0, 0, 0)), (107, .iload_n 2, 1, (0, 0, 0, 0)), (108, .iload 5, 2, (0, 0, 0, 0)), (110, .invokevirtual 72, 3, (190, 3, 0, 0)), (113, .iadd, 1, (0, 0, 0, 0)), (114, .invokevirtual 100, 3, (191, 4, 0, 0)), (117, .aload_n 0, 1, (0, 0, 0, 0)), (118, .iload_n 2, 1, (0, 0, 0, 0)), (119, .iload 5, 2, (0, 0, 0, 0)), (121, .iconst 0, 1, (0, 0, 0, 0)), (122, .invokevirtual 100, 3, (191, 4, 0, 0)), (125, .iinc 5 1, 3, (0, 0, 0, 0)), (128, .goto (-49), 3, (79, 0, 0, 0)), (131, .aload_n 0, 1, (0, 0, 0, 0)), (132, .iload_n 1, 1, (0, 0, 0, 0)), (133, .iconst 3, 1, (0, 0, 0, 0)), (134, .invokevirtual 72, 3, (190, 3, 0, 0)), (137, .ifCond .ge 15, 3, (152, 0, 0, 0)), (140, .aload_n 0, 1, (0, 0, 0, 0)), (141, .iload_n 1, 1, (0, 0, 0, 0)), (142, .iconst 3, 1, (0, 0, 0, 0)), (143, .aload_n 0, 1, (0, 0, 0, 0)), (144, .iload_n 2, 1, (0, 0, 0, 0)), (145, .iconst 3, 1, (0, 0, 0, 0)), (146, .invokevirtual 72, 3, (190, 3, 0, 0)), (149, .invokevirtual 100, 3, (191, 4, 0, 0)), (152, .aload_n 0, 1, (0, 0, 0, 0)), (153, .iload_n 2, 1, (0, 0, 0, 0)), (154, .iconst 3, 1, (0, 0, 0, 0)), (155, .iconst (-1), 1, (0, 0, 0, 0)), (156, .invokevirtual 100, 3, (191, 4, 0, 0)), (159, .aload_n 0, 1, (0, 0, 0, 0)), (160, .iload 4, 2, (0, 0, 0, 0)), (162, .invokevirtual 103, 3, (187, 2, 0, 0)), (165, .ireturn, 1, (0, 0, 0, 0))]
def k_233 : List VE := (k_233_0 ++ (k_233_1))
def m_233 : VM := (RX10, yX10_join, cX10_join, 6, (some .int), 2, 49, k_233)
def k_234_0 : List VE := [(0, .aload_n 0, 1, (0, 0, 0, 0)), (1, .iload_n 1, 1, (0, 0, 0, 0)), (2, .invokevirtual 106, 3, (198, 2, 0, 0)), (5, .aload_n 0, 1, (0, 0, 0, 0)), (6, .iload_n 3, 1, (0, 0, 0, 0)), (7, .invokevirtual 106, 3, (198, 2, 0, 0)), (10, .invokestatic 137, 3, (202, 2, 1, 0)), (13, .istore 4, 2, (0, 0, 0, 0)), (15, .iload 4, 2, (0, 0, 0, 0)), (17, .ifCond .ne 22, 3, (39, 0, 0, 0)), (20, .iload_n 3, 1, (0, 0, 0, 0)), (21, .iload_n 1, 1, (0, 0, 0, 0)), (22, .if_icmp .eq 13, 3, (35, 0, 0, 0)), (25, .aload_n 0, 1, (0, 0, 0, 0)), (26, .iload_n 3, 1, (0, 0, 0, 0)), (27, .bipush 10, 2, (0, 0, 0, 0)), (29, .invokevirtual 72, 3, (190, 3, 0, 0)), (32, .ifCond .le 7, 3, (39, 0, 0, 0)), (35, .bipush 6, 2, (0, 0, 0, 0)), (37, .istore 4, 2, (0, 0, 0, 0)), (39, .iload 4, 2, (0, 0, 0, 0)), (41, .ifCond .ne 21, 3, (62, 0, 0, 0)), (44, .iload_n 2, 1, (0, 0, 0, 0)), (45, .iconst 0, 1, (0, 0, 0, 0)), (46, .aload_n 0, 1, (0, 0, 0, 0)), (47, .iload_n 1, 1, (0, 0, 0, 0)), (48, .bipush 10, 2, (0, 0, 0, 0)), (50, .invokevirtual 72, 3, (190, 3, 0, 0)), (53, .invokestatic 68, 3, (189, 3, 1, 0)), (56, .ifCond .ne 6, 3, (62, 0, 0, 0)), (59, .iconst 2, 1, (0, 0, 0, 0)), (60, .istore 4, 2, (0, 0, 0, 0)), (62, .iload 4, 2, (0, 0, 0, 0)), (64, .ifCond .ne 16, 3, (80, 0, 0, 0)), (67, .aload_n 0, 1, (0, 0, 0, 0)), (68, .iload_n 1, 1, (0, 0, 0, 0)), (69, .bipush 10, 2, (0, 0, 0, 0)), (71, .invokevirtual 72, 3, (190, 3, 0, 0)), (74, .ifCond .ne 6, 3, (80, 0, 0, 0)), (77, .iconst 4, 1, (0, 0, 0, 0)), (78, .istore 4, 2, (0, 0, 0, 0)), (80, .iload 4, 2, (0, 0, 0, 0)), (82, .ifCond .le 10, 3, (92, 0, 0, 0)), (85, .aload_n 0, 1, (0, 0, 0, 0)), (86, .iload 4, 2, (0, 0, 0, 0)), (88, .invokevirtual 94, 3, (186, 2, 0, 0)), (91, .ireturn, 1, (0, 0, 0, 0)), (92, .aload_n 0, 1, (0, 0, 0, 0)), (93, .invokevirtual 97, 3, (188, 1, 0, 0)), (96, .aload_n 0, 1, (0, 0, 0, 0)), (97, .iload_n 1, 1, (0, 0, 0, 0)), (98, .bipush 10, 2, (0, 0, 0, 0)), (100, .invokevirtual 72, 3, (190, 3, 0, 0)), (103, .istore 5, 2, (0, 0, 0, 0)), (105, .iconst 0, 1, (0, 0, 0, 0)), (106, .istore 6, 2, (0, 0, 0, 0)), (108, .iload 6, 2, (0, 0, 0, 0)), (110, .iconst 1, 1, (0, 0, 0, 0)), (111, .if_icmp .gt 64, 3, (175, 0, 0, 0)), (114, .aload_n 0, 1, (0, 0, 0, 0))]
def k_234_1 : List VE := [(115, .iload_n 1, 1, (0, 0, 0, 0)), (116, .iload 6, 2, (0, 0, 0, 0)), (118, .invokevirtual 72, 3, (190, 3, 0, 0)), (121, .i2l, 1, (0, 0, 0, 0)), (122, .iload 5, 2, (0, 0, 0, 0)), (124, .iload_n 2, 1, (0, 0, 0, 0)), (125, .isub, 1, (0, 0, 0, 0)), (126, .i2l, 1, (0, 0, 0, 0)), (127, .lmul, 1, (0, 0, 0, 0)), (128, .iload 5, 2, (0, 0, 0, 0)), (130, .i2l, 1, (0, 0, 0, 0)), (131, .ldiv, 1, (0, 0, 0, 0)), (132, .l2i, 1, (0, 0, 0, 0)), (133, .istore 7, 2, (0, 0, 0, 0)), (135, .aload_n 0, 1, (0, 0, 0, 0)), (136, .iload_n 1, 1, (0, 0, 0, 0)), (137, .iload 6, 2, (0, 0, 0, 0)), (139, .aload_n 0, 1, (0, 0, 0, 0)), (140, .iload_n 1, 1, (0, 0, 0, 0)), (141, .iload 6, 2, (0, 0, 0, 0)), (143, .invokevirtual 72, 3, (190, 3, 0, 0)), (146, .iload 7, 2, (0, 0, 0, 0)), (148, .isub, 1, (0, 0, 0, 0)), (149, .invokevirtual 100, 3, (191, 4, 0, 0)), (152, .aload_n 0, 1, (0, 0, 0, 0)), (153, .iload_n 3, 1, (0, 0, 0, 0)), (154, .iload 6, 2, (0, 0, 0, 0)), (156, .aload_n 0, 1, (0, 0, 0, 0)), (157, .iload_n 3, 1, (0, 0, 0, 0)), (158, .iload 6, 2, (0, 0, 0, 0)), (160, .invokevirtual 72, 3, (190, 3, 0, 0)), (163, .iload 7, 2, (0, 0, 0, 0)), (165, .iadd, 1, (0, 0, 0, 0)), (166, .invokevirtual 100, 3, (191, 4, 0, 0)), (169, .iinc 6 1, 3, (0, 0, 0, 0)), (172, .goto (-64), 3, (108, 0, 0, 0)), (175, .aload_n 0, 1, (0, 0, 0, 0)), (176, .iload_n 1, 1, (0, 0, 0, 0)), (177, .iload_n 2, 1, (0, 0, 0, 0)), (178, .iload_n 3, 1, (0, 0, 0, 0)), (179, .invokevirtual 153, 3, (231, 4, 0, 0)), (182, .aload_n 0, 1, (0, 0, 0, 0)), (183, .iload 5, 2, (0, 0, 0, 0)), (185, .iload_n 2, 1, (0, 0, 0, 0)), (186, .isub, 1, (0, 0, 0, 0)), (187, .invokevirtual 103, 3, (187, 2, 0, 0)), (190, .ireturn, 1, (0, 0, 0, 0))]
def k_234 : List VE := (k_234_0 ++ (k_234_1))
def m_234 : VM := (RX10, yX10_split, cX10_split, 8, (some .int), 2, 49, k_234)
def k_235 : List VE := [(0, .aload_n 0, 1, (0, 0, 0, 0)), (1, .getfield 7, 3, (10, 0, 1, 1)), (4, .iconst 2, 1, (0, 0, 0, 0)), (5, .iaload, 1, (0, 0, 0, 0)), (6, .istore_n 2, 1, (0, 0, 0, 0)), (7, .iconst 0, 1, (0, 0, 0, 0)), (8, .istore_n 3, 1, (0, 0, 0, 0)), (9, .iload_n 3, 1, (0, 0, 0, 0)), (10, .bipush 8, 2, (0, 0, 0, 0)), (12, .if_icmp .ge 16, 3, (28, 0, 0, 0)), (15, .aload_n 0, 1, (0, 0, 0, 0)), (16, .iload_n 2, 1, (0, 0, 0, 0)), (17, .iload_n 3, 1, (0, 0, 0, 0)), (18, .iconst 0, 1, (0, 0, 0, 0)), (19, .invokevirtual 90, 3, (193, 4, 0, 0)), (22, .iinc 3 1, 3, (0, 0, 0, 0)), (25, .goto (-16), 3, (9, 0, 0, 0)), (28, .aload_n 0, 1, (0, 0, 0, 0)), (29, .iload_n 2, 1, (0, 0, 0, 0)), (30, .iconst 0, 1, (0, 0, 0, 0)), (31, .iload_n 1, 1, (0, 0, 0, 0)), (32, .invokevirtual 90, 3, (193, 4, 0, 0)), (35, .aload_n 0, 1, (0, 0, 0, 0)), (36, .iload_n 2, 1, (0, 0, 0, 0)), (37, .iconst 2, 1, (0, 0, 0, 0)), (38, .iconst (-1), 1, (0, 0, 0, 0)), (39, .invokevirtual 90, 3, (193, 4, 0, 0)), (42, .aload_n 0, 1, (0, 0, 0, 0)), (43, .iload_n 2, 1, (0, 0, 0, 0)), (44, .iconst 3, 1, (0, 0, 0, 0)), (45, .iconst (-1), 1, (0, 0, 0, 0)), (46, .invokevirtual 90, 3, (193, 4, 0, 0)), (49, .aload_n 0, 1, (0, 0, 0, 0)), (50, .iload_n 2, 1, (0, 0, 0, 0)), (51, .iconst 5, 1, (0, 0, 0, 0)), (52, .iconst (-1), 1, (0, 0, 0, 0)), (53, .invokevirtual 90, 3, (193, 4, 0, 0)), (56, .aload_n 0, 1, (0, 0, 0, 0)), (57, .iload_n 2, 1, (0, 0, 0, 0)), (58, .bipush 7, 2, (0, 0, 0, 0)), (60, .iconst (-1), 1, (0, 0, 0, 0)), (61, .invokevirtual 90, 3, (193, 4, 0, 0)), (64, .aload_n 0, 1, (0, 0, 0, 0)), (65, .getfield 7, 3, (10, 0, 1, 1)), (68, .iconst 2, 1, (0, 0, 0, 0)), (69, .dup2, 1, (0, 0, 0, 0)), (70, .iaload, 1, (0, 0, 0, 0)), (71, .iconst 1, 1, (0, 0, 0, 0)), (72, .iadd, 1, (0, 0, 0, 0)), (73, .iastore, 1, (0, 0, 0, 0)), (74, .iload_n 2, 1, (0, 0, 0, 0)), (75, .ireturn, 1, (0, 0, 0, 0))]
def m_235 : VM := (RX10, yX10_newThing, cX10_newThing, 4, (some .int), 1, 23, k_235)
def k_236 : List VE := [(0, .iload_n 1, 1, (0, 0, 0, 0)), (1, .iconst 0, 1, (0, 0, 0, 0)), (2, .iconst 3, 1, (0, 0, 0, 0)), (3, .invokestatic 68, 3, (189, 3, 1, 0)), (6, .ifCond .eq 15, 3, (21, 0, 0, 0)), (9, .aload_n 0, 1, (0, 0, 0, 0)), (10, .getfield 7, 3, (10, 0, 1, 1)), (13, .iconst 2, 1, (0, 0, 0, 0)), (14, .iaload, 1, (0, 0, 0, 0)), (15, .sipush 200, 3, (0, 0, 0, 0)), (18, .if_icmp .ne 10, 3, (28, 0, 0, 0)), (21, .aload_n 0, 1, (0, 0, 0, 0)), (22, .bipush 6, 2, (0, 0, 0, 0)), (24, .invokevirtual 94, 3, (186, 2, 0, 0)), (27, .ireturn, 1, (0, 0, 0, 0)), (28, .aload_n 0, 1, (0, 0, 0, 0)), (29, .invokevirtual 97, 3, (188, 1, 0, 0)), (32, .aload_n 0, 1, (0, 0, 0, 0)), (33, .aload_n 0, 1, (0, 0, 0, 0)), (34, .iload_n 1, 1, (0, 0, 0, 0)), (35, .invokevirtual 156, 3, (235, 2, 0, 0)), (38, .invokevirtual 103, 3, (187, 2, 0, 0)), (41, .ireturn, 1, (0, 0, 0, 0))]
def m_236 : VM := (RX10, yX10_thing, cX10_thing, 2, (some .int), 2, 46, k_236)
def k_237_0 : List VE := [(0, .aload_n 0, 1, (0, 0, 0, 0)), (1, .getfield 7, 3, (10, 0, 1, 1)), (4, .iconst 2, 1, (0, 0, 0, 0)), (5, .iaload, 1, (0, 0, 0, 0)), (6, .istore_n 2, 1, (0, 0, 0, 0)), (7, .iconst 0, 1, (0, 0, 0, 0)), (8, .istore_n 3, 1, (0, 0, 0, 0)), (9, .iload_n 3, 1, (0, 0, 0, 0)), (10, .iload_n 2, 1, (0, 0, 0, 0)), (11, .if_icmp .ge 16, 3, (27, 0, 0, 0)), (14, .aload_n 0, 1, (0, 0, 0, 0)), (15, .getfield 38, 3, (10, 13, 1, 1)), (18, .iload_n 3, 1, (0, 0, 0, 0)), (19, .iconst 0, 1, (0, 0, 0, 0)), (20, .iastore, 1, (0, 0, 0, 0)), (21, .iinc 3 1, 3, (0, 0, 0, 0)), (24, .goto (-15), 3, (9, 0, 0, 0)), (27, .iconst 1, 1, (0, 0, 0, 0)), (28, .istore_n 3, 1, (0, 0, 0, 0)), (29, .iload_n 3, 1, (0, 0, 0, 0)), (30, .ifCond .eq 126, 3, (156, 0, 0, 0)), (33, .iconst 0, 1, (0, 0, 0, 0)), (34, .istore_n 3, 1, (0, 0, 0, 0)), (35, .iconst 0, 1, (0, 0, 0, 0)), (36, .istore 4, 2, (0, 0, 0, 0)), (38, .iload 4, 2, (0, 0, 0, 0)), (40, .iload_n 2, 1, (0, 0, 0, 0)), (41, .if_icmp .ge 112, 3, (153, 0, 0, 0)), (44, .aload_n 0, 1, (0, 0, 0, 0)), (45, .iload 4, 2, (0, 0, 0, 0)), (47, .iconst 2, 1, (0, 0, 0, 0)), (48, .invokevirtual 83, 3, (192, 3, 0, 0)), (51, .istore 5, 2, (0, 0, 0, 0)), (53, .aload_n 0, 1, (0, 0, 0, 0)), (54, .iload 4, 2, (0, 0, 0, 0)), (56, .iconst 3, 1, (0, 0, 0, 0)), (57, .invokevirtual 83, 3, (192, 3, 0, 0)), (60, .istore 6, 2, (0, 0, 0, 0)), (62, .iload 5, 2, (0, 0, 0, 0)), (64, .ifCond .lt 15, 3, (79, 0, 0, 0)), (67, .aload_n 0, 1, (0, 0, 0, 0)), (68, .getfield 38, 3, (10, 13, 1, 1)), (71, .iload 5, 2, (0, 0, 0, 0)), (73, .iaload, 1, (0, 0, 0, 0)), (74, .iconst 1, 1, (0, 0, 0, 0)), (75, .iadd, 1, (0, 0, 0, 0)), (76, .goto 4, 3, (80, 0, 0, 0)), (79, .iconst 0, 1, (0, 0, 0, 0)), (80, .istore 7, 2, (0, 0, 0, 0)), (82, .iload 6, 2, (0, 0, 0, 0)), (84, .ifCond .lt 27, 3, (111, 0, 0, 0)), (87, .aload_n 0, 1, (0, 0, 0, 0)), (88, .getfield 38, 3, (10, 13, 1, 1)), (91, .iload 6, 2, (0, 0, 0, 0)), (93, .iaload, 1, (0, 0, 0, 0)), (94, .iload 7, 2, (0, 0, 0, 0)), (96, .if_icmp .lt 15, 3, (111, 0, 0, 0)), (99, .aload_n 0, 1, (0, 0, 0, 0)), (100, .getfield 38, 3, (10, 13, 1, 1)), (103, .iload 6, 2, (0, 0, 0, 0))]
def k_237_1 : List VE := [(105, .iaload, 1, (0, 0, 0, 0)), (106, .iconst 1, 1, (0, 0, 0, 0)), (107, .iadd, 1, (0, 0, 0, 0)), (108, .goto 5, 3, (113, 0, 0, 0)), (111, .iload 7, 2, (0, 0, 0, 0)), (113, .istore 7, 2, (0, 0, 0, 0)), (115, .iload 7, 2, (0, 0, 0, 0)), (117, .aload_n 0, 1, (0, 0, 0, 0)), (118, .getfield 38, 3, (10, 13, 1, 1)), (121, .iload 4, 2, (0, 0, 0, 0)), (123, .iaload, 1, (0, 0, 0, 0)), (124, .if_icmp .le 23, 3, (147, 0, 0, 0)), (127, .iload 7, 2, (0, 0, 0, 0)), (129, .iload_n 1, 1, (0, 0, 0, 0)), (130, .if_icmp .le 6, 3, (136, 0, 0, 0)), (133, .goto 14, 3, (147, 0, 0, 0)), (136, .aload_n 0, 1, (0, 0, 0, 0)), (137, .getfield 38, 3, (10, 13, 1, 1)), (140, .iload 4, 2, (0, 0, 0, 0)), (142, .iload 7, 2, (0, 0, 0, 0)), (144, .iastore, 1, (0, 0, 0, 0)), (145, .iconst 1, 1, (0, 0, 0, 0)), (146, .istore_n 3, 1, (0, 0, 0, 0)), (147, .iinc 4 1, 3, (0, 0, 0, 0)), (150, .goto (-112), 3, (38, 0, 0, 0)), (153, .goto (-124), 3, (29, 0, 0, 0)), (156, .return_, 1, (0, 0, 0, 0))]
def k_237 : List VE := (k_237_0 ++ (k_237_1))
def m_237 : VM := (RX10, yX10_reckonDepths, cX10_reckonDepths, 8, none, 1, 22, k_237)
def k_238 : List VE := [(0, .iload_n 1, 1, (0, 0, 0, 0)), (1, .ifCond .ge 4, 3, (5, 0, 0, 0)), (4, .return_, 1, (0, 0, 0, 0)), (5, .aload_n 0, 1, (0, 0, 0, 0)), (6, .getfield 45, 3, (10, 15, 1, 1)), (9, .iload_n 1, 1, (0, 0, 0, 0)), (10, .iconst 1, 1, (0, 0, 0, 0)), (11, .iastore, 1, (0, 0, 0, 0)), (12, .iconst 1, 1, (0, 0, 0, 0)), (13, .istore_n 2, 1, (0, 0, 0, 0)), (14, .iload_n 2, 1, (0, 0, 0, 0)), (15, .ifCond .eq 91, 3, (106, 0, 0, 0)), (18, .iconst 0, 1, (0, 0, 0, 0)), (19, .istore_n 2, 1, (0, 0, 0, 0)), (20, .iconst 0, 1, (0, 0, 0, 0)), (21, .istore_n 3, 1, (0, 0, 0, 0)), (22, .iload_n 3, 1, (0, 0, 0, 0)), (23, .aload_n 0, 1, (0, 0, 0, 0)), (24, .getfield 7, 3, (10, 0, 1, 1)), (27, .iconst 2, 1, (0, 0, 0, 0)), (28, .iaload, 1, (0, 0, 0, 0)), (29, .if_icmp .ge 74, 3, (103, 0, 0, 0)), (32, .aload_n 0, 1, (0, 0, 0, 0)), (33, .getfield 45, 3, (10, 15, 1, 1)), (36, .iload_n 3, 1, (0, 0, 0, 0)), (37, .iaload, 1, (0, 0, 0, 0)), (38, .ifCond .ne 6, 3, (44, 0, 0, 0)), (41, .goto 56, 3, (97, 0, 0, 0)), (44, .iconst 2, 1, (0, 0, 0, 0)), (45, .istore 4, 2, (0, 0, 0, 0)), (47, .iload 4, 2, (0, 0, 0, 0)), (49, .iconst 3, 1, (0, 0, 0, 0)), (50, .if_icmp .gt 47, 3, (97, 0, 0, 0)), (53, .aload_n 0, 1, (0, 0, 0, 0)), (54, .iload_n 3, 1, (0, 0, 0, 0)), (55, .iload 4, 2, (0, 0, 0, 0)), (57, .invokevirtual 83, 3, (192, 3, 0, 0)), (60, .istore 5, 2, (0, 0, 0, 0)), (62, .iload 5, 2, (0, 0, 0, 0)), (64, .ifCond .lt 27, 3, (91, 0, 0, 0)), (67, .aload_n 0, 1, (0, 0, 0, 0)), (68, .getfield 45, 3, (10, 15, 1, 1)), (71, .iload 5, 2, (0, 0, 0, 0)), (73, .iaload, 1, (0, 0, 0, 0)), (74, .iconst 1, 1, (0, 0, 0, 0)), (75, .if_icmp .ne 6, 3, (81, 0, 0, 0)), (78, .goto 13, 3, (91, 0, 0, 0)), (81, .aload_n 0, 1, (0, 0, 0, 0)), (82, .getfield 45, 3, (10, 15, 1, 1)), (85, .iload 5, 2, (0, 0, 0, 0)), (87, .iconst 1, 1, (0, 0, 0, 0)), (88, .iastore, 1, (0, 0, 0, 0)), (89, .iconst 1, 1, (0, 0, 0, 0)), (90, .istore_n 2, 1, (0, 0, 0, 0)), (91, .iinc 4 1, 3, (0, 0, 0, 0)), (94, .goto (-47), 3, (47, 0, 0, 0)), (97, .iinc 3 1, 3, (0, 0, 0, 0)), (100, .goto (-78), 3, (22, 0, 0, 0)), (103, .goto (-89), 3, (14, 0, 0, 0)), (106, .return_, 1, (0, 0, 0, 0))]
def m_238 : VM := (RX10, yX10_markFrom, cX10_markFrom, 6, none, 1, 22, k_238)
def k_239 : List VE := [(0, .iload_n 1, 1, (0, 0, 0, 0)), (1, .iconst (-1), 1, (0, 0, 0, 0)), (2, .if_icmp .ne 5, 3, (7, 0, 0, 0)), (5, .iconst 0, 1, (0, 0, 0, 0)), (6, .ireturn, 1, (0, 0, 0, 0)), (7, .aload_n 0, 1, (0, 0, 0, 0)), (8, .iload_n 1, 1, (0, 0, 0, 0)), (9, .invokevirtual 159, 3, (199, 2, 0, 0)), (12, .istore_n 3, 1, (0, 0, 0, 0)), (13, .iload_n 3, 1, (0, 0, 0, 0)), (14, .ifCond .le 7, 3, (21, 0, 0, 0)), (17, .iload_n 3, 1, (0, 0, 0, 0)), (18, .goto 38, 3, (56, 0, 0, 0)), (21, .iload_n 2, 1, (0, 0, 0, 0)), (22, .ifCond .eq 19, 3, (41, 0, 0, 0)), (25, .aload_n 0, 1, (0, 0, 0, 0)), (26, .iload_n 1, 1, (0, 0, 0, 0)), (27, .invokevirtual 162, 3, (204, 2, 0, 0)), (30, .ifCond .eq 7, 3, (37, 0, 0, 0)), (33, .iconst 0, 1, (0, 0, 0, 0)), (34, .goto 22, 3, (56, 0, 0, 0)), (37, .iconst 3, 1, (0, 0, 0, 0)), (38, .goto 18, 3, (56, 0, 0, 0)), (41, .aload_n 0, 1, (0, 0, 0, 0)), (42, .iload_n 1, 1, (0, 0, 0, 0)), (43, .iconst 0, 1, (0, 0, 0, 0)), (44, .invokevirtual 83, 3, (192, 3, 0, 0)), (47, .iconst 3, 1, (0, 0, 0, 0)), (48, .if_icmp .ne 7, 3, (55, 0, 0, 0)), (51, .iconst 0, 1, (0, 0, 0, 0)), (52, .goto 4, 3, (56, 0, 0, 0)), (55, .iconst 3, 1, (0, 0, 0, 0)), (56, .ireturn, 1, (0, 0, 0, 0))]
def m_239 : VM := (RX10, yX10_parentWhy, cX10_parentWhy, 4, (some .int), 2, 43, k_239)
def k_240_0 : List VE := [(0, .aload_n 0, 1, (0, 0, 0, 0)), (1, .iload_n 1, 1, (0, 0, 0, 0)), (2, .invokevirtual 159, 3, (199, 2, 0, 0)), (5, .aload_n 0, 1, (0, 0, 0, 0)), (6, .iload_n 2, 1, (0, 0, 0, 0)), (7, .iconst 1, 1, (0, 0, 0, 0)), (8, .invokevirtual 165, 3, (239, 3, 0, 0)), (11, .invokestatic 137, 3, (202, 2, 1, 0)), (14, .aload_n 0, 1, (0, 0, 0, 0)), (15, .iload_n 3, 1, (0, 0, 0, 0)), (16, .iconst 0, 1, (0, 0, 0, 0)), (17, .invokevirtual 165, 3, (239, 3, 0, 0)), (20, .invokestatic 137, 3, (202, 2, 1, 0)), (23, .istore 4, 2, (0, 0, 0, 0)), (25, .iload 4, 2, (0, 0, 0, 0)), (27, .ifCond .ne 21, 3, (48, 0, 0, 0)), (30, .aload_n 0, 1, (0, 0, 0, 0)), (31, .iload_n 1, 1, (0, 0, 0, 0)), (32, .iconst 0, 1, (0, 0, 0, 0)), (33, .invokevirtual 83, 3, (192, 3, 0, 0)), (36, .iconst 3, 1, (0, 0, 0, 0)), (37, .if_icmp .ne 11, 3, (48, 0, 0, 0)), (40, .iload_n 3, 1, (0, 0, 0, 0)), (41, .ifCond .lt 7, 3, (48, 0, 0, 0)), (44, .bipush 6, 2, (0, 0, 0, 0)), (46, .istore 4, 2, (0, 0, 0, 0)), (48, .iload 4, 2, (0, 0, 0, 0)), (50, .ifCond .le 10, 3, (60, 0, 0, 0)), (53, .aload_n 0, 1, (0, 0, 0, 0)), (54, .iload 4, 2, (0, 0, 0, 0)), (56, .invokevirtual 94, 3, (186, 2, 0, 0)), (59, .ireturn, 1, (0, 0, 0, 0)), (60, .iconst 0, 1, (0, 0, 0, 0)), (61, .istore 5, 2, (0, 0, 0, 0)), (63, .iload 5, 2, (0, 0, 0, 0)), (65, .sipush 200, 3, (0, 0, 0, 0)), (68, .if_icmp .ge 17, 3, (85, 0, 0, 0)), (71, .aload_n 0, 1, (0, 0, 0, 0)), (72, .getfield 45, 3, (10, 15, 1, 1)), (75, .iload 5, 2, (0, 0, 0, 0)), (77, .iconst 0, 1, (0, 0, 0, 0)), (78, .iastore, 1, (0, 0, 0, 0)), (79, .iinc 5 1, 3, (0, 0, 0, 0)), (82, .goto (-19), 3, (63, 0, 0, 0)), (85, .aload_n 0, 1, (0, 0, 0, 0)), (86, .iload_n 2, 1, (0, 0, 0, 0)), (87, .invokevirtual 169, 3, (238, 2, 0, 0)), (90, .aload_n 0, 1, (0, 0, 0, 0)), (91, .iload_n 3, 1, (0, 0, 0, 0)), (92, .invokevirtual 169, 3, (238, 2, 0, 0)), (95, .aload_n 0, 1, (0, 0, 0, 0)), (96, .getfield 45, 3, (10, 15, 1, 1)), (99, .iload_n 1, 1, (0, 0, 0, 0)), (100, .iaload, 1, (0, 0, 0, 0)), (101, .iconst 1, 1, (0, 0, 0, 0)), (102, .if_icmp .ne 10, 3, (112, 0, 0, 0)), (105, .aload_n 0, 1, (0, 0, 0, 0)), (106, .bipush 7, 2, (0, 0, 0, 0)), (108, .invokevirtual 94, 3, (186, 2, 0, 0)), (111, .ireturn, 1, (0, 0, 0, 0))]
def k_240_1 : List VE := [(112, .aload_n 0, 1, (0, 0, 0, 0)), (113, .iload_n 1, 1, (0, 0, 0, 0)), (114, .iconst 2, 1, (0, 0, 0, 0)), (115, .invokevirtual 83, 3, (192, 3, 0, 0)), (118, .istore 5, 2, (0, 0, 0, 0)), (120, .aload_n 0, 1, (0, 0, 0, 0)), (121, .iload_n 1, 1, (0, 0, 0, 0)), (122, .iconst 3, 1, (0, 0, 0, 0)), (123, .invokevirtual 83, 3, (192, 3, 0, 0)), (126, .istore 6, 2, (0, 0, 0, 0)), (128, .aload_n 0, 1, (0, 0, 0, 0)), (129, .iload_n 1, 1, (0, 0, 0, 0)), (130, .iconst 2, 1, (0, 0, 0, 0)), (131, .iload_n 2, 1, (0, 0, 0, 0)), (132, .invokevirtual 90, 3, (193, 4, 0, 0)), (135, .aload_n 0, 1, (0, 0, 0, 0)), (136, .iload_n 1, 1, (0, 0, 0, 0)), (137, .iconst 3, 1, (0, 0, 0, 0)), (138, .iload_n 3, 1, (0, 0, 0, 0)), (139, .invokevirtual 90, 3, (193, 4, 0, 0)), (142, .aload_n 0, 1, (0, 0, 0, 0)), (143, .bipush 16, 2, (0, 0, 0, 0)), (145, .invokevirtual 172, 3, (237, 2, 0, 0)), (148, .iconst 0, 1, (0, 0, 0, 0)), (149, .istore 7, 2, (0, 0, 0, 0)), (151, .iconst 0, 1, (0, 0, 0, 0)), (152, .istore 8, 2, (0, 0, 0, 0)), (154, .iload 8, 2, (0, 0, 0, 0)), (156, .aload_n 0, 1, (0, 0, 0, 0)), (157, .getfield 7, 3, (10, 0, 1, 1)), (160, .iconst 2, 1, (0, 0, 0, 0)), (161, .iaload, 1, (0, 0, 0, 0)), (162, .if_icmp .ge 33, 3, (195, 0, 0, 0)), (165, .iload 7, 2, (0, 0, 0, 0)), (167, .ifCond .ne 15, 3, (182, 0, 0, 0)), (170, .aload_n 0, 1, (0, 0, 0, 0)), (171, .getfield 38, 3, (10, 13, 1, 1)), (174, .iload 8, 2, (0, 0, 0, 0)), (176, .iaload, 1, (0, 0, 0, 0)), (177, .bipush 15, 2, (0, 0, 0, 0)), (179, .if_icmp .le 7, 3, (186, 0, 0, 0)), (182, .iconst 1, 1, (0, 0, 0, 0)), (183, .goto 4, 3, (187, 0, 0, 0)), (186, .iconst 0, 1, (0, 0, 0, 0)), (187, .istore 7, 2, (0, 0, 0, 0)), (189, .iinc 8 1, 3, (0, 0, 0, 0)), (192, .goto (-38), 3, (154, 0, 0, 0)), (195, .aload_n 0, 1, (0, 0, 0, 0)), (196, .iload_n 1, 1, (0, 0, 0, 0)), (197, .iconst 2, 1, (0, 0, 0, 0)), (198, .iload 5, 2, (0, 0, 0, 0)), (200, .invokevirtual 90, 3, (193, 4, 0, 0)), (203, .aload_n 0, 1, (0, 0, 0, 0)), (204, .iload_n 1, 1, (0, 0, 0, 0)), (205, .iconst 3, 1, (0, 0, 0, 0)), (206, .iload 6, 2, (0, 0, 0, 0)), (208, .invokevirtual 90, 3, (193, 4, 0, 0)), (211, .iload 7, 2, (0, 0, 0, 0)), (213, .ifCond .eq 10, 3, (223, 0, 0, 0)), (216, .aload_n 0, 1, (0, 0, 0, 0))]
def k_240_2 : List VE := [(217, .bipush 6, 2, (0, 0, 0, 0)), (219, .invokevirtual 94, 3, (186, 2, 0, 0)), (222, .ireturn, 1, (0, 0, 0, 0)), (223, .aload_n 0, 1, (0, 0, 0, 0)), (224, .invokevirtual 97, 3, (188, 1, 0, 0)), (227, .aload_n 0, 1, (0, 0, 0, 0)), (228, .iload_n 1, 1, (0, 0, 0, 0)), (229, .iconst 2, 1, (0, 0, 0, 0)), (230, .iload_n 2, 1, (0, 0, 0, 0)), (231, .invokevirtual 90, 3, (193, 4, 0, 0)), (234, .aload_n 0, 1, (0, 0, 0, 0)), (235, .iload_n 1, 1, (0, 0, 0, 0)), (236, .iconst 3, 1, (0, 0, 0, 0)), (237, .iload_n 3, 1, (0, 0, 0, 0)), (238, .invokevirtual 90, 3, (193, 4, 0, 0)), (241, .aload_n 0, 1, (0, 0, 0, 0)), (242, .aload_n 0, 1, (0, 0, 0, 0)), (243, .getfield 38, 3, (10, 13, 1, 1)), (246, .iload_n 1, 1, (0, 0, 0, 0)), (247, .iaload, 1, (0, 0, 0, 0)), (248, .invokevirtual 103, 3, (187, 2, 0, 0)), (251, .ireturn, 1, (0, 0, 0, 0))]
def k_240 : List VE := (k_240_0 ++ (k_240_1 ++ (k_240_2)))
def m_240 : VM := (RX10, yX10_line, cX10_line, 9, (some .int), 3, 66, k_240)
def k_241 : List VE := [(0, .iload_n 1, 1, (0, 0, 0, 0)), (1, .ifCond .lt 7, 3, (8, 0, 0, 0)), (4, .iload_n 2, 1, (0, 0, 0, 0)), (5, .ifCond .ge 7, 3, (12, 0, 0, 0)), (8, .iconst 0, 1, (0, 0, 0, 0)), (9, .goto 15, 3, (24, 0, 0, 0)), (12, .aload_n 0, 1, (0, 0, 0, 0)), (13, .getfield 42, 3, (10, 14, 1, 1)), (16, .sipush 200, 3, (0, 0, 0, 0)), (19, .iload_n 1, 1, (0, 0, 0, 0)), (20, .imul, 1, (0, 0, 0, 0)), (21, .iload_n 2, 1, (0, 0, 0, 0)), (22, .iadd, 1, (0, 0, 0, 0)), (23, .iaload, 1, (0, 0, 0, 0)), (24, .ireturn, 1, (0, 0, 0, 0))]
def m_241 : VM := (RX10, yX10_kinAt, cX10_kinAt, 3, (some .int), 0, 0, k_241)
def k_242_0 : List VE := [(0, .aload_n 0, 1, (0, 0, 0, 0)), (1, .getfield 7, 3, (10, 0, 1, 1)), (4, .iconst 2, 1, (0, 0, 0, 0)), (5, .iaload, 1, (0, 0, 0, 0)), (6, .istore_n 1, 1, (0, 0, 0, 0)), (7, .aload_n 0, 1, (0, 0, 0, 0)), (8, .bipush 16, 2, (0, 0, 0, 0)), (10, .invokevirtual 172, 3, (237, 2, 0, 0)), (13, .iconst 0, 1, (0, 0, 0, 0)), (14, .istore_n 2, 1, (0, 0, 0, 0)), (15, .iload_n 2, 1, (0, 0, 0, 0)), (16, .iload_n 1, 1, (0, 0, 0, 0)), (17, .if_icmp .ge 16, 3, (33, 0, 0, 0)), (20, .aload_n 0, 1, (0, 0, 0, 0)), (21, .getfield 45, 3, (10, 15, 1, 1)), (24, .iload_n 2, 1, (0, 0, 0, 0)), (25, .iconst 0, 1, (0, 0, 0, 0)), (26, .iastore, 1, (0, 0, 0, 0)), (27, .iinc 2 1, 3, (0, 0, 0, 0)), (30, .goto (-15), 3, (15, 0, 0, 0)), (33, .iconst 0, 1, (0, 0, 0, 0)), (34, .istore_n 2, 1, (0, 0, 0, 0)), (35, .iload_n 2, 1, (0, 0, 0, 0)), (36, .iload_n 1, 1, (0, 0, 0, 0)), (37, .if_icmp .ge 167, 3, (204, 0, 0, 0)), (40, .iconst (-1), 1, (0, 0, 0, 0)), (41, .istore_n 3, 1, (0, 0, 0, 0)), (42, .iconst 0, 1, (0, 0, 0, 0)), (43, .istore 4, 2, (0, 0, 0, 0)), (45, .iload 4, 2, (0, 0, 0, 0)), (47, .iload_n 1, 1, (0, 0, 0, 0)), (48, .if_icmp .ge 42, 3, (90, 0, 0, 0)), (51, .aload_n 0, 1, (0, 0, 0, 0)), (52, .getfield 45, 3, (10, 15, 1, 1)), (55, .iload 4, 2, (0, 0, 0, 0)), (57, .iaload, 1, (0, 0, 0, 0)), (58, .ifCond .ne 26, 3, (84, 0, 0, 0)), (61, .iload_n 3, 1, (0, 0, 0, 0)), (62, .ifCond .lt 19, 3, (81, 0, 0, 0)), (65, .aload_n 0, 1, (0, 0, 0, 0)), (66, .getfield 38, 3, (10, 13, 1, 1)), (69, .iload 4, 2, (0, 0, 0, 0)), (71, .iaload, 1, (0, 0, 0, 0)), (72, .aload_n 0, 1, (0, 0, 0, 0)), (73, .getfield 38, 3, (10, 13, 1, 1)), (76, .iload_n 3, 1, (0, 0, 0, 0)), (77, .iaload, 1, (0, 0, 0, 0)), (78, .if_icmp .ge 6, 3, (84, 0, 0, 0)), (81, .iload 4, 2, (0, 0, 0, 0)), (83, .istore_n 3, 1, (0, 0, 0, 0)), (84, .iinc 4 1, 3, (0, 0, 0, 0)), (87, .goto (-42), 3, (45, 0, 0, 0)), (90, .iconst 0, 1, (0, 0, 0, 0)), (91, .istore 4, 2, (0, 0, 0, 0)), (93, .iload 4, 2, (0, 0, 0, 0)), (95, .iload_n 1, 1, (0, 0, 0, 0)), (96, .if_icmp .ge 81, 3, (177, 0, 0, 0)), (99, .aload_n 0, 1, (0, 0, 0, 0)), (100, .getfield 45, 3, (10, 15, 1, 1)), (103, .iload 4, 2, (0, 0, 0, 0))]
def k_242_1 : List VE := [(105, .iaload, 1, (0, 0, 0, 0)), (106, .ifCond .ne 6, 3, (112, 0, 0, 0)), (109, .goto 62, 3, (171, 0, 0, 0)), (112, .aload_n 0, 1, (0, 0, 0, 0)), (113, .aload_n 0, 1, (0, 0, 0, 0)), (114, .iload_n 3, 1, (0, 0, 0, 0)), (115, .iconst 2, 1, (0, 0, 0, 0)), (116, .invokevirtual 83, 3, (192, 3, 0, 0)), (119, .iload 4, 2, (0, 0, 0, 0)), (121, .invokevirtual 175, 3, (241, 3, 0, 0)), (124, .aload_n 0, 1, (0, 0, 0, 0)), (125, .aload_n 0, 1, (0, 0, 0, 0)), (126, .iload_n 3, 1, (0, 0, 0, 0)), (127, .iconst 3, 1, (0, 0, 0, 0)), (128, .invokevirtual 83, 3, (192, 3, 0, 0)), (131, .iload 4, 2, (0, 0, 0, 0)), (133, .invokevirtual 175, 3, (241, 3, 0, 0)), (136, .iadd, 1, (0, 0, 0, 0)), (137, .iconst 2, 1, (0, 0, 0, 0)), (138, .idiv, 1, (0, 0, 0, 0)), (139, .istore 5, 2, (0, 0, 0, 0)), (141, .aload_n 0, 1, (0, 0, 0, 0)), (142, .getfield 42, 3, (10, 14, 1, 1)), (145, .sipush 200, 3, (0, 0, 0, 0)), (148, .iload_n 3, 1, (0, 0, 0, 0)), (149, .imul, 1, (0, 0, 0, 0)), (150, .iload 4, 2, (0, 0, 0, 0)), (152, .iadd, 1, (0, 0, 0, 0)), (153, .iload 5, 2, (0, 0, 0, 0)), (155, .iastore, 1, (0, 0, 0, 0)), (156, .aload_n 0, 1, (0, 0, 0, 0)), (157, .getfield 42, 3, (10, 14, 1, 1)), (160, .sipush 200, 3, (0, 0, 0, 0)), (163, .iload 4, 2, (0, 0, 0, 0)), (165, .imul, 1, (0, 0, 0, 0)), (166, .iload_n 3, 1, (0, 0, 0, 0)), (167, .iadd, 1, (0, 0, 0, 0)), (168, .iload 5, 2, (0, 0, 0, 0)), (170, .iastore, 1, (0, 0, 0, 0)), (171, .iinc 4 1, 3, (0, 0, 0, 0)), (174, .goto (-81), 3, (93, 0, 0, 0)), (177, .aload_n 0, 1, (0, 0, 0, 0)), (178, .getfield 42, 3, (10, 14, 1, 1)), (181, .sipush 200, 3, (0, 0, 0, 0)), (184, .iload_n 3, 1, (0, 0, 0, 0)), (185, .imul, 1, (0, 0, 0, 0)), (186, .iload_n 3, 1, (0, 0, 0, 0)), (187, .iadd, 1, (0, 0, 0, 0)), (188, .ldc 178, 2, (0, 0, 0, 1073741824)), (190, .iastore, 1, (0, 0, 0, 0)), (191, .aload_n 0, 1, (0, 0, 0, 0)), (192, .getfield 45, 3, (10, 15, 1, 1)), (195, .iload_n 3, 1, (0, 0, 0, 0)), (196, .iconst 1, 1, (0, 0, 0, 0)), (197, .iastore, 1, (0, 0, 0, 0)), (198, .iinc 2 1, 3, (0, 0, 0, 0)), (201, .goto (-166), 3, (35, 0, 0, 0)), (204, .return_, 1, (0, 0, 0, 0))]
def k_242 : List VE := (k_242_0 ++ (k_242_1))
def m_242 : VM := (RX10, yX10_reckonKin, cX10_reckonKin, 6, none, 2, 49, k_242)
def k_243 : List VE := [(0, .aload_n 0, 1, (0, 0, 0, 0)), (1, .iload_n 1, 1, (0, 0, 0, 0)), (2, .invokevirtual 159, 3, (199, 2, 0, 0)), (5, .aload_n 0, 1, (0, 0, 0, 0)), (6, .iload_n 2, 1, (0, 0, 0, 0)), (7, .invokevirtual 159, 3, (199, 2, 0, 0)), (10, .invokestatic 137, 3, (202, 2, 1, 0)), (13, .istore_n 3, 1, (0, 0, 0, 0)), (14, .iload_n 3, 1, (0, 0, 0, 0)), (15, .ifCond .le 9, 3, (24, 0, 0, 0)), (18, .aload_n 0, 1, (0, 0, 0, 0)), (19, .iload_n 3, 1, (0, 0, 0, 0)), (20, .invokevirtual 94, 3, (186, 2, 0, 0)), (23, .ireturn, 1, (0, 0, 0, 0)), (24, .aload_n 0, 1, (0, 0, 0, 0)), (25, .invokevirtual 179, 3, (242, 1, 0, 0)), (28, .aload_n 0, 1, (0, 0, 0, 0)), (29, .aload_n 0, 1, (0, 0, 0, 0)), (30, .iload_n 1, 1, (0, 0, 0, 0)), (31, .iload_n 2, 1, (0, 0, 0, 0)), (32, .invokevirtual 175, 3, (241, 3, 0, 0)), (35, .invokevirtual 103, 3, (187, 2, 0, 0)), (38, .ireturn, 1, (0, 0, 0, 0))]
def m_243 : VM := (RX10, yX10_kin, cX10_kin, 4, (some .int), 3, 74, k_243)
def k_244 : List VE := [(0, .iconst (-1), 1, (0, 0, 0, 0)), (1, .istore_n 2, 1, (0, 0, 0, 0)), (2, .iconst 0, 1, (0, 0, 0, 0)), (3, .istore_n 3, 1, (0, 0, 0, 0)), (4, .iload_n 3, 1, (0, 0, 0, 0)), (5, .aload_n 0, 1, (0, 0, 0, 0)), (6, .getfield 7, 3, (10, 0, 1, 1)), (9, .iconst 0, 1, (0, 0, 0, 0)), (10, .iaload, 1, (0, 0, 0, 0)), (11, .if_icmp .ge 25, 3, (36, 0, 0, 0)), (14, .aload_n 0, 1, (0, 0, 0, 0)), (15, .iload_n 3, 1, (0, 0, 0, 0)), (16, .iconst 3, 1, (0, 0, 0, 0)), (17, .invokevirtual 72, 3, (190, 3, 0, 0)), (20, .iload_n 1, 1, (0, 0, 0, 0)), (21, .if_icmp .ne 7, 3, (28, 0, 0, 0)), (24, .iload_n 3, 1, (0, 0, 0, 0)), (25, .goto 4, 3, (29, 0, 0, 0)), (28, .iload_n 2, 1, (0, 0, 0, 0)), (29, .istore_n 2, 1, (0, 0, 0, 0)), (30, .iinc 3 1, 3, (0, 0, 0, 0)), (33, .goto (-29), 3, (4, 0, 0, 0)), (36, .iload_n 2, 1, (0, 0, 0, 0)), (37, .ireturn, 1, (0, 0, 0, 0))]
def m_244 : VM := (RX10, yX10_hiveOf, cX10_hiveOf, 4, (some .int), 1, 22, k_244)
def k_245 : List VE := [(0, .iconst (-1), 1, (0, 0, 0, 0)), (1, .istore_n 2, 1, (0, 0, 0, 0)), (2, .iconst 0, 1, (0, 0, 0, 0)), (3, .istore_n 3, 1, (0, 0, 0, 0)), (4, .iload_n 3, 1, (0, 0, 0, 0)), (5, .aload_n 0, 1, (0, 0, 0, 0)), (6, .getfield 7, 3, (10, 0, 1, 1)), (9, .iconst 2, 1, (0, 0, 0, 0)), (10, .iaload, 1, (0, 0, 0, 0)), (11, .if_icmp .ge 26, 3, (37, 0, 0, 0)), (14, .aload_n 0, 1, (0, 0, 0, 0)), (15, .iload_n 3, 1, (0, 0, 0, 0)), (16, .bipush 7, 2, (0, 0, 0, 0)), (18, .invokevirtual 83, 3, (192, 3, 0, 0)), (21, .iload_n 1, 1, (0, 0, 0, 0)), (22, .if_icmp .ne 7, 3, (29, 0, 0, 0)), (25, .iload_n 3, 1, (0, 0, 0, 0)), (26, .goto 4, 3, (30, 0, 0, 0)), (29, .iload_n 2, 1, (0, 0, 0, 0)), (30, .istore_n 2, 1, (0, 0, 0, 0)), (31, .iinc 3 1, 3, (0, 0, 0, 0)), (34, .goto (-30), 3, (4, 0, 0, 0)), (37, .iload_n 2, 1, (0, 0, 0, 0)), (38, .ireturn, 1, (0, 0, 0, 0))]
def m_245 : VM := (RX10, yX10_swarmOf, cX10_swarmOf, 4, (some .int), 1, 22, k_245)
def k_246 : List VE := [(0, .iload_n 0, 1, (0, 0, 0, 0)), (1, .ifCond .eq 7, 3, (8, 0, 0, 0)), (4, .iconst 1, 1, (0, 0, 0, 0)), (5, .goto 4, 3, (9, 0, 0, 0)), (8, .iconst 0, 1, (0, 0, 0, 0)), (9, .ireturn, 1, (0, 0, 0, 0))]
def m_246 : VM := (RX10, yX10_truth, cX10_truth, 1, (some .int), 0, 0, k_246)
def k_247 : List VE := [(0, .iload_n 2, 1, (0, 0, 0, 0)), (1, .iconst 5, 1, (0, 0, 0, 0)), (2, .if_icmp .ne 9, 3, (11, 0, 0, 0)), (5, .aload_n 0, 1, (0, 0, 0, 0)), (6, .bipush 14, 2, (0, 0, 0, 0)), (8, .invokevirtual 86, 3, (205, 2, 0, 0)), (11, .iload_n 2, 1, (0, 0, 0, 0)), (12, .bipush 6, 2, (0, 0, 0, 0)), (14, .if_icmp .ne 9, 3, (23, 0, 0, 0)), (17, .aload_n 0, 1, (0, 0, 0, 0)), (18, .bipush 15, 2, (0, 0, 0, 0)), (20, .invokevirtual 86, 3, (205, 2, 0, 0)), (23, .iload_n 2, 1, (0, 0, 0, 0)), (24, .bipush 7, 2, (0, 0, 0, 0)), (26, .if_icmp .ne 9, 3, (35, 0, 0, 0)), (29, .aload_n 0, 1, (0, 0, 0, 0)), (30, .bipush 13, 2, (0, 0, 0, 0)), (32, .invokevirtual 86, 3, (205, 2, 0, 0)), (35, .iload_n 2, 1, (0, 0, 0, 0)), (36, .tableswitch 91 2 6 #[36, 42, 48, 54, 74], 36, (0, 0, 0, 0)), (72, .aload_n 0, 1, (0, 0, 0, 0)), (73, .iload_n 1, 1, (0, 0, 0, 0)), (74, .invokevirtual 182, 3, (206, 2, 0, 0)), (77, .ireturn, 1, (0, 0, 0, 0)), (78, .aload_n 0, 1, (0, 0, 0, 0)), (79, .iload_n 1, 1, (0, 0, 0, 0)), (80, .invokevirtual 185, 3, (208, 2, 0, 0)), (83, .ireturn, 1, (0, 0, 0, 0)), (84, .aload_n 0, 1, (0, 0, 0, 0)), (85, .iload_n 1, 1, (0, 0, 0, 0)), (86, .invokevirtual 188, 3, (209, 2, 0, 0)), (89, .ireturn, 1, (0, 0, 0, 0)), (90, .aload_n 0, 1, (0, 0, 0, 0)), (91, .iload_n 1, 1, (0, 0, 0, 0)), (92, .invokevirtual 182, 3, (206, 2, 0, 0)), (95, .sipush 1100, 3, (0, 0, 0, 0)), (98, .if_icmp .le 7, 3, (105, 0, 0, 0)), (101, .iconst 1, 1, (0, 0, 0, 0)), (102, .goto 4, 3, (106, 0, 0, 0)), (105, .iconst 0, 1, (0, 0, 0, 0)), (106, .invokestatic 191, 3, (246, 1, 1, 0)), (109, .ireturn, 1, (0, 0, 0, 0)), (110, .aload_n 0, 1, (0, 0, 0, 0)), (111, .iload_n 1, 1, (0, 0, 0, 0)), (112, .invokevirtual 185, 3, (208, 2, 0, 0)), (115, .ifCond .le 7, 3, (122, 0, 0, 0)), (118, .iconst 1, 1, (0, 0, 0, 0)), (119, .goto 4, 3, (123, 0, 0, 0)), (122, .iconst 0, 1, (0, 0, 0, 0)), (123, .invokestatic 191, 3, (246, 1, 1, 0)), (126, .ireturn, 1, (0, 0, 0, 0)), (127, .aload_n 0, 1, (0, 0, 0, 0)), (128, .iload_n 1, 1, (0, 0, 0, 0)), (129, .invokevirtual 188, 3, (209, 2, 0, 0)), (132, .ifCond .eq 7, 3, (139, 0, 0, 0)), (135, .iconst 1, 1, (0, 0, 0, 0)), (136, .goto 4, 3, (140, 0, 0, 0)), (139, .iconst 0, 1, (0, 0, 0, 0)), (140, .invokestatic 191, 3, (246, 1, 1, 0)), (143, .ireturn, 1, (0, 0, 0, 0))]
def m_247 : VM := (RX10, yX10_asked, cX10_asked, 3, (some .int), 2, 46, k_247)
def k_248_0 : List VE := [(0, .aload_n 0, 1, (0, 0, 0, 0)), (1, .iload_n 1, 1, (0, 0, 0, 0)), (2, .invokevirtual 159, 3, (199, 2, 0, 0)), (5, .istore_n 3, 1, (0, 0, 0, 0)), (6, .iload_n 3, 1, (0, 0, 0, 0)), (7, .ifCond .ne 16, 3, (23, 0, 0, 0)), (10, .iload_n 2, 1, (0, 0, 0, 0)), (11, .iconst 0, 1, (0, 0, 0, 0)), (12, .bipush 14, 2, (0, 0, 0, 0)), (14, .invokestatic 68, 3, (189, 3, 1, 0)), (17, .ifCond .ne 6, 3, (23, 0, 0, 0)), (20, .bipush 6, 2, (0, 0, 0, 0)), (22, .istore_n 3, 1, (0, 0, 0, 0)), (23, .iload_n 3, 1, (0, 0, 0, 0)), (24, .ifCond .ne 46, 3, (70, 0, 0, 0)), (27, .iload_n 2, 1, (0, 0, 0, 0)), (28, .iconst 4, 1, (0, 0, 0, 0)), (29, .if_icmp .eq 9, 3, (38, 0, 0, 0)), (32, .iload_n 2, 1, (0, 0, 0, 0)), (33, .bipush 7, 2, (0, 0, 0, 0)), (35, .if_icmp .ne 11, 3, (46, 0, 0, 0)), (38, .aload_n 0, 1, (0, 0, 0, 0)), (39, .iload_n 1, 1, (0, 0, 0, 0)), (40, .invokevirtual 162, 3, (204, 2, 0, 0)), (43, .ifCond .eq 25, 3, (68, 0, 0, 0)), (46, .iload_n 2, 1, (0, 0, 0, 0)), (47, .bipush 11, 2, (0, 0, 0, 0)), (49, .if_icmp .eq 9, 3, (58, 0, 0, 0)), (52, .iload_n 2, 1, (0, 0, 0, 0)), (53, .bipush 12, 2, (0, 0, 0, 0)), (55, .if_icmp .ne 15, 3, (70, 0, 0, 0)), (58, .aload_n 0, 1, (0, 0, 0, 0)), (59, .iload_n 1, 1, (0, 0, 0, 0)), (60, .iconst 0, 1, (0, 0, 0, 0)), (61, .invokevirtual 83, 3, (192, 3, 0, 0)), (64, .iconst 2, 1, (0, 0, 0, 0)), (65, .if_icmp .eq 5, 3, (70, 0, 0, 0)), (68, .iconst 3, 1, (0, 0, 0, 0)), (69, .istore_n 3, 1, (0, 0, 0, 0)), (70, .iload_n 3, 1, (0, 0, 0, 0)), (71, .ifCond .le 9, 3, (80, 0, 0, 0)), (74, .aload_n 0, 1, (0, 0, 0, 0)), (75, .iload_n 3, 1, (0, 0, 0, 0)), (76, .invokevirtual 94, 3, (186, 2, 0, 0)), (79, .ireturn, 1, (0, 0, 0, 0)), (80, .iload_n 2, 1, (0, 0, 0, 0)), (81, .iconst 2, 1, (0, 0, 0, 0)), (82, .bipush 7, 2, (0, 0, 0, 0)), (84, .invokestatic 68, 3, (189, 3, 1, 0)), (87, .ifCond .eq 14, 3, (101, 0, 0, 0)), (90, .aload_n 0, 1, (0, 0, 0, 0)), (91, .aload_n 0, 1, (0, 0, 0, 0)), (92, .iload_n 1, 1, (0, 0, 0, 0)), (93, .iload_n 2, 1, (0, 0, 0, 0)), (94, .invokevirtual 195, 3, (247, 3, 0, 0)), (97, .invokevirtual 103, 3, (187, 2, 0, 0)), (100, .ireturn, 1, (0, 0, 0, 0)), (101, .iload_n 2, 1, (0, 0, 0, 0)), (102, .bipush 10, 2, (0, 0, 0, 0)), (104, .if_icmp .ne 20, 3, (124, 0, 0, 0))]
def k_248_1 : List VE := [(107, .aload_n 0, 1, (0, 0, 0, 0)), (108, .bipush 16, 2, (0, 0, 0, 0)), (110, .invokevirtual 172, 3, (237, 2, 0, 0)), (113, .aload_n 0, 1, (0, 0, 0, 0)), (114, .aload_n 0, 1, (0, 0, 0, 0)), (115, .getfield 38, 3, (10, 13, 1, 1)), (118, .iload_n 1, 1, (0, 0, 0, 0)), (119, .iaload, 1, (0, 0, 0, 0)), (120, .invokevirtual 103, 3, (187, 2, 0, 0)), (123, .ireturn, 1, (0, 0, 0, 0)), (124, .iload_n 2, 1, (0, 0, 0, 0)), (125, .tableswitch 147 0 13 #[71, 82, 147, 147, 147, 147, 147, 147, 93, 104, 147, 115, 126, 137], 71, (0, 0, 0, 0)), (196, .aload_n 0, 1, (0, 0, 0, 0)), (197, .aload_n 0, 1, (0, 0, 0, 0)), (198, .iload_n 1, 1, (0, 0, 0, 0)), (199, .iconst 0, 1, (0, 0, 0, 0)), (200, .invokevirtual 83, 3, (192, 3, 0, 0)), (203, .invokevirtual 103, 3, (187, 2, 0, 0)), (206, .ireturn, 1, (0, 0, 0, 0)), (207, .aload_n 0, 1, (0, 0, 0, 0)), (208, .aload_n 0, 1, (0, 0, 0, 0)), (209, .iload_n 1, 1, (0, 0, 0, 0)), (210, .iconst 1, 1, (0, 0, 0, 0)), (211, .invokevirtual 83, 3, (192, 3, 0, 0)), (214, .invokevirtual 103, 3, (187, 2, 0, 0)), (217, .ireturn, 1, (0, 0, 0, 0)), (218, .aload_n 0, 1, (0, 0, 0, 0)), (219, .aload_n 0, 1, (0, 0, 0, 0)), (220, .iload_n 1, 1, (0, 0, 0, 0)), (221, .iconst 2, 1, (0, 0, 0, 0)), (222, .invokevirtual 83, 3, (192, 3, 0, 0)), (225, .invokevirtual 103, 3, (187, 2, 0, 0)), (228, .ireturn, 1, (0, 0, 0, 0)), (229, .aload_n 0, 1, (0, 0, 0, 0)), (230, .aload_n 0, 1, (0, 0, 0, 0)), (231, .iload_n 1, 1, (0, 0, 0, 0)), (232, .iconst 3, 1, (0, 0, 0, 0)), (233, .invokevirtual 83, 3, (192, 3, 0, 0)), (236, .invokevirtual 103, 3, (187, 2, 0, 0)), (239, .ireturn, 1, (0, 0, 0, 0)), (240, .aload_n 0, 1, (0, 0, 0, 0)), (241, .aload_n 0, 1, (0, 0, 0, 0)), (242, .iload_n 1, 1, (0, 0, 0, 0)), (243, .iconst 4, 1, (0, 0, 0, 0)), (244, .invokevirtual 83, 3, (192, 3, 0, 0)), (247, .invokevirtual 103, 3, (187, 2, 0, 0)), (250, .ireturn, 1, (0, 0, 0, 0)), (251, .aload_n 0, 1, (0, 0, 0, 0)), (252, .aload_n 0, 1, (0, 0, 0, 0)), (253, .iload_n 1, 1, (0, 0, 0, 0)), (254, .iconst 5, 1, (0, 0, 0, 0)), (255, .invokevirtual 83, 3, (192, 3, 0, 0)), (258, .invokevirtual 103, 3, (187, 2, 0, 0)), (261, .ireturn, 1, (0, 0, 0, 0)), (262, .aload_n 0, 1, (0, 0, 0, 0)), (263, .aload_n 0, 1, (0, 0, 0, 0)), (264, .iload_n 1, 1, (0, 0, 0, 0)), (265, .invokevirtual 198, 3, (244, 2, 0, 0)), (268, .invokevirtual 103, 3, (187, 2, 0, 0)), (271, .ireturn, 1, (0, 0, 0, 0))]
def k_248_2 : List VE := [(272, .aload_n 0, 1, (0, 0, 0, 0)), (273, .aload_n 0, 1, (0, 0, 0, 0)), (274, .iload_n 1, 1, (0, 0, 0, 0)), (275, .invokevirtual 201, 3, (245, 2, 0, 0)), (278, .invokevirtual 103, 3, (187, 2, 0, 0)), (281, .ireturn, 1, (0, 0, 0, 0))]
def k_248 : List VE := (k_248_0 ++ (k_248_1 ++ (k_248_2)))
def m_248 : VM := (RX10, yX10_ask, cX10_ask, 4, (some .int), 3, 68, k_248)
def k_249 : List VE := [(0, .aload_n 0, 1, (0, 0, 0, 0)), (1, .iload_n 1, 1, (0, 0, 0, 0)), (2, .invokevirtual 106, 3, (198, 2, 0, 0)), (5, .istore_n 3, 1, (0, 0, 0, 0)), (6, .iload_n 3, 1, (0, 0, 0, 0)), (7, .ifCond .ne 14, 3, (21, 0, 0, 0)), (10, .iload_n 2, 1, (0, 0, 0, 0)), (11, .iconst (-1), 1, (0, 0, 0, 0)), (12, .if_icmp .eq 9, 3, (21, 0, 0, 0)), (15, .aload_n 0, 1, (0, 0, 0, 0)), (16, .iload_n 2, 1, (0, 0, 0, 0)), (17, .invokevirtual 159, 3, (199, 2, 0, 0)), (20, .istore_n 3, 1, (0, 0, 0, 0)), (21, .iload_n 3, 1, (0, 0, 0, 0)), (22, .ifCond .ne 27, 3, (49, 0, 0, 0)), (25, .iload_n 2, 1, (0, 0, 0, 0)), (26, .iconst (-1), 1, (0, 0, 0, 0)), (27, .if_icmp .eq 22, 3, (49, 0, 0, 0)), (30, .aload_n 0, 1, (0, 0, 0, 0)), (31, .iload_n 2, 1, (0, 0, 0, 0)), (32, .invokevirtual 198, 3, (244, 2, 0, 0)), (35, .ifCond .ge 11, 3, (46, 0, 0, 0)), (38, .aload_n 0, 1, (0, 0, 0, 0)), (39, .iload_n 2, 1, (0, 0, 0, 0)), (40, .invokevirtual 201, 3, (245, 2, 0, 0)), (43, .ifCond .lt 6, 3, (49, 0, 0, 0)), (46, .bipush 6, 2, (0, 0, 0, 0)), (48, .istore_n 3, 1, (0, 0, 0, 0)), (49, .iload_n 3, 1, (0, 0, 0, 0)), (50, .ifCond .le 9, 3, (59, 0, 0, 0)), (53, .aload_n 0, 1, (0, 0, 0, 0)), (54, .iload_n 3, 1, (0, 0, 0, 0)), (55, .invokevirtual 94, 3, (186, 2, 0, 0)), (58, .ireturn, 1, (0, 0, 0, 0)), (59, .aload_n 0, 1, (0, 0, 0, 0)), (60, .invokevirtual 97, 3, (188, 1, 0, 0)), (63, .aload_n 0, 1, (0, 0, 0, 0)), (64, .iload_n 1, 1, (0, 0, 0, 0)), (65, .iconst 3, 1, (0, 0, 0, 0)), (66, .invokevirtual 72, 3, (190, 3, 0, 0)), (69, .istore 4, 2, (0, 0, 0, 0)), (71, .aload_n 0, 1, (0, 0, 0, 0)), (72, .iload_n 1, 1, (0, 0, 0, 0)), (73, .iconst 3, 1, (0, 0, 0, 0)), (74, .iload_n 2, 1, (0, 0, 0, 0)), (75, .invokevirtual 100, 3, (191, 4, 0, 0)), (78, .aload_n 0, 1, (0, 0, 0, 0)), (79, .iload 4, 2, (0, 0, 0, 0)), (81, .invokevirtual 103, 3, (187, 2, 0, 0)), (84, .ireturn, 1, (0, 0, 0, 0))]
def m_249 : VM := (RX10, yX10_slot, cX10_slot, 5, (some .int), 2, 45, k_249)
def k_250 : List VE := [(0, .aload_n 0, 1, (0, 0, 0, 0)), (1, .iload_n 1, 1, (0, 0, 0, 0)), (2, .invokevirtual 159, 3, (199, 2, 0, 0)), (5, .istore_n 3, 1, (0, 0, 0, 0)), (6, .iload_n 3, 1, (0, 0, 0, 0)), (7, .ifCond .ne 15, 3, (22, 0, 0, 0)), (10, .aload_n 0, 1, (0, 0, 0, 0)), (11, .iload_n 1, 1, (0, 0, 0, 0)), (12, .iconst 0, 1, (0, 0, 0, 0)), (13, .invokevirtual 83, 3, (192, 3, 0, 0)), (16, .iconst 2, 1, (0, 0, 0, 0)), (17, .if_icmp .eq 5, 3, (22, 0, 0, 0)), (20, .iconst 3, 1, (0, 0, 0, 0)), (21, .istore_n 3, 1, (0, 0, 0, 0)), (22, .iload_n 3, 1, (0, 0, 0, 0)), (23, .ifCond .ne 17, 3, (40, 0, 0, 0)), (26, .iload_n 2, 1, (0, 0, 0, 0)), (27, .iconst 0, 1, (0, 0, 0, 0)), (28, .sipush 200, 3, (0, 0, 0, 0)), (31, .invokestatic 68, 3, (189, 3, 1, 0)), (34, .ifCond .ne 6, 3, (40, 0, 0, 0)), (37, .bipush 6, 2, (0, 0, 0, 0)), (39, .istore_n 3, 1, (0, 0, 0, 0)), (40, .iload_n 3, 1, (0, 0, 0, 0)), (41, .ifCond .le 9, 3, (50, 0, 0, 0)), (44, .aload_n 0, 1, (0, 0, 0, 0)), (45, .iload_n 3, 1, (0, 0, 0, 0)), (46, .invokevirtual 94, 3, (186, 2, 0, 0)), (49, .ireturn, 1, (0, 0, 0, 0)), (50, .aload_n 0, 1, (0, 0, 0, 0)), (51, .invokevirtual 97, 3, (188, 1, 0, 0)), (54, .aload_n 0, 1, (0, 0, 0, 0)), (55, .iload_n 1, 1, (0, 0, 0, 0)), (56, .iconst 4, 1, (0, 0, 0, 0)), (57, .invokevirtual 83, 3, (192, 3, 0, 0)), (60, .istore 4, 2, (0, 0, 0, 0)), (62, .aload_n 0, 1, (0, 0, 0, 0)), (63, .iload_n 1, 1, (0, 0, 0, 0)), (64, .iconst 4, 1, (0, 0, 0, 0)), (65, .iload_n 2, 1, (0, 0, 0, 0)), (66, .invokevirtual 90, 3, (193, 4, 0, 0)), (69, .aload_n 0, 1, (0, 0, 0, 0)), (70, .iload 4, 2, (0, 0, 0, 0)), (72, .invokevirtual 103, 3, (187, 2, 0, 0)), (75, .ireturn, 1, (0, 0, 0, 0))]
def m_250 : VM := (RX10, yX10_lay, cX10_lay, 5, (some .int), 2, 43, k_250)
def k_251 : List VE := [(0, .aload_n 0, 1, (0, 0, 0, 0)), (1, .iload_n 1, 1, (0, 0, 0, 0)), (2, .invokevirtual 159, 3, (199, 2, 0, 0)), (5, .istore_n 3, 1, (0, 0, 0, 0)), (6, .iload_n 3, 1, (0, 0, 0, 0)), (7, .ifCond .ne 15, 3, (22, 0, 0, 0)), (10, .aload_n 0, 1, (0, 0, 0, 0)), (11, .iload_n 1, 1, (0, 0, 0, 0)), (12, .iconst 0, 1, (0, 0, 0, 0)), (13, .invokevirtual 83, 3, (192, 3, 0, 0)), (16, .iconst 1, 1, (0, 0, 0, 0)), (17, .if_icmp .eq 5, 3, (22, 0, 0, 0)), (20, .iconst 3, 1, (0, 0, 0, 0)), (21, .istore_n 3, 1, (0, 0, 0, 0)), (22, .iload_n 3, 1, (0, 0, 0, 0)), (23, .ifCond .ne 9, 3, (32, 0, 0, 0)), (26, .aload_n 0, 1, (0, 0, 0, 0)), (27, .iload_n 2, 1, (0, 0, 0, 0)), (28, .invokevirtual 159, 3, (199, 2, 0, 0)), (31, .istore_n 3, 1, (0, 0, 0, 0)), (32, .iload_n 3, 1, (0, 0, 0, 0)), (33, .ifCond .ne 15, 3, (48, 0, 0, 0)), (36, .aload_n 0, 1, (0, 0, 0, 0)), (37, .iload_n 2, 1, (0, 0, 0, 0)), (38, .iconst 0, 1, (0, 0, 0, 0)), (39, .invokevirtual 83, 3, (192, 3, 0, 0)), (42, .iconst 3, 1, (0, 0, 0, 0)), (43, .if_icmp .eq 5, 3, (48, 0, 0, 0)), (46, .iconst 3, 1, (0, 0, 0, 0)), (47, .istore_n 3, 1, (0, 0, 0, 0)), (48, .iload_n 3, 1, (0, 0, 0, 0)), (49, .ifCond .le 9, 3, (58, 0, 0, 0)), (52, .aload_n 0, 1, (0, 0, 0, 0)), (53, .iload_n 3, 1, (0, 0, 0, 0)), (54, .invokevirtual 94, 3, (186, 2, 0, 0)), (57, .ireturn, 1, (0, 0, 0, 0)), (58, .aload_n 0, 1, (0, 0, 0, 0)), (59, .invokevirtual 97, 3, (188, 1, 0, 0)), (62, .aload_n 0, 1, (0, 0, 0, 0)), (63, .iload_n 1, 1, (0, 0, 0, 0)), (64, .iconst 0, 1, (0, 0, 0, 0)), (65, .iconst 2, 1, (0, 0, 0, 0)), (66, .invokevirtual 90, 3, (193, 4, 0, 0)), (69, .aload_n 0, 1, (0, 0, 0, 0)), (70, .iload_n 1, 1, (0, 0, 0, 0)), (71, .iconst 4, 1, (0, 0, 0, 0)), (72, .iconst 0, 1, (0, 0, 0, 0)), (73, .invokevirtual 90, 3, (193, 4, 0, 0)), (76, .aload_n 0, 1, (0, 0, 0, 0)), (77, .iload_n 1, 1, (0, 0, 0, 0)), (78, .iconst 5, 1, (0, 0, 0, 0)), (79, .iload_n 2, 1, (0, 0, 0, 0)), (80, .invokevirtual 90, 3, (193, 4, 0, 0)), (83, .aload_n 0, 1, (0, 0, 0, 0)), (84, .iconst 1, 1, (0, 0, 0, 0)), (85, .invokevirtual 103, 3, (187, 2, 0, 0)), (88, .ireturn, 1, (0, 0, 0, 0))]
def m_251 : VM := (RX10, yX10_mate, cX10_mate, 4, (some .int), 2, 43, k_251)
def k_252_0 : List VE := [(0, .bipush 96, 2, (0, 0, 0, 0)), (2, .iload_n 1, 1, (0, 0, 0, 0)), (3, .imul, 1, (0, 0, 0, 0)), (4, .istore_n 2, 1, (0, 0, 0, 0)), (5, .iload_n 2, 1, (0, 0, 0, 0)), (6, .bipush 96, 2, (0, 0, 0, 0)), (8, .iload_n 1, 1, (0, 0, 0, 0)), (9, .imul, 1, (0, 0, 0, 0)), (10, .bipush 12, 2, (0, 0, 0, 0)), (12, .aload_n 0, 1, (0, 0, 0, 0)), (13, .iload_n 1, 1, (0, 0, 0, 0)), (14, .bipush 10, 2, (0, 0, 0, 0)), (16, .invokevirtual 72, 3, (190, 3, 0, 0)), (19, .imul, 1, (0, 0, 0, 0)), (20, .iadd, 1, (0, 0, 0, 0)), (21, .if_icmp .ge 141, 3, (162, 0, 0, 0)), (24, .aload_n 0, 1, (0, 0, 0, 0)), (25, .iload_n 2, 1, (0, 0, 0, 0)), (26, .invokevirtual 80, 3, (194, 2, 0, 0)), (29, .istore_n 3, 1, (0, 0, 0, 0)), (30, .iconst 0, 1, (0, 0, 0, 0)), (31, .istore 4, 2, (0, 0, 0, 0)), (33, .iload_n 3, 1, (0, 0, 0, 0)), (34, .ifCond .lt 122, 3, (156, 0, 0, 0)), (37, .iload 4, 2, (0, 0, 0, 0)), (39, .aload_n 0, 1, (0, 0, 0, 0)), (40, .iload_n 3, 1, (0, 0, 0, 0)), (41, .invokevirtual 115, 3, (195, 2, 0, 0)), (44, .if_icmp .ge 112, 3, (156, 0, 0, 0)), (47, .aload_n 0, 1, (0, 0, 0, 0)), (48, .iload_n 3, 1, (0, 0, 0, 0)), (49, .iload 4, 2, (0, 0, 0, 0)), (51, .invokevirtual 121, 3, (196, 3, 0, 0)), (54, .istore 5, 2, (0, 0, 0, 0)), (56, .iload 5, 2, (0, 0, 0, 0)), (58, .sipush 300, 3, (0, 0, 0, 0)), (61, .if_icmp .ge 6, 3, (67, 0, 0, 0)), (64, .goto 86, 3, (150, 0, 0, 0)), (67, .iload 5, 2, (0, 0, 0, 0)), (69, .iconst 1, 1, (0, 0, 0, 0)), (70, .iadd, 1, (0, 0, 0, 0)), (71, .sipush 321, 3, (0, 0, 0, 0)), (74, .if_icmp .eq 13, 3, (87, 0, 0, 0)), (77, .iload 5, 2, (0, 0, 0, 0)), (79, .iconst 1, 1, (0, 0, 0, 0)), (80, .iadd, 1, (0, 0, 0, 0)), (81, .sipush 424, 3, (0, 0, 0, 0)), (84, .if_icmp .ne 7, 3, (91, 0, 0, 0)), (87, .iconst 1, 1, (0, 0, 0, 0)), (88, .goto 4, 3, (92, 0, 0, 0)), (91, .iconst 0, 1, (0, 0, 0, 0)), (92, .istore 6, 2, (0, 0, 0, 0)), (94, .aload_n 0, 1, (0, 0, 0, 0)), (95, .iload_n 3, 1, (0, 0, 0, 0)), (96, .iload 4, 2, (0, 0, 0, 0)), (98, .iload 6, 2, (0, 0, 0, 0)), (100, .ifCond .eq 7, 3, (107, 0, 0, 0)), (103, .iconst 0, 1, (0, 0, 0, 0)), (104, .goto 7, 3, (111, 0, 0, 0)), (107, .iload 5, 2, (0, 0, 0, 0))]
def k_252_1 : List VE := [(109, .iconst 1, 1, (0, 0, 0, 0)), (110, .iadd, 1, (0, 0, 0, 0)), (111, .invokevirtual 109, 3, (197, 4, 0, 0)), (114, .iload 5, 2, (0, 0, 0, 0)), (116, .sipush 400, 3, (0, 0, 0, 0)), (119, .if_icmp .lt 7, 3, (126, 0, 0, 0)), (122, .iconst 1, 1, (0, 0, 0, 0)), (123, .goto 4, 3, (127, 0, 0, 0)), (126, .iconst 0, 1, (0, 0, 0, 0)), (127, .istore 7, 2, (0, 0, 0, 0)), (129, .iload 6, 2, (0, 0, 0, 0)), (131, .ifCond .eq 19, 3, (150, 0, 0, 0)), (134, .aload_n 0, 1, (0, 0, 0, 0)), (135, .iload_n 1, 1, (0, 0, 0, 0)), (136, .iload 7, 2, (0, 0, 0, 0)), (138, .aload_n 0, 1, (0, 0, 0, 0)), (139, .iload_n 1, 1, (0, 0, 0, 0)), (140, .iload 7, 2, (0, 0, 0, 0)), (142, .invokevirtual 72, 3, (190, 3, 0, 0)), (145, .iconst 1, 1, (0, 0, 0, 0)), (146, .iadd, 1, (0, 0, 0, 0)), (147, .invokevirtual 100, 3, (191, 4, 0, 0)), (150, .iinc 4 1, 3, (0, 0, 0, 0)), (153, .goto (-120), 3, (33, 0, 0, 0)), (156, .iinc 2 1, 3, (0, 0, 0, 0)), (159, .goto (-154), 3, (5, 0, 0, 0)), (162, .return_, 1, (0, 0, 0, 0))]
def k_252 : List VE := (k_252_0 ++ (k_252_1))
def m_252 : VM := (RX10, yX10_grow, cX10_grow, 8, none, 1, 23, k_252)
def k_253 : List VE := [(0, .iload_n 1, 1, (0, 0, 0, 0)), (1, .iconst 2, 1, (0, 0, 0, 0)), (2, .irem, 1, (0, 0, 0, 0)), (3, .iconst 1, 1, (0, 0, 0, 0)), (4, .if_icmp .ne 13, 3, (17, 0, 0, 0)), (7, .iload_n 0, 1, (0, 0, 0, 0)), (8, .iload_n 1, 1, (0, 0, 0, 0)), (9, .iconst 1, 1, (0, 0, 0, 0)), (10, .iadd, 1, (0, 0, 0, 0)), (11, .iconst 2, 1, (0, 0, 0, 0)), (12, .idiv, 1, (0, 0, 0, 0)), (13, .isub, 1, (0, 0, 0, 0)), (14, .goto 8, 3, (22, 0, 0, 0)), (17, .iload_n 0, 1, (0, 0, 0, 0)), (18, .iload_n 1, 1, (0, 0, 0, 0)), (19, .iconst 2, 1, (0, 0, 0, 0)), (20, .idiv, 1, (0, 0, 0, 0)), (21, .iadd, 1, (0, 0, 0, 0)), (22, .ireturn, 1, (0, 0, 0, 0))]
def m_253 : VM := (RX10, yX10_fromMiddle, cX10_fromMiddle, 2, (some .int), 0, 0, k_253)
def k_254 : List VE := [(0, .iload_n 2, 1, (0, 0, 0, 0)), (1, .istore 4, 2, (0, 0, 0, 0)), (3, .iconst 0, 1, (0, 0, 0, 0)), (4, .istore 5, 2, (0, 0, 0, 0)), (6, .iload 5, 2, (0, 0, 0, 0)), (8, .bipush 12, 2, (0, 0, 0, 0)), (10, .aload_n 0, 1, (0, 0, 0, 0)), (11, .iload_n 1, 1, (0, 0, 0, 0)), (12, .bipush 10, 2, (0, 0, 0, 0)), (14, .invokevirtual 72, 3, (190, 3, 0, 0)), (17, .imul, 1, (0, 0, 0, 0)), (18, .if_icmp .ge 116, 3, (134, 0, 0, 0)), (21, .iload 4, 2, (0, 0, 0, 0)), (23, .ifCond .le 111, 3, (134, 0, 0, 0)), (26, .aload_n 0, 1, (0, 0, 0, 0)), (27, .bipush 96, 2, (0, 0, 0, 0)), (29, .iload_n 1, 1, (0, 0, 0, 0)), (30, .imul, 1, (0, 0, 0, 0)), (31, .iload 5, 2, (0, 0, 0, 0)), (33, .bipush 12, 2, (0, 0, 0, 0)), (35, .idiv, 1, (0, 0, 0, 0)), (36, .bipush 12, 2, (0, 0, 0, 0)), (38, .imul, 1, (0, 0, 0, 0)), (39, .iadd, 1, (0, 0, 0, 0)), (40, .bipush 6, 2, (0, 0, 0, 0)), (42, .iload 5, 2, (0, 0, 0, 0)), (44, .bipush 12, 2, (0, 0, 0, 0)), (46, .irem, 1, (0, 0, 0, 0)), (47, .invokestatic 204, 3, (253, 2, 1, 0)), (50, .iadd, 1, (0, 0, 0, 0)), (51, .invokevirtual 80, 3, (194, 2, 0, 0)), (54, .istore 6, 2, (0, 0, 0, 0)), (56, .iconst 0, 1, (0, 0, 0, 0)), (57, .istore 7, 2, (0, 0, 0, 0)), (59, .iload 6, 2, (0, 0, 0, 0)), (61, .ifCond .lt 67, 3, (128, 0, 0, 0)), (64, .iload 7, 2, (0, 0, 0, 0)), (66, .bipush 64, 2, (0, 0, 0, 0)), (68, .if_icmp .ge 60, 3, (128, 0, 0, 0)), (71, .iload 4, 2, (0, 0, 0, 0)), (73, .ifCond .le 55, 3, (128, 0, 0, 0)), (76, .bipush 32, 2, (0, 0, 0, 0)), (78, .iload 7, 2, (0, 0, 0, 0)), (80, .invokestatic 204, 3, (253, 2, 1, 0)), (83, .istore 8, 2, (0, 0, 0, 0)), (85, .iload 8, 2, (0, 0, 0, 0)), (87, .aload_n 0, 1, (0, 0, 0, 0)), (88, .iload 6, 2, (0, 0, 0, 0)), (90, .invokevirtual 115, 3, (195, 2, 0, 0)), (93, .if_icmp .ge 29, 3, (122, 0, 0, 0)), (96, .aload_n 0, 1, (0, 0, 0, 0)), (97, .iload 6, 2, (0, 0, 0, 0)), (99, .iload 8, 2, (0, 0, 0, 0)), (101, .invokevirtual 121, 3, (196, 3, 0, 0)), (104, .ifCond .eq 6, 3, (110, 0, 0, 0)), (107, .goto 15, 3, (122, 0, 0, 0)), (110, .aload_n 0, 1, (0, 0, 0, 0)), (111, .iload 6, 2, (0, 0, 0, 0)), (113, .iload 8, 2, (0, 0, 0, 0)), (115, .iload_n 3, 1, (0, 0, 0, 0)), (116, .invokevirtual 109, 3, (197, 4, 0, 0)), (119, .iinc 4 (-1), 3, (0, 0, 0, 0)), (122, .iinc 7 1, 3, (0, 0, 0, 0)), (125, .goto (-66), 3, (59, 0, 0, 0)), (128, .iinc 5 1, 3, (0, 0, 0, 0)), (131, .goto (-125), 3, (6, 0, 0, 0)), (134, .return_, 1, (0, 0, 0, 0))]
def m_254 : VM := (RX10, yX10_fill, cX10_fill, 9, none, 1, 23, k_254)
def k_255 : List VE := [(0, .aload_n 0, 1, (0, 0, 0, 0)), (1, .iload_n 1, 1, (0, 0, 0, 0)), (2, .iconst 3, 1, (0, 0, 0, 0)), (3, .invokevirtual 72, 3, (190, 3, 0, 0)), (6, .istore_n 2, 1, (0, 0, 0, 0)), (7, .iload_n 2, 1, (0, 0, 0, 0)), (8, .ifCond .lt 15, 3, (23, 0, 0, 0)), (11, .aload_n 0, 1, (0, 0, 0, 0)), (12, .iload_n 2, 1, (0, 0, 0, 0)), (13, .invokevirtual 162, 3, (204, 2, 0, 0)), (16, .ifCond .eq 7, 3, (23, 0, 0, 0)), (19, .iconst 1, 1, (0, 0, 0, 0)), (20, .goto 4, 3, (24, 0, 0, 0)), (23, .iconst 0, 1, (0, 0, 0, 0)), (24, .istore_n 3, 1, (0, 0, 0, 0)), (25, .aload_n 0, 1, (0, 0, 0, 0)), (26, .iload_n 1, 1, (0, 0, 0, 0)), (27, .bipush 9, 2, (0, 0, 0, 0)), (29, .iload_n 2, 1, (0, 0, 0, 0)), (30, .ifCond .ge 7, 3, (37, 0, 0, 0)), (33, .iconst 1, 1, (0, 0, 0, 0)), (34, .goto 12, 3, (46, 0, 0, 0)), (37, .iload_n 3, 1, (0, 0, 0, 0)), (38, .ifCond .eq 7, 3, (45, 0, 0, 0)), (41, .iconst 0, 1, (0, 0, 0, 0)), (42, .goto 4, 3, (46, 0, 0, 0)), (45, .iconst 3, 1, (0, 0, 0, 0)), (46, .invokevirtual 100, 3, (191, 4, 0, 0)), (49, .iload_n 3, 1, (0, 0, 0, 0)), (50, .ifCond .eq 11, 3, (61, 0, 0, 0)), (53, .aload_n 0, 1, (0, 0, 0, 0)), (54, .iload_n 2, 1, (0, 0, 0, 0)), (55, .invokevirtual 188, 3, (209, 2, 0, 0)), (58, .goto 4, 3, (62, 0, 0, 0)), (61, .iconst 0, 1, (0, 0, 0, 0)), (62, .istore 4, 2, (0, 0, 0, 0)), (64, .aload_n 0, 1, (0, 0, 0, 0)), (65, .iload_n 1, 1, (0, 0, 0, 0)), (66, .iload 4, 2, (0, 0, 0, 0)), (68, .ifCond .ge 9, 3, (77, 0, 0, 0)), (71, .iload 4, 2, (0, 0, 0, 0)), (73, .ineg, 1, (0, 0, 0, 0)), (74, .goto 5, 3, (79, 0, 0, 0)), (77, .iload 4, 2, (0, 0, 0, 0)), (79, .iload 4, 2, (0, 0, 0, 0)), (81, .ifCond .ge 9, 3, (90, 0, 0, 0)), (84, .sipush 400, 3, (0, 0, 0, 0)), (87, .goto 6, 3, (93, 0, 0, 0)), (90, .sipush 300, 3, (0, 0, 0, 0)), (93, .invokevirtual 207, 3, (254, 4, 0, 0)), (96, .return_, 1, (0, 0, 0, 0))]
def m_255 : VM := (RX10, yX10_layIn, cX10_layIn, 5, none, 2, 51, k_255)
def k_256_0 : List VE := [(0, .aload_n 0, 1, (0, 0, 0, 0)), (1, .iload_n 1, 1, (0, 0, 0, 0)), (2, .iconst 2, 1, (0, 0, 0, 0)), (3, .invokevirtual 72, 3, (190, 3, 0, 0)), (6, .aload_n 0, 1, (0, 0, 0, 0)), (7, .iload_n 1, 1, (0, 0, 0, 0)), (8, .iconst 0, 1, (0, 0, 0, 0)), (9, .invokevirtual 72, 3, (190, 3, 0, 0)), (12, .iadd, 1, (0, 0, 0, 0)), (13, .aload_n 0, 1, (0, 0, 0, 0)), (14, .iload_n 1, 1, (0, 0, 0, 0)), (15, .iconst 1, 1, (0, 0, 0, 0)), (16, .invokevirtual 72, 3, (190, 3, 0, 0)), (19, .iadd, 1, (0, 0, 0, 0)), (20, .istore_n 2, 1, (0, 0, 0, 0)), (21, .iload_n 2, 1, (0, 0, 0, 0)), (22, .bipush 100, 2, (0, 0, 0, 0)), (24, .idiv, 1, (0, 0, 0, 0)), (25, .istore_n 3, 1, (0, 0, 0, 0)), (26, .aload_n 0, 1, (0, 0, 0, 0)), (27, .iload_n 1, 1, (0, 0, 0, 0)), (28, .iconst 2, 1, (0, 0, 0, 0)), (29, .iload_n 2, 1, (0, 0, 0, 0)), (30, .bipush 100, 2, (0, 0, 0, 0)), (32, .irem, 1, (0, 0, 0, 0)), (33, .invokevirtual 100, 3, (191, 4, 0, 0)), (36, .bipush 96, 2, (0, 0, 0, 0)), (38, .iload_n 1, 1, (0, 0, 0, 0)), (39, .imul, 1, (0, 0, 0, 0)), (40, .istore 4, 2, (0, 0, 0, 0)), (42, .iload 4, 2, (0, 0, 0, 0)), (44, .bipush 96, 2, (0, 0, 0, 0)), (46, .iload_n 1, 1, (0, 0, 0, 0)), (47, .imul, 1, (0, 0, 0, 0)), (48, .bipush 12, 2, (0, 0, 0, 0)), (50, .aload_n 0, 1, (0, 0, 0, 0)), (51, .iload_n 1, 1, (0, 0, 0, 0)), (52, .bipush 10, 2, (0, 0, 0, 0)), (54, .invokevirtual 72, 3, (190, 3, 0, 0)), (57, .imul, 1, (0, 0, 0, 0)), (58, .iadd, 1, (0, 0, 0, 0)), (59, .if_icmp .ge 110, 3, (169, 0, 0, 0)), (62, .aload_n 0, 1, (0, 0, 0, 0)), (63, .iload 4, 2, (0, 0, 0, 0)), (65, .invokevirtual 80, 3, (194, 2, 0, 0)), (68, .istore 5, 2, (0, 0, 0, 0)), (70, .iconst 0, 1, (0, 0, 0, 0)), (71, .istore 6, 2, (0, 0, 0, 0)), (73, .iload 5, 2, (0, 0, 0, 0)), (75, .ifCond .lt 88, 3, (163, 0, 0, 0)), (78, .iload 6, 2, (0, 0, 0, 0)), (80, .aload_n 0, 1, (0, 0, 0, 0)), (81, .iload 5, 2, (0, 0, 0, 0)), (83, .invokevirtual 115, 3, (195, 2, 0, 0)), (86, .if_icmp .ge 77, 3, (163, 0, 0, 0)), (89, .iload_n 3, 1, (0, 0, 0, 0)), (90, .ifCond .le 73, 3, (163, 0, 0, 0)), (93, .aload_n 0, 1, (0, 0, 0, 0)), (94, .iload 5, 2, (0, 0, 0, 0)), (96, .iload 6, 2, (0, 0, 0, 0))]
def k_256_1 : List VE := [(98, .invokevirtual 121, 3, (196, 3, 0, 0)), (101, .istore 7, 2, (0, 0, 0, 0)), (103, .iload 7, 2, (0, 0, 0, 0)), (105, .invokestatic 124, 3, (203, 1, 1, 0)), (108, .ifCond .ne 6, 3, (114, 0, 0, 0)), (111, .goto 46, 3, (157, 0, 0, 0)), (114, .iload 7, 2, (0, 0, 0, 0)), (116, .iload_n 3, 1, (0, 0, 0, 0)), (117, .if_icmp .ge 8, 3, (125, 0, 0, 0)), (120, .iload 7, 2, (0, 0, 0, 0)), (122, .goto 4, 3, (126, 0, 0, 0)), (125, .iload_n 3, 1, (0, 0, 0, 0)), (126, .istore 8, 2, (0, 0, 0, 0)), (128, .aload_n 0, 1, (0, 0, 0, 0)), (129, .iload 5, 2, (0, 0, 0, 0)), (131, .iload 6, 2, (0, 0, 0, 0)), (133, .iload 7, 2, (0, 0, 0, 0)), (135, .iload 8, 2, (0, 0, 0, 0)), (137, .isub, 1, (0, 0, 0, 0)), (138, .invokevirtual 109, 3, (197, 4, 0, 0)), (141, .aload_n 0, 1, (0, 0, 0, 0)), (142, .getfield 7, 3, (10, 0, 1, 1)), (145, .iconst 5, 1, (0, 0, 0, 0)), (146, .dup2, 1, (0, 0, 0, 0)), (147, .iaload, 1, (0, 0, 0, 0)), (148, .iload 8, 2, (0, 0, 0, 0)), (150, .iadd, 1, (0, 0, 0, 0)), (151, .iastore, 1, (0, 0, 0, 0)), (152, .iload_n 3, 1, (0, 0, 0, 0)), (153, .iload 8, 2, (0, 0, 0, 0)), (155, .isub, 1, (0, 0, 0, 0)), (156, .istore_n 3, 1, (0, 0, 0, 0)), (157, .iinc 6 1, 3, (0, 0, 0, 0)), (160, .goto (-87), 3, (73, 0, 0, 0)), (163, .iinc 4 1, 3, (0, 0, 0, 0)), (166, .goto (-124), 3, (42, 0, 0, 0)), (169, .ldc2_w 210, 3, (0, 0, 0, 100)), (172, .iload_n 3, 1, (0, 0, 0, 0)), (173, .i2l, 1, (0, 0, 0, 0)), (174, .lmul, 1, (0, 0, 0, 0)), (175, .lstore 4, 2, (0, 0, 0, 0)), (177, .aload_n 0, 1, (0, 0, 0, 0)), (178, .iload_n 1, 1, (0, 0, 0, 0)), (179, .iconst 0, 1, (0, 0, 0, 0)), (180, .lload 4, 2, (0, 0, 0, 0)), (182, .aload_n 0, 1, (0, 0, 0, 0)), (183, .iload_n 1, 1, (0, 0, 0, 0)), (184, .iconst 0, 1, (0, 0, 0, 0)), (185, .invokevirtual 72, 3, (190, 3, 0, 0)), (188, .i2l, 1, (0, 0, 0, 0)), (189, .lcmp, 1, (0, 0, 0, 0)), (190, .ifCond .lt 7, 3, (197, 0, 0, 0)), (193, .iconst 0, 1, (0, 0, 0, 0)), (194, .goto 13, 3, (207, 0, 0, 0)), (197, .aload_n 0, 1, (0, 0, 0, 0)), (198, .iload_n 1, 1, (0, 0, 0, 0)), (199, .iconst 0, 1, (0, 0, 0, 0)), (200, .invokevirtual 72, 3, (190, 3, 0, 0)), (203, .lload 4, 2, (0, 0, 0, 0)), (205, .l2i, 1, (0, 0, 0, 0))]
def k_256_2 : List VE := [(206, .isub, 1, (0, 0, 0, 0)), (207, .invokevirtual 100, 3, (191, 4, 0, 0)), (210, .return_, 1, (0, 0, 0, 0))]
def k_256 : List VE := (k_256_0 ++ (k_256_1 ++ (k_256_2)))
def m_256 : VM := (RX10, yX10_eat, cX10_eat, 9, none, 1, 23, k_256)
def k_257_0 : List VE := [(0, .iload_n 1, 1, (0, 0, 0, 0)), (1, .iconst 1, 1, (0, 0, 0, 0)), (2, .bipush 30, 2, (0, 0, 0, 0)), (4, .invokestatic 68, 3, (189, 3, 1, 0)), (7, .ifCond .ne 10, 3, (17, 0, 0, 0)), (10, .aload_n 0, 1, (0, 0, 0, 0)), (11, .bipush 6, 2, (0, 0, 0, 0)), (13, .invokevirtual 94, 3, (186, 2, 0, 0)), (16, .ireturn, 1, (0, 0, 0, 0)), (17, .aload_n 0, 1, (0, 0, 0, 0)), (18, .invokevirtual 97, 3, (188, 1, 0, 0)), (21, .iconst 0, 1, (0, 0, 0, 0)), (22, .istore_n 2, 1, (0, 0, 0, 0)), (23, .iload_n 2, 1, (0, 0, 0, 0)), (24, .iload_n 1, 1, (0, 0, 0, 0)), (25, .if_icmp .ge 103, 3, (128, 0, 0, 0)), (28, .iconst 0, 1, (0, 0, 0, 0)), (29, .istore_n 3, 1, (0, 0, 0, 0)), (30, .iload_n 3, 1, (0, 0, 0, 0)), (31, .aload_n 0, 1, (0, 0, 0, 0)), (32, .getfield 7, 3, (10, 0, 1, 1)), (35, .iconst 2, 1, (0, 0, 0, 0)), (36, .iaload, 1, (0, 0, 0, 0)), (37, .if_icmp .ge 20, 3, (57, 0, 0, 0)), (40, .aload_n 0, 1, (0, 0, 0, 0)), (41, .bipush 16, 2, (0, 0, 0, 0)), (43, .invokevirtual 86, 3, (205, 2, 0, 0)), (46, .aload_n 0, 1, (0, 0, 0, 0)), (47, .iload_n 3, 1, (0, 0, 0, 0)), (48, .invokevirtual 212, 3, (207, 2, 0, 0)), (51, .iinc 3 1, 3, (0, 0, 0, 0)), (54, .goto (-24), 3, (30, 0, 0, 0)), (57, .iconst 0, 1, (0, 0, 0, 0)), (58, .istore_n 3, 1, (0, 0, 0, 0)), (59, .iload_n 3, 1, (0, 0, 0, 0)), (60, .aload_n 0, 1, (0, 0, 0, 0)), (61, .getfield 7, 3, (10, 0, 1, 1)), (64, .iconst 0, 1, (0, 0, 0, 0)), (65, .iaload, 1, (0, 0, 0, 0)), (66, .if_icmp .ge 46, 3, (112, 0, 0, 0)), (69, .aload_n 0, 1, (0, 0, 0, 0)), (70, .iload_n 3, 1, (0, 0, 0, 0)), (71, .invokevirtual 215, 3, (252, 2, 0, 0)), (74, .aload_n 0, 1, (0, 0, 0, 0)), (75, .iload_n 3, 1, (0, 0, 0, 0)), (76, .invokevirtual 218, 3, (255, 2, 0, 0)), (79, .aload_n 0, 1, (0, 0, 0, 0)), (80, .iload_n 3, 1, (0, 0, 0, 0)), (81, .invokevirtual 221, 3, (256, 2, 0, 0)), (84, .aload_n 0, 1, (0, 0, 0, 0)), (85, .iload_n 3, 1, (0, 0, 0, 0)), (86, .iconst 0, 1, (0, 0, 0, 0)), (87, .aload_n 0, 1, (0, 0, 0, 0)), (88, .iload_n 3, 1, (0, 0, 0, 0)), (89, .iconst 0, 1, (0, 0, 0, 0)), (90, .invokevirtual 72, 3, (190, 3, 0, 0)), (93, .aload_n 0, 1, (0, 0, 0, 0)), (94, .iload_n 3, 1, (0, 0, 0, 0)), (95, .iconst 0, 1, (0, 0, 0, 0)), (96, .invokevirtual 72, 3, (190, 3, 0, 0))]
def k_257_1 : List VE := [(99, .bipush 40, 2, (0, 0, 0, 0)), (101, .idiv, 1, (0, 0, 0, 0)), (102, .isub, 1, (0, 0, 0, 0)), (103, .invokevirtual 100, 3, (191, 4, 0, 0)), (106, .iinc 3 1, 3, (0, 0, 0, 0)), (109, .goto (-50), 3, (59, 0, 0, 0)), (112, .aload_n 0, 1, (0, 0, 0, 0)), (113, .getfield 7, 3, (10, 0, 1, 1)), (116, .iconst 3, 1, (0, 0, 0, 0)), (117, .dup2, 1, (0, 0, 0, 0)), (118, .iaload, 1, (0, 0, 0, 0)), (119, .iconst 1, 1, (0, 0, 0, 0)), (120, .iadd, 1, (0, 0, 0, 0)), (121, .iastore, 1, (0, 0, 0, 0)), (122, .iinc 2 1, 3, (0, 0, 0, 0)), (125, .goto (-102), 3, (23, 0, 0, 0)), (128, .aload_n 0, 1, (0, 0, 0, 0)), (129, .aload_n 0, 1, (0, 0, 0, 0)), (130, .getfield 7, 3, (10, 0, 1, 1)), (133, .iconst 3, 1, (0, 0, 0, 0)), (134, .iaload, 1, (0, 0, 0, 0)), (135, .invokevirtual 103, 3, (187, 2, 0, 0)), (138, .ireturn, 1, (0, 0, 0, 0))]
def k_257 : List VE := (k_257_0 ++ (k_257_1))
def m_257 : VM := (RX10, yX10_day, cX10_day, 4, (some .int), 3, 75, k_257)
def k_258 : List VE := [(0, .aload_n 0, 1, (0, 0, 0, 0)), (1, .iload_n 1, 1, (0, 0, 0, 0)), (2, .invokevirtual 106, 3, (198, 2, 0, 0)), (5, .istore_n 3, 1, (0, 0, 0, 0)), (6, .iload_n 3, 1, (0, 0, 0, 0)), (7, .ifCond .ne 28, 3, (35, 0, 0, 0)), (10, .iload_n 2, 1, (0, 0, 0, 0)), (11, .iconst 4, 1, (0, 0, 0, 0)), (12, .if_icmp .eq 8, 3, (20, 0, 0, 0)), (15, .iload_n 2, 1, (0, 0, 0, 0)), (16, .iconst 5, 1, (0, 0, 0, 0)), (17, .if_icmp .ne 15, 3, (32, 0, 0, 0)), (20, .aload_n 0, 1, (0, 0, 0, 0)), (21, .getfield 7, 3, (10, 0, 1, 1)), (24, .iconst 2, 1, (0, 0, 0, 0)), (25, .iaload, 1, (0, 0, 0, 0)), (26, .sipush 200, 3, (0, 0, 0, 0)), (29, .if_icmp .ne 6, 3, (35, 0, 0, 0)), (32, .bipush 6, 2, (0, 0, 0, 0)), (34, .istore_n 3, 1, (0, 0, 0, 0)), (35, .iload_n 3, 1, (0, 0, 0, 0)), (36, .ifCond .le 9, 3, (45, 0, 0, 0)), (39, .aload_n 0, 1, (0, 0, 0, 0)), (40, .iload_n 3, 1, (0, 0, 0, 0)), (41, .invokevirtual 94, 3, (186, 2, 0, 0)), (44, .ireturn, 1, (0, 0, 0, 0)), (45, .aload_n 0, 1, (0, 0, 0, 0)), (46, .invokevirtual 97, 3, (188, 1, 0, 0)), (49, .aload_n 0, 1, (0, 0, 0, 0)), (50, .iload_n 2, 1, (0, 0, 0, 0)), (51, .invokevirtual 156, 3, (235, 2, 0, 0)), (54, .istore 4, 2, (0, 0, 0, 0)), (56, .aload_n 0, 1, (0, 0, 0, 0)), (57, .iload_n 1, 1, (0, 0, 0, 0)), (58, .iconst 0, 1, (0, 0, 0, 0)), (59, .invokevirtual 72, 3, (190, 3, 0, 0)), (62, .iload_n 2, 1, (0, 0, 0, 0)), (63, .iconst 4, 1, (0, 0, 0, 0)), (64, .if_icmp .ne 7, 3, (71, 0, 0, 0)), (67, .iconst 2, 1, (0, 0, 0, 0)), (68, .goto 4, 3, (72, 0, 0, 0)), (71, .iconst 3, 1, (0, 0, 0, 0)), (72, .idiv, 1, (0, 0, 0, 0)), (73, .istore 5, 2, (0, 0, 0, 0)), (75, .aload_n 0, 1, (0, 0, 0, 0)), (76, .iload 4, 2, (0, 0, 0, 0)), (78, .bipush 6, 2, (0, 0, 0, 0)), (80, .iload 5, 2, (0, 0, 0, 0)), (82, .invokevirtual 90, 3, (193, 4, 0, 0)), (85, .aload_n 0, 1, (0, 0, 0, 0)), (86, .iload_n 1, 1, (0, 0, 0, 0)), (87, .iconst 0, 1, (0, 0, 0, 0)), (88, .aload_n 0, 1, (0, 0, 0, 0)), (89, .iload_n 1, 1, (0, 0, 0, 0)), (90, .iconst 0, 1, (0, 0, 0, 0)), (91, .invokevirtual 72, 3, (190, 3, 0, 0)), (94, .iload 5, 2, (0, 0, 0, 0)), (96, .isub, 1, (0, 0, 0, 0)), (97, .invokevirtual 100, 3, (191, 4, 0, 0)), (100, .iload_n 2, 1, (0, 0, 0, 0)), (101, .iconst 4, 1, (0, 0, 0, 0)), (102, .if_icmp .ne 24, 3, (126, 0, 0, 0)), (105, .aload_n 0, 1, (0, 0, 0, 0)), (106, .iload 4, 2, (0, 0, 0, 0)), (108, .bipush 7, 2, (0, 0, 0, 0)), (110, .aload_n 0, 1, (0, 0, 0, 0)), (111, .iload_n 1, 1, (0, 0, 0, 0)), (112, .iconst 3, 1, (0, 0, 0, 0)), (113, .invokevirtual 72, 3, (190, 3, 0, 0)), (116, .invokevirtual 90, 3, (193, 4, 0, 0)), (119, .aload_n 0, 1, (0, 0, 0, 0)), (120, .iload_n 1, 1, (0, 0, 0, 0)), (121, .iconst 3, 1, (0, 0, 0, 0)), (122, .iconst (-1), 1, (0, 0, 0, 0)), (123, .invokevirtual 100, 3, (191, 4, 0, 0)), (126, .aload_n 0, 1, (0, 0, 0, 0)), (127, .iload 4, 2, (0, 0, 0, 0)), (129, .invokevirtual 103, 3, (187, 2, 0, 0)), (132, .ireturn, 1, (0, 0, 0, 0))]
def m_258 : VM := (RX10, yX10_swarm, cX10_swarm, 6, (some .int), 2, 46, k_258)
def k_259 : List VE := [(0, .aload_n 0, 1, (0, 0, 0, 0)), (1, .iload_n 1, 1, (0, 0, 0, 0)), (2, .invokevirtual 159, 3, (199, 2, 0, 0)), (5, .istore_n 3, 1, (0, 0, 0, 0)), (6, .iload_n 3, 1, (0, 0, 0, 0)), (7, .ifCond .ne 15, 3, (22, 0, 0, 0)), (10, .aload_n 0, 1, (0, 0, 0, 0)), (11, .iload_n 1, 1, (0, 0, 0, 0)), (12, .iconst 0, 1, (0, 0, 0, 0)), (13, .invokevirtual 83, 3, (192, 3, 0, 0)), (16, .iconst 4, 1, (0, 0, 0, 0)), (17, .if_icmp .ge 5, 3, (22, 0, 0, 0)), (20, .iconst 3, 1, (0, 0, 0, 0)), (21, .istore_n 3, 1, (0, 0, 0, 0)), (22, .iload_n 3, 1, (0, 0, 0, 0)), (23, .ifCond .ne 9, 3, (32, 0, 0, 0)), (26, .aload_n 0, 1, (0, 0, 0, 0)), (27, .iload_n 2, 1, (0, 0, 0, 0)), (28, .invokevirtual 106, 3, (198, 2, 0, 0)), (31, .istore_n 3, 1, (0, 0, 0, 0)), (32, .iload_n 3, 1, (0, 0, 0, 0)), (33, .ifCond .le 9, 3, (42, 0, 0, 0)), (36, .aload_n 0, 1, (0, 0, 0, 0)), (37, .iload_n 3, 1, (0, 0, 0, 0)), (38, .invokevirtual 94, 3, (186, 2, 0, 0)), (41, .ireturn, 1, (0, 0, 0, 0)), (42, .aload_n 0, 1, (0, 0, 0, 0)), (43, .invokevirtual 97, 3, (188, 1, 0, 0)), (46, .aload_n 0, 1, (0, 0, 0, 0)), (47, .iload_n 1, 1, (0, 0, 0, 0)), (48, .invokevirtual 185, 3, (208, 2, 0, 0)), (51, .istore 4, 2, (0, 0, 0, 0)), (53, .aload_n 0, 1, (0, 0, 0, 0)), (54, .iload_n 2, 1, (0, 0, 0, 0)), (55, .iconst 0, 1, (0, 0, 0, 0)), (56, .aload_n 0, 1, (0, 0, 0, 0)), (57, .iload_n 2, 1, (0, 0, 0, 0)), (58, .iconst 0, 1, (0, 0, 0, 0)), (59, .invokevirtual 72, 3, (190, 3, 0, 0)), (62, .iload 4, 2, (0, 0, 0, 0)), (64, .iadd, 1, (0, 0, 0, 0)), (65, .invokevirtual 100, 3, (191, 4, 0, 0)), (68, .aload_n 0, 1, (0, 0, 0, 0)), (69, .iload_n 1, 1, (0, 0, 0, 0)), (70, .bipush 6, 2, (0, 0, 0, 0)), (72, .iconst 0, 1, (0, 0, 0, 0)), (73, .invokevirtual 90, 3, (193, 4, 0, 0)), (76, .aload_n 0, 1, (0, 0, 0, 0)), (77, .iload_n 2, 1, (0, 0, 0, 0)), (78, .iconst 3, 1, (0, 0, 0, 0)), (79, .invokevirtual 72, 3, (190, 3, 0, 0)), (82, .ifCond .ge 16, 3, (98, 0, 0, 0)), (85, .aload_n 0, 1, (0, 0, 0, 0)), (86, .iload_n 2, 1, (0, 0, 0, 0)), (87, .iconst 3, 1, (0, 0, 0, 0)), (88, .aload_n 0, 1, (0, 0, 0, 0)), (89, .iload_n 1, 1, (0, 0, 0, 0)), (90, .bipush 7, 2, (0, 0, 0, 0)), (92, .invokevirtual 83, 3, (192, 3, 0, 0)), (95, .invokevirtual 100, 3, (191, 4, 0, 0)), (98, .aload_n 0, 1, (0, 0, 0, 0)), (99, .iload_n 1, 1, (0, 0, 0, 0)), (100, .bipush 7, 2, (0, 0, 0, 0)), (102, .iconst (-1), 1, (0, 0, 0, 0)), (103, .invokevirtual 90, 3, (193, 4, 0, 0)), (106, .aload_n 0, 1, (0, 0, 0, 0)), (107, .iload 4, 2, (0, 0, 0, 0)), (109, .invokevirtual 103, 3, (187, 2, 0, 0)), (112, .ireturn, 1, (0, 0, 0, 0))]
def m_259 : VM := (RX10, yX10_settle, cX10_settle, 5, (some .int), 2, 45, k_259)
def k_260 : List VE := [(0, .aload_n 0, 1, (0, 0, 0, 0)), (1, .iload_n 1, 1, (0, 0, 0, 0)), (2, .invokevirtual 106, 3, (198, 2, 0, 0)), (5, .istore_n 3, 1, (0, 0, 0, 0)), (6, .iload_n 3, 1, (0, 0, 0, 0)), (7, .ifCond .ne 32, 3, (39, 0, 0, 0)), (10, .iload_n 2, 1, (0, 0, 0, 0)), (11, .bipush 100, 2, (0, 0, 0, 0)), (13, .if_icmp .le 8, 3, (21, 0, 0, 0)), (16, .bipush 6, 2, (0, 0, 0, 0)), (18, .goto 20, 3, (38, 0, 0, 0)), (21, .iload_n 2, 1, (0, 0, 0, 0)), (22, .ifCond .ge 7, 3, (29, 0, 0, 0)), (25, .iconst 5, 1, (0, 0, 0, 0)), (26, .goto 12, 3, (38, 0, 0, 0)), (29, .iload_n 2, 1, (0, 0, 0, 0)), (30, .ifCond .ne 7, 3, (37, 0, 0, 0)), (33, .iconst 4, 1, (0, 0, 0, 0)), (34, .goto 4, 3, (38, 0, 0, 0)), (37, .iconst 0, 1, (0, 0, 0, 0)), (38, .istore_n 3, 1, (0, 0, 0, 0)), (39, .iload_n 3, 1, (0, 0, 0, 0)), (40, .ifCond .le 9, 3, (49, 0, 0, 0)), (43, .aload_n 0, 1, (0, 0, 0, 0)), (44, .iload_n 3, 1, (0, 0, 0, 0)), (45, .invokevirtual 94, 3, (186, 2, 0, 0)), (48, .ireturn, 1, (0, 0, 0, 0)), (49, .aload_n 0, 1, (0, 0, 0, 0)), (50, .iload_n 1, 1, (0, 0, 0, 0)), (51, .iconst 0, 1, (0, 0, 0, 0)), (52, .invokevirtual 72, 3, (190, 3, 0, 0)), (55, .istore 4, 2, (0, 0, 0, 0)), (57, .iconst 0, 1, (0, 0, 0, 0)), (58, .istore 5, 2, (0, 0, 0, 0)), (60, .iload 5, 2, (0, 0, 0, 0)), (62, .iload_n 2, 1, (0, 0, 0, 0)), (63, .if_icmp .ge 44, 3, (107, 0, 0, 0)), (66, .iload_n 2, 1, (0, 0, 0, 0)), (67, .iload 5, 2, (0, 0, 0, 0)), (69, .isub, 1, (0, 0, 0, 0)), (70, .istore 6, 2, (0, 0, 0, 0)), (72, .aload_n 0, 1, (0, 0, 0, 0)), (73, .getfield 19, 3, (10, 7, 1, 1)), (76, .iload 5, 2, (0, 0, 0, 0)), (78, .iload 4, 2, (0, 0, 0, 0)), (80, .iload 6, 2, (0, 0, 0, 0)), (82, .iadd, 1, (0, 0, 0, 0)), (83, .iconst 1, 1, (0, 0, 0, 0)), (84, .isub, 1, (0, 0, 0, 0)), (85, .iload 6, 2, (0, 0, 0, 0)), (87, .idiv, 1, (0, 0, 0, 0)), (88, .iastore, 1, (0, 0, 0, 0)), (89, .iload 4, 2, (0, 0, 0, 0)), (91, .aload_n 0, 1, (0, 0, 0, 0)), (92, .getfield 19, 3, (10, 7, 1, 1)), (95, .iload 5, 2, (0, 0, 0, 0)), (97, .iaload, 1, (0, 0, 0, 0)), (98, .isub, 1, (0, 0, 0, 0)), (99, .istore 4, 2, (0, 0, 0, 0)), (101, .iinc 5 1, 3, (0, 0, 0, 0)), (104, .goto (-44), 3, (60, 0, 0, 0)), (107, .aload_n 0, 1, (0, 0, 0, 0)), (108, .iload_n 2, 1, (0, 0, 0, 0)), (109, .putfield 22, 3, (10, 8, 0, 0)), (112, .aload_n 0, 1, (0, 0, 0, 0)), (113, .aload_n 0, 1, (0, 0, 0, 0)), (114, .iload_n 1, 1, (0, 0, 0, 0)), (115, .iconst 0, 1, (0, 0, 0, 0)), (116, .invokevirtual 72, 3, (190, 3, 0, 0)), (119, .iload_n 2, 1, (0, 0, 0, 0)), (120, .idiv, 1, (0, 0, 0, 0)), (121, .invokevirtual 103, 3, (187, 2, 0, 0)), (124, .ireturn, 1, (0, 0, 0, 0))]
def m_260 : VM := (RX10, yX10_share, cX10_share, 7, (some .int), 2, 43, k_260)
def k_261 : List VE := [(0, .aload_n 0, 1, (0, 0, 0, 0)), (1, .getfield 22, 3, (10, 8, 0, 0)), (4, .ifCond .ge 11, 3, (15, 0, 0, 0)), (7, .aload_n 0, 1, (0, 0, 0, 0)), (8, .iconst 1, 1, (0, 0, 0, 0)), (9, .invokevirtual 94, 3, (186, 2, 0, 0)), (12, .goto 35, 3, (47, 0, 0, 0)), (15, .iload_n 1, 1, (0, 0, 0, 0)), (16, .iconst 0, 1, (0, 0, 0, 0)), (17, .aload_n 0, 1, (0, 0, 0, 0)), (18, .getfield 22, 3, (10, 8, 0, 0)), (21, .iconst 1, 1, (0, 0, 0, 0)), (22, .isub, 1, (0, 0, 0, 0)), (23, .invokestatic 68, 3, (189, 3, 1, 0)), (26, .ifCond .eq 16, 3, (42, 0, 0, 0)), (29, .aload_n 0, 1, (0, 0, 0, 0)), (30, .aload_n 0, 1, (0, 0, 0, 0)), (31, .getfield 19, 3, (10, 7, 1, 1)), (34, .iload_n 1, 1, (0, 0, 0, 0)), (35, .iaload, 1, (0, 0, 0, 0)), (36, .invokevirtual 103, 3, (187, 2, 0, 0)), (39, .goto 8, 3, (47, 0, 0, 0)), (42, .aload_n 0, 1, (0, 0, 0, 0)), (43, .iconst 2, 1, (0, 0, 0, 0)), (44, .invokevirtual 94, 3, (186, 2, 0, 0)), (47, .ireturn, 1, (0, 0, 0, 0))]
def m_261 : VM := (RX10, yX10_shared, cX10_shared, 2, (some .int), 1, 22, k_261)
def k_262 : List VE := [(0, .aload_n 0, 1, (0, 0, 0, 0)), (1, .iload_n 1, 1, (0, 0, 0, 0)), (2, .invokevirtual 106, 3, (198, 2, 0, 0)), (5, .istore 4, 2, (0, 0, 0, 0)), (7, .iload 4, 2, (0, 0, 0, 0)), (9, .ifCond .ne 29, 3, (38, 0, 0, 0)), (12, .iload_n 2, 1, (0, 0, 0, 0)), (13, .iconst 0, 1, (0, 0, 0, 0)), (14, .sipush 10000, 3, (0, 0, 0, 0)), (17, .invokestatic 68, 3, (189, 3, 1, 0)), (20, .ifCond .eq 14, 3, (34, 0, 0, 0)), (23, .iload_n 3, 1, (0, 0, 0, 0)), (24, .iconst 0, 1, (0, 0, 0, 0)), (25, .sipush 10000, 3, (0, 0, 0, 0)), (28, .invokestatic 68, 3, (189, 3, 1, 0)), (31, .ifCond .ne 7, 3, (38, 0, 0, 0)), (34, .bipush 6, 2, (0, 0, 0, 0)), (36, .istore 4, 2, (0, 0, 0, 0)), (38, .iload 4, 2, (0, 0, 0, 0)), (40, .ifCond .ne 10, 3, (50, 0, 0, 0)), (43, .iload_n 3, 1, (0, 0, 0, 0)), (44, .ifCond .ne 6, 3, (50, 0, 0, 0)), (47, .iconst 4, 1, (0, 0, 0, 0)), (48, .istore 4, 2, (0, 0, 0, 0)), (50, .iload 4, 2, (0, 0, 0, 0)), (52, .ifCond .le 10, 3, (62, 0, 0, 0)), (55, .aload_n 0, 1, (0, 0, 0, 0)), (56, .iload 4, 2, (0, 0, 0, 0)), (58, .invokevirtual 94, 3, (186, 2, 0, 0)), (61, .ireturn, 1, (0, 0, 0, 0)), (62, .aload_n 0, 1, (0, 0, 0, 0)), (63, .invokevirtual 97, 3, (188, 1, 0, 0)), (66, .aload_n 0, 1, (0, 0, 0, 0)), (67, .iload_n 1, 1, (0, 0, 0, 0)), (68, .iconst 4, 1, (0, 0, 0, 0)), (69, .aload_n 0, 1, (0, 0, 0, 0)), (70, .iload_n 1, 1, (0, 0, 0, 0)), (71, .iconst 4, 1, (0, 0, 0, 0)), (72, .invokevirtual 72, 3, (190, 3, 0, 0)), (75, .iconst 1, 1, (0, 0, 0, 0)), (76, .iadd, 1, (0, 0, 0, 0)), (77, .invokevirtual 100, 3, (191, 4, 0, 0)), (80, .aload_n 0, 1, (0, 0, 0, 0)), (81, .iload_n 1, 1, (0, 0, 0, 0)), (82, .iconst 5, 1, (0, 0, 0, 0)), (83, .aload_n 0, 1, (0, 0, 0, 0)), (84, .iload_n 1, 1, (0, 0, 0, 0)), (85, .iconst 5, 1, (0, 0, 0, 0)), (86, .invokevirtual 72, 3, (190, 3, 0, 0)), (89, .iload_n 2, 1, (0, 0, 0, 0)), (90, .iadd, 1, (0, 0, 0, 0)), (91, .invokevirtual 100, 3, (191, 4, 0, 0)), (94, .aload_n 0, 1, (0, 0, 0, 0)), (95, .iload_n 1, 1, (0, 0, 0, 0)), (96, .bipush 6, 2, (0, 0, 0, 0)), (98, .aload_n 0, 1, (0, 0, 0, 0)), (99, .iload_n 1, 1, (0, 0, 0, 0)), (100, .bipush 6, 2, (0, 0, 0, 0)), (102, .invokevirtual 72, 3, (190, 3, 0, 0)), (105, .iload_n 3, 1, (0, 0, 0, 0)), (106, .iadd, 1, (0, 0, 0, 0)), (107, .invokevirtual 100, 3, (191, 4, 0, 0)), (110, .aload_n 0, 1, (0, 0, 0, 0)), (111, .aload_n 0, 1, (0, 0, 0, 0)), (112, .iload_n 1, 1, (0, 0, 0, 0)), (113, .iconst 4, 1, (0, 0, 0, 0)), (114, .invokevirtual 72, 3, (190, 3, 0, 0)), (117, .invokevirtual 103, 3, (187, 2, 0, 0)), (120, .ireturn, 1, (0, 0, 0, 0))]
def m_262 : VM := (RX10, yX10_sample, cX10_sample, 5, (some .int), 2, 43, k_262)
def k_263 : List VE := [(0, .iload_n 0, 1, (0, 0, 0, 0)), (1, .istore_n 2, 1, (0, 0, 0, 0)), (2, .iload_n 1, 1, (0, 0, 0, 0)), (3, .istore_n 3, 1, (0, 0, 0, 0)), (4, .iload_n 3, 1, (0, 0, 0, 0)), (5, .ifCond .le 16, 3, (21, 0, 0, 0)), (8, .iload_n 2, 1, (0, 0, 0, 0)), (9, .iload_n 3, 1, (0, 0, 0, 0)), (10, .irem, 1, (0, 0, 0, 0)), (11, .istore 4, 2, (0, 0, 0, 0)), (13, .iload_n 3, 1, (0, 0, 0, 0)), (14, .istore_n 2, 1, (0, 0, 0, 0)), (15, .iload 4, 2, (0, 0, 0, 0)), (17, .istore_n 3, 1, (0, 0, 0, 0)), (18, .goto (-14), 3, (4, 0, 0, 0)), (21, .iload_n 2, 1, (0, 0, 0, 0)), (22, .ireturn, 1, (0, 0, 0, 0))]
def m_263 : VM := (RX10, yX10_divisor, cX10_divisor, 5, (some .int), 0, 0, k_263)
def k_264 : List VE := [(0, .aload_n 0, 1, (0, 0, 0, 0)), (1, .iload_n 1, 1, (0, 0, 0, 0)), (2, .invokevirtual 106, 3, (198, 2, 0, 0)), (5, .istore_n 3, 1, (0, 0, 0, 0)), (6, .iload_n 3, 1, (0, 0, 0, 0)), (7, .ifCond .ne 15, 3, (22, 0, 0, 0)), (10, .iload_n 2, 1, (0, 0, 0, 0)), (11, .iconst 0, 1, (0, 0, 0, 0)), (12, .iconst 3, 1, (0, 0, 0, 0)), (13, .invokestatic 68, 3, (189, 3, 1, 0)), (16, .ifCond .ne 6, 3, (22, 0, 0, 0)), (19, .bipush 6, 2, (0, 0, 0, 0)), (21, .istore_n 3, 1, (0, 0, 0, 0)), (22, .iload_n 3, 1, (0, 0, 0, 0)), (23, .ifCond .ne 20, 3, (43, 0, 0, 0)), (26, .iload_n 2, 1, (0, 0, 0, 0)), (27, .iconst 1, 1, (0, 0, 0, 0)), (28, .if_icmp .le 15, 3, (43, 0, 0, 0)), (31, .aload_n 0, 1, (0, 0, 0, 0)), (32, .iload_n 1, 1, (0, 0, 0, 0)), (33, .bipush 6, 2, (0, 0, 0, 0)), (35, .invokevirtual 72, 3, (190, 3, 0, 0)), (38, .ifCond .ne 5, 3, (43, 0, 0, 0)), (41, .iconst 4, 1, (0, 0, 0, 0)), (42, .istore_n 3, 1, (0, 0, 0, 0)), (43, .iload_n 3, 1, (0, 0, 0, 0)), (44, .ifCond .le 9, 3, (53, 0, 0, 0)), (47, .aload_n 0, 1, (0, 0, 0, 0)), (48, .iload_n 3, 1, (0, 0, 0, 0)), (49, .invokevirtual 94, 3, (186, 2, 0, 0)), (52, .ireturn, 1, (0, 0, 0, 0)), (53, .aload_n 0, 1, (0, 0, 0, 0)), (54, .iload_n 1, 1, (0, 0, 0, 0)), (55, .iload_n 2, 1, (0, 0, 0, 0)), (56, .iconst 2, 1, (0, 0, 0, 0)), (57, .irem, 1, (0, 0, 0, 0)), (58, .ifCond .ne 7, 3, (65, 0, 0, 0)), (61, .iconst 5, 1, (0, 0, 0, 0)), (62, .goto 5, 3, (67, 0, 0, 0)), (65, .bipush 6, 2, (0, 0, 0, 0)), (67, .invokevirtual 72, 3, (190, 3, 0, 0)), (70, .istore 4, 2, (0, 0, 0, 0)), (72, .aload_n 0, 1, (0, 0, 0, 0)), (73, .iload_n 2, 1, (0, 0, 0, 0)), (74, .iconst 2, 1, (0, 0, 0, 0)), (75, .if_icmp .ge 8, 3, (83, 0, 0, 0)), (78, .iload 4, 2, (0, 0, 0, 0)), (80, .goto 22, 3, (102, 0, 0, 0)), (83, .iload 4, 2, (0, 0, 0, 0)), (85, .aload_n 0, 1, (0, 0, 0, 0)), (86, .iload_n 1, 1, (0, 0, 0, 0)), (87, .iconst 5, 1, (0, 0, 0, 0)), (88, .invokevirtual 72, 3, (190, 3, 0, 0)), (91, .aload_n 0, 1, (0, 0, 0, 0)), (92, .iload_n 1, 1, (0, 0, 0, 0)), (93, .bipush 6, 2, (0, 0, 0, 0)), (95, .invokevirtual 72, 3, (190, 3, 0, 0)), (98, .invokestatic 224, 3, (263, 2, 1, 0)), (101, .idiv, 1, (0, 0, 0, 0)), (102, .invokevirtual 103, 3, (187, 2, 0, 0)), (105, .ireturn, 1, (0, 0, 0, 0))]
def m_264 : VM := (RX10, yX10_mites, cX10_mites, 5, (some .int), 2, 43, k_264)
def k_265 : List VE := [(0, .aload_n 0, 1, (0, 0, 0, 0)), (1, .iload_n 1, 1, (0, 0, 0, 0)), (2, .invokevirtual 106, 3, (198, 2, 0, 0)), (5, .aload_n 0, 1, (0, 0, 0, 0)), (6, .iload_n 2, 1, (0, 0, 0, 0)), (7, .invokevirtual 106, 3, (198, 2, 0, 0)), (10, .invokestatic 137, 3, (202, 2, 1, 0)), (13, .istore_n 3, 1, (0, 0, 0, 0)), (14, .iload_n 3, 1, (0, 0, 0, 0)), (15, .ifCond .ne 25, 3, (40, 0, 0, 0)), (18, .aload_n 0, 1, (0, 0, 0, 0)), (19, .iload_n 1, 1, (0, 0, 0, 0)), (20, .bipush 6, 2, (0, 0, 0, 0)), (22, .invokevirtual 72, 3, (190, 3, 0, 0)), (25, .ifCond .eq 13, 3, (38, 0, 0, 0)), (28, .aload_n 0, 1, (0, 0, 0, 0)), (29, .iload_n 2, 1, (0, 0, 0, 0)), (30, .bipush 6, 2, (0, 0, 0, 0)), (32, .invokevirtual 72, 3, (190, 3, 0, 0)), (35, .ifCond .ne 5, 3, (40, 0, 0, 0)), (38, .iconst 4, 1, (0, 0, 0, 0)), (39, .istore_n 3, 1, (0, 0, 0, 0)), (40, .iload_n 3, 1, (0, 0, 0, 0)), (41, .ifCond .le 9, 3, (50, 0, 0, 0)), (44, .aload_n 0, 1, (0, 0, 0, 0)), (45, .iload_n 3, 1, (0, 0, 0, 0)), (46, .invokevirtual 94, 3, (186, 2, 0, 0)), (49, .ireturn, 1, (0, 0, 0, 0)), (50, .aload_n 0, 1, (0, 0, 0, 0)), (51, .iload_n 1, 1, (0, 0, 0, 0)), (52, .iconst 5, 1, (0, 0, 0, 0)), (53, .invokevirtual 72, 3, (190, 3, 0, 0)), (56, .i2l, 1, (0, 0, 0, 0)), (57, .aload_n 0, 1, (0, 0, 0, 0)), (58, .iload_n 2, 1, (0, 0, 0, 0)), (59, .bipush 6, 2, (0, 0, 0, 0)), (61, .invokevirtual 72, 3, (190, 3, 0, 0)), (64, .i2l, 1, (0, 0, 0, 0)), (65, .lmul, 1, (0, 0, 0, 0)), (66, .lstore 4, 2, (0, 0, 0, 0)), (68, .aload_n 0, 1, (0, 0, 0, 0)), (69, .iload_n 2, 1, (0, 0, 0, 0)), (70, .iconst 5, 1, (0, 0, 0, 0)), (71, .invokevirtual 72, 3, (190, 3, 0, 0)), (74, .i2l, 1, (0, 0, 0, 0)), (75, .aload_n 0, 1, (0, 0, 0, 0)), (76, .iload_n 1, 1, (0, 0, 0, 0)), (77, .bipush 6, 2, (0, 0, 0, 0)), (79, .invokevirtual 72, 3, (190, 3, 0, 0)), (82, .i2l, 1, (0, 0, 0, 0)), (83, .lmul, 1, (0, 0, 0, 0)), (84, .lstore 6, 2, (0, 0, 0, 0)), (86, .aload_n 0, 1, (0, 0, 0, 0)), (87, .lload 4, 2, (0, 0, 0, 0)), (89, .lload 6, 2, (0, 0, 0, 0)), (91, .lcmp, 1, (0, 0, 0, 0)), (92, .ifCond .ge 7, 3, (99, 0, 0, 0)), (95, .iconst 0, 1, (0, 0, 0, 0)), (96, .goto 16, 3, (112, 0, 0, 0)), (99, .lload 4, 2, (0, 0, 0, 0)), (101, .lload 6, 2, (0, 0, 0, 0)), (103, .lcmp, 1, (0, 0, 0, 0)), (104, .ifCond .ne 7, 3, (111, 0, 0, 0)), (107, .iconst 1, 1, (0, 0, 0, 0)), (108, .goto 4, 3, (112, 0, 0, 0)), (111, .iconst 2, 1, (0, 0, 0, 0)), (112, .invokevirtual 103, 3, (187, 2, 0, 0)), (115, .ireturn, 1, (0, 0, 0, 0))]
def m_265 : VM := (RX10, yX10_compare, cX10_compare, 8, (some .int), 2, 43, k_265)
def k_266 : List VE := [(0, .aload_n 0, 1, (0, 0, 0, 0)), (1, .iload_n 1, 1, (0, 0, 0, 0)), (2, .invokevirtual 106, 3, (198, 2, 0, 0)), (5, .istore_n 2, 1, (0, 0, 0, 0)), (6, .iload_n 2, 1, (0, 0, 0, 0)), (7, .ifCond .le 9, 3, (16, 0, 0, 0)), (10, .aload_n 0, 1, (0, 0, 0, 0)), (11, .iload_n 2, 1, (0, 0, 0, 0)), (12, .invokevirtual 94, 3, (186, 2, 0, 0)), (15, .ireturn, 1, (0, 0, 0, 0)), (16, .aload_n 0, 1, (0, 0, 0, 0)), (17, .invokevirtual 97, 3, (188, 1, 0, 0)), (20, .iconst 4, 1, (0, 0, 0, 0)), (21, .istore_n 3, 1, (0, 0, 0, 0)), (22, .iload_n 3, 1, (0, 0, 0, 0)), (23, .bipush 6, 2, (0, 0, 0, 0)), (25, .if_icmp .gt 16, 3, (41, 0, 0, 0)), (28, .aload_n 0, 1, (0, 0, 0, 0)), (29, .iload_n 1, 1, (0, 0, 0, 0)), (30, .iload_n 3, 1, (0, 0, 0, 0)), (31, .iconst 0, 1, (0, 0, 0, 0)), (32, .invokevirtual 100, 3, (191, 4, 0, 0)), (35, .iinc 3 1, 3, (0, 0, 0, 0)), (38, .goto (-16), 3, (22, 0, 0, 0)), (41, .aload_n 0, 1, (0, 0, 0, 0)), (42, .iconst 1, 1, (0, 0, 0, 0)), (43, .invokevirtual 103, 3, (187, 2, 0, 0)), (46, .ireturn, 1, (0, 0, 0, 0))]
def m_266 : VM := (RX10, yX10_treat, cX10_treat, 4, (some .int), 2, 43, k_266)
def k_267 : List VE := [(0, .aload_n 0, 1, (0, 0, 0, 0)), (1, .iload_n 1, 1, (0, 0, 0, 0)), (2, .invokevirtual 106, 3, (198, 2, 0, 0)), (5, .istore 4, 2, (0, 0, 0, 0)), (7, .iload 4, 2, (0, 0, 0, 0)), (9, .ifCond .ne 36, 3, (45, 0, 0, 0)), (12, .iload_n 2, 1, (0, 0, 0, 0)), (13, .ifCond .ne 7, 3, (20, 0, 0, 0)), (16, .iload_n 3, 1, (0, 0, 0, 0)), (17, .ifCond .eq 28, 3, (45, 0, 0, 0)), (20, .iload_n 2, 1, (0, 0, 0, 0)), (21, .iconst 1, 1, (0, 0, 0, 0)), (22, .bipush 30, 2, (0, 0, 0, 0)), (24, .invokestatic 68, 3, (189, 3, 1, 0)), (27, .ifCond .eq 14, 3, (41, 0, 0, 0)), (30, .iload_n 3, 1, (0, 0, 0, 0)), (31, .iconst 1, 1, (0, 0, 0, 0)), (32, .sipush 1000, 3, (0, 0, 0, 0)), (35, .invokestatic 68, 3, (189, 3, 1, 0)), (38, .ifCond .ne 7, 3, (45, 0, 0, 0)), (41, .bipush 6, 2, (0, 0, 0, 0)), (43, .istore 4, 2, (0, 0, 0, 0)), (45, .iload 4, 2, (0, 0, 0, 0)), (47, .ifCond .le 10, 3, (57, 0, 0, 0)), (50, .aload_n 0, 1, (0, 0, 0, 0)), (51, .iload 4, 2, (0, 0, 0, 0)), (53, .invokevirtual 94, 3, (186, 2, 0, 0)), (56, .ireturn, 1, (0, 0, 0, 0)), (57, .aload_n 0, 1, (0, 0, 0, 0)), (58, .invokevirtual 97, 3, (188, 1, 0, 0)), (61, .aload_n 0, 1, (0, 0, 0, 0)), (62, .iload_n 1, 1, (0, 0, 0, 0)), (63, .bipush 7, 2, (0, 0, 0, 0)), (65, .iload_n 2, 1, (0, 0, 0, 0)), (66, .invokevirtual 100, 3, (191, 4, 0, 0)), (69, .aload_n 0, 1, (0, 0, 0, 0)), (70, .iload_n 1, 1, (0, 0, 0, 0)), (71, .bipush 8, 2, (0, 0, 0, 0)), (73, .iload_n 3, 1, (0, 0, 0, 0)), (74, .invokevirtual 100, 3, (191, 4, 0, 0)), (77, .aload_n 0, 1, (0, 0, 0, 0)), (78, .iconst 1, 1, (0, 0, 0, 0)), (79, .invokevirtual 103, 3, (187, 2, 0, 0)), (82, .ireturn, 1, (0, 0, 0, 0))]
def m_267 : VM := (RX10, yX10_due, cX10_due, 5, (some .int), 2, 43, k_267)
def k_268 : List VE := [(0, .iload_n 2, 1, (0, 0, 0, 0)), (1, .i2l, 1, (0, 0, 0, 0)), (2, .aload_n 0, 1, (0, 0, 0, 0)), (3, .iload_n 1, 1, (0, 0, 0, 0)), (4, .bipush 6, 2, (0, 0, 0, 0)), (6, .invokevirtual 72, 3, (190, 3, 0, 0)), (9, .i2l, 1, (0, 0, 0, 0)), (10, .lmul, 1, (0, 0, 0, 0)), (11, .aload_n 0, 1, (0, 0, 0, 0)), (12, .iload_n 1, 1, (0, 0, 0, 0)), (13, .iconst 5, 1, (0, 0, 0, 0)), (14, .invokevirtual 72, 3, (190, 3, 0, 0)), (17, .i2l, 1, (0, 0, 0, 0)), (18, .iload_n 3, 1, (0, 0, 0, 0)), (19, .i2l, 1, (0, 0, 0, 0)), (20, .lmul, 1, (0, 0, 0, 0)), (21, .lsub, 1, (0, 0, 0, 0)), (22, .lstore 4, 2, (0, 0, 0, 0)), (24, .lload 4, 2, (0, 0, 0, 0)), (26, .lconst 0, 1, (0, 0, 0, 0)), (27, .lcmp, 1, (0, 0, 0, 0)), (28, .ifCond .ge 7, 3, (35, 0, 0, 0)), (31, .lconst 0, 1, (0, 0, 0, 0)), (32, .goto 19, 3, (51, 0, 0, 0)), (35, .lload 4, 2, (0, 0, 0, 0)), (37, .aload_n 0, 1, (0, 0, 0, 0)), (38, .iload_n 1, 1, (0, 0, 0, 0)), (39, .bipush 8, 2, (0, 0, 0, 0)), (41, .invokevirtual 72, 3, (190, 3, 0, 0)), (44, .i2l, 1, (0, 0, 0, 0)), (45, .iload_n 3, 1, (0, 0, 0, 0)), (46, .i2l, 1, (0, 0, 0, 0)), (47, .lmul, 1, (0, 0, 0, 0)), (48, .ldiv, 1, (0, 0, 0, 0)), (49, .lconst 1, 1, (0, 0, 0, 0)), (50, .ladd, 1, (0, 0, 0, 0)), (51, .lreturn, 1, (0, 0, 0, 0))]
def m_268 : VM := (RX10, yX10_overFrom, cX10_overFrom, 6, (some .long), 1, 22, k_268)
def k_269 : List VE := [(0, .aload_n 0, 1, (0, 0, 0, 0)), (1, .getfield 58, 3, (10, 19, 1, 1)), (4, .iload_n 1, 1, (0, 0, 0, 0)), (5, .iaload, 1, (0, 0, 0, 0)), (6, .aload_n 0, 1, (0, 0, 0, 0)), (7, .aload_n 0, 1, (0, 0, 0, 0)), (8, .getfield 48, 3, (10, 16, 1, 1)), (11, .iload_n 2, 1, (0, 0, 0, 0)), (12, .iaload, 1, (0, 0, 0, 0)), (13, .bipush 7, 2, (0, 0, 0, 0)), (15, .invokevirtual 72, 3, (190, 3, 0, 0)), (18, .iadd, 1, (0, 0, 0, 0)), (19, .i2l, 1, (0, 0, 0, 0)), (20, .lstore_n 3, 1, (0, 0, 0, 0)), (21, .lload_n 3, 1, (0, 0, 0, 0)), (22, .aload_n 0, 1, (0, 0, 0, 0)), (23, .getfield 51, 3, (10, 17, 1, 1)), (26, .iload_n 2, 1, (0, 0, 0, 0)), (27, .laload, 1, (0, 0, 0, 0)), (28, .lcmp, 1, (0, 0, 0, 0)), (29, .ifCond .le 14, 3, (43, 0, 0, 0)), (32, .lload_n 3, 1, (0, 0, 0, 0)), (33, .aload_n 0, 1, (0, 0, 0, 0)), (34, .getfield 51, 3, (10, 17, 1, 1)), (37, .iload_n 2, 1, (0, 0, 0, 0)), (38, .laload, 1, (0, 0, 0, 0)), (39, .lsub, 1, (0, 0, 0, 0)), (40, .goto 4, 3, (44, 0, 0, 0)), (43, .lconst 0, 1, (0, 0, 0, 0)), (44, .lreturn, 1, (0, 0, 0, 0))]
def m_269 : VM := (RX10, yX10_lateness, cX10_lateness, 5, (some .long), 1, 22, k_269)
def k_270_0 : List VE := [(0, .iconst 1, 1, (0, 0, 0, 0)), (1, .iload_n 1, 1, (0, 0, 0, 0)), (2, .ishl, 1, (0, 0, 0, 0)), (3, .iconst 1, 1, (0, 0, 0, 0)), (4, .isub, 1, (0, 0, 0, 0)), (5, .istore_n 2, 1, (0, 0, 0, 0)), (6, .iconst 0, 1, (0, 0, 0, 0)), (7, .istore_n 3, 1, (0, 0, 0, 0)), (8, .iload_n 3, 1, (0, 0, 0, 0)), (9, .iload_n 2, 1, (0, 0, 0, 0)), (10, .if_icmp .gt 60, 3, (70, 0, 0, 0)), (13, .aload_n 0, 1, (0, 0, 0, 0)), (14, .getfield 58, 3, (10, 19, 1, 1)), (17, .iload_n 3, 1, (0, 0, 0, 0)), (18, .iconst 0, 1, (0, 0, 0, 0)), (19, .iastore, 1, (0, 0, 0, 0)), (20, .iconst 0, 1, (0, 0, 0, 0)), (21, .istore 4, 2, (0, 0, 0, 0)), (23, .iload 4, 2, (0, 0, 0, 0)), (25, .iload_n 1, 1, (0, 0, 0, 0)), (26, .if_icmp .ge 38, 3, (64, 0, 0, 0)), (29, .aload_n 0, 1, (0, 0, 0, 0)), (30, .getfield 58, 3, (10, 19, 1, 1)), (33, .iload_n 3, 1, (0, 0, 0, 0)), (34, .dup2, 1, (0, 0, 0, 0)), (35, .iaload, 1, (0, 0, 0, 0)), (36, .iload_n 3, 1, (0, 0, 0, 0)), (37, .iload 4, 2, (0, 0, 0, 0)), (39, .ishr, 1, (0, 0, 0, 0)), (40, .iconst 1, 1, (0, 0, 0, 0)), (41, .iand, 1, (0, 0, 0, 0)), (42, .aload_n 0, 1, (0, 0, 0, 0)), (43, .aload_n 0, 1, (0, 0, 0, 0)), (44, .getfield 48, 3, (10, 16, 1, 1)), (47, .iload 4, 2, (0, 0, 0, 0)), (49, .iaload, 1, (0, 0, 0, 0)), (50, .bipush 7, 2, (0, 0, 0, 0)), (52, .invokevirtual 72, 3, (190, 3, 0, 0)), (55, .imul, 1, (0, 0, 0, 0)), (56, .iadd, 1, (0, 0, 0, 0)), (57, .iastore, 1, (0, 0, 0, 0)), (58, .iinc 4 1, 3, (0, 0, 0, 0)), (61, .goto (-38), 3, (23, 0, 0, 0)), (64, .iinc 3 1, 3, (0, 0, 0, 0)), (67, .goto (-59), 3, (8, 0, 0, 0)), (70, .iload_n 2, 1, (0, 0, 0, 0)), (71, .istore_n 3, 1, (0, 0, 0, 0)), (72, .iload_n 3, 1, (0, 0, 0, 0)), (73, .ifCond .lt 116, 3, (189, 0, 0, 0)), (76, .aload_n 0, 1, (0, 0, 0, 0)), (77, .getfield 55, 3, (10, 18, 1, 1)), (80, .iload_n 3, 1, (0, 0, 0, 0)), (81, .iload_n 3, 1, (0, 0, 0, 0)), (82, .iload_n 2, 1, (0, 0, 0, 0)), (83, .if_icmp .ne 7, 3, (90, 0, 0, 0)), (86, .lconst 0, 1, (0, 0, 0, 0)), (87, .goto 6, 3, (93, 0, 0, 0)), (90, .ldc2_w 227, 3, (0, 0, 0, -1)), (93, .lastore, 1, (0, 0, 0, 0)), (94, .iconst 0, 1, (0, 0, 0, 0))]
def k_270_1 : List VE := [(95, .istore 4, 2, (0, 0, 0, 0)), (97, .iload 4, 2, (0, 0, 0, 0)), (99, .iload_n 1, 1, (0, 0, 0, 0)), (100, .if_icmp .ge 83, 3, (183, 0, 0, 0)), (103, .iload_n 3, 1, (0, 0, 0, 0)), (104, .iload 4, 2, (0, 0, 0, 0)), (106, .ishr, 1, (0, 0, 0, 0)), (107, .iconst 1, 1, (0, 0, 0, 0)), (108, .iand, 1, (0, 0, 0, 0)), (109, .iconst 1, 1, (0, 0, 0, 0)), (110, .if_icmp .ne 6, 3, (116, 0, 0, 0)), (113, .goto 64, 3, (177, 0, 0, 0)), (116, .aload_n 0, 1, (0, 0, 0, 0)), (117, .iload_n 3, 1, (0, 0, 0, 0)), (118, .iload 4, 2, (0, 0, 0, 0)), (120, .invokevirtual 229, 3, (269, 3, 0, 0)), (123, .aload_n 0, 1, (0, 0, 0, 0)), (124, .getfield 55, 3, (10, 18, 1, 1)), (127, .iload_n 3, 1, (0, 0, 0, 0)), (128, .iconst 1, 1, (0, 0, 0, 0)), (129, .iload 4, 2, (0, 0, 0, 0)), (131, .ishl, 1, (0, 0, 0, 0)), (132, .ior, 1, (0, 0, 0, 0)), (133, .laload, 1, (0, 0, 0, 0)), (134, .ladd, 1, (0, 0, 0, 0)), (135, .lstore 5, 2, (0, 0, 0, 0)), (137, .aload_n 0, 1, (0, 0, 0, 0)), (138, .getfield 55, 3, (10, 18, 1, 1)), (141, .iload_n 3, 1, (0, 0, 0, 0)), (142, .aload_n 0, 1, (0, 0, 0, 0)), (143, .getfield 55, 3, (10, 18, 1, 1)), (146, .iload_n 3, 1, (0, 0, 0, 0)), (147, .laload, 1, (0, 0, 0, 0)), (148, .lconst 0, 1, (0, 0, 0, 0)), (149, .lcmp, 1, (0, 0, 0, 0)), (150, .ifCond .lt 15, 3, (165, 0, 0, 0)), (153, .lload 5, 2, (0, 0, 0, 0)), (155, .aload_n 0, 1, (0, 0, 0, 0)), (156, .getfield 55, 3, (10, 18, 1, 1)), (159, .iload_n 3, 1, (0, 0, 0, 0)), (160, .laload, 1, (0, 0, 0, 0)), (161, .lcmp, 1, (0, 0, 0, 0)), (162, .ifCond .ge 8, 3, (170, 0, 0, 0)), (165, .lload 5, 2, (0, 0, 0, 0)), (167, .goto 9, 3, (176, 0, 0, 0)), (170, .aload_n 0, 1, (0, 0, 0, 0)), (171, .getfield 55, 3, (10, 18, 1, 1)), (174, .iload_n 3, 1, (0, 0, 0, 0)), (175, .laload, 1, (0, 0, 0, 0)), (176, .lastore, 1, (0, 0, 0, 0)), (177, .iinc 4 1, 3, (0, 0, 0, 0)), (180, .goto (-83), 3, (97, 0, 0, 0)), (183, .iinc 3 (-1), 3, (0, 0, 0, 0)), (186, .goto (-114), 3, (72, 0, 0, 0)), (189, .return_, 1, (0, 0, 0, 0))]
def k_270 : List VE := (k_270_0 ++ (k_270_1))
def m_270 : VM := (RX10, yX10_reckonLeast, cX10_reckonLeast, 7, none, 2, 46, k_270)
def k_271_0 : List VE := [(0, .iload_n 1, 1, (0, 0, 0, 0)), (1, .iconst 0, 1, (0, 0, 0, 0)), (2, .sipush 10000, 3, (0, 0, 0, 0)), (5, .invokestatic 68, 3, (189, 3, 1, 0)), (8, .ifCond .eq 14, 3, (22, 0, 0, 0)), (11, .iload_n 2, 1, (0, 0, 0, 0)), (12, .iconst 0, 1, (0, 0, 0, 0)), (13, .sipush 10000, 3, (0, 0, 0, 0)), (16, .invokestatic 68, 3, (189, 3, 1, 0)), (19, .ifCond .ne 10, 3, (29, 0, 0, 0)), (22, .aload_n 0, 1, (0, 0, 0, 0)), (23, .bipush 6, 2, (0, 0, 0, 0)), (25, .invokevirtual 94, 3, (186, 2, 0, 0)), (28, .ireturn, 1, (0, 0, 0, 0)), (29, .iconst 0, 1, (0, 0, 0, 0)), (30, .istore_n 3, 1, (0, 0, 0, 0)), (31, .iload_n 2, 1, (0, 0, 0, 0)), (32, .ifCond .ne 7, 3, (39, 0, 0, 0)), (35, .iconst 1, 1, (0, 0, 0, 0)), (36, .goto 4, 3, (40, 0, 0, 0)), (39, .iconst 0, 1, (0, 0, 0, 0)), (40, .istore 4, 2, (0, 0, 0, 0)), (42, .iconst 0, 1, (0, 0, 0, 0)), (43, .istore 5, 2, (0, 0, 0, 0)), (45, .iload 5, 2, (0, 0, 0, 0)), (47, .aload_n 0, 1, (0, 0, 0, 0)), (48, .getfield 7, 3, (10, 0, 1, 1)), (51, .iconst 0, 1, (0, 0, 0, 0)), (52, .iaload, 1, (0, 0, 0, 0)), (53, .if_icmp .ge 57, 3, (110, 0, 0, 0)), (56, .aload_n 0, 1, (0, 0, 0, 0)), (57, .iload 5, 2, (0, 0, 0, 0)), (59, .bipush 7, 2, (0, 0, 0, 0)), (61, .invokevirtual 72, 3, (190, 3, 0, 0)), (64, .ifCond .ne 6, 3, (70, 0, 0, 0)), (67, .goto 37, 3, (104, 0, 0, 0)), (70, .aload_n 0, 1, (0, 0, 0, 0)), (71, .getfield 48, 3, (10, 16, 1, 1)), (74, .iload_n 3, 1, (0, 0, 0, 0)), (75, .iload 5, 2, (0, 0, 0, 0)), (77, .iastore, 1, (0, 0, 0, 0)), (78, .iload 4, 2, (0, 0, 0, 0)), (80, .ifCond .ne 14, 3, (94, 0, 0, 0)), (83, .aload_n 0, 1, (0, 0, 0, 0)), (84, .iload 5, 2, (0, 0, 0, 0)), (86, .bipush 6, 2, (0, 0, 0, 0)), (88, .invokevirtual 72, 3, (190, 3, 0, 0)), (91, .ifCond .ne 7, 3, (98, 0, 0, 0)), (94, .iconst 1, 1, (0, 0, 0, 0)), (95, .goto 4, 3, (99, 0, 0, 0)), (98, .iconst 0, 1, (0, 0, 0, 0)), (99, .istore 4, 2, (0, 0, 0, 0)), (101, .iinc 3 1, 3, (0, 0, 0, 0)), (104, .iinc 5 1, 3, (0, 0, 0, 0)), (107, .goto (-62), 3, (45, 0, 0, 0)), (110, .iload_n 3, 1, (0, 0, 0, 0)), (111, .bipush 8, 2, (0, 0, 0, 0)), (113, .if_icmp .le 10, 3, (123, 0, 0, 0)), (116, .aload_n 0, 1, (0, 0, 0, 0)), (117, .bipush 8, 2, (0, 0, 0, 0))]
def k_271_1 : List VE := [(119, .invokevirtual 94, 3, (186, 2, 0, 0)), (122, .ireturn, 1, (0, 0, 0, 0)), (123, .iload_n 3, 1, (0, 0, 0, 0)), (124, .ifCond .le 14, 3, (138, 0, 0, 0)), (127, .iload 4, 2, (0, 0, 0, 0)), (129, .ifCond .eq 9, 3, (138, 0, 0, 0)), (132, .aload_n 0, 1, (0, 0, 0, 0)), (133, .iconst 4, 1, (0, 0, 0, 0)), (134, .invokevirtual 94, 3, (186, 2, 0, 0)), (137, .ireturn, 1, (0, 0, 0, 0)), (138, .iconst 0, 1, (0, 0, 0, 0)), (139, .istore 5, 2, (0, 0, 0, 0)), (141, .iload 5, 2, (0, 0, 0, 0)), (143, .iload_n 3, 1, (0, 0, 0, 0)), (144, .if_icmp .ge 29, 3, (173, 0, 0, 0)), (147, .aload_n 0, 1, (0, 0, 0, 0)), (148, .getfield 51, 3, (10, 17, 1, 1)), (151, .iload 5, 2, (0, 0, 0, 0)), (153, .aload_n 0, 1, (0, 0, 0, 0)), (154, .aload_n 0, 1, (0, 0, 0, 0)), (155, .getfield 48, 3, (10, 16, 1, 1)), (158, .iload 5, 2, (0, 0, 0, 0)), (160, .iaload, 1, (0, 0, 0, 0)), (161, .iload_n 1, 1, (0, 0, 0, 0)), (162, .iload_n 2, 1, (0, 0, 0, 0)), (163, .invokevirtual 233, 3, (268, 4, 0, 0)), (166, .lastore, 1, (0, 0, 0, 0)), (167, .iinc 5 1, 3, (0, 0, 0, 0)), (170, .goto (-29), 3, (141, 0, 0, 0)), (173, .aload_n 0, 1, (0, 0, 0, 0)), (174, .iload_n 3, 1, (0, 0, 0, 0)), (175, .invokevirtual 237, 3, (270, 2, 0, 0)), (178, .iconst 0, 1, (0, 0, 0, 0)), (179, .istore 5, 2, (0, 0, 0, 0)), (181, .iconst 0, 1, (0, 0, 0, 0)), (182, .istore 6, 2, (0, 0, 0, 0)), (184, .iload 6, 2, (0, 0, 0, 0)), (186, .iload_n 3, 1, (0, 0, 0, 0)), (187, .if_icmp .ge 84, 3, (271, 0, 0, 0)), (190, .iconst 0, 1, (0, 0, 0, 0)), (191, .istore 7, 2, (0, 0, 0, 0)), (193, .iload 5, 2, (0, 0, 0, 0)), (195, .iload 7, 2, (0, 0, 0, 0)), (197, .ishr, 1, (0, 0, 0, 0)), (198, .iconst 1, 1, (0, 0, 0, 0)), (199, .iand, 1, (0, 0, 0, 0)), (200, .iconst 1, 1, (0, 0, 0, 0)), (201, .if_icmp .eq 35, 3, (236, 0, 0, 0)), (204, .aload_n 0, 1, (0, 0, 0, 0)), (205, .iload 5, 2, (0, 0, 0, 0)), (207, .iload 7, 2, (0, 0, 0, 0)), (209, .invokevirtual 229, 3, (269, 3, 0, 0)), (212, .aload_n 0, 1, (0, 0, 0, 0)), (213, .getfield 55, 3, (10, 18, 1, 1)), (216, .iload 5, 2, (0, 0, 0, 0)), (218, .iconst 1, 1, (0, 0, 0, 0)), (219, .iload 7, 2, (0, 0, 0, 0)), (221, .ishl, 1, (0, 0, 0, 0)), (222, .ior, 1, (0, 0, 0, 0)), (223, .laload, 1, (0, 0, 0, 0))]
def k_271_2 : List VE := [(224, .ladd, 1, (0, 0, 0, 0)), (225, .aload_n 0, 1, (0, 0, 0, 0)), (226, .getfield 55, 3, (10, 18, 1, 1)), (229, .iload 5, 2, (0, 0, 0, 0)), (231, .laload, 1, (0, 0, 0, 0)), (232, .lcmp, 1, (0, 0, 0, 0)), (233, .ifCond .eq 9, 3, (242, 0, 0, 0)), (236, .iinc 7 1, 3, (0, 0, 0, 0)), (239, .goto (-46), 3, (193, 0, 0, 0)), (242, .aload_n 0, 1, (0, 0, 0, 0)), (243, .getfield 32, 3, (10, 11, 1, 1)), (246, .iload 6, 2, (0, 0, 0, 0)), (248, .aload_n 0, 1, (0, 0, 0, 0)), (249, .getfield 48, 3, (10, 16, 1, 1)), (252, .iload 7, 2, (0, 0, 0, 0)), (254, .iaload, 1, (0, 0, 0, 0)), (255, .iastore, 1, (0, 0, 0, 0)), (256, .iload 5, 2, (0, 0, 0, 0)), (258, .iconst 1, 1, (0, 0, 0, 0)), (259, .iload 7, 2, (0, 0, 0, 0)), (261, .ishl, 1, (0, 0, 0, 0)), (262, .ior, 1, (0, 0, 0, 0)), (263, .istore 5, 2, (0, 0, 0, 0)), (265, .iinc 6 1, 3, (0, 0, 0, 0)), (268, .goto (-84), 3, (184, 0, 0, 0)), (271, .aload_n 0, 1, (0, 0, 0, 0)), (272, .iload_n 3, 1, (0, 0, 0, 0)), (273, .putfield 35, 3, (10, 12, 0, 0)), (276, .aload_n 0, 1, (0, 0, 0, 0)), (277, .aload_n 0, 1, (0, 0, 0, 0)), (278, .getfield 55, 3, (10, 18, 1, 1)), (281, .iconst 0, 1, (0, 0, 0, 0)), (282, .laload, 1, (0, 0, 0, 0)), (283, .l2i, 1, (0, 0, 0, 0)), (284, .invokevirtual 103, 3, (187, 2, 0, 0)), (287, .ireturn, 1, (0, 0, 0, 0))]
def k_271 : List VE := (k_271_0 ++ (k_271_1 ++ (k_271_2)))
def m_271 : VM := (RX10, yX10_plan, cX10_plan, 8, (some .int), 3, 72, k_271)
def k_272 : List VE := [(0, .aload_n 0, 1, (0, 0, 0, 0)), (1, .getfield 35, 3, (10, 12, 0, 0)), (4, .ifCond .ge 11, 3, (15, 0, 0, 0)), (7, .aload_n 0, 1, (0, 0, 0, 0)), (8, .iconst 1, 1, (0, 0, 0, 0)), (9, .invokevirtual 94, 3, (186, 2, 0, 0)), (12, .goto 35, 3, (47, 0, 0, 0)), (15, .iload_n 1, 1, (0, 0, 0, 0)), (16, .iconst 0, 1, (0, 0, 0, 0)), (17, .aload_n 0, 1, (0, 0, 0, 0)), (18, .getfield 35, 3, (10, 12, 0, 0)), (21, .iconst 1, 1, (0, 0, 0, 0)), (22, .isub, 1, (0, 0, 0, 0)), (23, .invokestatic 68, 3, (189, 3, 1, 0)), (26, .ifCond .eq 16, 3, (42, 0, 0, 0)), (29, .aload_n 0, 1, (0, 0, 0, 0)), (30, .aload_n 0, 1, (0, 0, 0, 0)), (31, .getfield 32, 3, (10, 11, 1, 1)), (34, .iload_n 1, 1, (0, 0, 0, 0)), (35, .iaload, 1, (0, 0, 0, 0)), (36, .invokevirtual 103, 3, (187, 2, 0, 0)), (39, .goto 8, 3, (47, 0, 0, 0)), (42, .aload_n 0, 1, (0, 0, 0, 0)), (43, .iconst 2, 1, (0, 0, 0, 0)), (44, .invokevirtual 94, 3, (186, 2, 0, 0)), (47, .ireturn, 1, (0, 0, 0, 0))]
def m_272 : VM := (RX10, yX10_chosen, cX10_chosen, 2, (some .int), 1, 22, k_272)
def k_273 : List VE := [(0, .iload_n 0, 1, (0, 0, 0, 0)), (1, .sipush 300, 3, (0, 0, 0, 0)), (4, .if_icmp .ge 27, 3, (31, 0, 0, 0)), (7, .iload_n 0, 1, (0, 0, 0, 0)), (8, .ifCond .ne 8, 3, (16, 0, 0, 0)), (11, .bipush 10, 2, (0, 0, 0, 0)), (13, .goto 17, 3, (30, 0, 0, 0)), (16, .iload_n 0, 1, (0, 0, 0, 0)), (17, .sipush 200, 3, (0, 0, 0, 0)), (20, .if_icmp .ne 8, 3, (28, 0, 0, 0)), (23, .bipush 11, 2, (0, 0, 0, 0)), (25, .goto 5, 3, (30, 0, 0, 0)), (28, .bipush 6, 2, (0, 0, 0, 0)), (30, .ireturn, 1, (0, 0, 0, 0)), (31, .iload_n 0, 1, (0, 0, 0, 0)), (32, .bipush 100, 2, (0, 0, 0, 0)), (34, .irem, 1, (0, 0, 0, 0)), (35, .istore_n 1, 1, (0, 0, 0, 0)), (36, .iload_n 1, 1, (0, 0, 0, 0)), (37, .iconst 3, 1, (0, 0, 0, 0)), (38, .if_icmp .ge 8, 3, (46, 0, 0, 0)), (41, .bipush 7, 2, (0, 0, 0, 0)), (43, .goto 16, 3, (59, 0, 0, 0)), (46, .iload_n 1, 1, (0, 0, 0, 0)), (47, .bipush 9, 2, (0, 0, 0, 0)), (49, .if_icmp .ge 8, 3, (57, 0, 0, 0)), (52, .bipush 8, 2, (0, 0, 0, 0)), (54, .goto 5, 3, (59, 0, 0, 0)), (57, .bipush 9, 2, (0, 0, 0, 0)), (59, .ireturn, 1, (0, 0, 0, 0))]
def m_273 : VM := (RX10, yX10_sortOf, cX10_sortOf, 2, (some .int), 0, 0, k_273)
def k_274 : List VE := [(0, .iconst 0, 1, (0, 0, 0, 0)), (1, .istore_n 3, 1, (0, 0, 0, 0)), (2, .bipush 96, 2, (0, 0, 0, 0)), (4, .iload_n 1, 1, (0, 0, 0, 0)), (5, .imul, 1, (0, 0, 0, 0)), (6, .istore 4, 2, (0, 0, 0, 0)), (8, .iload 4, 2, (0, 0, 0, 0)), (10, .bipush 96, 2, (0, 0, 0, 0)), (12, .iload_n 1, 1, (0, 0, 0, 0)), (13, .imul, 1, (0, 0, 0, 0)), (14, .bipush 12, 2, (0, 0, 0, 0)), (16, .aload_n 0, 1, (0, 0, 0, 0)), (17, .iload_n 1, 1, (0, 0, 0, 0)), (18, .bipush 10, 2, (0, 0, 0, 0)), (20, .invokevirtual 72, 3, (190, 3, 0, 0)), (23, .imul, 1, (0, 0, 0, 0)), (24, .iadd, 1, (0, 0, 0, 0)), (25, .if_icmp .ge 100, 3, (125, 0, 0, 0)), (28, .aload_n 0, 1, (0, 0, 0, 0)), (29, .iload 4, 2, (0, 0, 0, 0)), (31, .invokevirtual 80, 3, (194, 2, 0, 0)), (34, .istore 5, 2, (0, 0, 0, 0)), (36, .iload_n 3, 1, (0, 0, 0, 0)), (37, .iload_n 2, 1, (0, 0, 0, 0)), (38, .iconst 5, 1, (0, 0, 0, 0)), (39, .if_icmp .ne 12, 3, (51, 0, 0, 0)), (42, .iload 5, 2, (0, 0, 0, 0)), (44, .ifCond .ge 7, 3, (51, 0, 0, 0)), (47, .iconst 1, 1, (0, 0, 0, 0)), (48, .goto 4, 3, (52, 0, 0, 0)), (51, .iconst 0, 1, (0, 0, 0, 0)), (52, .iadd, 1, (0, 0, 0, 0)), (53, .istore_n 3, 1, (0, 0, 0, 0)), (54, .iconst 0, 1, (0, 0, 0, 0)), (55, .istore 6, 2, (0, 0, 0, 0)), (57, .iload 5, 2, (0, 0, 0, 0)), (59, .ifCond .lt 60, 3, (119, 0, 0, 0)), (62, .iload 6, 2, (0, 0, 0, 0)), (64, .aload_n 0, 1, (0, 0, 0, 0)), (65, .iload 5, 2, (0, 0, 0, 0)), (67, .invokevirtual 115, 3, (195, 2, 0, 0)), (70, .if_icmp .ge 49, 3, (119, 0, 0, 0)), (73, .iload_n 3, 1, (0, 0, 0, 0)), (74, .aload_n 0, 1, (0, 0, 0, 0)), (75, .iload 5, 2, (0, 0, 0, 0)), (77, .iload 6, 2, (0, 0, 0, 0)), (79, .invokevirtual 121, 3, (196, 3, 0, 0)), (82, .invokestatic 240, 3, (273, 1, 1, 0)), (85, .iload_n 2, 1, (0, 0, 0, 0)), (86, .if_icmp .eq 7, 3, (93, 0, 0, 0)), (89, .iconst 0, 1, (0, 0, 0, 0)), (90, .goto 21, 3, (111, 0, 0, 0)), (93, .iload_n 2, 1, (0, 0, 0, 0)), (94, .bipush 6, 2, (0, 0, 0, 0)), (96, .if_icmp .ne 14, 3, (110, 0, 0, 0)), (99, .aload_n 0, 1, (0, 0, 0, 0)), (100, .iload 5, 2, (0, 0, 0, 0)), (102, .iload 6, 2, (0, 0, 0, 0)), (104, .invokevirtual 121, 3, (196, 3, 0, 0)), (107, .goto 4, 3, (111, 0, 0, 0)), (110, .iconst 1, 1, (0, 0, 0, 0)), (111, .iadd, 1, (0, 0, 0, 0)), (112, .istore_n 3, 1, (0, 0, 0, 0)), (113, .iinc 6 1, 3, (0, 0, 0, 0)), (116, .goto (-59), 3, (57, 0, 0, 0)), (119, .iinc 4 1, 3, (0, 0, 0, 0)), (122, .goto (-114), 3, (8, 0, 0, 0)), (125, .iload_n 3, 1, (0, 0, 0, 0)), (126, .ireturn, 1, (0, 0, 0, 0))]
def m_274 : VM := (RX10, yX10_countIn, cX10_countIn, 7, (some .int), 1, 22, k_274)
def k_275 : List VE := [(0, .aload_n 0, 1, (0, 0, 0, 0)), (1, .iload_n 1, 1, (0, 0, 0, 0)), (2, .invokevirtual 106, 3, (198, 2, 0, 0)), (5, .istore_n 3, 1, (0, 0, 0, 0)), (6, .iload_n 3, 1, (0, 0, 0, 0)), (7, .ifCond .ne 16, 3, (23, 0, 0, 0)), (10, .iload_n 2, 1, (0, 0, 0, 0)), (11, .iconst 0, 1, (0, 0, 0, 0)), (12, .bipush 11, 2, (0, 0, 0, 0)), (14, .invokestatic 68, 3, (189, 3, 1, 0)), (17, .ifCond .ne 6, 3, (23, 0, 0, 0)), (20, .bipush 6, 2, (0, 0, 0, 0)), (22, .istore_n 3, 1, (0, 0, 0, 0)), (23, .iload_n 3, 1, (0, 0, 0, 0)), (24, .ifCond .le 9, 3, (33, 0, 0, 0)), (27, .aload_n 0, 1, (0, 0, 0, 0)), (28, .iload_n 3, 1, (0, 0, 0, 0)), (29, .invokevirtual 94, 3, (186, 2, 0, 0)), (32, .ireturn, 1, (0, 0, 0, 0)), (33, .iload_n 2, 1, (0, 0, 0, 0)), (34, .tableswitch 91 0 4 #[34, 45, 56, 67, 79], 34, (0, 0, 0, 0)), (68, .aload_n 0, 1, (0, 0, 0, 0)), (69, .aload_n 0, 1, (0, 0, 0, 0)), (70, .iload_n 1, 1, (0, 0, 0, 0)), (71, .iconst 0, 1, (0, 0, 0, 0)), (72, .invokevirtual 72, 3, (190, 3, 0, 0)), (75, .invokevirtual 103, 3, (187, 2, 0, 0)), (78, .ireturn, 1, (0, 0, 0, 0)), (79, .aload_n 0, 1, (0, 0, 0, 0)), (80, .aload_n 0, 1, (0, 0, 0, 0)), (81, .iload_n 1, 1, (0, 0, 0, 0)), (82, .iconst 1, 1, (0, 0, 0, 0)), (83, .invokevirtual 72, 3, (190, 3, 0, 0)), (86, .invokevirtual 103, 3, (187, 2, 0, 0)), (89, .ireturn, 1, (0, 0, 0, 0)), (90, .aload_n 0, 1, (0, 0, 0, 0)), (91, .aload_n 0, 1, (0, 0, 0, 0)), (92, .iload_n 1, 1, (0, 0, 0, 0)), (93, .iconst 2, 1, (0, 0, 0, 0)), (94, .invokevirtual 72, 3, (190, 3, 0, 0)), (97, .invokevirtual 103, 3, (187, 2, 0, 0)), (100, .ireturn, 1, (0, 0, 0, 0)), (101, .aload_n 0, 1, (0, 0, 0, 0)), (102, .aload_n 0, 1, (0, 0, 0, 0)), (103, .iload_n 1, 1, (0, 0, 0, 0)), (104, .bipush 10, 2, (0, 0, 0, 0)), (106, .invokevirtual 72, 3, (190, 3, 0, 0)), (109, .invokevirtual 103, 3, (187, 2, 0, 0)), (112, .ireturn, 1, (0, 0, 0, 0)), (113, .aload_n 0, 1, (0, 0, 0, 0)), (114, .aload_n 0, 1, (0, 0, 0, 0)), (115, .iload_n 1, 1, (0, 0, 0, 0)), (116, .bipush 9, 2, (0, 0, 0, 0)), (118, .invokevirtual 72, 3, (190, 3, 0, 0)), (121, .invokevirtual 103, 3, (187, 2, 0, 0)), (124, .ireturn, 1, (0, 0, 0, 0)), (125, .aload_n 0, 1, (0, 0, 0, 0)), (126, .aload_n 0, 1, (0, 0, 0, 0)), (127, .iload_n 1, 1, (0, 0, 0, 0)), (128, .iload_n 2, 1, (0, 0, 0, 0)), (129, .invokevirtual 243, 3, (274, 3, 0, 0)), (132, .invokevirtual 103, 3, (187, 2, 0, 0)), (135, .ireturn, 1, (0, 0, 0, 0))]
def m_275 : VM := (RX10, yX10_inspect, cX10_inspect, 4, (some .int), 2, 48, k_275)
def k_276 : List VE := [(0, .aload_n 0, 1, (0, 0, 0, 0)), (1, .iload_n 1, 1, (0, 0, 0, 0)), (2, .invokevirtual 106, 3, (198, 2, 0, 0)), (5, .istore_n 2, 1, (0, 0, 0, 0)), (6, .iload_n 2, 1, (0, 0, 0, 0)), (7, .ifCond .le 9, 3, (16, 0, 0, 0)), (10, .aload_n 0, 1, (0, 0, 0, 0)), (11, .iload_n 2, 1, (0, 0, 0, 0)), (12, .invokevirtual 94, 3, (186, 2, 0, 0)), (15, .ireturn, 1, (0, 0, 0, 0)), (16, .bipush 96, 2, (0, 0, 0, 0)), (18, .iload_n 1, 1, (0, 0, 0, 0)), (19, .imul, 1, (0, 0, 0, 0)), (20, .istore_n 3, 1, (0, 0, 0, 0)), (21, .iload_n 3, 1, (0, 0, 0, 0)), (22, .bipush 96, 2, (0, 0, 0, 0)), (24, .iload_n 1, 1, (0, 0, 0, 0)), (25, .imul, 1, (0, 0, 0, 0)), (26, .bipush 12, 2, (0, 0, 0, 0)), (28, .aload_n 0, 1, (0, 0, 0, 0)), (29, .iload_n 1, 1, (0, 0, 0, 0)), (30, .bipush 10, 2, (0, 0, 0, 0)), (32, .invokevirtual 72, 3, (190, 3, 0, 0)), (35, .imul, 1, (0, 0, 0, 0)), (36, .iadd, 1, (0, 0, 0, 0)), (37, .if_icmp .ge 17, 3, (54, 0, 0, 0)), (40, .aload_n 0, 1, (0, 0, 0, 0)), (41, .iload_n 3, 1, (0, 0, 0, 0)), (42, .invokevirtual 80, 3, (194, 2, 0, 0)), (45, .ifCond .lt 9, 3, (54, 0, 0, 0)), (48, .iinc 3 1, 3, (0, 0, 0, 0)), (51, .goto (-30), 3, (21, 0, 0, 0)), (54, .aload_n 0, 1, (0, 0, 0, 0)), (55, .iload_n 3, 1, (0, 0, 0, 0)), (56, .bipush 96, 2, (0, 0, 0, 0)), (58, .iload_n 1, 1, (0, 0, 0, 0)), (59, .imul, 1, (0, 0, 0, 0)), (60, .bipush 12, 2, (0, 0, 0, 0)), (62, .aload_n 0, 1, (0, 0, 0, 0)), (63, .iload_n 1, 1, (0, 0, 0, 0)), (64, .bipush 10, 2, (0, 0, 0, 0)), (66, .invokevirtual 72, 3, (190, 3, 0, 0)), (69, .imul, 1, (0, 0, 0, 0)), (70, .iadd, 1, (0, 0, 0, 0)), (71, .if_icmp .ge 7, 3, (78, 0, 0, 0)), (74, .iload_n 3, 1, (0, 0, 0, 0)), (75, .goto 4, 3, (79, 0, 0, 0)), (78, .iconst (-1), 1, (0, 0, 0, 0)), (79, .invokevirtual 103, 3, (187, 2, 0, 0)), (82, .ireturn, 1, (0, 0, 0, 0))]
def m_276 : VM := (RX10, yX10_gap, cX10_gap, 4, (some .int), 2, 43, k_276)
def k_277 : List VE := [(0, .iconst 0, 1, (0, 0, 0, 0)), (1, .istore_n 3, 1, (0, 0, 0, 0)), (2, .iconst 0, 1, (0, 0, 0, 0)), (3, .istore 4, 2, (0, 0, 0, 0)), (5, .iload 4, 2, (0, 0, 0, 0)), (7, .aload_n 0, 1, (0, 0, 0, 0)), (8, .iload_n 1, 1, (0, 0, 0, 0)), (9, .invokevirtual 115, 3, (195, 2, 0, 0)), (12, .if_icmp .ge 30, 3, (42, 0, 0, 0)), (15, .iload_n 3, 1, (0, 0, 0, 0)), (16, .ifCond .ne 14, 3, (30, 0, 0, 0)), (19, .aload_n 0, 1, (0, 0, 0, 0)), (20, .iload_n 1, 1, (0, 0, 0, 0)), (21, .iload 4, 2, (0, 0, 0, 0)), (23, .invokevirtual 121, 3, (196, 3, 0, 0)), (26, .iload_n 2, 1, (0, 0, 0, 0)), (27, .if_icmp .ne 7, 3, (34, 0, 0, 0)), (30, .iconst 1, 1, (0, 0, 0, 0)), (31, .goto 4, 3, (35, 0, 0, 0)), (34, .iconst 0, 1, (0, 0, 0, 0)), (35, .istore_n 3, 1, (0, 0, 0, 0)), (36, .iinc 4 1, 3, (0, 0, 0, 0)), (39, .goto (-34), 3, (5, 0, 0, 0)), (42, .iload_n 3, 1, (0, 0, 0, 0)), (43, .ireturn, 1, (1, 0, 0, 0))]
def m_277 : VM := (RX10, yX10_hasValue, cX10_hasValue, 5, (some .boolean), 1, 22, k_277)
def k_278 : List VE := [(0, .iload_n 2, 1, (0, 0, 0, 0)), (1, .iconst 0, 1, (0, 0, 0, 0)), (2, .sipush 3839, 3, (0, 0, 0, 0)), (5, .invokestatic 68, 3, (189, 3, 1, 0)), (8, .ifCond .ne 9, 3, (17, 0, 0, 0)), (11, .aload_n 0, 1, (0, 0, 0, 0)), (12, .iconst 2, 1, (0, 0, 0, 0)), (13, .invokevirtual 94, 3, (186, 2, 0, 0)), (16, .ireturn, 1, (0, 0, 0, 0)), (17, .iload_n 2, 1, (0, 0, 0, 0)), (18, .istore_n 3, 1, (0, 0, 0, 0)), (19, .iload_n 3, 1, (0, 0, 0, 0)), (20, .sipush 3840, 3, (0, 0, 0, 0)), (23, .if_icmp .ge 30, 3, (53, 0, 0, 0)), (26, .aload_n 0, 1, (0, 0, 0, 0)), (27, .iload_n 3, 1, (0, 0, 0, 0)), (28, .invokevirtual 80, 3, (194, 2, 0, 0)), (31, .ifCond .lt 16, 3, (47, 0, 0, 0)), (34, .aload_n 0, 1, (0, 0, 0, 0)), (35, .aload_n 0, 1, (0, 0, 0, 0)), (36, .iload_n 3, 1, (0, 0, 0, 0)), (37, .invokevirtual 80, 3, (194, 2, 0, 0)), (40, .iload_n 1, 1, (0, 0, 0, 0)), (41, .invokevirtual 246, 3, (277, 3, 0, 0)), (44, .ifCond .ne 9, 3, (53, 0, 0, 0)), (47, .iinc 3 1, 3, (0, 0, 0, 0)), (50, .goto (-31), 3, (19, 0, 0, 0)), (53, .aload_n 0, 1, (0, 0, 0, 0)), (54, .iload_n 3, 1, (0, 0, 0, 0)), (55, .sipush 3840, 3, (0, 0, 0, 0)), (58, .if_icmp .ge 7, 3, (65, 0, 0, 0)), (61, .iload_n 3, 1, (0, 0, 0, 0)), (62, .goto 4, 3, (66, 0, 0, 0)), (65, .iconst (-1), 1, (0, 0, 0, 0)), (66, .invokevirtual 103, 3, (187, 2, 0, 0)), (69, .ireturn, 1, (0, 0, 0, 0))]
def m_278 : VM := (RX10, yX10_find, cX10_find, 4, (some .int), 2, 46, k_278)
def k_279 : List VE := [(0, .iload_n 0, 1, (0, 0, 0, 0)), (1, .invokestatic 240, 3, (273, 1, 1, 0)), (4, .istore_n 1, 1, (0, 0, 0, 0)), (5, .iload_n 1, 1, (0, 0, 0, 0)), (6, .bipush 10, 2, (0, 0, 0, 0)), (8, .if_icmp .ne 6, 3, (14, 0, 0, 0)), (11, .bipush 46, 2, (0, 0, 0, 0)), (13, .ireturn, 1, (0, 0, 0, 0)), (14, .iload_n 1, 1, (0, 0, 0, 0)), (15, .bipush 11, 2, (0, 0, 0, 0)), (17, .if_icmp .ne 6, 3, (23, 0, 0, 0)), (20, .bipush 112, 2, (0, 0, 0, 0)), (22, .ireturn, 1, (0, 0, 0, 0)), (23, .iload_n 1, 1, (0, 0, 0, 0)), (24, .bipush 6, 2, (0, 0, 0, 0)), (26, .if_icmp .ne 6, 3, (32, 0, 0, 0)), (29, .bipush 104, 2, (0, 0, 0, 0)), (31, .ireturn, 1, (0, 0, 0, 0)), (32, .iload_n 1, 1, (0, 0, 0, 0)), (33, .bipush 7, 2, (0, 0, 0, 0)), (35, .if_icmp .ne 8, 3, (43, 0, 0, 0)), (38, .bipush 101, 2, (0, 0, 0, 0)), (40, .goto 16, 3, (56, 0, 0, 0)), (43, .iload_n 1, 1, (0, 0, 0, 0)), (44, .bipush 8, 2, (0, 0, 0, 0)), (46, .if_icmp .ne 8, 3, (54, 0, 0, 0)), (49, .bipush 98, 2, (0, 0, 0, 0)), (51, .goto 5, 3, (56, 0, 0, 0)), (54, .bipush 115, 2, (0, 0, 0, 0)), (56, .istore_n 2, 1, (0, 0, 0, 0)), (57, .iload_n 0, 1, (0, 0, 0, 0)), (58, .sipush 400, 3, (0, 0, 0, 0)), (61, .if_icmp .lt 10, 3, (71, 0, 0, 0)), (64, .iload_n 2, 1, (0, 0, 0, 0)), (65, .bipush 32, 2, (0, 0, 0, 0)), (67, .isub, 1, (0, 0, 0, 0)), (68, .goto 4, 3, (72, 0, 0, 0)), (71, .iload_n 2, 1, (0, 0, 0, 0)), (72, .ireturn, 1, (0, 0, 0, 0))]
def m_279 : VM := (RX10, yX10_letterOf, cX10_letterOf, 3, (some .int), 1, 21, k_279)
def k_280 : List VE := [(0, .aload_n 0, 1, (0, 0, 0, 0)), (1, .iload_n 1, 1, (0, 0, 0, 0)), (2, .invokevirtual 112, 3, (201, 2, 0, 0)), (5, .istore_n 2, 1, (0, 0, 0, 0)), (6, .iload_n 2, 1, (0, 0, 0, 0)), (7, .ifCond .le 9, 3, (16, 0, 0, 0)), (10, .aload_n 0, 1, (0, 0, 0, 0)), (11, .iload_n 2, 1, (0, 0, 0, 0)), (12, .invokevirtual 94, 3, (186, 2, 0, 0)), (15, .ireturn, 1, (0, 0, 0, 0)), (16, .aload_n 0, 1, (0, 0, 0, 0)), (17, .iload_n 1, 1, (0, 0, 0, 0)), (18, .invokevirtual 80, 3, (194, 2, 0, 0)), (21, .istore_n 3, 1, (0, 0, 0, 0)), (22, .aload_n 0, 1, (0, 0, 0, 0)), (23, .aload_n 0, 1, (0, 0, 0, 0)), (24, .iload_n 3, 1, (0, 0, 0, 0)), (25, .invokevirtual 115, 3, (195, 2, 0, 0)), (28, .putfield 29, 3, (10, 10, 0, 0)), (31, .iconst 0, 1, (0, 0, 0, 0)), (32, .istore 4, 2, (0, 0, 0, 0)), (34, .iload 4, 2, (0, 0, 0, 0)), (36, .aload_n 0, 1, (0, 0, 0, 0)), (37, .getfield 29, 3, (10, 10, 0, 0)), (40, .if_icmp .ge 26, 3, (66, 0, 0, 0)), (43, .aload_n 0, 1, (0, 0, 0, 0)), (44, .getfield 26, 3, (10, 9, 1, 1)), (47, .iload 4, 2, (0, 0, 0, 0)), (49, .aload_n 0, 1, (0, 0, 0, 0)), (50, .iload_n 3, 1, (0, 0, 0, 0)), (51, .iload 4, 2, (0, 0, 0, 0)), (53, .invokevirtual 121, 3, (196, 3, 0, 0)), (56, .invokestatic 250, 3, (279, 1, 1, 0)), (59, .iastore, 1, (0, 0, 0, 0)), (60, .iinc 4 1, 3, (0, 0, 0, 0)), (63, .goto (-29), 3, (34, 0, 0, 0)), (66, .aload_n 0, 1, (0, 0, 0, 0)), (67, .aload_n 0, 1, (0, 0, 0, 0)), (68, .getfield 29, 3, (10, 10, 0, 0)), (71, .invokevirtual 103, 3, (187, 2, 0, 0)), (74, .ireturn, 1, (0, 0, 0, 0))]
def m_280 : VM := (RX10, yX10_export, cX10_export, 5, (some .int), 3, 66, k_280)
def k_281 : List VE := [(0, .aload_n 0, 1, (0, 0, 0, 0)), (1, .getfield 29, 3, (10, 10, 0, 0)), (4, .ifCond .ge 11, 3, (15, 0, 0, 0)), (7, .aload_n 0, 1, (0, 0, 0, 0)), (8, .iconst 1, 1, (0, 0, 0, 0)), (9, .invokevirtual 94, 3, (186, 2, 0, 0)), (12, .goto 35, 3, (47, 0, 0, 0)), (15, .iload_n 1, 1, (0, 0, 0, 0)), (16, .iconst 0, 1, (0, 0, 0, 0)), (17, .aload_n 0, 1, (0, 0, 0, 0)), (18, .getfield 29, 3, (10, 10, 0, 0)), (21, .iconst 1, 1, (0, 0, 0, 0)), (22, .isub, 1, (0, 0, 0, 0)), (23, .invokestatic 68, 3, (189, 3, 1, 0)), (26, .ifCond .eq 16, 3, (42, 0, 0, 0)), (29, .aload_n 0, 1, (0, 0, 0, 0)), (30, .aload_n 0, 1, (0, 0, 0, 0)), (31, .getfield 26, 3, (10, 9, 1, 1)), (34, .iload_n 1, 1, (0, 0, 0, 0)), (35, .iaload, 1, (0, 0, 0, 0)), (36, .invokevirtual 103, 3, (187, 2, 0, 0)), (39, .goto 8, 3, (47, 0, 0, 0)), (42, .aload_n 0, 1, (0, 0, 0, 0)), (43, .iconst 2, 1, (0, 0, 0, 0)), (44, .invokevirtual 94, 3, (186, 2, 0, 0)), (47, .ireturn, 1, (0, 0, 0, 0))]
def m_281 : VM := (RX10, yX10_letter, cX10_letter, 2, (some .int), 1, 22, k_281)
def k_282 : List VE := [(0, .aload_n 0, 1, (0, 0, 0, 0)), (1, .getfield 29, 3, (10, 10, 0, 0)), (4, .ifCond .ge 9, 3, (13, 0, 0, 0)), (7, .aload_n 0, 1, (0, 0, 0, 0)), (8, .iconst 1, 1, (0, 0, 0, 0)), (9, .invokevirtual 94, 3, (186, 2, 0, 0)), (12, .ireturn, 1, (0, 0, 0, 0)), (13, .iload_n 3, 1, (0, 0, 0, 0)), (14, .ifCond .lt 31, 3, (45, 0, 0, 0)), (17, .iload_n 1, 1, (0, 0, 0, 0)), (18, .ifCond .lt 27, 3, (45, 0, 0, 0)), (21, .iload_n 2, 1, (0, 0, 0, 0)), (22, .ifCond .lt 23, 3, (45, 0, 0, 0)), (25, .iload_n 3, 1, (0, 0, 0, 0)), (26, .aload_n 0, 1, (0, 0, 0, 0)), (27, .getfield 29, 3, (10, 10, 0, 0)), (30, .iload_n 1, 1, (0, 0, 0, 0)), (31, .isub, 1, (0, 0, 0, 0)), (32, .if_icmp .gt 13, 3, (45, 0, 0, 0)), (35, .iload_n 3, 1, (0, 0, 0, 0)), (36, .aload_n 0, 1, (0, 0, 0, 0)), (37, .getfield 29, 3, (10, 10, 0, 0)), (40, .iload_n 2, 1, (0, 0, 0, 0)), (41, .isub, 1, (0, 0, 0, 0)), (42, .if_icmp .le 9, 3, (51, 0, 0, 0)), (45, .aload_n 0, 1, (0, 0, 0, 0)), (46, .iconst 2, 1, (0, 0, 0, 0)), (47, .invokevirtual 94, 3, (186, 2, 0, 0)), (50, .ireturn, 1, (0, 0, 0, 0)), (51, .iconst 0, 1, (0, 0, 0, 0)), (52, .istore 4, 2, (0, 0, 0, 0)), (54, .iload 4, 2, (0, 0, 0, 0)), (56, .iload_n 3, 1, (0, 0, 0, 0)), (57, .if_icmp .ge 45, 3, (102, 0, 0, 0)), (60, .iload_n 1, 1, (0, 0, 0, 0)), (61, .iload_n 2, 1, (0, 0, 0, 0)), (62, .if_icmp .ge 12, 3, (74, 0, 0, 0)), (65, .iload_n 3, 1, (0, 0, 0, 0)), (66, .iconst 1, 1, (0, 0, 0, 0)), (67, .isub, 1, (0, 0, 0, 0)), (68, .iload 4, 2, (0, 0, 0, 0)), (70, .isub, 1, (0, 0, 0, 0)), (71, .goto 5, 3, (76, 0, 0, 0)), (74, .iload 4, 2, (0, 0, 0, 0)), (76, .istore 5, 2, (0, 0, 0, 0)), (78, .aload_n 0, 1, (0, 0, 0, 0)), (79, .getfield 26, 3, (10, 9, 1, 1)), (82, .iload_n 2, 1, (0, 0, 0, 0)), (83, .iload 5, 2, (0, 0, 0, 0)), (85, .iadd, 1, (0, 0, 0, 0)), (86, .aload_n 0, 1, (0, 0, 0, 0)), (87, .getfield 26, 3, (10, 9, 1, 1)), (90, .iload_n 1, 1, (0, 0, 0, 0)), (91, .iload 5, 2, (0, 0, 0, 0)), (93, .iadd, 1, (0, 0, 0, 0)), (94, .iaload, 1, (0, 0, 0, 0)), (95, .iastore, 1, (0, 0, 0, 0)), (96, .iinc 4 1, 3, (0, 0, 0, 0)), (99, .goto (-45), 3, (54, 0, 0, 0)), (102, .aload_n 0, 1, (0, 0, 0, 0)), (103, .iload_n 3, 1, (0, 0, 0, 0)), (104, .invokevirtual 103, 3, (187, 2, 0, 0)), (107, .ireturn, 1, (0, 0, 0, 0))]
def m_282 : VM := (RX10, yX10_copy, cX10_copy, 6, (some .int), 1, 21, k_282)
def k_283 : List VE := [(0, .iload_n 1, 1, (0, 0, 0, 0)), (1, .iconst 0, 1, (0, 0, 0, 0)), (2, .bipush 16, 2, (0, 0, 0, 0)), (4, .invokestatic 68, 3, (189, 3, 1, 0)), (7, .ifCond .eq 12, 3, (19, 0, 0, 0)), (10, .aload_n 0, 1, (0, 0, 0, 0)), (11, .getfield 16, 3, (10, 4, 1, 1)), (14, .iload_n 1, 1, (0, 0, 0, 0)), (15, .iaload, 1, (0, 0, 0, 0)), (16, .goto 4, 3, (20, 0, 0, 0)), (19, .iconst 0, 1, (0, 0, 0, 0)), (20, .ireturn, 1, (0, 0, 0, 0))]
def m_283 : VM := (RX10, yX10_trace, cX10_trace, 2, (some .int), 1, 22, k_283)
def k_284 : List VE := [(0, .aload_n 0, 1, (0, 0, 0, 0)), (1, .getfield 64, 3, (10, 2, 0, 0)), (4, .ifCond .ne 9, 3, (13, 0, 0, 0)), (7, .aload_n 0, 1, (0, 0, 0, 0)), (8, .iconst 0, 1, (0, 0, 0, 0)), (9, .invokevirtual 103, 3, (187, 2, 0, 0)), (12, .ireturn, 1, (0, 0, 0, 0)), (13, .iconst 0, 1, (0, 0, 0, 0)), (14, .istore_n 1, 1, (0, 0, 0, 0)), (15, .iload_n 1, 1, (0, 0, 0, 0)), (16, .sipush 19520, 3, (0, 0, 0, 0)), (19, .if_icmp .ge 21, 3, (40, 0, 0, 0)), (22, .aload_n 0, 1, (0, 0, 0, 0)), (23, .getfield 7, 3, (10, 0, 1, 1)), (26, .iload_n 1, 1, (0, 0, 0, 0)), (27, .aload_n 0, 1, (0, 0, 0, 0)), (28, .getfield 13, 3, (10, 1, 1, 1)), (31, .iload_n 1, 1, (0, 0, 0, 0)), (32, .iaload, 1, (0, 0, 0, 0)), (33, .iastore, 1, (0, 0, 0, 0)), (34, .iinc 1 1, 3, (0, 0, 0, 0)), (37, .goto (-22), 3, (15, 0, 0, 0)), (40, .aload_n 0, 1, (0, 0, 0, 0)), (41, .iconst 0, 1, (0, 0, 0, 0)), (42, .putfield 64, 3, (10, 2, 2, 0)), (45, .aload_n 0, 1, (0, 0, 0, 0)), (46, .iconst 1, 1, (0, 0, 0, 0)), (47, .invokevirtual 103, 3, (187, 2, 0, 0)), (50, .ireturn, 1, (0, 0, 0, 0))]
def m_284 : VM := (RX10, yX10_undo, cX10_undo, 2, (some .int), 1, 21, k_284)
def k_285_0 : List VE := [(0, .sipush 527, 3, (0, 0, 0, 0)), (3, .aload_n 0, 1, (0, 0, 0, 0)), (4, .getfield 7, 3, (10, 0, 1, 1)), (7, .iconst 0, 1, (0, 0, 0, 0)), (8, .iaload, 1, (0, 0, 0, 0)), (9, .iadd, 1, (0, 0, 0, 0)), (10, .istore_n 1, 1, (0, 0, 0, 0)), (11, .iconst 0, 1, (0, 0, 0, 0)), (12, .istore_n 2, 1, (0, 0, 0, 0)), (13, .iload_n 2, 1, (0, 0, 0, 0)), (14, .aload_n 0, 1, (0, 0, 0, 0)), (15, .getfield 7, 3, (10, 0, 1, 1)), (18, .iconst 0, 1, (0, 0, 0, 0)), (19, .iaload, 1, (0, 0, 0, 0)), (20, .if_icmp .ge 75, 3, (95, 0, 0, 0)), (23, .iload_n 1, 1, (0, 0, 0, 0)), (24, .bipush 31, 2, (0, 0, 0, 0)), (26, .imul, 1, (0, 0, 0, 0)), (27, .aload_n 0, 1, (0, 0, 0, 0)), (28, .iload_n 2, 1, (0, 0, 0, 0)), (29, .iconst 0, 1, (0, 0, 0, 0)), (30, .invokevirtual 72, 3, (190, 3, 0, 0)), (33, .iadd, 1, (0, 0, 0, 0)), (34, .bipush 31, 2, (0, 0, 0, 0)), (36, .imul, 1, (0, 0, 0, 0)), (37, .aload_n 0, 1, (0, 0, 0, 0)), (38, .iload_n 2, 1, (0, 0, 0, 0)), (39, .iconst 1, 1, (0, 0, 0, 0)), (40, .invokevirtual 72, 3, (190, 3, 0, 0)), (43, .iadd, 1, (0, 0, 0, 0)), (44, .bipush 31, 2, (0, 0, 0, 0)), (46, .imul, 1, (0, 0, 0, 0)), (47, .aload_n 0, 1, (0, 0, 0, 0)), (48, .iload_n 2, 1, (0, 0, 0, 0)), (49, .iconst 2, 1, (0, 0, 0, 0)), (50, .invokevirtual 72, 3, (190, 3, 0, 0)), (53, .iadd, 1, (0, 0, 0, 0)), (54, .istore_n 1, 1, (0, 0, 0, 0)), (55, .iload_n 1, 1, (0, 0, 0, 0)), (56, .bipush 31, 2, (0, 0, 0, 0)), (58, .imul, 1, (0, 0, 0, 0)), (59, .aload_n 0, 1, (0, 0, 0, 0)), (60, .iload_n 2, 1, (0, 0, 0, 0)), (61, .bipush 10, 2, (0, 0, 0, 0)), (63, .invokevirtual 72, 3, (190, 3, 0, 0)), (66, .iadd, 1, (0, 0, 0, 0)), (67, .bipush 31, 2, (0, 0, 0, 0)), (69, .imul, 1, (0, 0, 0, 0)), (70, .aload_n 0, 1, (0, 0, 0, 0)), (71, .iload_n 2, 1, (0, 0, 0, 0)), (72, .iconst 5, 1, (0, 0, 0, 0)), (73, .invokevirtual 72, 3, (190, 3, 0, 0)), (76, .iadd, 1, (0, 0, 0, 0)), (77, .bipush 31, 2, (0, 0, 0, 0)), (79, .imul, 1, (0, 0, 0, 0)), (80, .aload_n 0, 1, (0, 0, 0, 0)), (81, .iload_n 2, 1, (0, 0, 0, 0)), (82, .bipush 6, 2, (0, 0, 0, 0)), (84, .invokevirtual 72, 3, (190, 3, 0, 0)), (87, .iadd, 1, (0, 0, 0, 0))]
def k_285_1 : List VE := [(88, .istore_n 1, 1, (0, 0, 0, 0)), (89, .iinc 2 1, 3, (0, 0, 0, 0)), (92, .goto (-79), 3, (13, 0, 0, 0)), (95, .iload_n 1, 1, (0, 0, 0, 0)), (96, .bipush 31, 2, (0, 0, 0, 0)), (98, .imul, 1, (0, 0, 0, 0)), (99, .aload_n 0, 1, (0, 0, 0, 0)), (100, .getfield 7, 3, (10, 0, 1, 1)), (103, .iconst 1, 1, (0, 0, 0, 0)), (104, .iaload, 1, (0, 0, 0, 0)), (105, .iadd, 1, (0, 0, 0, 0)), (106, .istore_n 1, 1, (0, 0, 0, 0)), (107, .iconst 0, 1, (0, 0, 0, 0)), (108, .istore_n 2, 1, (0, 0, 0, 0)), (109, .iload_n 2, 1, (0, 0, 0, 0)), (110, .aload_n 0, 1, (0, 0, 0, 0)), (111, .getfield 7, 3, (10, 0, 1, 1)), (114, .iconst 1, 1, (0, 0, 0, 0)), (115, .iaload, 1, (0, 0, 0, 0)), (116, .if_icmp .ge 49, 3, (165, 0, 0, 0)), (119, .iload_n 1, 1, (0, 0, 0, 0)), (120, .bipush 31, 2, (0, 0, 0, 0)), (122, .imul, 1, (0, 0, 0, 0)), (123, .aload_n 0, 1, (0, 0, 0, 0)), (124, .iload_n 2, 1, (0, 0, 0, 0)), (125, .invokevirtual 115, 3, (195, 2, 0, 0)), (128, .iadd, 1, (0, 0, 0, 0)), (129, .istore_n 1, 1, (0, 0, 0, 0)), (130, .iconst 0, 1, (0, 0, 0, 0)), (131, .istore_n 3, 1, (0, 0, 0, 0)), (132, .iload_n 3, 1, (0, 0, 0, 0)), (133, .aload_n 0, 1, (0, 0, 0, 0)), (134, .iload_n 2, 1, (0, 0, 0, 0)), (135, .invokevirtual 115, 3, (195, 2, 0, 0)), (138, .if_icmp .ge 21, 3, (159, 0, 0, 0)), (141, .iload_n 1, 1, (0, 0, 0, 0)), (142, .bipush 31, 2, (0, 0, 0, 0)), (144, .imul, 1, (0, 0, 0, 0)), (145, .aload_n 0, 1, (0, 0, 0, 0)), (146, .iload_n 2, 1, (0, 0, 0, 0)), (147, .iload_n 3, 1, (0, 0, 0, 0)), (148, .invokevirtual 121, 3, (196, 3, 0, 0)), (151, .iadd, 1, (0, 0, 0, 0)), (152, .istore_n 1, 1, (0, 0, 0, 0)), (153, .iinc 3 1, 3, (0, 0, 0, 0)), (156, .goto (-24), 3, (132, 0, 0, 0)), (159, .iinc 2 1, 3, (0, 0, 0, 0)), (162, .goto (-53), 3, (109, 0, 0, 0)), (165, .iload_n 1, 1, (0, 0, 0, 0)), (166, .bipush 31, 2, (0, 0, 0, 0)), (168, .imul, 1, (0, 0, 0, 0)), (169, .aload_n 0, 1, (0, 0, 0, 0)), (170, .getfield 7, 3, (10, 0, 1, 1)), (173, .iconst 2, 1, (0, 0, 0, 0)), (174, .iaload, 1, (0, 0, 0, 0)), (175, .iadd, 1, (0, 0, 0, 0)), (176, .istore_n 1, 1, (0, 0, 0, 0)), (177, .iconst 0, 1, (0, 0, 0, 0)), (178, .istore_n 2, 1, (0, 0, 0, 0)), (179, .iload_n 2, 1, (0, 0, 0, 0))]
def k_285_2 : List VE := [(180, .aload_n 0, 1, (0, 0, 0, 0)), (181, .getfield 7, 3, (10, 0, 1, 1)), (184, .iconst 2, 1, (0, 0, 0, 0)), (185, .iaload, 1, (0, 0, 0, 0)), (186, .if_icmp .ge 31, 3, (217, 0, 0, 0)), (189, .iload_n 1, 1, (0, 0, 0, 0)), (190, .bipush 31, 2, (0, 0, 0, 0)), (192, .imul, 1, (0, 0, 0, 0)), (193, .aload_n 0, 1, (0, 0, 0, 0)), (194, .iload_n 2, 1, (0, 0, 0, 0)), (195, .iconst 0, 1, (0, 0, 0, 0)), (196, .invokevirtual 83, 3, (192, 3, 0, 0)), (199, .iadd, 1, (0, 0, 0, 0)), (200, .bipush 31, 2, (0, 0, 0, 0)), (202, .imul, 1, (0, 0, 0, 0)), (203, .aload_n 0, 1, (0, 0, 0, 0)), (204, .iload_n 2, 1, (0, 0, 0, 0)), (205, .iconst 1, 1, (0, 0, 0, 0)), (206, .invokevirtual 83, 3, (192, 3, 0, 0)), (209, .iadd, 1, (0, 0, 0, 0)), (210, .istore_n 1, 1, (0, 0, 0, 0)), (211, .iinc 2 1, 3, (0, 0, 0, 0)), (214, .goto (-35), 3, (179, 0, 0, 0)), (217, .iload_n 1, 1, (0, 0, 0, 0)), (218, .bipush 31, 2, (0, 0, 0, 0)), (220, .imul, 1, (0, 0, 0, 0)), (221, .aload_n 0, 1, (0, 0, 0, 0)), (222, .getfield 7, 3, (10, 0, 1, 1)), (225, .iconst 3, 1, (0, 0, 0, 0)), (226, .iaload, 1, (0, 0, 0, 0)), (227, .iadd, 1, (0, 0, 0, 0)), (228, .istore_n 1, 1, (0, 0, 0, 0)), (229, .iconst 0, 1, (0, 0, 0, 0)), (230, .istore_n 2, 1, (0, 0, 0, 0)), (231, .iload_n 2, 1, (0, 0, 0, 0)), (232, .iconst 5, 1, (0, 0, 0, 0)), (233, .if_icmp .ge 20, 3, (253, 0, 0, 0)), (236, .iload_n 1, 1, (0, 0, 0, 0)), (237, .bipush 31, 2, (0, 0, 0, 0)), (239, .imul, 1, (0, 0, 0, 0)), (240, .aload_n 0, 1, (0, 0, 0, 0)), (241, .iload_n 2, 1, (0, 0, 0, 0)), (242, .invokevirtual 134, 3, (224, 2, 0, 0)), (245, .iadd, 1, (0, 0, 0, 0)), (246, .istore_n 1, 1, (0, 0, 0, 0)), (247, .iinc 2 1, 3, (0, 0, 0, 0)), (250, .goto (-19), 3, (231, 0, 0, 0)), (253, .iload_n 1, 1, (0, 0, 0, 0)), (254, .bipush 31, 2, (0, 0, 0, 0)), (256, .imul, 1, (0, 0, 0, 0)), (257, .aload_n 0, 1, (0, 0, 0, 0)), (258, .getfield 7, 3, (10, 0, 1, 1)), (261, .bipush 8, 2, (0, 0, 0, 0)), (263, .iaload, 1, (0, 0, 0, 0)), (264, .iadd, 1, (0, 0, 0, 0)), (265, .istore_n 1, 1, (0, 0, 0, 0)), (266, .iconst 0, 1, (0, 0, 0, 0)), (267, .istore_n 2, 1, (0, 0, 0, 0)), (268, .iload_n 2, 1, (0, 0, 0, 0)), (269, .bipush 17, 2, (0, 0, 0, 0))]
def k_285_3 : List VE := [(271, .if_icmp .ge 21, 3, (292, 0, 0, 0)), (274, .iload_n 1, 1, (0, 0, 0, 0)), (275, .bipush 31, 2, (0, 0, 0, 0)), (277, .imul, 1, (0, 0, 0, 0)), (278, .aload_n 0, 1, (0, 0, 0, 0)), (279, .getfield 16, 3, (10, 4, 1, 1)), (282, .iload_n 2, 1, (0, 0, 0, 0)), (283, .iaload, 1, (0, 0, 0, 0)), (284, .iadd, 1, (0, 0, 0, 0)), (285, .istore_n 1, 1, (0, 0, 0, 0)), (286, .iinc 2 1, 3, (0, 0, 0, 0)), (289, .goto (-21), 3, (268, 0, 0, 0)), (292, .iload_n 1, 1, (0, 0, 0, 0)), (293, .ireturn, 1, (0, 0, 0, 0))]
def k_285 : List VE := (k_285_0 ++ (k_285_1 ++ (k_285_2 ++ (k_285_3))))
def m_285 : VM := (RX10, yX10_digest, cX10_digest, 4, (some .int), 3, 68, k_285)
def k_286 : List VE := [(0, .aload_n 0, 1, (0, 0, 0, 0)), (1, .getfield 61, 3, (10, 5, 0, 0)), (4, .ireturn, 1, (0, 0, 0, 0))]
def m_286 : VM := (RX10, yX10_status, cX10_status, 1, (some .int), 0, 0, k_286)
def v_ms : List VM := [m_0, m_1, m_2, m_3, m_4, m_5, m_6, m_7, m_8, m_9, m_10, m_11, m_12, m_13, m_14, m_15, m_16, m_17, m_18, m_19, m_20, m_21, m_22, m_23, m_24, m_25, m_26, m_27, m_28, m_29, m_30, m_31, m_32, m_33, m_34, m_35, m_36, m_37, m_38, m_39, m_40, m_41, m_42, m_43, m_44, m_45, m_46, m_47, m_48, m_49, m_50, m_51, m_52, m_53, m_54, m_55, m_56, m_57, m_58, m_59, m_60, m_61, m_62, m_63, m_64, m_65, m_66, m_67, m_68, m_69, m_70, m_71, m_72, m_73, m_74, m_75, m_76, m_77, m_78, m_79, m_80, m_81, m_82, m_83, m_84, m_85, m_86, m_87, m_88, m_89, m_90, m_91, m_92, m_93, m_94, m_95, m_96, m_97, m_98, m_99, m_100, m_101, m_102, m_103, m_104, m_105, m_106, m_107, m_108, m_109, m_110, m_111, m_112, m_113, m_114, m_115, m_116, m_117, m_118, m_119, m_120, m_121, m_122, m_123, m_124, m_125, m_126, m_127, m_128, m_129, m_130, m_131, m_132, m_133, m_134, m_135, m_136, m_137, m_138, m_139, m_140, m_141, m_142, m_143, m_144, m_145, m_146, m_147, m_148, m_149, m_150, m_151, m_152, m_153, m_154, m_155, m_156, m_157, m_158, m_159, m_160, m_161, m_162, m_163, m_164, m_165, m_166, m_167, m_168, m_169, m_170, m_171, m_172, m_173, m_174, m_175, m_176, m_177, m_178, m_179, m_180, m_181, m_182, m_183, m_184, m_185, m_186, m_187, m_188, m_189, m_190, m_191, m_192, m_193, m_194, m_195, m_196, m_197, m_198, m_199, m_200, m_201, m_202, m_203, m_204, m_205, m_206, m_207, m_208, m_209, m_210, m_211, m_212, m_213, m_214, m_215, m_216, m_217, m_218, m_219, m_220, m_221, m_222, m_223, m_224, m_225, m_226, m_227, m_228, m_229, m_230, m_231, m_232, m_233, m_234, m_235, m_236, m_237, m_238, m_239, m_240, m_241, m_242, m_243, m_244, m_245, m_246, m_247, m_248, m_249, m_250, m_251, m_252, m_253, m_254, m_255, m_256, m_257, m_258, m_259, m_260, m_261, m_262, m_263, m_264, m_265, m_266, m_267, m_268, m_269, m_270, m_271, m_272, m_273, m_274, m_275, m_276, m_277, m_278, m_279, m_280, m_281, m_282, m_283, m_284, m_285, m_286]
def v_mth : List VM → Nat → VM
  | [], _ => ("", ⟨"", "", ""⟩, ⟨#[]⟩, 0, none, 0, 0, [])
  | x :: _, 0 => x
  | _ :: l, n + 1 => v_mth l n
def v_m (i : Nat) : VM := v_mth v_ms i
def v_code (i : Nat) : List VE := (v_m i).2.2.2.2.2.2.2
/-- a run: n steps at most -/
def v_run : Nat → Nat → VS → Option (Option VV × VH)
  | 0, _, _ => none
  | n + 1, m, s => match v_1 (v_code m) s with
    | none => none
    | some (.inl t) => v_run n m t
    | some (.inr (.inl r)) => some r
    | some (.inr (.inr (m2, as, t))) => match v_run n m2 (0, v_args 0 as, [], t.2.2.2) with
      | none => none
      | some (r, V) => v_run n m (t.1, t.2.1, r.toList ++ t.2.2.1, V)
end
section
/-! ===== the decoding, checked ===== -/
theorem v_app {α : Type} {p : α → Prop} {a b : List α} (ha : ∀ e ∈ a, p e) (hb : ∀ e ∈ b, p e) : ∀ e ∈ a ++ b, p e := fun e h => (List.mem_append.mp h).elim (ha e) (hb e)
theorem dk_0_0 : ∀ e ∈ k_0_0, decode cL_law e.1 = .ok (e.2.1, e.2.2.1) := by decide +kernel
theorem dk_0_1 : ∀ e ∈ k_0_1, decode cL_law e.1 = .ok (e.2.1, e.2.2.1) := by decide +kernel
theorem dk_0_2 : ∀ e ∈ k_0_2, decode cL_law e.1 = .ok (e.2.1, e.2.2.1) := by decide +kernel
theorem dk_0_3 : ∀ e ∈ k_0_3, decode cL_law e.1 = .ok (e.2.1, e.2.2.1) := by decide +kernel
theorem dk_0_4 : ∀ e ∈ k_0_4, decode cL_law e.1 = .ok (e.2.1, e.2.2.1) := by decide +kernel
theorem dk_0_5 : ∀ e ∈ k_0_5, decode cL_law e.1 = .ok (e.2.1, e.2.2.1) := by decide +kernel
theorem dk_0_6 : ∀ e ∈ k_0_6, decode cL_law e.1 = .ok (e.2.1, e.2.2.1) := by decide +kernel
theorem dk_0_7 : ∀ e ∈ k_0_7, decode cL_law e.1 = .ok (e.2.1, e.2.2.1) := by decide +kernel
theorem dk_0_8 : ∀ e ∈ k_0_8, decode cL_law e.1 = .ok (e.2.1, e.2.2.1) := by decide +kernel
theorem dk_0_9 : ∀ e ∈ k_0_9, decode cL_law e.1 = .ok (e.2.1, e.2.2.1) := by decide +kernel
theorem dk_0_10 : ∀ e ∈ k_0_10, decode cL_law e.1 = .ok (e.2.1, e.2.2.1) := by decide +kernel
theorem dk_0_11 : ∀ e ∈ k_0_11, decode cL_law e.1 = .ok (e.2.1, e.2.2.1) := by decide +kernel
theorem dk_0_12 : ∀ e ∈ k_0_12, decode cL_law e.1 = .ok (e.2.1, e.2.2.1) := by decide +kernel
theorem dk_0_13 : ∀ e ∈ k_0_13, decode cL_law e.1 = .ok (e.2.1, e.2.2.1) := by decide +kernel
theorem dk_0_14 : ∀ e ∈ k_0_14, decode cL_law e.1 = .ok (e.2.1, e.2.2.1) := by decide +kernel
theorem dk_0_15 : ∀ e ∈ k_0_15, decode cL_law e.1 = .ok (e.2.1, e.2.2.1) := by decide +kernel
theorem dk_0_16 : ∀ e ∈ k_0_16, decode cL_law e.1 = .ok (e.2.1, e.2.2.1) := by decide +kernel
theorem dk_0_17 : ∀ e ∈ k_0_17, decode cL_law e.1 = .ok (e.2.1, e.2.2.1) := by decide +kernel
theorem dk_0_18 : ∀ e ∈ k_0_18, decode cL_law e.1 = .ok (e.2.1, e.2.2.1) := by decide +kernel
theorem dk_0 : ∀ e ∈ k_0, decode cL_law e.1 = .ok (e.2.1, e.2.2.1) := v_app dk_0_0 (v_app dk_0_1 (v_app dk_0_2 (v_app dk_0_3 (v_app dk_0_4 (v_app dk_0_5 (v_app dk_0_6 (v_app dk_0_7 (v_app dk_0_8 (v_app dk_0_9 (v_app dk_0_10 (v_app dk_0_11 (v_app dk_0_12 (v_app dk_0_13 (v_app dk_0_14 (v_app dk_0_15 (v_app dk_0_16 (v_app dk_0_17 (dk_0_18))))))))))))))))))
theorem dk_1 : ∀ e ∈ k_1, decode cX0_init e.1 = .ok (e.2.1, e.2.2.1) := by decide +kernel
theorem dk_2 : ∀ e ∈ k_2, decode cX0_act e.1 = .ok (e.2.1, e.2.2.1) := by decide +kernel
theorem dk_3 : ∀ e ∈ k_3, decode cX0_tells e.1 = .ok (e.2.1, e.2.2.1) := by decide +kernel
theorem dk_4 : ∀ e ∈ k_4, decode cX0_carries e.1 = .ok (e.2.1, e.2.2.1) := by decide +kernel
theorem dk_5 : ∀ e ∈ k_5, decode cX0_lays e.1 = .ok (e.2.1, e.2.2.1) := by decide +kernel
theorem dk_6 : ∀ e ∈ k_6, decode cX0_ages e.1 = .ok (e.2.1, e.2.2.1) := by decide +kernel
theorem dk_7 : ∀ e ∈ k_7, decode cX0_laying e.1 = .ok (e.2.1, e.2.2.1) := by decide +kernel
theorem dk_8 : ∀ e ∈ k_8, decode cX0_old e.1 = .ok (e.2.1, e.2.2.1) := by decide +kernel
theorem dk_9 : ∀ e ∈ k_9, decode cX0_loaded e.1 = .ok (e.2.1, e.2.2.1) := by decide +kernel
theorem dk_10 : ∀ e ∈ k_10, decode cX0_passes e.1 = .ok (e.2.1, e.2.2.1) := by decide +kernel
theorem dk_11 : ∀ e ∈ k_11, decode cX0_thingAges e.1 = .ok (e.2.1, e.2.2.1) := by decide +kernel
theorem dk_12 : ∀ e ∈ k_12, decode cX0_thingTells e.1 = .ok (e.2.1, e.2.2.1) := by decide +kernel
theorem dk_13 : ∀ e ∈ k_13, decode cX0_thingCarries e.1 = .ok (e.2.1, e.2.2.1) := by decide +kernel
theorem dk_14 : ∀ e ∈ k_14, decode cX0_queenTells e.1 = .ok (e.2.1, e.2.2.1) := by decide +kernel
theorem dk_15 : ∀ e ∈ k_15, decode cX0_queenLays e.1 = .ok (e.2.1, e.2.2.1) := by decide +kernel
theorem dk_16 : ∀ e ∈ k_16, decode cX0_virginAges e.1 = .ok (e.2.1, e.2.2.1) := by decide +kernel
theorem dk_17 : ∀ e ∈ k_17, decode cX0_virginLays e.1 = .ok (e.2.1, e.2.2.1) := by decide +kernel
theorem dk_18 : ∀ e ∈ k_18, decode cX0_matedLays e.1 = .ok (e.2.1, e.2.2.1) := by decide +kernel
theorem dk_19 : ∀ e ∈ k_19, decode cX0_droneTells e.1 = .ok (e.2.1, e.2.2.1) := by decide +kernel
theorem dk_20 : ∀ e ∈ k_20, decode cX0_swarmAges e.1 = .ok (e.2.1, e.2.2.1) := by decide +kernel
theorem dk_21 : ∀ e ∈ k_21, decode cX0_swarmCarries e.1 = .ok (e.2.1, e.2.2.1) := by decide +kernel
theorem dk_22 : ∀ e ∈ k_22, decode cX0_nucleusTells e.1 = .ok (e.2.1, e.2.2.1) := by decide +kernel
theorem dk_23 : ∀ e ∈ k_23, decode cX0_nucleusCarries e.1 = .ok (e.2.1, e.2.2.1) := by decide +kernel
theorem dk_24 : ∀ e ∈ k_24, decode cX1_init e.1 = .ok (e.2.1, e.2.2.1) := by decide +kernel
theorem dk_25 : ∀ e ∈ k_25, decode cX1_addEntry e.1 = .ok (e.2.1, e.2.2.1) := by decide +kernel
theorem dk_26 : ∀ e ∈ k_26, decode cX1_entry e.1 = .ok (e.2.1, e.2.2.1) := by decide +kernel
theorem dk_27 : ∀ e ∈ k_27, decode cX1_become e.1 = .ok (e.2.1, e.2.2.1) := by decide +kernel
theorem dk_28 : ∀ e ∈ k_28, decode cX2_init e.1 = .ok (e.2.1, e.2.2.1) := by decide +kernel
theorem dk_29 : ∀ e ∈ k_29, decode cX2_begin e.1 = .ok (e.2.1, e.2.2.1) := by decide +kernel
theorem dk_30 : ∀ e ∈ k_30, decode cX2_become e.1 = .ok (e.2.1, e.2.2.1) := by decide +kernel
theorem dk_31 : ∀ e ∈ k_31, decode cX2_holds e.1 = .ok (e.2.1, e.2.2.1) := by decide +kernel
theorem dk_32 : ∀ e ∈ k_32, decode cX2_honeyTenths e.1 = .ok (e.2.1, e.2.2.1) := by decide +kernel
theorem dk_33 : ∀ e ∈ k_33, decode cX2_addHoney e.1 = .ok (e.2.1, e.2.2.1) := by decide +kernel
theorem dk_34 : ∀ e ∈ k_34, decode cX2_takeHoney e.1 = .ok (e.2.1, e.2.2.1) := by decide +kernel
theorem dk_35 : ∀ e ∈ k_35, decode cX2_takeAllHoney e.1 = .ok (e.2.1, e.2.2.1) := by decide +kernel
theorem dk_36 : ∀ e ∈ k_36, decode cX2_pourInto e.1 = .ok (e.2.1, e.2.2.1) := by decide +kernel
theorem dk_37 : ∀ e ∈ k_37, decode cX2_growYoung e.1 = .ok (e.2.1, e.2.2.1) := by decide +kernel
theorem dk_38 : ∀ e ∈ k_38, decode cX2_addYoung e.1 = .ok (e.2.1, e.2.2.1) := by decide +kernel
theorem dk_39 : ∀ e ∈ k_39, decode cX2_number e.1 = .ok (e.2.1, e.2.2.1) := by decide +kernel
theorem dk_40 : ∀ e ∈ k_40, decode cX2_countLetters e.1 = .ok (e.2.1, e.2.2.1) := by decide +kernel
theorem dk_41 : ∀ e ∈ k_41, decode cX2_digestFrom e.1 = .ok (e.2.1, e.2.2.1) := by decide +kernel
theorem dk_42 : ∀ e ∈ k_42, decode cX3_init e.1 = .ok (e.2.1, e.2.2.1) := by decide +kernel
theorem dk_43 : ∀ e ∈ k_43, decode cX3_begin e.1 = .ok (e.2.1, e.2.2.1) := by decide +kernel
theorem dk_44 : ∀ e ∈ k_44, decode cX3_become e.1 = .ok (e.2.1, e.2.2.1) := by decide +kernel
theorem dk_45 : ∀ e ∈ k_45, decode cX3_placeCount e.1 = .ok (e.2.1, e.2.2.1) := by decide +kernel
theorem dk_46 : ∀ e ∈ k_46, decode cX3_addBox e.1 = .ok (e.2.1, e.2.2.1) := by decide +kernel
theorem dk_47 : ∀ e ∈ k_47, decode cX3_takeBoxes e.1 = .ok (e.2.1, e.2.2.1) := by decide +kernel
theorem dk_48 : ∀ e ∈ k_48, decode cX3_takeRest e.1 = .ok (e.2.1, e.2.2.1) := by decide +kernel
theorem dk_49 : ∀ e ∈ k_49, decode cX3_takePart e.1 = .ok (e.2.1, e.2.2.1) := by decide +kernel
theorem dk_50 : ∀ e ∈ k_50, decode cX3_sendOff e.1 = .ok (e.2.1, e.2.2.1) := by decide +kernel
theorem dk_51 : ∀ e ∈ k_51, decode cX3_takeIn e.1 = .ok (e.2.1, e.2.2.1) := by decide +kernel
theorem dk_52 : ∀ e ∈ k_52, decode cX3_forgetWashings e.1 = .ok (e.2.1, e.2.2.1) := by decide +kernel
theorem dk_53 : ∀ e ∈ k_53, decode cX3_freePlace e.1 = .ok (e.2.1, e.2.2.1) := by decide +kernel
theorem dk_54 : ∀ e ∈ k_54, decode cX3_countFreePlaces e.1 = .ok (e.2.1, e.2.2.1) := by decide +kernel
theorem dk_55 : ∀ e ∈ k_55, decode cX3_number e.1 = .ok (e.2.1, e.2.2.1) := by decide +kernel
theorem dk_56 : ∀ e ∈ k_56, decode cX3_digestFrom e.1 = .ok (e.2.1, e.2.2.1) := by decide +kernel
theorem dk_57 : ∀ e ∈ k_57, decode cX4_init e.1 = .ok (e.2.1, e.2.2.1) := by decide +kernel
theorem dk_58 : ∀ e ∈ k_58, decode cX4_isMarked e.1 = .ok (e.2.1, e.2.2.1) := by decide +kernel
theorem dk_59 : ∀ e ∈ k_59, decode cX4_clearMarks e.1 = .ok (e.2.1, e.2.2.1) := by decide +kernel
theorem dk_60 : ∀ e ∈ k_60, decode cX4_markFrom e.1 = .ok (e.2.1, e.2.2.1) := by decide +kernel
theorem dk_61 : ∀ e ∈ k_61, decode cX4_deepestWith e.1 = .ok (e.2.1, e.2.2.1) := by decide +kernel
theorem dk_62 : ∀ e ∈ k_62, decode cX4_depthBelow e.1 = .ok (e.2.1, e.2.2.1) := by decide +kernel
theorem dk_63 : ∀ e ∈ k_63, decode cX4_writeDepths e.1 = .ok (e.2.1, e.2.2.1) := by decide +kernel
theorem dk_64 : ∀ e ∈ k_64, decode cX4_kinParts e.1 = .ok (e.2.1, e.2.2.1) := by decide +kernel
theorem dk_65 : ∀ e ∈ k_65, decode cX4_gatherAncestors e.1 = .ok (e.2.1, e.2.2.1) := by decide +kernel
theorem dk_66 : ∀ e ∈ k_66, decode cX4_gather e.1 = .ok (e.2.1, e.2.2.1) := by decide +kernel
theorem dk_67 : ∀ e ∈ k_67, decode cX4_sortByDepth e.1 = .ok (e.2.1, e.2.2.1) := by decide +kernel
theorem dk_68 : ∀ e ∈ k_68, decode cX4_isBehind e.1 = .ok (e.2.1, e.2.2.1) := by decide +kernel
theorem dk_69 : ∀ e ∈ k_69, decode cX4_makePairs e.1 = .ok (e.2.1, e.2.2.1) := by decide +kernel
theorem dk_70 : ∀ e ∈ k_70, decode cX4_pairIndex e.1 = .ok (e.2.1, e.2.2.1) := by decide +kernel
theorem dk_71 : ∀ e ∈ k_71, decode cX4_parentParts e.1 = .ok (e.2.1, e.2.2.1) := by decide +kernel
theorem dk_72 : ∀ e ∈ k_72, decode cX4_partsOf e.1 = .ok (e.2.1, e.2.2.1) := by decide +kernel
theorem dk_73 : ∀ e ∈ k_73, decode cX5_init e.1 = .ok (e.2.1, e.2.2.1) := by decide +kernel
theorem dk_74 : ∀ e ∈ k_74, decode cX5_make e.1 = .ok (e.2.1, e.2.2.1) := by decide +kernel
end
section
/-! ===== the decoding, checked ===== -/
theorem dk_75 : ∀ e ∈ k_75, decode cX5_gather e.1 = .ok (e.2.1, e.2.2.1) := by decide +kernel
theorem dk_76 : ∀ e ∈ k_76, decode cX5_overFrom e.1 = .ok (e.2.1, e.2.2.1) := by decide +kernel
theorem dk_77 : ∀ e ∈ k_77, decode cX5_bestNext e.1 = .ok (e.2.1, e.2.2.1) := by decide +kernel
theorem dk_78 : ∀ e ∈ k_78, decode cX5_daysWith e.1 = .ok (e.2.1, e.2.2.1) := by decide +kernel
theorem dk_79 : ∀ e ∈ k_79, decode cX6_init e.1 = .ok (e.2.1, e.2.2.1) := by decide +kernel
theorem dk_80 : ∀ e ∈ k_80, decode cX6_begin e.1 = .ok (e.2.1, e.2.2.1) := by decide +kernel
theorem dk_81 : ∀ e ∈ k_81, decode cX6_fault e.1 = .ok (e.2.1, e.2.2.1) := by decide +kernel
theorem dk_82 : ∀ e ∈ k_82, decode cX7_init e.1 = .ok (e.2.1, e.2.2.1) := by decide +kernel
theorem dk_83 : ∀ e ∈ k_83, decode cX7_begin e.1 = .ok (e.2.1, e.2.2.1) := by decide +kernel
theorem dk_84 : ∀ e ∈ k_84, decode cX7_become e.1 = .ok (e.2.1, e.2.2.1) := by decide +kernel
theorem dk_85 : ∀ e ∈ k_85, decode cX7_becomeMated e.1 = .ok (e.2.1, e.2.2.1) := by decide +kernel
theorem dk_86 : ∀ e ∈ k_86, decode cX7_isQueen e.1 = .ok (e.2.1, e.2.2.1) := by decide +kernel
theorem dk_87 : ∀ e ∈ k_87, decode cX7_isSwarm e.1 = .ok (e.2.1, e.2.2.1) := by decide +kernel
theorem dk_88 : ∀ e ∈ k_88, decode cX7_number e.1 = .ok (e.2.1, e.2.2.1) := by decide +kernel
theorem dk_89 : ∀ e ∈ k_89, decode cX8_init e.1 = .ok (e.2.1, e.2.2.1) := by decide +kernel
theorem dk_90_0 : ∀ e ∈ k_90_0, decode cX8_become e.1 = .ok (e.2.1, e.2.2.1) := by decide +kernel
theorem dk_90_1 : ∀ e ∈ k_90_1, decode cX8_become e.1 = .ok (e.2.1, e.2.2.1) := by decide +kernel
theorem dk_90 : ∀ e ∈ k_90, decode cX8_become e.1 = .ok (e.2.1, e.2.2.1) := v_app dk_90_0 (dk_90_1)
theorem dk_91 : ∀ e ∈ k_91, decode cX8_hiveOf e.1 = .ok (e.2.1, e.2.2.1) := by decide +kernel
theorem dk_92 : ∀ e ∈ k_92, decode cX8_frameOf e.1 = .ok (e.2.1, e.2.2.1) := by decide +kernel
theorem dk_93 : ∀ e ∈ k_93, decode cX8_thingOf e.1 = .ok (e.2.1, e.2.2.1) := by decide +kernel
theorem dk_94 : ∀ e ∈ k_94, decode cX8_addHive e.1 = .ok (e.2.1, e.2.2.1) := by decide +kernel
theorem dk_95 : ∀ e ∈ k_95, decode cX8_addFrame e.1 = .ok (e.2.1, e.2.2.1) := by decide +kernel
theorem dk_96 : ∀ e ∈ k_96, decode cX8_addThing e.1 = .ok (e.2.1, e.2.2.1) := by decide +kernel
theorem dk_97 : ∀ e ∈ k_97, decode cX8_hasPlace e.1 = .ok (e.2.1, e.2.2.1) := by decide +kernel
theorem dk_98 : ∀ e ∈ k_98, decode cX8_frameNumberAt e.1 = .ok (e.2.1, e.2.2.1) := by decide +kernel
theorem dk_99 : ∀ e ∈ k_99, decode cX8_setFrameNumberAt e.1 = .ok (e.2.1, e.2.2.1) := by decide +kernel
theorem dk_100 : ∀ e ∈ k_100, decode cX8_frameAt e.1 = .ok (e.2.1, e.2.2.1) := by decide +kernel
theorem dk_101 : ∀ e ∈ k_101, decode cX8_freeBenchPlace e.1 = .ok (e.2.1, e.2.2.1) := by decide +kernel
theorem dk_102 : ∀ e ∈ k_102, decode cX8_benchPlaceOf e.1 = .ok (e.2.1, e.2.2.1) := by decide +kernel
theorem dk_103 : ∀ e ∈ k_103, decode cX8_placeOf e.1 = .ok (e.2.1, e.2.2.1) := by decide +kernel
theorem dk_104 : ∀ e ∈ k_104, decode cX8_placeWithValue e.1 = .ok (e.2.1, e.2.2.1) := by decide +kernel
theorem dk_105 : ∀ e ∈ k_105, decode cX8_moveFields e.1 = .ok (e.2.1, e.2.2.1) := by decide +kernel
theorem dk_106 : ∀ e ∈ k_106, decode cX8_fillHoney e.1 = .ok (e.2.1, e.2.2.1) := by decide +kernel
theorem dk_107 : ∀ e ∈ k_107, decode cX8_honeyNumber e.1 = .ok (e.2.1, e.2.2.1) := by decide +kernel
theorem dk_108 : ∀ e ∈ k_108, decode cX8_honeyInAllFrames e.1 = .ok (e.2.1, e.2.2.1) := by decide +kernel
theorem dk_109 : ∀ e ∈ k_109, decode cX8_fieldsNumber e.1 = .ok (e.2.1, e.2.2.1) := by decide +kernel
theorem dk_110 : ∀ e ∈ k_110, decode cX8_hiveWithInSlot e.1 = .ok (e.2.1, e.2.2.1) := by decide +kernel
theorem dk_111 : ∀ e ∈ k_111, decode cX8_swarmAround e.1 = .ok (e.2.1, e.2.2.1) := by decide +kernel
theorem dk_112 : ∀ e ∈ k_112, decode cX8_isHeld e.1 = .ok (e.2.1, e.2.2.1) := by decide +kernel
theorem dk_113 : ∀ e ∈ k_113, decode cX8_countTreated e.1 = .ok (e.2.1, e.2.2.1) := by decide +kernel
theorem dk_114 : ∀ e ∈ k_114, decode cX8_lacksWashedTreated e.1 = .ok (e.2.1, e.2.2.1) := by decide +kernel
theorem dk_115 : ∀ e ∈ k_115, decode cX8_passDay e.1 = .ok (e.2.1, e.2.2.1) := by decide +kernel
theorem dk_116 : ∀ e ∈ k_116, decode cX8_growYoung e.1 = .ok (e.2.1, e.2.2.1) := by decide +kernel
theorem dk_117 : ∀ e ∈ k_117, decode cX8_eggsOf e.1 = .ok (e.2.1, e.2.2.1) := by decide +kernel
theorem dk_118 : ∀ e ∈ k_118, decode cX8_layYoung e.1 = .ok (e.2.1, e.2.2.1) := by decide +kernel
theorem dk_119 : ∀ e ∈ k_119, decode cX8_eatHoney e.1 = .ok (e.2.1, e.2.2.1) := by decide +kernel
theorem dk_120_0 : ∀ e ∈ k_120_0, decode cX8_digestFrom e.1 = .ok (e.2.1, e.2.2.1) := by decide +kernel
theorem dk_120_1 : ∀ e ∈ k_120_1, decode cX8_digestFrom e.1 = .ok (e.2.1, e.2.2.1) := by decide +kernel
theorem dk_120 : ∀ e ∈ k_120, decode cX8_digestFrom e.1 = .ok (e.2.1, e.2.2.1) := v_app dk_120_0 (dk_120_1)
theorem dk_121 : ∀ e ∈ k_121, decode cX9_init e.1 = .ok (e.2.1, e.2.2.1) := by decide +kernel
theorem dk_122 : ∀ e ∈ k_122, decode cX9_hive e.1 = .ok (e.2.1, e.2.2.1) := by decide +kernel
theorem dk_123 : ∀ e ∈ k_123, decode cX9_box e.1 = .ok (e.2.1, e.2.2.1) := by decide +kernel
theorem dk_124 : ∀ e ∈ k_124, decode cX9_frame e.1 = .ok (e.2.1, e.2.2.1) := by decide +kernel
theorem dk_125 : ∀ e ∈ k_125, decode cX9_out e.1 = .ok (e.2.1, e.2.2.1) := by decide +kernel
theorem dk_126 : ∀ e ∈ k_126, decode cX9_back e.1 = .ok (e.2.1, e.2.2.1) := by decide +kernel
theorem dk_127 : ∀ e ∈ k_127, decode cX9_at e.1 = .ok (e.2.1, e.2.2.1) := by decide +kernel
theorem dk_128 : ∀ e ∈ k_128, decode cX9_where e.1 = .ok (e.2.1, e.2.2.1) := by decide +kernel
theorem dk_129 : ∀ e ∈ k_129, decode cX9_field e.1 = .ok (e.2.1, e.2.2.1) := by decide +kernel
theorem dk_130 : ∀ e ∈ k_130, decode cX9_put e.1 = .ok (e.2.1, e.2.2.1) := by decide +kernel
theorem dk_131 : ∀ e ∈ k_131, decode cX9_find e.1 = .ok (e.2.1, e.2.2.1) := by decide +kernel
theorem dk_132 : ∀ e ∈ k_132, decode cX9_gap e.1 = .ok (e.2.1, e.2.2.1) := by decide +kernel
theorem dk_133 : ∀ e ∈ k_133, decode cX9_inspect e.1 = .ok (e.2.1, e.2.2.1) := by decide +kernel
theorem dk_134 : ∀ e ∈ k_134, decode cX9_bring e.1 = .ok (e.2.1, e.2.2.1) := by decide +kernel
theorem dk_135 : ∀ e ∈ k_135, decode cX9_harvest e.1 = .ok (e.2.1, e.2.2.1) := by decide +kernel
theorem dk_136 : ∀ e ∈ k_136, decode cX9_ledger e.1 = .ok (e.2.1, e.2.2.1) := by decide +kernel
theorem dk_137 : ∀ e ∈ k_137, decode cX9_honey e.1 = .ok (e.2.1, e.2.2.1) := by decide +kernel
theorem dk_138 : ∀ e ∈ k_138, decode cX9_move e.1 = .ok (e.2.1, e.2.2.1) := by decide +kernel
theorem dk_139 : ∀ e ∈ k_139, decode cX9_moved e.1 = .ok (e.2.1, e.2.2.1) := by decide +kernel
theorem dk_140 : ∀ e ∈ k_140, decode cX9_stack e.1 = .ok (e.2.1, e.2.2.1) := by decide +kernel
theorem dk_141 : ∀ e ∈ k_141, decode cX9_join e.1 = .ok (e.2.1, e.2.2.1) := by decide +kernel
theorem dk_142 : ∀ e ∈ k_142, decode cX9_split e.1 = .ok (e.2.1, e.2.2.1) := by decide +kernel
theorem dk_143 : ∀ e ∈ k_143, decode cX9_thing e.1 = .ok (e.2.1, e.2.2.1) := by decide +kernel
theorem dk_144 : ∀ e ∈ k_144, decode cX9_line e.1 = .ok (e.2.1, e.2.2.1) := by decide +kernel
theorem dk_145 : ∀ e ∈ k_145, decode cX9_kin e.1 = .ok (e.2.1, e.2.2.1) := by decide +kernel
theorem dk_146_0 : ∀ e ∈ k_146_0, decode cX9_ask e.1 = .ok (e.2.1, e.2.2.1) := by decide +kernel
theorem dk_146_1 : ∀ e ∈ k_146_1, decode cX9_ask e.1 = .ok (e.2.1, e.2.2.1) := by decide +kernel
theorem dk_146 : ∀ e ∈ k_146, decode cX9_ask e.1 = .ok (e.2.1, e.2.2.1) := v_app dk_146_0 (dk_146_1)
theorem dk_147 : ∀ e ∈ k_147, decode cX9_slot e.1 = .ok (e.2.1, e.2.2.1) := by decide +kernel
theorem dk_148 : ∀ e ∈ k_148, decode cX9_lay e.1 = .ok (e.2.1, e.2.2.1) := by decide +kernel
theorem dk_149 : ∀ e ∈ k_149, decode cX9_mate e.1 = .ok (e.2.1, e.2.2.1) := by decide +kernel
theorem dk_150 : ∀ e ∈ k_150, decode cX9_day e.1 = .ok (e.2.1, e.2.2.1) := by decide +kernel
theorem dk_151 : ∀ e ∈ k_151, decode cX9_swarm e.1 = .ok (e.2.1, e.2.2.1) := by decide +kernel
theorem dk_152 : ∀ e ∈ k_152, decode cX9_settle e.1 = .ok (e.2.1, e.2.2.1) := by decide +kernel
theorem dk_153 : ∀ e ∈ k_153, decode cX9_share e.1 = .ok (e.2.1, e.2.2.1) := by decide +kernel
theorem dk_154 : ∀ e ∈ k_154, decode cX9_shared e.1 = .ok (e.2.1, e.2.2.1) := by decide +kernel
theorem dk_155 : ∀ e ∈ k_155, decode cX9_sample e.1 = .ok (e.2.1, e.2.2.1) := by decide +kernel
theorem dk_156 : ∀ e ∈ k_156, decode cX9_mites e.1 = .ok (e.2.1, e.2.2.1) := by decide +kernel
theorem dk_157 : ∀ e ∈ k_157, decode cX9_compare e.1 = .ok (e.2.1, e.2.2.1) := by decide +kernel
theorem dk_158 : ∀ e ∈ k_158, decode cX9_treat e.1 = .ok (e.2.1, e.2.2.1) := by decide +kernel
theorem dk_159 : ∀ e ∈ k_159, decode cX9_due e.1 = .ok (e.2.1, e.2.2.1) := by decide +kernel
theorem dk_160 : ∀ e ∈ k_160, decode cX9_plan e.1 = .ok (e.2.1, e.2.2.1) := by decide +kernel
theorem dk_161 : ∀ e ∈ k_161, decode cX9_chosen e.1 = .ok (e.2.1, e.2.2.1) := by decide +kernel
end
section
/-! ===== the decoding, checked ===== -/
theorem dk_162 : ∀ e ∈ k_162, decode cX9_export e.1 = .ok (e.2.1, e.2.2.1) := by decide +kernel
theorem dk_163 : ∀ e ∈ k_163, decode cX9_letter e.1 = .ok (e.2.1, e.2.2.1) := by decide +kernel
theorem dk_164 : ∀ e ∈ k_164, decode cX9_copy e.1 = .ok (e.2.1, e.2.2.1) := by decide +kernel
theorem dk_165 : ∀ e ∈ k_165, decode cX9_trace e.1 = .ok (e.2.1, e.2.2.1) := by decide +kernel
theorem dk_166 : ∀ e ∈ k_166, decode cX9_undo e.1 = .ok (e.2.1, e.2.2.1) := by decide +kernel
theorem dk_167 : ∀ e ∈ k_167, decode cX9_digest e.1 = .ok (e.2.1, e.2.2.1) := by decide +kernel
theorem dk_168 : ∀ e ∈ k_168, decode cX9_status e.1 = .ok (e.2.1, e.2.2.1) := by decide +kernel
theorem dk_169 : ∀ e ∈ k_169, decode cX9_accept e.1 = .ok (e.2.1, e.2.2.1) := by decide +kernel
theorem dk_170 : ∀ e ∈ k_170, decode cX9_refuse e.1 = .ok (e.2.1, e.2.2.1) := by decide +kernel
theorem dk_171 : ∀ e ∈ k_171, decode cX9_beginChange e.1 = .ok (e.2.1, e.2.2.1) := by decide +kernel
theorem dk_172 : ∀ e ∈ k_172, decode cX9_hiveFault e.1 = .ok (e.2.1, e.2.2.1) := by decide +kernel
theorem dk_173 : ∀ e ∈ k_173, decode cX9_twoHivesFault e.1 = .ok (e.2.1, e.2.2.1) := by decide +kernel
theorem dk_174 : ∀ e ∈ k_174, decode cX9_thingFault e.1 = .ok (e.2.1, e.2.2.1) := by decide +kernel
theorem dk_175 : ∀ e ∈ k_175, decode cX9_placeFault e.1 = .ok (e.2.1, e.2.2.1) := by decide +kernel
theorem dk_176 : ∀ e ∈ k_176, decode cX9_frameFault e.1 = .ok (e.2.1, e.2.2.1) := by decide +kernel
theorem dk_177 : ∀ e ∈ k_177, decode cX9_fieldFault e.1 = .ok (e.2.1, e.2.2.1) := by decide +kernel
theorem dk_178 : ∀ e ∈ k_178, decode cX9_moveFault e.1 = .ok (e.2.1, e.2.2.1) := by decide +kernel
theorem dk_179_0 : ∀ e ∈ k_179_0, decode cX9_lineFault e.1 = .ok (e.2.1, e.2.2.1) := by decide +kernel
theorem dk_179_1 : ∀ e ∈ k_179_1, decode cX9_lineFault e.1 = .ok (e.2.1, e.2.2.1) := by decide +kernel
theorem dk_179 : ∀ e ∈ k_179, decode cX9_lineFault e.1 = .ok (e.2.1, e.2.2.1) := v_app dk_179_0 (dk_179_1)
theorem dk_180 : ∀ e ∈ k_180, decode cX9_honeyIn e.1 = .ok (e.2.1, e.2.2.1) := by decide +kernel
theorem dk_181 : ∀ e ∈ k_181, decode cX9_isYoung e.1 = .ok (e.2.1, e.2.2.1) := by decide +kernel
theorem dk_182 : ∀ e ∈ k_182, decode cX9_letterOf e.1 = .ok (e.2.1, e.2.2.1) := by decide +kernel
theorem dk_183 : ∀ e ∈ k_183, decode cX9_fromMiddle e.1 = .ok (e.2.1, e.2.2.1) := by decide +kernel
theorem dk_184 : ∀ e ∈ k_184, decode cX9_commonDivisor e.1 = .ok (e.2.1, e.2.2.1) := by decide +kernel
theorem dk_185_0 : ∀ e ∈ k_185_0, decode cX10_init e.1 = .ok (e.2.1, e.2.2.1) := by decide +kernel
theorem dk_185_1 : ∀ e ∈ k_185_1, decode cX10_init e.1 = .ok (e.2.1, e.2.2.1) := by decide +kernel
theorem dk_185 : ∀ e ∈ k_185, decode cX10_init e.1 = .ok (e.2.1, e.2.2.1) := v_app dk_185_0 (dk_185_1)
theorem dk_186 : ∀ e ∈ k_186, decode cX10_no e.1 = .ok (e.2.1, e.2.2.1) := by decide +kernel
theorem dk_187 : ∀ e ∈ k_187, decode cX10_yes e.1 = .ok (e.2.1, e.2.2.1) := by decide +kernel
theorem dk_188 : ∀ e ∈ k_188, decode cX10_keep e.1 = .ok (e.2.1, e.2.2.1) := by decide +kernel
theorem dk_189 : ∀ e ∈ k_189, decode cX10_isIn e.1 = .ok (e.2.1, e.2.2.1) := by decide +kernel
theorem dk_190 : ∀ e ∈ k_190, decode cX10_hiveAt e.1 = .ok (e.2.1, e.2.2.1) := by decide +kernel
theorem dk_191 : ∀ e ∈ k_191, decode cX10_setHive e.1 = .ok (e.2.1, e.2.2.1) := by decide +kernel
theorem dk_192 : ∀ e ∈ k_192, decode cX10_thingAt e.1 = .ok (e.2.1, e.2.2.1) := by decide +kernel
theorem dk_193 : ∀ e ∈ k_193, decode cX10_setThing e.1 = .ok (e.2.1, e.2.2.1) := by decide +kernel
theorem dk_194 : ∀ e ∈ k_194, decode cX10_frameAt e.1 = .ok (e.2.1, e.2.2.1) := by decide +kernel
theorem dk_195 : ∀ e ∈ k_195, decode cX10_fieldsOf e.1 = .ok (e.2.1, e.2.2.1) := by decide +kernel
theorem dk_196 : ∀ e ∈ k_196, decode cX10_fieldAt e.1 = .ok (e.2.1, e.2.2.1) := by decide +kernel
theorem dk_197 : ∀ e ∈ k_197, decode cX10_setField e.1 = .ok (e.2.1, e.2.2.1) := by decide +kernel
theorem dk_198 : ∀ e ∈ k_198, decode cX10_hiveWhy e.1 = .ok (e.2.1, e.2.2.1) := by decide +kernel
theorem dk_199 : ∀ e ∈ k_199, decode cX10_thingWhy e.1 = .ok (e.2.1, e.2.2.1) := by decide +kernel
theorem dk_200 : ∀ e ∈ k_200, decode cX10_placeWhy e.1 = .ok (e.2.1, e.2.2.1) := by decide +kernel
theorem dk_201 : ∀ e ∈ k_201, decode cX10_frameWhy e.1 = .ok (e.2.1, e.2.2.1) := by decide +kernel
theorem dk_202 : ∀ e ∈ k_202, decode cX10_first e.1 = .ok (e.2.1, e.2.2.1) := by decide +kernel
theorem dk_203 : ∀ e ∈ k_203, decode cX10_isHoney e.1 = .ok (e.2.1, e.2.2.1) := by decide +kernel
theorem dk_204 : ∀ e ∈ k_204, decode cX10_isQueen e.1 = .ok (e.2.1, e.2.2.1) := by decide +kernel
theorem dk_205 : ∀ e ∈ k_205, decode cX10_run e.1 = .ok (e.2.1, e.2.2.1) := by decide +kernel
theorem dk_206 : ∀ e ∈ k_206, decode cX10_tells e.1 = .ok (e.2.1, e.2.2.1) := by decide +kernel
theorem dk_207 : ∀ e ∈ k_207, decode cX10_ages e.1 = .ok (e.2.1, e.2.2.1) := by decide +kernel
theorem dk_208 : ∀ e ∈ k_208, decode cX10_carries e.1 = .ok (e.2.1, e.2.2.1) := by decide +kernel
theorem dk_209 : ∀ e ∈ k_209, decode cX10_lays e.1 = .ok (e.2.1, e.2.2.1) := by decide +kernel
theorem dk_210 : ∀ e ∈ k_210, decode cX10_hive e.1 = .ok (e.2.1, e.2.2.1) := by decide +kernel
theorem dk_211 : ∀ e ∈ k_211, decode cX10_box e.1 = .ok (e.2.1, e.2.2.1) := by decide +kernel
theorem dk_212 : ∀ e ∈ k_212, decode cX10_frame e.1 = .ok (e.2.1, e.2.2.1) := by decide +kernel
theorem dk_213 : ∀ e ∈ k_213, decode cX10_out e.1 = .ok (e.2.1, e.2.2.1) := by decide +kernel
theorem dk_214 : ∀ e ∈ k_214, decode cX10_back e.1 = .ok (e.2.1, e.2.2.1) := by decide +kernel
theorem dk_215 : ∀ e ∈ k_215, decode cX10_at e.1 = .ok (e.2.1, e.2.2.1) := by decide +kernel
theorem dk_216 : ∀ e ∈ k_216, decode cX10_where e.1 = .ok (e.2.1, e.2.2.1) := by decide +kernel
theorem dk_217 : ∀ e ∈ k_217, decode cX10_fieldWhy e.1 = .ok (e.2.1, e.2.2.1) := by decide +kernel
theorem dk_218 : ∀ e ∈ k_218, decode cX10_field e.1 = .ok (e.2.1, e.2.2.1) := by decide +kernel
theorem dk_219 : ∀ e ∈ k_219, decode cX10_put e.1 = .ok (e.2.1, e.2.2.1) := by decide +kernel
theorem dk_220_0 : ∀ e ∈ k_220_0, decode cX10_bring e.1 = .ok (e.2.1, e.2.2.1) := by decide +kernel
theorem dk_220_1 : ∀ e ∈ k_220_1, decode cX10_bring e.1 = .ok (e.2.1, e.2.2.1) := by decide +kernel
theorem dk_220 : ∀ e ∈ k_220, decode cX10_bring e.1 = .ok (e.2.1, e.2.2.1) := v_app dk_220_0 (dk_220_1)
theorem dk_221 : ∀ e ∈ k_221, decode cX10_honeyIn e.1 = .ok (e.2.1, e.2.2.1) := by decide +kernel
theorem dk_222_0 : ∀ e ∈ k_222_0, decode cX10_harvest e.1 = .ok (e.2.1, e.2.2.1) := by decide +kernel
theorem dk_222_1 : ∀ e ∈ k_222_1, decode cX10_harvest e.1 = .ok (e.2.1, e.2.2.1) := by decide +kernel
theorem dk_222 : ∀ e ∈ k_222, decode cX10_harvest e.1 = .ok (e.2.1, e.2.2.1) := v_app dk_222_0 (dk_222_1)
theorem dk_223 : ∀ e ∈ k_223, decode cX10_ledger e.1 = .ok (e.2.1, e.2.2.1) := by decide +kernel
theorem dk_224 : ∀ e ∈ k_224, decode cX10_honeyOf e.1 = .ok (e.2.1, e.2.2.1) := by decide +kernel
theorem dk_225 : ∀ e ∈ k_225, decode cX10_honey e.1 = .ok (e.2.1, e.2.2.1) := by decide +kernel
theorem dk_226 : ∀ e ∈ k_226, decode cX10_moveWhy e.1 = .ok (e.2.1, e.2.2.1) := by decide +kernel
theorem dk_227 : ∀ e ∈ k_227, decode cX10_moveOne e.1 = .ok (e.2.1, e.2.2.1) := by decide +kernel
theorem dk_228 : ∀ e ∈ k_228, decode cX10_move e.1 = .ok (e.2.1, e.2.2.1) := by decide +kernel
theorem dk_229 : ∀ e ∈ k_229, decode cX10_moved e.1 = .ok (e.2.1, e.2.2.1) := by decide +kernel
theorem dk_230 : ∀ e ∈ k_230, decode cX10_carry e.1 = .ok (e.2.1, e.2.2.1) := by decide +kernel
theorem dk_231 : ∀ e ∈ k_231, decode cX10_carryFrom e.1 = .ok (e.2.1, e.2.2.1) := by decide +kernel
theorem dk_232 : ∀ e ∈ k_232, decode cX10_stack e.1 = .ok (e.2.1, e.2.2.1) := by decide +kernel
theorem dk_233_0 : ∀ e ∈ k_233_0, decode cX10_join e.1 = .ok (e.2.1, e.2.2.1) := by decide +kernel
theorem dk_233_1 : ∀ e ∈ k_233_1, decode cX10_join e.1 = .ok (e.2.1, e.2.2.1) := by decide +kernel
theorem dk_233 : ∀ e ∈ k_233, decode cX10_join e.1 = .ok (e.2.1, e.2.2.1) := v_app dk_233_0 (dk_233_1)
theorem dk_234_0 : ∀ e ∈ k_234_0, decode cX10_split e.1 = .ok (e.2.1, e.2.2.1) := by decide +kernel
theorem dk_234_1 : ∀ e ∈ k_234_1, decode cX10_split e.1 = .ok (e.2.1, e.2.2.1) := by decide +kernel
theorem dk_234 : ∀ e ∈ k_234, decode cX10_split e.1 = .ok (e.2.1, e.2.2.1) := v_app dk_234_0 (dk_234_1)
theorem dk_235 : ∀ e ∈ k_235, decode cX10_newThing e.1 = .ok (e.2.1, e.2.2.1) := by decide +kernel
theorem dk_236 : ∀ e ∈ k_236, decode cX10_thing e.1 = .ok (e.2.1, e.2.2.1) := by decide +kernel
theorem dk_237_0 : ∀ e ∈ k_237_0, decode cX10_reckonDepths e.1 = .ok (e.2.1, e.2.2.1) := by decide +kernel
theorem dk_237_1 : ∀ e ∈ k_237_1, decode cX10_reckonDepths e.1 = .ok (e.2.1, e.2.2.1) := by decide +kernel
theorem dk_237 : ∀ e ∈ k_237, decode cX10_reckonDepths e.1 = .ok (e.2.1, e.2.2.1) := v_app dk_237_0 (dk_237_1)
theorem dk_238 : ∀ e ∈ k_238, decode cX10_markFrom e.1 = .ok (e.2.1, e.2.2.1) := by decide +kernel
theorem dk_239 : ∀ e ∈ k_239, decode cX10_parentWhy e.1 = .ok (e.2.1, e.2.2.1) := by decide +kernel
theorem dk_240_0 : ∀ e ∈ k_240_0, decode cX10_line e.1 = .ok (e.2.1, e.2.2.1) := by decide +kernel
theorem dk_240_1 : ∀ e ∈ k_240_1, decode cX10_line e.1 = .ok (e.2.1, e.2.2.1) := by decide +kernel
theorem dk_240_2 : ∀ e ∈ k_240_2, decode cX10_line e.1 = .ok (e.2.1, e.2.2.1) := by decide +kernel
theorem dk_240 : ∀ e ∈ k_240, decode cX10_line e.1 = .ok (e.2.1, e.2.2.1) := v_app dk_240_0 (v_app dk_240_1 (dk_240_2))
theorem dk_241 : ∀ e ∈ k_241, decode cX10_kinAt e.1 = .ok (e.2.1, e.2.2.1) := by decide +kernel
theorem dk_242_0 : ∀ e ∈ k_242_0, decode cX10_reckonKin e.1 = .ok (e.2.1, e.2.2.1) := by decide +kernel
theorem dk_242_1 : ∀ e ∈ k_242_1, decode cX10_reckonKin e.1 = .ok (e.2.1, e.2.2.1) := by decide +kernel
theorem dk_242 : ∀ e ∈ k_242, decode cX10_reckonKin e.1 = .ok (e.2.1, e.2.2.1) := v_app dk_242_0 (dk_242_1)
theorem dk_243 : ∀ e ∈ k_243, decode cX10_kin e.1 = .ok (e.2.1, e.2.2.1) := by decide +kernel
theorem dk_244 : ∀ e ∈ k_244, decode cX10_hiveOf e.1 = .ok (e.2.1, e.2.2.1) := by decide +kernel
theorem dk_245 : ∀ e ∈ k_245, decode cX10_swarmOf e.1 = .ok (e.2.1, e.2.2.1) := by decide +kernel
theorem dk_246 : ∀ e ∈ k_246, decode cX10_truth e.1 = .ok (e.2.1, e.2.2.1) := by decide +kernel
theorem dk_247 : ∀ e ∈ k_247, decode cX10_asked e.1 = .ok (e.2.1, e.2.2.1) := by decide +kernel
end
section
/-! ===== the decoding, checked ===== -/
theorem dk_248_0 : ∀ e ∈ k_248_0, decode cX10_ask e.1 = .ok (e.2.1, e.2.2.1) := by decide +kernel
theorem dk_248_1 : ∀ e ∈ k_248_1, decode cX10_ask e.1 = .ok (e.2.1, e.2.2.1) := by decide +kernel
theorem dk_248_2 : ∀ e ∈ k_248_2, decode cX10_ask e.1 = .ok (e.2.1, e.2.2.1) := by decide +kernel
theorem dk_248 : ∀ e ∈ k_248, decode cX10_ask e.1 = .ok (e.2.1, e.2.2.1) := v_app dk_248_0 (v_app dk_248_1 (dk_248_2))
theorem dk_249 : ∀ e ∈ k_249, decode cX10_slot e.1 = .ok (e.2.1, e.2.2.1) := by decide +kernel
theorem dk_250 : ∀ e ∈ k_250, decode cX10_lay e.1 = .ok (e.2.1, e.2.2.1) := by decide +kernel
theorem dk_251 : ∀ e ∈ k_251, decode cX10_mate e.1 = .ok (e.2.1, e.2.2.1) := by decide +kernel
theorem dk_252_0 : ∀ e ∈ k_252_0, decode cX10_grow e.1 = .ok (e.2.1, e.2.2.1) := by decide +kernel
theorem dk_252_1 : ∀ e ∈ k_252_1, decode cX10_grow e.1 = .ok (e.2.1, e.2.2.1) := by decide +kernel
theorem dk_252 : ∀ e ∈ k_252, decode cX10_grow e.1 = .ok (e.2.1, e.2.2.1) := v_app dk_252_0 (dk_252_1)
theorem dk_253 : ∀ e ∈ k_253, decode cX10_fromMiddle e.1 = .ok (e.2.1, e.2.2.1) := by decide +kernel
theorem dk_254 : ∀ e ∈ k_254, decode cX10_fill e.1 = .ok (e.2.1, e.2.2.1) := by decide +kernel
theorem dk_255 : ∀ e ∈ k_255, decode cX10_layIn e.1 = .ok (e.2.1, e.2.2.1) := by decide +kernel
theorem dk_256_0 : ∀ e ∈ k_256_0, decode cX10_eat e.1 = .ok (e.2.1, e.2.2.1) := by decide +kernel
theorem dk_256_1 : ∀ e ∈ k_256_1, decode cX10_eat e.1 = .ok (e.2.1, e.2.2.1) := by decide +kernel
theorem dk_256_2 : ∀ e ∈ k_256_2, decode cX10_eat e.1 = .ok (e.2.1, e.2.2.1) := by decide +kernel
theorem dk_256 : ∀ e ∈ k_256, decode cX10_eat e.1 = .ok (e.2.1, e.2.2.1) := v_app dk_256_0 (v_app dk_256_1 (dk_256_2))
theorem dk_257_0 : ∀ e ∈ k_257_0, decode cX10_day e.1 = .ok (e.2.1, e.2.2.1) := by decide +kernel
theorem dk_257_1 : ∀ e ∈ k_257_1, decode cX10_day e.1 = .ok (e.2.1, e.2.2.1) := by decide +kernel
theorem dk_257 : ∀ e ∈ k_257, decode cX10_day e.1 = .ok (e.2.1, e.2.2.1) := v_app dk_257_0 (dk_257_1)
theorem dk_258 : ∀ e ∈ k_258, decode cX10_swarm e.1 = .ok (e.2.1, e.2.2.1) := by decide +kernel
theorem dk_259 : ∀ e ∈ k_259, decode cX10_settle e.1 = .ok (e.2.1, e.2.2.1) := by decide +kernel
theorem dk_260 : ∀ e ∈ k_260, decode cX10_share e.1 = .ok (e.2.1, e.2.2.1) := by decide +kernel
theorem dk_261 : ∀ e ∈ k_261, decode cX10_shared e.1 = .ok (e.2.1, e.2.2.1) := by decide +kernel
theorem dk_262 : ∀ e ∈ k_262, decode cX10_sample e.1 = .ok (e.2.1, e.2.2.1) := by decide +kernel
theorem dk_263 : ∀ e ∈ k_263, decode cX10_divisor e.1 = .ok (e.2.1, e.2.2.1) := by decide +kernel
theorem dk_264 : ∀ e ∈ k_264, decode cX10_mites e.1 = .ok (e.2.1, e.2.2.1) := by decide +kernel
theorem dk_265 : ∀ e ∈ k_265, decode cX10_compare e.1 = .ok (e.2.1, e.2.2.1) := by decide +kernel
theorem dk_266 : ∀ e ∈ k_266, decode cX10_treat e.1 = .ok (e.2.1, e.2.2.1) := by decide +kernel
theorem dk_267 : ∀ e ∈ k_267, decode cX10_due e.1 = .ok (e.2.1, e.2.2.1) := by decide +kernel
theorem dk_268 : ∀ e ∈ k_268, decode cX10_overFrom e.1 = .ok (e.2.1, e.2.2.1) := by decide +kernel
theorem dk_269 : ∀ e ∈ k_269, decode cX10_lateness e.1 = .ok (e.2.1, e.2.2.1) := by decide +kernel
theorem dk_270_0 : ∀ e ∈ k_270_0, decode cX10_reckonLeast e.1 = .ok (e.2.1, e.2.2.1) := by decide +kernel
theorem dk_270_1 : ∀ e ∈ k_270_1, decode cX10_reckonLeast e.1 = .ok (e.2.1, e.2.2.1) := by decide +kernel
theorem dk_270 : ∀ e ∈ k_270, decode cX10_reckonLeast e.1 = .ok (e.2.1, e.2.2.1) := v_app dk_270_0 (dk_270_1)
theorem dk_271_0 : ∀ e ∈ k_271_0, decode cX10_plan e.1 = .ok (e.2.1, e.2.2.1) := by decide +kernel
theorem dk_271_1 : ∀ e ∈ k_271_1, decode cX10_plan e.1 = .ok (e.2.1, e.2.2.1) := by decide +kernel
theorem dk_271_2 : ∀ e ∈ k_271_2, decode cX10_plan e.1 = .ok (e.2.1, e.2.2.1) := by decide +kernel
theorem dk_271 : ∀ e ∈ k_271, decode cX10_plan e.1 = .ok (e.2.1, e.2.2.1) := v_app dk_271_0 (v_app dk_271_1 (dk_271_2))
theorem dk_272 : ∀ e ∈ k_272, decode cX10_chosen e.1 = .ok (e.2.1, e.2.2.1) := by decide +kernel
theorem dk_273 : ∀ e ∈ k_273, decode cX10_sortOf e.1 = .ok (e.2.1, e.2.2.1) := by decide +kernel
theorem dk_274 : ∀ e ∈ k_274, decode cX10_countIn e.1 = .ok (e.2.1, e.2.2.1) := by decide +kernel
theorem dk_275 : ∀ e ∈ k_275, decode cX10_inspect e.1 = .ok (e.2.1, e.2.2.1) := by decide +kernel
theorem dk_276 : ∀ e ∈ k_276, decode cX10_gap e.1 = .ok (e.2.1, e.2.2.1) := by decide +kernel
theorem dk_277 : ∀ e ∈ k_277, decode cX10_hasValue e.1 = .ok (e.2.1, e.2.2.1) := by decide +kernel
theorem dk_278 : ∀ e ∈ k_278, decode cX10_find e.1 = .ok (e.2.1, e.2.2.1) := by decide +kernel
theorem dk_279 : ∀ e ∈ k_279, decode cX10_letterOf e.1 = .ok (e.2.1, e.2.2.1) := by decide +kernel
theorem dk_280 : ∀ e ∈ k_280, decode cX10_export e.1 = .ok (e.2.1, e.2.2.1) := by decide +kernel
theorem dk_281 : ∀ e ∈ k_281, decode cX10_letter e.1 = .ok (e.2.1, e.2.2.1) := by decide +kernel
theorem dk_282 : ∀ e ∈ k_282, decode cX10_copy e.1 = .ok (e.2.1, e.2.2.1) := by decide +kernel
theorem dk_283 : ∀ e ∈ k_283, decode cX10_trace e.1 = .ok (e.2.1, e.2.2.1) := by decide +kernel
theorem dk_284 : ∀ e ∈ k_284, decode cX10_undo e.1 = .ok (e.2.1, e.2.2.1) := by decide +kernel
theorem dk_285_0 : ∀ e ∈ k_285_0, decode cX10_digest e.1 = .ok (e.2.1, e.2.2.1) := by decide +kernel
theorem dk_285_1 : ∀ e ∈ k_285_1, decode cX10_digest e.1 = .ok (e.2.1, e.2.2.1) := by decide +kernel
theorem dk_285_2 : ∀ e ∈ k_285_2, decode cX10_digest e.1 = .ok (e.2.1, e.2.2.1) := by decide +kernel
theorem dk_285_3 : ∀ e ∈ k_285_3, decode cX10_digest e.1 = .ok (e.2.1, e.2.2.1) := by decide +kernel
theorem dk_285 : ∀ e ∈ k_285, decode cX10_digest e.1 = .ok (e.2.1, e.2.2.1) := v_app dk_285_0 (v_app dk_285_1 (v_app dk_285_2 (dk_285_3)))
theorem dk_286 : ∀ e ∈ k_286, decode cX10_status e.1 = .ok (e.2.1, e.2.2.1) := by decide +kernel
end
section
/-! ===== what the code links, checked against the tables ===== -/
def v_own (i : Nat) : String := match i with
  | 0 => RX0
  | 1 => RX1
  | 2 => RX2
  | 3 => RX3
  | 4 => RX4
  | 5 => RX5
  | 6 => RX6
  | 7 => RX7
  | 8 => RX8
  | 9 => RX9
  | 10 => RX10
  | 11 => RL
  | _ => RJ9
/-- field links: own class, pool number, class, place -/
def v_flk : List (Nat × Nat × Nat × Nat) := [(0, 9, 0, 0), (0, 35, 7, 0), (0, 85, 7, 1), (0, 88, 7, 5), (0, 97, 7, 7), (1, 9, 1, 0), (1, 15, 1, 1), (1, 18, 1, 2), (1, 21, 1, 3), (2, 9, 2, 0), (2, 15, 2, 1), (2, 46, 3, 2), (2, 51, 3, 3), (3, 9, 3, 0), (3, 15, 3, 1), (3, 19, 3, 2), (3, 22, 3, 3), (3, 25, 3, 4), (3, 28, 3, 5), (3, 31, 3, 6), (3, 34, 3, 7), (3, 37, 3, 8), (3, 40, 3, 9), (3, 43, 3, 10), (3, 46, 3, 11), (3, 62, 7, 0), (3, 67, 7, 7), (3, 70, 7, 8), (4, 9, 4, 0), (4, 15, 4, 1), (4, 19, 4, 2), (4, 22, 4, 3), (4, 25, 4, 4), (4, 29, 4, 5), (4, 35, 8, 7), (4, 44, 7, 2), (4, 53, 7, 3), (4, 56, 7, 4), (5, 14, 5, 0), (5, 20, 5, 1), (5, 24, 5, 2), (5, 27, 5, 3), (5, 30, 5, 4), (5, 33, 5, 5), (5, 52, 6, 0), (5, 55, 8, 5), (5, 64, 3, 9), (5, 73, 3, 8), (5, 76, 3, 7), (5, 79, 3, 10), (6, 9, 6, 1), (6, 15, 6, 2), (6, 19, 6, 0), (7, 9, 7, 0), (7, 15, 7, 1), (7, 18, 7, 2), (7, 21, 7, 3), (7, 24, 7, 4), (7, 27, 7, 5), (7, 30, 7, 6), (7, 33, 7, 7), (7, 36, 7, 8), (8, 11, 8, 0), (8, 19, 8, 1), (8, 25, 8, 2), (8, 29, 8, 3), (8, 36, 8, 4), (8, 40, 8, 5), (8, 44, 8, 6), (8, 47, 8, 7), (8, 50, 8, 8), (8, 53, 8, 9), (8, 56, 8, 10), (8, 59, 8, 11), (8, 62, 8, 12), (8, 113, 3, 0), (8, 149, 3, 5), (8, 152, 7, 8), (8, 161, 3, 9), (8, 164, 3, 8), (8, 186, 3, 2), (8, 190, 3, 11), (8, 208, 3, 4), (8, 211, 3, 3), (8, 226, 7, 0), (8, 229, 7, 1), (8, 233, 1, 3), (9, 12, 9, 0), (9, 16, 9, 1), (9, 19, 9, 2), (9, 23, 9, 3), (9, 27, 9, 4), (9, 30, 9, 5), (9, 36, 9, 6), (9, 43, 9, 7), (9, 50, 9, 8), (9, 59, 9, 9), (9, 63, 9, 10), (9, 66, 8, 5), (9, 89, 3, 1), (9, 101, 8, 6), (9, 117, 8, 3), (9, 138, 2, 0), (9, 143, 8, 11), (9, 165, 8, 12), (9, 168, 8, 4), (9, 172, 1, 3), (9, 180, 8, 9), (9, 214, 8, 7), (9, 228, 7, 2), (9, 233, 7, 3), (9, 240, 7, 4), (9, 254, 7, 0), (9, 272, 3, 5), (9, 275, 7, 5), (9, 285, 8, 8), (9, 303, 3, 2), (9, 309, 6, 0), (9, 315, 3, 6), (9, 318, 3, 7), (9, 321, 3, 8), (9, 330, 3, 9), (9, 333, 3, 10), (9, 345, 5, 0), (9, 348, 2, 1), (9, 355, 6, 2), (9, 358, 6, 1), (9, 365, 0, 0), (10, 7, 10, 0), (10, 13, 10, 1), (10, 16, 10, 4), (10, 19, 10, 7), (10, 22, 10, 8), (10, 26, 10, 9), (10, 29, 10, 10), (10, 32, 10, 11), (10, 35, 10, 12), (10, 38, 10, 13), (10, 42, 10, 14), (10, 45, 10, 15), (10, 48, 10, 16), (10, 51, 10, 17), (10, 55, 10, 18), (10, 58, 10, 19), (10, 61, 10, 5), (10, 64, 10, 2), (10, 131, 10, 3), (10, 140, 10, 6)]
/-- method links: own class, pool number, method, kind, arguments -/
def v_mlk_0 : List (Nat × Nat × Nat × Nat × Nat) := [(11, 9, 121, 2, 1), (11, 12, 185, 2, 1), (11, 13, 122, 0, 2), (11, 17, 210, 0, 2), (11, 18, 123, 0, 2), (11, 21, 211, 0, 2), (11, 22, 124, 0, 3), (11, 26, 212, 0, 3), (11, 27, 125, 0, 2), (11, 30, 213, 0, 2), (11, 31, 126, 0, 3), (11, 34, 214, 0, 3), (11, 35, 127, 0, 2), (11, 38, 215, 0, 2), (11, 39, 128, 0, 2), (11, 42, 216, 0, 2), (11, 43, 129, 0, 3), (11, 46, 218, 0, 3), (11, 47, 130, 0, 4), (11, 51, 219, 0, 4), (11, 52, 134, 0, 3), (11, 55, 220, 0, 3), (11, 56, 135, 0, 2), (11, 59, 222, 0, 2), (11, 60, 136, 0, 3), (11, 63, 223, 0, 3), (11, 64, 137, 0, 2), (11, 67, 225, 0, 2)]
def v_mlk_1 : List (Nat × Nat × Nat × Nat × Nat) := [(11, 68, 138, 0, 4), (11, 71, 228, 0, 4), (11, 72, 139, 0, 1), (11, 76, 229, 0, 1), (11, 77, 140, 0, 3), (11, 80, 232, 0, 3), (11, 81, 141, 0, 3), (11, 84, 233, 0, 3), (11, 85, 142, 0, 4), (11, 88, 234, 0, 4), (11, 89, 143, 0, 2), (11, 92, 236, 0, 2), (11, 93, 144, 0, 4), (11, 96, 240, 0, 4), (11, 97, 145, 0, 3), (11, 100, 243, 0, 3), (11, 101, 146, 0, 3), (11, 104, 248, 0, 3), (11, 105, 147, 0, 3), (11, 108, 249, 0, 3), (11, 109, 148, 0, 3), (11, 112, 250, 0, 3), (11, 113, 149, 0, 3), (11, 116, 251, 0, 3), (11, 117, 150, 0, 2), (11, 120, 257, 0, 2), (11, 121, 151, 0, 3), (11, 124, 258, 0, 3)]
def v_mlk_2 : List (Nat × Nat × Nat × Nat × Nat) := [(11, 125, 152, 0, 3), (11, 128, 259, 0, 3), (11, 129, 153, 0, 3), (11, 132, 260, 0, 3), (11, 133, 154, 0, 2), (11, 136, 261, 0, 2), (11, 137, 155, 0, 4), (11, 140, 262, 0, 4), (11, 141, 156, 0, 3), (11, 144, 264, 0, 3), (11, 145, 157, 0, 3), (11, 148, 265, 0, 3), (11, 149, 158, 0, 2), (11, 152, 266, 0, 2), (11, 153, 159, 0, 4), (11, 156, 267, 0, 4), (11, 157, 160, 0, 3), (11, 160, 271, 0, 3), (11, 161, 161, 0, 2), (11, 164, 272, 0, 2), (11, 165, 133, 0, 3), (11, 168, 275, 0, 3), (11, 169, 132, 0, 2), (11, 172, 276, 0, 2), (11, 173, 131, 0, 3), (11, 176, 278, 0, 3), (11, 177, 162, 0, 2), (11, 180, 280, 0, 2)]
def v_mlk_3 : List (Nat × Nat × Nat × Nat × Nat) := [(11, 181, 163, 0, 2), (11, 184, 281, 0, 2), (11, 185, 164, 0, 4), (11, 188, 282, 0, 4), (11, 189, 165, 0, 2), (11, 192, 283, 0, 2), (11, 193, 166, 0, 1), (11, 196, 284, 0, 1), (11, 197, 167, 0, 1), (11, 200, 285, 0, 1), (11, 201, 168, 0, 1), (11, 204, 286, 0, 1), (0, 3, 0, 5, 1), (0, 15, 3, 0, 2), (0, 19, 4, 0, 2), (0, 22, 5, 0, 2), (0, 25, 8, 0, 2), (0, 29, 9, 0, 2), (0, 32, 7, 0, 2), (0, 41, 19, 0, 2), (0, 44, 12, 0, 2), (0, 47, 22, 0, 2), (0, 50, 14, 0, 2), (0, 53, 21, 0, 2), (0, 56, 23, 0, 2), (0, 59, 13, 0, 1), (0, 63, 17, 0, 2), (0, 66, 18, 0, 2)]
def v_mlk_4 : List (Nat × Nat × Nat × Nat × Nat) := [(0, 69, 15, 0, 1), (0, 72, 16, 0, 2), (0, 76, 20, 0, 2), (0, 79, 11, 0, 2), (0, 82, 6, 0, 2), (0, 91, 0, 7, 2), (0, 100, 0, 8, 2), (1, 3, 0, 5, 1), (1, 25, 0, 6, 5), (2, 3, 0, 5, 1), (2, 19, 0, 6, 5), (2, 25, 180, 3, 1), (2, 29, 0, 8, 2), (2, 35, 32, 0, 1), (2, 39, 34, 0, 2), (2, 42, 181, 3, 1), (2, 54, 183, 3, 2), (2, 57, 40, 0, 3), (2, 61, 182, 3, 1), (3, 3, 0, 5, 1), (3, 49, 52, 0, 1), (3, 52, 0, 6, 5), (3, 58, 45, 0, 1), (3, 73, 54, 0, 1), (4, 3, 0, 5, 1), (4, 32, 59, 0, 1), (4, 40, 93, 0, 2), (4, 49, 58, 0, 2)]
def v_mlk_5 : List (Nat × Nat × Nat × Nat × Nat) := [(4, 59, 62, 0, 3), (4, 63, 0, 7, 2), (4, 68, 65, 0, 4), (4, 72, 67, 0, 2), (4, 76, 69, 0, 1), (4, 79, 71, 0, 3), (4, 82, 70, 0, 3), (4, 87, 72, 0, 3), (4, 90, 66, 0, 2), (4, 94, 68, 0, 4), (4, 99, 0, 8, 2), (5, 3, 0, 5, 1), (5, 11, 79, 2, 2), (5, 37, 75, 0, 4), (5, 41, 77, 0, 2), (5, 45, 78, 0, 3), (5, 49, 80, 0, 2), (5, 60, 91, 0, 2), (5, 69, 76, 0, 4), (5, 84, 0, 9, 2), (5, 90, 0, 7, 2), (6, 3, 0, 5, 1), (7, 3, 0, 5, 1), (8, 3, 0, 5, 1), (8, 35, 24, 4, 1), (8, 65, 91, 0, 2), (8, 69, 44, 0, 2), (8, 73, 92, 0, 2)]
def v_mlk_6 : List (Nat × Nat × Nat × Nat × Nat) := [(8, 77, 30, 0, 2), (8, 80, 93, 0, 2), (8, 84, 84, 0, 2), (8, 87, 0, 6, 5), (8, 93, 27, 0, 2), (8, 96, 42, 4, 1), (8, 97, 28, 4, 1), (8, 98, 82, 4, 1), (8, 99, 43, 0, 2), (8, 103, 29, 0, 2), (8, 104, 99, 0, 3), (8, 108, 83, 0, 2), (8, 109, 45, 0, 1), (8, 116, 98, 0, 2), (8, 120, 102, 0, 2), (8, 123, 97, 0, 2), (8, 127, 100, 0, 2), (8, 130, 31, 0, 2), (8, 133, 36, 0, 2), (8, 137, 33, 0, 2), (8, 140, 108, 0, 1), (8, 143, 32, 0, 1), (8, 146, 39, 0, 2), (8, 155, 110, 0, 2), (8, 158, 111, 0, 2), (8, 167, 10, 0, 2), (8, 172, 116, 0, 2), (8, 175, 117, 0, 3)]
def v_mlk_7 : List (Nat × Nat × Nat × Nat × Nat) := [(8, 179, 118, 0, 3), (8, 183, 119, 0, 2), (8, 189, 37, 0, 2), (8, 193, 86, 0, 1), (8, 197, 5, 0, 2), (8, 201, 183, 3, 2), (8, 205, 38, 0, 3), (8, 214, 34, 0, 2), (8, 217, 0, 8, 2), (8, 222, 56, 0, 2), (8, 225, 41, 0, 2), (8, 230, 107, 0, 2), (9, 3, 0, 5, 1), (9, 11, 89, 2, 1), (9, 35, 1, 4, 1), (9, 42, 57, 4, 1), (9, 49, 73, 4, 1), (9, 56, 79, 2, 2), (9, 69, 170, 0, 2), (9, 73, 171, 0, 1), (9, 76, 94, 0, 2), (9, 79, 169, 0, 2), (9, 82, 172, 0, 2), (9, 85, 91, 0, 2), (9, 94, 46, 0, 1), (9, 98, 175, 0, 2), (9, 104, 98, 0, 2), (9, 107, 95, 0, 3)]
def v_mlk_8 : List (Nat × Nat × Nat × Nat × Nat) := [(9, 111, 176, 0, 2), (9, 114, 101, 0, 1), (9, 121, 99, 0, 3), (9, 125, 102, 0, 2), (9, 128, 103, 0, 2), (9, 131, 177, 0, 3), (9, 134, 100, 0, 2), (9, 146, 180, 1, 1), (9, 149, 104, 0, 3), (9, 152, 53, 0, 1), (9, 155, 55, 0, 2), (9, 158, 109, 0, 3), (9, 162, 106, 0, 3), (9, 177, 35, 0, 1), (9, 183, 25, 0, 4), (9, 187, 26, 0, 3), (9, 190, 107, 0, 2), (9, 193, 178, 0, 3), (9, 196, 105, 0, 3), (9, 199, 173, 0, 3), (9, 202, 47, 0, 3), (9, 206, 48, 0, 2), (9, 210, 49, 0, 4), (9, 217, 96, 0, 2), (9, 220, 179, 0, 4), (9, 224, 93, 0, 2), (9, 236, 63, 0, 2), (9, 243, 174, 0, 2)]
def v_mlk_9 : List (Nat × Nat × Nat × Nat × Nat) := [(9, 246, 64, 0, 4), (9, 250, 86, 0, 1), (9, 257, 110, 0, 2), (9, 260, 111, 0, 2), (9, 263, 2, 0, 3), (9, 267, 88, 0, 2), (9, 268, 112, 0, 2), (9, 278, 85, 0, 2), (9, 281, 115, 0, 2), (9, 288, 50, 0, 2), (9, 292, 87, 0, 1), (9, 295, 4, 0, 2), (9, 299, 51, 0, 3), (9, 306, 80, 0, 2), (9, 312, 81, 0, 2), (9, 324, 184, 1, 2), (9, 327, 52, 0, 1), (9, 336, 113, 0, 1), (9, 339, 114, 0, 1), (9, 342, 74, 0, 4), (9, 351, 182, 1, 1), (9, 359, 0, 6, 5), (9, 368, 120, 0, 2), (9, 371, 90, 0, 2), (9, 374, 97, 0, 2), (9, 377, 60, 0, 3), (9, 381, 58, 0, 2), (9, 384, 61, 0, 5)]
def v_mlk_10 : List (Nat × Nat × Nat × Nat × Nat) := [(10, 1, 0, 5, 1), (10, 68, 189, 1, 3), (10, 72, 190, 0, 3), (10, 76, 200, 0, 2), (10, 80, 194, 0, 2), (10, 83, 192, 0, 3), (10, 86, 205, 0, 2), (10, 90, 193, 0, 4), (10, 94, 186, 0, 2), (10, 97, 188, 0, 1), (10, 100, 191, 0, 4), (10, 103, 187, 0, 2), (10, 106, 198, 0, 2), (10, 109, 197, 0, 4), (10, 112, 201, 0, 2), (10, 115, 195, 0, 2), (10, 118, 217, 0, 3), (10, 121, 196, 0, 3), (10, 124, 203, 1, 1), (10, 128, 221, 0, 2), (10, 134, 224, 0, 2), (10, 137, 202, 1, 2), (10, 143, 226, 0, 3), (10, 146, 227, 0, 3), (10, 150, 230, 0, 3), (10, 153, 231, 0, 4), (10, 156, 235, 0, 2), (10, 159, 199, 0, 2)]
def v_mlk_11 : List (Nat × Nat × Nat × Nat × Nat) := [(10, 162, 204, 0, 2), (10, 165, 239, 0, 3), (10, 169, 238, 0, 2), (10, 172, 237, 0, 2), (10, 175, 241, 0, 3), (10, 179, 242, 0, 1), (10, 182, 206, 0, 2), (10, 185, 208, 0, 2), (10, 188, 209, 0, 2), (10, 191, 246, 1, 1), (10, 195, 247, 0, 3), (10, 198, 244, 0, 2), (10, 201, 245, 0, 2), (10, 204, 253, 1, 2), (10, 207, 254, 0, 4), (10, 212, 207, 0, 2), (10, 215, 252, 0, 2), (10, 218, 255, 0, 2), (10, 221, 256, 0, 2), (10, 224, 263, 1, 2), (10, 229, 269, 0, 3), (10, 233, 268, 0, 4), (10, 237, 270, 0, 2), (10, 240, 273, 1, 1), (10, 243, 274, 0, 3), (10, 246, 277, 0, 3), (10, 250, 279, 1, 1)]
def v_mlk : List (Nat × Nat × Nat × Nat × Nat) := v_mlk_0 ++ (v_mlk_1 ++ (v_mlk_2 ++ (v_mlk_3 ++ (v_mlk_4 ++ (v_mlk_5 ++ (v_mlk_6 ++ (v_mlk_7 ++ (v_mlk_8 ++ (v_mlk_9 ++ (v_mlk_10 ++ (v_mlk_11)))))))))))
def v_clk : List (Nat × Nat × Nat × Nat) := [(11, 7, 9, 0), (11, 10, 10, 0), (5, 9, 6, 0), (8, 9, 3, 1), (8, 17, 2, 1), (8, 23, 7, 1), (8, 33, 1, 0), (8, 9, 3, 0), (8, 17, 2, 0), (8, 23, 7, 0), (9, 9, 8, 0), (9, 33, 0, 0), (9, 40, 4, 0), (9, 47, 5, 0), (9, 54, 6, 0)]
def v_ck : List (Nat × Nat × Int) := [(4, 98, 1073741824), (10, 41, 40000), (10, 178, 1073741824)]
def v_ckl : List (Nat × Nat × Int) := [(4, 85, 2), (5, 82, 100000), (10, 210, 100), (10, 227, -1)]
/-- a field's type: 0 an int, 1 a reference, 2 a boolean -/
def v_fts : List (List Nat) := [[1], [1, 1, 1, 0], [1, 0], [1, 0, 0, 0, 0, 0, 0, 0, 0, 0, 0, 0], [1, 1, 1, 1, 0, 1], [1, 1, 1, 1, 1, 0], [1, 0, 2], [0, 0, 0, 0, 0, 0, 0, 0, 0], [1, 1, 1, 1, 1, 0, 0, 0, 0, 0, 0, 0, 0], [1, 1, 2, 0, 0, 0, 1, 1, 1, 1, 1], [1, 1, 2, 0, 1, 0, 0, 1, 0, 1, 0, 1, 0, 1, 1, 1, 1, 1, 1, 1]]
def v_nthL : List (List Nat) → Nat → List Nat
  | [], _ => []
  | x :: _, 0 => x
  | _ :: l, n + 1 => v_nthL l n
def v_fty (ci k : Nat) : Nat := v_nth (v_nthL v_fts ci) k
def v_fin (ci k : Nat) : Bool := match vcl[ci]? with
  | some r => (r.2.1 k).2.2.2
  | none => false
def v_cls3 (k : Nat) : Nat := v_nth [3, 2, 7] (k - 14)
def v_okI (oi : Nat) (m : VM) (pc : Nat) (i : Instr) (len : Nat) (x : VX) : Bool := match i with
  | .iconst _ => len == 1
  | .bipush _ => len == 2
  | .sipush _ => len == 3
  | .ldc idx => (len == 2) && v_ck.elem (oi, idx, x.2.2.2)
  | .ldc2_w idx => (len == 3) && v_ckl.elem (oi, idx, x.2.2.2)
  | .lconst _ => len == 1
  | .iload _ => len == 2
  | .lload _ => len == 2
  | .aload _ => len == 2
  | .iload_n _ => len == 1
  | .lload_n _ => len == 1
  | .aload_n _ => len == 1
  | .istore k => (len == 2) && decide (k < m.2.2.2.1)
  | .astore k => (len == 2) && decide (k < m.2.2.2.1)
  | .lstore k => (len == 2) && decide (k + 1 < m.2.2.2.1)
  | .istore_n k => (len == 1) && decide (k.val < m.2.2.2.1)
  | .astore_n k => (len == 1) && decide (k.val < m.2.2.2.1)
  | .lstore_n k => (len == 1) && decide (k.val + 1 < m.2.2.2.1)
  | .iinc k _ => (len == 3) && decide (k < m.2.2.2.1)
  | .if_icmp _ off => (len == 3) && decide ((pc : Int) + off = (x.1 : Int))
  | .ifCond _ off => (len == 3) && decide ((pc : Int) + off = (x.1 : Int))
  | .ifnonnull off => (len == 3) && decide ((pc : Int) + off = (x.1 : Int))
  | .goto off => (len == 3) && decide ((pc : Int) + off = (x.1 : Int))
  | .tableswitch d _ _ offs => decide (0 ≤ (pc : Int) + d) && offs.toList.all (fun o => decide (0 ≤ (pc : Int) + o))
  | .lookupswitch d ps => decide (0 ≤ (pc : Int) + d) && ps.toList.all (fun o => decide (0 ≤ (pc : Int) + o.2)) && (ps.toList.zip (ps.toList.drop 1)).all (fun (a, next) => a.1 < next.1)
  | .getfield idx => (len == 3) && v_flk.elem (oi, idx, x.1, x.2.1) && ((x.2.2.1 == 1) == (v_fty x.1 x.2.1 == 1)) && decide (x.2.2.1 ≤ 1)
  | .putfield idx => (len == 3) && v_flk.elem (oi, idx, x.1, x.2.1) && (x.2.2.1 == v_fty x.1 x.2.1) && (!(v_fin x.1 x.2.1) || ((m.2.1.name == "<init>") && (oi == x.1))) && decide (x.2.2.1 ≤ 2)
  | .new idx => (len == 3) && v_clk.elem (oi, idx, x.1, 0) && decide (x.1 < 11) && !(x.2.2.1 == 60)
  | .newarray t => (len == 2) && (((x.1 == 11) && (t == .int)) || ((x.1 == 12) && (t == .boolean)) || ((x.1 == 13) && (t == .long))) && !(x.2.2.1 == 60)
  | .anewarray idx => (len == 3) && v_clk.elem (oi, idx, v_cls3 x.1, 1) && decide (14 ≤ x.1 ∧ x.1 ≤ 16) && !(x.2.2.1 == 60)
  | .invokevirtual idx => (len == 3) && v_mlk.elem (oi, idx, x.1, 0, x.2.1) && (x.2.2.1 == 0) && decide ((v_m x.1).2.2.2.2.2.1 + 1 ≤ m.2.2.2.2.2.1) && decide (8 + ((v_m x.1).2.2.2.1 + 11) + (v_m x.1).2.2.2.2.2.2.1 ≤ m.2.2.2.2.2.2.1)
  | .invokestatic idx => (len == 3) && v_mlk.elem (oi, idx, x.1, x.2.2.1, x.2.1) && (((x.2.2.1 == 6) && (x.2.1 == 5) && decide (1 ≤ m.2.2.2.2.2.1) && decide (68 ≤ m.2.2.2.2.2.2.1)) || (((x.2.2.1 == 7) || (x.2.2.1 == 8) || (x.2.2.1 == 9)) && (x.2.1 == 2) && decide (1 ≤ m.2.2.2.2.2.1) && decide (23 ≤ m.2.2.2.2.2.2.1)) || (((x.2.2.1 == 1) || (x.2.2.1 == 3)) && decide ((v_m x.1).2.2.2.2.2.1 + 1 ≤ m.2.2.2.2.2.1) && decide (8 + ((v_m x.1).2.2.2.1 + 11) + (v_m x.1).2.2.2.2.2.2.1 ≤ m.2.2.2.2.2.2.1)))
  | .invokespecial idx => (len == 3) && v_mlk.elem (oi, idx, x.1, x.2.2.1, x.2.1) && (((x.2.2.1 == 5) && (x.2.1 == 1) && decide (1 ≤ m.2.2.2.2.2.1) && decide (20 ≤ m.2.2.2.2.2.2.1)) || (((x.2.2.1 == 2) || (x.2.2.1 == 4)) && decide ((v_m x.1).2.2.2.2.2.1 + 1 ≤ m.2.2.2.2.2.1) && decide (8 + ((v_m x.1).2.2.2.1 + 11) + (v_m x.1).2.2.2.2.2.2.1 ≤ m.2.2.2.2.2.2.1)))
  | .ireturn => (len == 1) && (((x.1 == 0) && decide (m.2.2.2.2.1 = some .int)) || ((x.1 == 1) && decide (m.2.2.2.2.1 = some .boolean)) || ((x.1 == 2) && decide (m.2.2.2.2.1 = some .char)))
  | .lreturn => (len == 1) && decide (m.2.2.2.2.1 = some .long)
  | .areturn => (len == 1) && (decide (m.2.2.2.2.1 = some (.object "BeeYard$Hive")) || decide (m.2.2.2.2.1 = some (.object "BeeYard$Frame")) || decide (m.2.2.2.2.1 = some (.object "BeeYard$Thing")))
  | .return_ => (len == 1) && decide (m.2.2.2.2.1 = none)
  | _ => len == 1
theorem ok_0 : m_0.2.2.2.2.2.2.2.all (fun e => v_okI 11 m_0 e.1 e.2.1 e.2.2.1 e.2.2.2) = true := by decide +kernel
theorem ok_1 : m_1.2.2.2.2.2.2.2.all (fun e => v_okI 0 m_1 e.1 e.2.1 e.2.2.1 e.2.2.2) = true := by decide +kernel
theorem ok_2 : m_2.2.2.2.2.2.2.2.all (fun e => v_okI 0 m_2 e.1 e.2.1 e.2.2.1 e.2.2.2) = true := by decide +kernel
theorem ok_3 : m_3.2.2.2.2.2.2.2.all (fun e => v_okI 0 m_3 e.1 e.2.1 e.2.2.1 e.2.2.2) = true := by decide +kernel
theorem ok_4 : m_4.2.2.2.2.2.2.2.all (fun e => v_okI 0 m_4 e.1 e.2.1 e.2.2.1 e.2.2.2) = true := by decide +kernel
theorem ok_5 : m_5.2.2.2.2.2.2.2.all (fun e => v_okI 0 m_5 e.1 e.2.1 e.2.2.1 e.2.2.2) = true := by decide +kernel
theorem ok_6 : m_6.2.2.2.2.2.2.2.all (fun e => v_okI 0 m_6 e.1 e.2.1 e.2.2.1 e.2.2.2) = true := by decide +kernel
theorem ok_7 : m_7.2.2.2.2.2.2.2.all (fun e => v_okI 0 m_7 e.1 e.2.1 e.2.2.1 e.2.2.2) = true := by decide +kernel
theorem ok_8 : m_8.2.2.2.2.2.2.2.all (fun e => v_okI 0 m_8 e.1 e.2.1 e.2.2.1 e.2.2.2) = true := by decide +kernel
theorem ok_9 : m_9.2.2.2.2.2.2.2.all (fun e => v_okI 0 m_9 e.1 e.2.1 e.2.2.1 e.2.2.2) = true := by decide +kernel
theorem ok_10 : m_10.2.2.2.2.2.2.2.all (fun e => v_okI 0 m_10 e.1 e.2.1 e.2.2.1 e.2.2.2) = true := by decide +kernel
theorem ok_11 : m_11.2.2.2.2.2.2.2.all (fun e => v_okI 0 m_11 e.1 e.2.1 e.2.2.1 e.2.2.2) = true := by decide +kernel
theorem ok_12 : m_12.2.2.2.2.2.2.2.all (fun e => v_okI 0 m_12 e.1 e.2.1 e.2.2.1 e.2.2.2) = true := by decide +kernel
theorem ok_13 : m_13.2.2.2.2.2.2.2.all (fun e => v_okI 0 m_13 e.1 e.2.1 e.2.2.1 e.2.2.2) = true := by decide +kernel
theorem ok_14 : m_14.2.2.2.2.2.2.2.all (fun e => v_okI 0 m_14 e.1 e.2.1 e.2.2.1 e.2.2.2) = true := by decide +kernel
theorem ok_15 : m_15.2.2.2.2.2.2.2.all (fun e => v_okI 0 m_15 e.1 e.2.1 e.2.2.1 e.2.2.2) = true := by decide +kernel
theorem ok_16 : m_16.2.2.2.2.2.2.2.all (fun e => v_okI 0 m_16 e.1 e.2.1 e.2.2.1 e.2.2.2) = true := by decide +kernel
theorem ok_17 : m_17.2.2.2.2.2.2.2.all (fun e => v_okI 0 m_17 e.1 e.2.1 e.2.2.1 e.2.2.2) = true := by decide +kernel
theorem ok_18 : m_18.2.2.2.2.2.2.2.all (fun e => v_okI 0 m_18 e.1 e.2.1 e.2.2.1 e.2.2.2) = true := by decide +kernel
theorem ok_19 : m_19.2.2.2.2.2.2.2.all (fun e => v_okI 0 m_19 e.1 e.2.1 e.2.2.1 e.2.2.2) = true := by decide +kernel
theorem ok_20 : m_20.2.2.2.2.2.2.2.all (fun e => v_okI 0 m_20 e.1 e.2.1 e.2.2.1 e.2.2.2) = true := by decide +kernel
theorem ok_21 : m_21.2.2.2.2.2.2.2.all (fun e => v_okI 0 m_21 e.1 e.2.1 e.2.2.1 e.2.2.2) = true := by decide +kernel
theorem ok_22 : m_22.2.2.2.2.2.2.2.all (fun e => v_okI 0 m_22 e.1 e.2.1 e.2.2.1 e.2.2.2) = true := by decide +kernel
theorem ok_23 : m_23.2.2.2.2.2.2.2.all (fun e => v_okI 0 m_23 e.1 e.2.1 e.2.2.1 e.2.2.2) = true := by decide +kernel
theorem ok_24 : m_24.2.2.2.2.2.2.2.all (fun e => v_okI 1 m_24 e.1 e.2.1 e.2.2.1 e.2.2.2) = true := by decide +kernel
theorem ok_25 : m_25.2.2.2.2.2.2.2.all (fun e => v_okI 1 m_25 e.1 e.2.1 e.2.2.1 e.2.2.2) = true := by decide +kernel
theorem ok_26 : m_26.2.2.2.2.2.2.2.all (fun e => v_okI 1 m_26 e.1 e.2.1 e.2.2.1 e.2.2.2) = true := by decide +kernel
theorem ok_27 : m_27.2.2.2.2.2.2.2.all (fun e => v_okI 1 m_27 e.1 e.2.1 e.2.2.1 e.2.2.2) = true := by decide +kernel
theorem ok_28 : m_28.2.2.2.2.2.2.2.all (fun e => v_okI 2 m_28 e.1 e.2.1 e.2.2.1 e.2.2.2) = true := by decide +kernel
theorem ok_29 : m_29.2.2.2.2.2.2.2.all (fun e => v_okI 2 m_29 e.1 e.2.1 e.2.2.1 e.2.2.2) = true := by decide +kernel
theorem ok_30 : m_30.2.2.2.2.2.2.2.all (fun e => v_okI 2 m_30 e.1 e.2.1 e.2.2.1 e.2.2.2) = true := by decide +kernel
theorem ok_31 : m_31.2.2.2.2.2.2.2.all (fun e => v_okI 2 m_31 e.1 e.2.1 e.2.2.1 e.2.2.2) = true := by decide +kernel
theorem ok_32 : m_32.2.2.2.2.2.2.2.all (fun e => v_okI 2 m_32 e.1 e.2.1 e.2.2.1 e.2.2.2) = true := by decide +kernel
theorem ok_33 : m_33.2.2.2.2.2.2.2.all (fun e => v_okI 2 m_33 e.1 e.2.1 e.2.2.1 e.2.2.2) = true := by decide +kernel
theorem ok_34 : m_34.2.2.2.2.2.2.2.all (fun e => v_okI 2 m_34 e.1 e.2.1 e.2.2.1 e.2.2.2) = true := by decide +kernel
theorem ok_35 : m_35.2.2.2.2.2.2.2.all (fun e => v_okI 2 m_35 e.1 e.2.1 e.2.2.1 e.2.2.2) = true := by decide +kernel
theorem ok_36 : m_36.2.2.2.2.2.2.2.all (fun e => v_okI 2 m_36 e.1 e.2.1 e.2.2.1 e.2.2.2) = true := by decide +kernel
theorem ok_37 : m_37.2.2.2.2.2.2.2.all (fun e => v_okI 2 m_37 e.1 e.2.1 e.2.2.1 e.2.2.2) = true := by decide +kernel
theorem ok_38 : m_38.2.2.2.2.2.2.2.all (fun e => v_okI 2 m_38 e.1 e.2.1 e.2.2.1 e.2.2.2) = true := by decide +kernel
theorem ok_39 : m_39.2.2.2.2.2.2.2.all (fun e => v_okI 2 m_39 e.1 e.2.1 e.2.2.1 e.2.2.2) = true := by decide +kernel
theorem ok_40 : m_40.2.2.2.2.2.2.2.all (fun e => v_okI 2 m_40 e.1 e.2.1 e.2.2.1 e.2.2.2) = true := by decide +kernel
theorem ok_41 : m_41.2.2.2.2.2.2.2.all (fun e => v_okI 2 m_41 e.1 e.2.1 e.2.2.1 e.2.2.2) = true := by decide +kernel
theorem ok_42 : m_42.2.2.2.2.2.2.2.all (fun e => v_okI 3 m_42 e.1 e.2.1 e.2.2.1 e.2.2.2) = true := by decide +kernel
theorem ok_43 : m_43.2.2.2.2.2.2.2.all (fun e => v_okI 3 m_43 e.1 e.2.1 e.2.2.1 e.2.2.2) = true := by decide +kernel
theorem ok_44 : m_44.2.2.2.2.2.2.2.all (fun e => v_okI 3 m_44 e.1 e.2.1 e.2.2.1 e.2.2.2) = true := by decide +kernel
theorem ok_45 : m_45.2.2.2.2.2.2.2.all (fun e => v_okI 3 m_45 e.1 e.2.1 e.2.2.1 e.2.2.2) = true := by decide +kernel
theorem ok_46 : m_46.2.2.2.2.2.2.2.all (fun e => v_okI 3 m_46 e.1 e.2.1 e.2.2.1 e.2.2.2) = true := by decide +kernel
theorem ok_47 : m_47.2.2.2.2.2.2.2.all (fun e => v_okI 3 m_47 e.1 e.2.1 e.2.2.1 e.2.2.2) = true := by decide +kernel
theorem ok_48 : m_48.2.2.2.2.2.2.2.all (fun e => v_okI 3 m_48 e.1 e.2.1 e.2.2.1 e.2.2.2) = true := by decide +kernel
theorem ok_49 : m_49.2.2.2.2.2.2.2.all (fun e => v_okI 3 m_49 e.1 e.2.1 e.2.2.1 e.2.2.2) = true := by decide +kernel
theorem ok_50 : m_50.2.2.2.2.2.2.2.all (fun e => v_okI 3 m_50 e.1 e.2.1 e.2.2.1 e.2.2.2) = true := by decide +kernel
theorem ok_51 : m_51.2.2.2.2.2.2.2.all (fun e => v_okI 3 m_51 e.1 e.2.1 e.2.2.1 e.2.2.2) = true := by decide +kernel
theorem ok_52 : m_52.2.2.2.2.2.2.2.all (fun e => v_okI 3 m_52 e.1 e.2.1 e.2.2.1 e.2.2.2) = true := by decide +kernel
theorem ok_53 : m_53.2.2.2.2.2.2.2.all (fun e => v_okI 3 m_53 e.1 e.2.1 e.2.2.1 e.2.2.2) = true := by decide +kernel
theorem ok_54 : m_54.2.2.2.2.2.2.2.all (fun e => v_okI 3 m_54 e.1 e.2.1 e.2.2.1 e.2.2.2) = true := by decide +kernel
theorem ok_55 : m_55.2.2.2.2.2.2.2.all (fun e => v_okI 3 m_55 e.1 e.2.1 e.2.2.1 e.2.2.2) = true := by decide +kernel
theorem ok_56 : m_56.2.2.2.2.2.2.2.all (fun e => v_okI 3 m_56 e.1 e.2.1 e.2.2.1 e.2.2.2) = true := by decide +kernel
theorem ok_57 : m_57.2.2.2.2.2.2.2.all (fun e => v_okI 4 m_57 e.1 e.2.1 e.2.2.1 e.2.2.2) = true := by decide +kernel
theorem ok_58 : m_58.2.2.2.2.2.2.2.all (fun e => v_okI 4 m_58 e.1 e.2.1 e.2.2.1 e.2.2.2) = true := by decide +kernel
theorem ok_59 : m_59.2.2.2.2.2.2.2.all (fun e => v_okI 4 m_59 e.1 e.2.1 e.2.2.1 e.2.2.2) = true := by decide +kernel
theorem ok_60 : m_60.2.2.2.2.2.2.2.all (fun e => v_okI 4 m_60 e.1 e.2.1 e.2.2.1 e.2.2.2) = true := by decide +kernel
theorem ok_61 : m_61.2.2.2.2.2.2.2.all (fun e => v_okI 4 m_61 e.1 e.2.1 e.2.2.1 e.2.2.2) = true := by decide +kernel
theorem ok_62 : m_62.2.2.2.2.2.2.2.all (fun e => v_okI 4 m_62 e.1 e.2.1 e.2.2.1 e.2.2.2) = true := by decide +kernel
theorem ok_63 : m_63.2.2.2.2.2.2.2.all (fun e => v_okI 4 m_63 e.1 e.2.1 e.2.2.1 e.2.2.2) = true := by decide +kernel
theorem ok_64 : m_64.2.2.2.2.2.2.2.all (fun e => v_okI 4 m_64 e.1 e.2.1 e.2.2.1 e.2.2.2) = true := by decide +kernel
theorem ok_65 : m_65.2.2.2.2.2.2.2.all (fun e => v_okI 4 m_65 e.1 e.2.1 e.2.2.1 e.2.2.2) = true := by decide +kernel
theorem ok_66 : m_66.2.2.2.2.2.2.2.all (fun e => v_okI 4 m_66 e.1 e.2.1 e.2.2.1 e.2.2.2) = true := by decide +kernel
theorem ok_67 : m_67.2.2.2.2.2.2.2.all (fun e => v_okI 4 m_67 e.1 e.2.1 e.2.2.1 e.2.2.2) = true := by decide +kernel
theorem ok_68 : m_68.2.2.2.2.2.2.2.all (fun e => v_okI 4 m_68 e.1 e.2.1 e.2.2.1 e.2.2.2) = true := by decide +kernel
theorem ok_69 : m_69.2.2.2.2.2.2.2.all (fun e => v_okI 4 m_69 e.1 e.2.1 e.2.2.1 e.2.2.2) = true := by decide +kernel
theorem ok_70 : m_70.2.2.2.2.2.2.2.all (fun e => v_okI 4 m_70 e.1 e.2.1 e.2.2.1 e.2.2.2) = true := by decide +kernel
theorem ok_71 : m_71.2.2.2.2.2.2.2.all (fun e => v_okI 4 m_71 e.1 e.2.1 e.2.2.1 e.2.2.2) = true := by decide +kernel
theorem ok_72 : m_72.2.2.2.2.2.2.2.all (fun e => v_okI 4 m_72 e.1 e.2.1 e.2.2.1 e.2.2.2) = true := by decide +kernel
theorem ok_73 : m_73.2.2.2.2.2.2.2.all (fun e => v_okI 5 m_73 e.1 e.2.1 e.2.2.1 e.2.2.2) = true := by decide +kernel
theorem ok_74 : m_74.2.2.2.2.2.2.2.all (fun e => v_okI 5 m_74 e.1 e.2.1 e.2.2.1 e.2.2.2) = true := by decide +kernel
theorem ok_75 : m_75.2.2.2.2.2.2.2.all (fun e => v_okI 5 m_75 e.1 e.2.1 e.2.2.1 e.2.2.2) = true := by decide +kernel
theorem ok_76 : m_76.2.2.2.2.2.2.2.all (fun e => v_okI 5 m_76 e.1 e.2.1 e.2.2.1 e.2.2.2) = true := by decide +kernel
theorem ok_77 : m_77.2.2.2.2.2.2.2.all (fun e => v_okI 5 m_77 e.1 e.2.1 e.2.2.1 e.2.2.2) = true := by decide +kernel
theorem ok_78 : m_78.2.2.2.2.2.2.2.all (fun e => v_okI 5 m_78 e.1 e.2.1 e.2.2.1 e.2.2.2) = true := by decide +kernel
theorem ok_79 : m_79.2.2.2.2.2.2.2.all (fun e => v_okI 6 m_79 e.1 e.2.1 e.2.2.1 e.2.2.2) = true := by decide +kernel
theorem ok_80 : m_80.2.2.2.2.2.2.2.all (fun e => v_okI 6 m_80 e.1 e.2.1 e.2.2.1 e.2.2.2) = true := by decide +kernel
theorem ok_81 : m_81.2.2.2.2.2.2.2.all (fun e => v_okI 6 m_81 e.1 e.2.1 e.2.2.1 e.2.2.2) = true := by decide +kernel
theorem ok_82 : m_82.2.2.2.2.2.2.2.all (fun e => v_okI 7 m_82 e.1 e.2.1 e.2.2.1 e.2.2.2) = true := by decide +kernel
theorem ok_83 : m_83.2.2.2.2.2.2.2.all (fun e => v_okI 7 m_83 e.1 e.2.1 e.2.2.1 e.2.2.2) = true := by decide +kernel
theorem ok_84 : m_84.2.2.2.2.2.2.2.all (fun e => v_okI 7 m_84 e.1 e.2.1 e.2.2.1 e.2.2.2) = true := by decide +kernel
theorem ok_85 : m_85.2.2.2.2.2.2.2.all (fun e => v_okI 7 m_85 e.1 e.2.1 e.2.2.1 e.2.2.2) = true := by decide +kernel
theorem ok_86 : m_86.2.2.2.2.2.2.2.all (fun e => v_okI 7 m_86 e.1 e.2.1 e.2.2.1 e.2.2.2) = true := by decide +kernel
theorem ok_87 : m_87.2.2.2.2.2.2.2.all (fun e => v_okI 7 m_87 e.1 e.2.1 e.2.2.1 e.2.2.2) = true := by decide +kernel
theorem ok_88 : m_88.2.2.2.2.2.2.2.all (fun e => v_okI 7 m_88 e.1 e.2.1 e.2.2.1 e.2.2.2) = true := by decide +kernel
theorem ok_89 : m_89.2.2.2.2.2.2.2.all (fun e => v_okI 8 m_89 e.1 e.2.1 e.2.2.1 e.2.2.2) = true := by decide +kernel
theorem ok_90 : m_90.2.2.2.2.2.2.2.all (fun e => v_okI 8 m_90 e.1 e.2.1 e.2.2.1 e.2.2.2) = true := by decide +kernel
theorem ok_91 : m_91.2.2.2.2.2.2.2.all (fun e => v_okI 8 m_91 e.1 e.2.1 e.2.2.1 e.2.2.2) = true := by decide +kernel
theorem ok_92 : m_92.2.2.2.2.2.2.2.all (fun e => v_okI 8 m_92 e.1 e.2.1 e.2.2.1 e.2.2.2) = true := by decide +kernel
theorem ok_93 : m_93.2.2.2.2.2.2.2.all (fun e => v_okI 8 m_93 e.1 e.2.1 e.2.2.1 e.2.2.2) = true := by decide +kernel
theorem ok_94 : m_94.2.2.2.2.2.2.2.all (fun e => v_okI 8 m_94 e.1 e.2.1 e.2.2.1 e.2.2.2) = true := by decide +kernel
theorem ok_95 : m_95.2.2.2.2.2.2.2.all (fun e => v_okI 8 m_95 e.1 e.2.1 e.2.2.1 e.2.2.2) = true := by decide +kernel
theorem ok_96 : m_96.2.2.2.2.2.2.2.all (fun e => v_okI 8 m_96 e.1 e.2.1 e.2.2.1 e.2.2.2) = true := by decide +kernel
theorem ok_97 : m_97.2.2.2.2.2.2.2.all (fun e => v_okI 8 m_97 e.1 e.2.1 e.2.2.1 e.2.2.2) = true := by decide +kernel
theorem ok_98 : m_98.2.2.2.2.2.2.2.all (fun e => v_okI 8 m_98 e.1 e.2.1 e.2.2.1 e.2.2.2) = true := by decide +kernel
theorem ok_99 : m_99.2.2.2.2.2.2.2.all (fun e => v_okI 8 m_99 e.1 e.2.1 e.2.2.1 e.2.2.2) = true := by decide +kernel
theorem ok_100 : m_100.2.2.2.2.2.2.2.all (fun e => v_okI 8 m_100 e.1 e.2.1 e.2.2.1 e.2.2.2) = true := by decide +kernel
theorem ok_101 : m_101.2.2.2.2.2.2.2.all (fun e => v_okI 8 m_101 e.1 e.2.1 e.2.2.1 e.2.2.2) = true := by decide +kernel
theorem ok_102 : m_102.2.2.2.2.2.2.2.all (fun e => v_okI 8 m_102 e.1 e.2.1 e.2.2.1 e.2.2.2) = true := by decide +kernel
theorem ok_103 : m_103.2.2.2.2.2.2.2.all (fun e => v_okI 8 m_103 e.1 e.2.1 e.2.2.1 e.2.2.2) = true := by decide +kernel
theorem ok_104 : m_104.2.2.2.2.2.2.2.all (fun e => v_okI 8 m_104 e.1 e.2.1 e.2.2.1 e.2.2.2) = true := by decide +kernel
theorem ok_105 : m_105.2.2.2.2.2.2.2.all (fun e => v_okI 8 m_105 e.1 e.2.1 e.2.2.1 e.2.2.2) = true := by decide +kernel
theorem ok_106 : m_106.2.2.2.2.2.2.2.all (fun e => v_okI 8 m_106 e.1 e.2.1 e.2.2.1 e.2.2.2) = true := by decide +kernel
theorem ok_107 : m_107.2.2.2.2.2.2.2.all (fun e => v_okI 8 m_107 e.1 e.2.1 e.2.2.1 e.2.2.2) = true := by decide +kernel
theorem ok_108 : m_108.2.2.2.2.2.2.2.all (fun e => v_okI 8 m_108 e.1 e.2.1 e.2.2.1 e.2.2.2) = true := by decide +kernel
theorem ok_109 : m_109.2.2.2.2.2.2.2.all (fun e => v_okI 8 m_109 e.1 e.2.1 e.2.2.1 e.2.2.2) = true := by decide +kernel
theorem ok_110 : m_110.2.2.2.2.2.2.2.all (fun e => v_okI 8 m_110 e.1 e.2.1 e.2.2.1 e.2.2.2) = true := by decide +kernel
theorem ok_111 : m_111.2.2.2.2.2.2.2.all (fun e => v_okI 8 m_111 e.1 e.2.1 e.2.2.1 e.2.2.2) = true := by decide +kernel
theorem ok_112 : m_112.2.2.2.2.2.2.2.all (fun e => v_okI 8 m_112 e.1 e.2.1 e.2.2.1 e.2.2.2) = true := by decide +kernel
theorem ok_113 : m_113.2.2.2.2.2.2.2.all (fun e => v_okI 8 m_113 e.1 e.2.1 e.2.2.1 e.2.2.2) = true := by decide +kernel
theorem ok_114 : m_114.2.2.2.2.2.2.2.all (fun e => v_okI 8 m_114 e.1 e.2.1 e.2.2.1 e.2.2.2) = true := by decide +kernel
theorem ok_115 : m_115.2.2.2.2.2.2.2.all (fun e => v_okI 8 m_115 e.1 e.2.1 e.2.2.1 e.2.2.2) = true := by decide +kernel
theorem ok_116 : m_116.2.2.2.2.2.2.2.all (fun e => v_okI 8 m_116 e.1 e.2.1 e.2.2.1 e.2.2.2) = true := by decide +kernel
theorem ok_117 : m_117.2.2.2.2.2.2.2.all (fun e => v_okI 8 m_117 e.1 e.2.1 e.2.2.1 e.2.2.2) = true := by decide +kernel
theorem ok_118 : m_118.2.2.2.2.2.2.2.all (fun e => v_okI 8 m_118 e.1 e.2.1 e.2.2.1 e.2.2.2) = true := by decide +kernel
theorem ok_119 : m_119.2.2.2.2.2.2.2.all (fun e => v_okI 8 m_119 e.1 e.2.1 e.2.2.1 e.2.2.2) = true := by decide +kernel
theorem ok_120 : m_120.2.2.2.2.2.2.2.all (fun e => v_okI 8 m_120 e.1 e.2.1 e.2.2.1 e.2.2.2) = true := by decide +kernel
theorem ok_121 : m_121.2.2.2.2.2.2.2.all (fun e => v_okI 9 m_121 e.1 e.2.1 e.2.2.1 e.2.2.2) = true := by decide +kernel
theorem ok_122 : m_122.2.2.2.2.2.2.2.all (fun e => v_okI 9 m_122 e.1 e.2.1 e.2.2.1 e.2.2.2) = true := by decide +kernel
theorem ok_123 : m_123.2.2.2.2.2.2.2.all (fun e => v_okI 9 m_123 e.1 e.2.1 e.2.2.1 e.2.2.2) = true := by decide +kernel
theorem ok_124 : m_124.2.2.2.2.2.2.2.all (fun e => v_okI 9 m_124 e.1 e.2.1 e.2.2.1 e.2.2.2) = true := by decide +kernel
theorem ok_125 : m_125.2.2.2.2.2.2.2.all (fun e => v_okI 9 m_125 e.1 e.2.1 e.2.2.1 e.2.2.2) = true := by decide +kernel
theorem ok_126 : m_126.2.2.2.2.2.2.2.all (fun e => v_okI 9 m_126 e.1 e.2.1 e.2.2.1 e.2.2.2) = true := by decide +kernel
theorem ok_127 : m_127.2.2.2.2.2.2.2.all (fun e => v_okI 9 m_127 e.1 e.2.1 e.2.2.1 e.2.2.2) = true := by decide +kernel
theorem ok_128 : m_128.2.2.2.2.2.2.2.all (fun e => v_okI 9 m_128 e.1 e.2.1 e.2.2.1 e.2.2.2) = true := by decide +kernel
theorem ok_129 : m_129.2.2.2.2.2.2.2.all (fun e => v_okI 9 m_129 e.1 e.2.1 e.2.2.1 e.2.2.2) = true := by decide +kernel
theorem ok_130 : m_130.2.2.2.2.2.2.2.all (fun e => v_okI 9 m_130 e.1 e.2.1 e.2.2.1 e.2.2.2) = true := by decide +kernel
theorem ok_131 : m_131.2.2.2.2.2.2.2.all (fun e => v_okI 9 m_131 e.1 e.2.1 e.2.2.1 e.2.2.2) = true := by decide +kernel
theorem ok_132 : m_132.2.2.2.2.2.2.2.all (fun e => v_okI 9 m_132 e.1 e.2.1 e.2.2.1 e.2.2.2) = true := by decide +kernel
theorem ok_133 : m_133.2.2.2.2.2.2.2.all (fun e => v_okI 9 m_133 e.1 e.2.1 e.2.2.1 e.2.2.2) = true := by decide +kernel
theorem ok_134 : m_134.2.2.2.2.2.2.2.all (fun e => v_okI 9 m_134 e.1 e.2.1 e.2.2.1 e.2.2.2) = true := by decide +kernel
theorem ok_135 : m_135.2.2.2.2.2.2.2.all (fun e => v_okI 9 m_135 e.1 e.2.1 e.2.2.1 e.2.2.2) = true := by decide +kernel
theorem ok_136 : m_136.2.2.2.2.2.2.2.all (fun e => v_okI 9 m_136 e.1 e.2.1 e.2.2.1 e.2.2.2) = true := by decide +kernel
theorem ok_137 : m_137.2.2.2.2.2.2.2.all (fun e => v_okI 9 m_137 e.1 e.2.1 e.2.2.1 e.2.2.2) = true := by decide +kernel
theorem ok_138 : m_138.2.2.2.2.2.2.2.all (fun e => v_okI 9 m_138 e.1 e.2.1 e.2.2.1 e.2.2.2) = true := by decide +kernel
theorem ok_139 : m_139.2.2.2.2.2.2.2.all (fun e => v_okI 9 m_139 e.1 e.2.1 e.2.2.1 e.2.2.2) = true := by decide +kernel
theorem ok_140 : m_140.2.2.2.2.2.2.2.all (fun e => v_okI 9 m_140 e.1 e.2.1 e.2.2.1 e.2.2.2) = true := by decide +kernel
theorem ok_141 : m_141.2.2.2.2.2.2.2.all (fun e => v_okI 9 m_141 e.1 e.2.1 e.2.2.1 e.2.2.2) = true := by decide +kernel
theorem ok_142 : m_142.2.2.2.2.2.2.2.all (fun e => v_okI 9 m_142 e.1 e.2.1 e.2.2.1 e.2.2.2) = true := by decide +kernel
theorem ok_143 : m_143.2.2.2.2.2.2.2.all (fun e => v_okI 9 m_143 e.1 e.2.1 e.2.2.1 e.2.2.2) = true := by decide +kernel
theorem ok_144 : m_144.2.2.2.2.2.2.2.all (fun e => v_okI 9 m_144 e.1 e.2.1 e.2.2.1 e.2.2.2) = true := by decide +kernel
theorem ok_145 : m_145.2.2.2.2.2.2.2.all (fun e => v_okI 9 m_145 e.1 e.2.1 e.2.2.1 e.2.2.2) = true := by decide +kernel
theorem ok_146 : m_146.2.2.2.2.2.2.2.all (fun e => v_okI 9 m_146 e.1 e.2.1 e.2.2.1 e.2.2.2) = true := by decide +kernel
theorem ok_147 : m_147.2.2.2.2.2.2.2.all (fun e => v_okI 9 m_147 e.1 e.2.1 e.2.2.1 e.2.2.2) = true := by decide +kernel
theorem ok_148 : m_148.2.2.2.2.2.2.2.all (fun e => v_okI 9 m_148 e.1 e.2.1 e.2.2.1 e.2.2.2) = true := by decide +kernel
theorem ok_149 : m_149.2.2.2.2.2.2.2.all (fun e => v_okI 9 m_149 e.1 e.2.1 e.2.2.1 e.2.2.2) = true := by decide +kernel
theorem ok_150 : m_150.2.2.2.2.2.2.2.all (fun e => v_okI 9 m_150 e.1 e.2.1 e.2.2.1 e.2.2.2) = true := by decide +kernel
theorem ok_151 : m_151.2.2.2.2.2.2.2.all (fun e => v_okI 9 m_151 e.1 e.2.1 e.2.2.1 e.2.2.2) = true := by decide +kernel
theorem ok_152 : m_152.2.2.2.2.2.2.2.all (fun e => v_okI 9 m_152 e.1 e.2.1 e.2.2.1 e.2.2.2) = true := by decide +kernel
theorem ok_153 : m_153.2.2.2.2.2.2.2.all (fun e => v_okI 9 m_153 e.1 e.2.1 e.2.2.1 e.2.2.2) = true := by decide +kernel
theorem ok_154 : m_154.2.2.2.2.2.2.2.all (fun e => v_okI 9 m_154 e.1 e.2.1 e.2.2.1 e.2.2.2) = true := by decide +kernel
theorem ok_155 : m_155.2.2.2.2.2.2.2.all (fun e => v_okI 9 m_155 e.1 e.2.1 e.2.2.1 e.2.2.2) = true := by decide +kernel
theorem ok_156 : m_156.2.2.2.2.2.2.2.all (fun e => v_okI 9 m_156 e.1 e.2.1 e.2.2.1 e.2.2.2) = true := by decide +kernel
theorem ok_157 : m_157.2.2.2.2.2.2.2.all (fun e => v_okI 9 m_157 e.1 e.2.1 e.2.2.1 e.2.2.2) = true := by decide +kernel
theorem ok_158 : m_158.2.2.2.2.2.2.2.all (fun e => v_okI 9 m_158 e.1 e.2.1 e.2.2.1 e.2.2.2) = true := by decide +kernel
theorem ok_159 : m_159.2.2.2.2.2.2.2.all (fun e => v_okI 9 m_159 e.1 e.2.1 e.2.2.1 e.2.2.2) = true := by decide +kernel
theorem ok_160 : m_160.2.2.2.2.2.2.2.all (fun e => v_okI 9 m_160 e.1 e.2.1 e.2.2.1 e.2.2.2) = true := by decide +kernel
theorem ok_161 : m_161.2.2.2.2.2.2.2.all (fun e => v_okI 9 m_161 e.1 e.2.1 e.2.2.1 e.2.2.2) = true := by decide +kernel
theorem ok_162 : m_162.2.2.2.2.2.2.2.all (fun e => v_okI 9 m_162 e.1 e.2.1 e.2.2.1 e.2.2.2) = true := by decide +kernel
theorem ok_163 : m_163.2.2.2.2.2.2.2.all (fun e => v_okI 9 m_163 e.1 e.2.1 e.2.2.1 e.2.2.2) = true := by decide +kernel
theorem ok_164 : m_164.2.2.2.2.2.2.2.all (fun e => v_okI 9 m_164 e.1 e.2.1 e.2.2.1 e.2.2.2) = true := by decide +kernel
theorem ok_165 : m_165.2.2.2.2.2.2.2.all (fun e => v_okI 9 m_165 e.1 e.2.1 e.2.2.1 e.2.2.2) = true := by decide +kernel
theorem ok_166 : m_166.2.2.2.2.2.2.2.all (fun e => v_okI 9 m_166 e.1 e.2.1 e.2.2.1 e.2.2.2) = true := by decide +kernel
theorem ok_167 : m_167.2.2.2.2.2.2.2.all (fun e => v_okI 9 m_167 e.1 e.2.1 e.2.2.1 e.2.2.2) = true := by decide +kernel
theorem ok_168 : m_168.2.2.2.2.2.2.2.all (fun e => v_okI 9 m_168 e.1 e.2.1 e.2.2.1 e.2.2.2) = true := by decide +kernel
theorem ok_169 : m_169.2.2.2.2.2.2.2.all (fun e => v_okI 9 m_169 e.1 e.2.1 e.2.2.1 e.2.2.2) = true := by decide +kernel
theorem ok_170 : m_170.2.2.2.2.2.2.2.all (fun e => v_okI 9 m_170 e.1 e.2.1 e.2.2.1 e.2.2.2) = true := by decide +kernel
theorem ok_171 : m_171.2.2.2.2.2.2.2.all (fun e => v_okI 9 m_171 e.1 e.2.1 e.2.2.1 e.2.2.2) = true := by decide +kernel
theorem ok_172 : m_172.2.2.2.2.2.2.2.all (fun e => v_okI 9 m_172 e.1 e.2.1 e.2.2.1 e.2.2.2) = true := by decide +kernel
theorem ok_173 : m_173.2.2.2.2.2.2.2.all (fun e => v_okI 9 m_173 e.1 e.2.1 e.2.2.1 e.2.2.2) = true := by decide +kernel
theorem ok_174 : m_174.2.2.2.2.2.2.2.all (fun e => v_okI 9 m_174 e.1 e.2.1 e.2.2.1 e.2.2.2) = true := by decide +kernel
theorem ok_175 : m_175.2.2.2.2.2.2.2.all (fun e => v_okI 9 m_175 e.1 e.2.1 e.2.2.1 e.2.2.2) = true := by decide +kernel
theorem ok_176 : m_176.2.2.2.2.2.2.2.all (fun e => v_okI 9 m_176 e.1 e.2.1 e.2.2.1 e.2.2.2) = true := by decide +kernel
theorem ok_177 : m_177.2.2.2.2.2.2.2.all (fun e => v_okI 9 m_177 e.1 e.2.1 e.2.2.1 e.2.2.2) = true := by decide +kernel
theorem ok_178 : m_178.2.2.2.2.2.2.2.all (fun e => v_okI 9 m_178 e.1 e.2.1 e.2.2.1 e.2.2.2) = true := by decide +kernel
theorem ok_179 : m_179.2.2.2.2.2.2.2.all (fun e => v_okI 9 m_179 e.1 e.2.1 e.2.2.1 e.2.2.2) = true := by decide +kernel
theorem ok_180 : m_180.2.2.2.2.2.2.2.all (fun e => v_okI 9 m_180 e.1 e.2.1 e.2.2.1 e.2.2.2) = true := by decide +kernel
theorem ok_181 : m_181.2.2.2.2.2.2.2.all (fun e => v_okI 9 m_181 e.1 e.2.1 e.2.2.1 e.2.2.2) = true := by decide +kernel
theorem ok_182 : m_182.2.2.2.2.2.2.2.all (fun e => v_okI 9 m_182 e.1 e.2.1 e.2.2.1 e.2.2.2) = true := by decide +kernel
theorem ok_183 : m_183.2.2.2.2.2.2.2.all (fun e => v_okI 9 m_183 e.1 e.2.1 e.2.2.1 e.2.2.2) = true := by decide +kernel
theorem ok_184 : m_184.2.2.2.2.2.2.2.all (fun e => v_okI 9 m_184 e.1 e.2.1 e.2.2.1 e.2.2.2) = true := by decide +kernel
theorem ok_185 : m_185.2.2.2.2.2.2.2.all (fun e => v_okI 10 m_185 e.1 e.2.1 e.2.2.1 e.2.2.2) = true := by decide +kernel
theorem ok_186 : m_186.2.2.2.2.2.2.2.all (fun e => v_okI 10 m_186 e.1 e.2.1 e.2.2.1 e.2.2.2) = true := by decide +kernel
theorem ok_187 : m_187.2.2.2.2.2.2.2.all (fun e => v_okI 10 m_187 e.1 e.2.1 e.2.2.1 e.2.2.2) = true := by decide +kernel
theorem ok_188 : m_188.2.2.2.2.2.2.2.all (fun e => v_okI 10 m_188 e.1 e.2.1 e.2.2.1 e.2.2.2) = true := by decide +kernel
theorem ok_189 : m_189.2.2.2.2.2.2.2.all (fun e => v_okI 10 m_189 e.1 e.2.1 e.2.2.1 e.2.2.2) = true := by decide +kernel
theorem ok_190 : m_190.2.2.2.2.2.2.2.all (fun e => v_okI 10 m_190 e.1 e.2.1 e.2.2.1 e.2.2.2) = true := by decide +kernel
theorem ok_191 : m_191.2.2.2.2.2.2.2.all (fun e => v_okI 10 m_191 e.1 e.2.1 e.2.2.1 e.2.2.2) = true := by decide +kernel
theorem ok_192 : m_192.2.2.2.2.2.2.2.all (fun e => v_okI 10 m_192 e.1 e.2.1 e.2.2.1 e.2.2.2) = true := by decide +kernel
theorem ok_193 : m_193.2.2.2.2.2.2.2.all (fun e => v_okI 10 m_193 e.1 e.2.1 e.2.2.1 e.2.2.2) = true := by decide +kernel
theorem ok_194 : m_194.2.2.2.2.2.2.2.all (fun e => v_okI 10 m_194 e.1 e.2.1 e.2.2.1 e.2.2.2) = true := by decide +kernel
theorem ok_195 : m_195.2.2.2.2.2.2.2.all (fun e => v_okI 10 m_195 e.1 e.2.1 e.2.2.1 e.2.2.2) = true := by decide +kernel
theorem ok_196 : m_196.2.2.2.2.2.2.2.all (fun e => v_okI 10 m_196 e.1 e.2.1 e.2.2.1 e.2.2.2) = true := by decide +kernel
theorem ok_197 : m_197.2.2.2.2.2.2.2.all (fun e => v_okI 10 m_197 e.1 e.2.1 e.2.2.1 e.2.2.2) = true := by decide +kernel
theorem ok_198 : m_198.2.2.2.2.2.2.2.all (fun e => v_okI 10 m_198 e.1 e.2.1 e.2.2.1 e.2.2.2) = true := by decide +kernel
theorem ok_199 : m_199.2.2.2.2.2.2.2.all (fun e => v_okI 10 m_199 e.1 e.2.1 e.2.2.1 e.2.2.2) = true := by decide +kernel
theorem ok_200 : m_200.2.2.2.2.2.2.2.all (fun e => v_okI 10 m_200 e.1 e.2.1 e.2.2.1 e.2.2.2) = true := by decide +kernel
theorem ok_201 : m_201.2.2.2.2.2.2.2.all (fun e => v_okI 10 m_201 e.1 e.2.1 e.2.2.1 e.2.2.2) = true := by decide +kernel
theorem ok_202 : m_202.2.2.2.2.2.2.2.all (fun e => v_okI 10 m_202 e.1 e.2.1 e.2.2.1 e.2.2.2) = true := by decide +kernel
theorem ok_203 : m_203.2.2.2.2.2.2.2.all (fun e => v_okI 10 m_203 e.1 e.2.1 e.2.2.1 e.2.2.2) = true := by decide +kernel
theorem ok_204 : m_204.2.2.2.2.2.2.2.all (fun e => v_okI 10 m_204 e.1 e.2.1 e.2.2.1 e.2.2.2) = true := by decide +kernel
theorem ok_205 : m_205.2.2.2.2.2.2.2.all (fun e => v_okI 10 m_205 e.1 e.2.1 e.2.2.1 e.2.2.2) = true := by decide +kernel
theorem ok_206 : m_206.2.2.2.2.2.2.2.all (fun e => v_okI 10 m_206 e.1 e.2.1 e.2.2.1 e.2.2.2) = true := by decide +kernel
theorem ok_207 : m_207.2.2.2.2.2.2.2.all (fun e => v_okI 10 m_207 e.1 e.2.1 e.2.2.1 e.2.2.2) = true := by decide +kernel
theorem ok_208 : m_208.2.2.2.2.2.2.2.all (fun e => v_okI 10 m_208 e.1 e.2.1 e.2.2.1 e.2.2.2) = true := by decide +kernel
theorem ok_209 : m_209.2.2.2.2.2.2.2.all (fun e => v_okI 10 m_209 e.1 e.2.1 e.2.2.1 e.2.2.2) = true := by decide +kernel
theorem ok_210 : m_210.2.2.2.2.2.2.2.all (fun e => v_okI 10 m_210 e.1 e.2.1 e.2.2.1 e.2.2.2) = true := by decide +kernel
theorem ok_211 : m_211.2.2.2.2.2.2.2.all (fun e => v_okI 10 m_211 e.1 e.2.1 e.2.2.1 e.2.2.2) = true := by decide +kernel
theorem ok_212 : m_212.2.2.2.2.2.2.2.all (fun e => v_okI 10 m_212 e.1 e.2.1 e.2.2.1 e.2.2.2) = true := by decide +kernel
theorem ok_213 : m_213.2.2.2.2.2.2.2.all (fun e => v_okI 10 m_213 e.1 e.2.1 e.2.2.1 e.2.2.2) = true := by decide +kernel
theorem ok_214 : m_214.2.2.2.2.2.2.2.all (fun e => v_okI 10 m_214 e.1 e.2.1 e.2.2.1 e.2.2.2) = true := by decide +kernel
theorem ok_215 : m_215.2.2.2.2.2.2.2.all (fun e => v_okI 10 m_215 e.1 e.2.1 e.2.2.1 e.2.2.2) = true := by decide +kernel
theorem ok_216 : m_216.2.2.2.2.2.2.2.all (fun e => v_okI 10 m_216 e.1 e.2.1 e.2.2.1 e.2.2.2) = true := by decide +kernel
theorem ok_217 : m_217.2.2.2.2.2.2.2.all (fun e => v_okI 10 m_217 e.1 e.2.1 e.2.2.1 e.2.2.2) = true := by decide +kernel
theorem ok_218 : m_218.2.2.2.2.2.2.2.all (fun e => v_okI 10 m_218 e.1 e.2.1 e.2.2.1 e.2.2.2) = true := by decide +kernel
theorem ok_219 : m_219.2.2.2.2.2.2.2.all (fun e => v_okI 10 m_219 e.1 e.2.1 e.2.2.1 e.2.2.2) = true := by decide +kernel
theorem ok_220 : m_220.2.2.2.2.2.2.2.all (fun e => v_okI 10 m_220 e.1 e.2.1 e.2.2.1 e.2.2.2) = true := by decide +kernel
theorem ok_221 : m_221.2.2.2.2.2.2.2.all (fun e => v_okI 10 m_221 e.1 e.2.1 e.2.2.1 e.2.2.2) = true := by decide +kernel
theorem ok_222 : m_222.2.2.2.2.2.2.2.all (fun e => v_okI 10 m_222 e.1 e.2.1 e.2.2.1 e.2.2.2) = true := by decide +kernel
theorem ok_223 : m_223.2.2.2.2.2.2.2.all (fun e => v_okI 10 m_223 e.1 e.2.1 e.2.2.1 e.2.2.2) = true := by decide +kernel
theorem ok_224 : m_224.2.2.2.2.2.2.2.all (fun e => v_okI 10 m_224 e.1 e.2.1 e.2.2.1 e.2.2.2) = true := by decide +kernel
theorem ok_225 : m_225.2.2.2.2.2.2.2.all (fun e => v_okI 10 m_225 e.1 e.2.1 e.2.2.1 e.2.2.2) = true := by decide +kernel
theorem ok_226 : m_226.2.2.2.2.2.2.2.all (fun e => v_okI 10 m_226 e.1 e.2.1 e.2.2.1 e.2.2.2) = true := by decide +kernel
theorem ok_227 : m_227.2.2.2.2.2.2.2.all (fun e => v_okI 10 m_227 e.1 e.2.1 e.2.2.1 e.2.2.2) = true := by decide +kernel
theorem ok_228 : m_228.2.2.2.2.2.2.2.all (fun e => v_okI 10 m_228 e.1 e.2.1 e.2.2.1 e.2.2.2) = true := by decide +kernel
theorem ok_229 : m_229.2.2.2.2.2.2.2.all (fun e => v_okI 10 m_229 e.1 e.2.1 e.2.2.1 e.2.2.2) = true := by decide +kernel
theorem ok_230 : m_230.2.2.2.2.2.2.2.all (fun e => v_okI 10 m_230 e.1 e.2.1 e.2.2.1 e.2.2.2) = true := by decide +kernel
theorem ok_231 : m_231.2.2.2.2.2.2.2.all (fun e => v_okI 10 m_231 e.1 e.2.1 e.2.2.1 e.2.2.2) = true := by decide +kernel
theorem ok_232 : m_232.2.2.2.2.2.2.2.all (fun e => v_okI 10 m_232 e.1 e.2.1 e.2.2.1 e.2.2.2) = true := by decide +kernel
theorem ok_233 : m_233.2.2.2.2.2.2.2.all (fun e => v_okI 10 m_233 e.1 e.2.1 e.2.2.1 e.2.2.2) = true := by decide +kernel
theorem ok_234 : m_234.2.2.2.2.2.2.2.all (fun e => v_okI 10 m_234 e.1 e.2.1 e.2.2.1 e.2.2.2) = true := by decide +kernel
theorem ok_235 : m_235.2.2.2.2.2.2.2.all (fun e => v_okI 10 m_235 e.1 e.2.1 e.2.2.1 e.2.2.2) = true := by decide +kernel
theorem ok_236 : m_236.2.2.2.2.2.2.2.all (fun e => v_okI 10 m_236 e.1 e.2.1 e.2.2.1 e.2.2.2) = true := by decide +kernel
theorem ok_237 : m_237.2.2.2.2.2.2.2.all (fun e => v_okI 10 m_237 e.1 e.2.1 e.2.2.1 e.2.2.2) = true := by decide +kernel
theorem ok_238 : m_238.2.2.2.2.2.2.2.all (fun e => v_okI 10 m_238 e.1 e.2.1 e.2.2.1 e.2.2.2) = true := by decide +kernel
theorem ok_239 : m_239.2.2.2.2.2.2.2.all (fun e => v_okI 10 m_239 e.1 e.2.1 e.2.2.1 e.2.2.2) = true := by decide +kernel
theorem ok_240 : m_240.2.2.2.2.2.2.2.all (fun e => v_okI 10 m_240 e.1 e.2.1 e.2.2.1 e.2.2.2) = true := by decide +kernel
theorem ok_241 : m_241.2.2.2.2.2.2.2.all (fun e => v_okI 10 m_241 e.1 e.2.1 e.2.2.1 e.2.2.2) = true := by decide +kernel
theorem ok_242 : m_242.2.2.2.2.2.2.2.all (fun e => v_okI 10 m_242 e.1 e.2.1 e.2.2.1 e.2.2.2) = true := by decide +kernel
theorem ok_243 : m_243.2.2.2.2.2.2.2.all (fun e => v_okI 10 m_243 e.1 e.2.1 e.2.2.1 e.2.2.2) = true := by decide +kernel
theorem ok_244 : m_244.2.2.2.2.2.2.2.all (fun e => v_okI 10 m_244 e.1 e.2.1 e.2.2.1 e.2.2.2) = true := by decide +kernel
theorem ok_245 : m_245.2.2.2.2.2.2.2.all (fun e => v_okI 10 m_245 e.1 e.2.1 e.2.2.1 e.2.2.2) = true := by decide +kernel
theorem ok_246 : m_246.2.2.2.2.2.2.2.all (fun e => v_okI 10 m_246 e.1 e.2.1 e.2.2.1 e.2.2.2) = true := by decide +kernel
theorem ok_247 : m_247.2.2.2.2.2.2.2.all (fun e => v_okI 10 m_247 e.1 e.2.1 e.2.2.1 e.2.2.2) = true := by decide +kernel
theorem ok_248 : m_248.2.2.2.2.2.2.2.all (fun e => v_okI 10 m_248 e.1 e.2.1 e.2.2.1 e.2.2.2) = true := by decide +kernel
theorem ok_249 : m_249.2.2.2.2.2.2.2.all (fun e => v_okI 10 m_249 e.1 e.2.1 e.2.2.1 e.2.2.2) = true := by decide +kernel
theorem ok_250 : m_250.2.2.2.2.2.2.2.all (fun e => v_okI 10 m_250 e.1 e.2.1 e.2.2.1 e.2.2.2) = true := by decide +kernel
theorem ok_251 : m_251.2.2.2.2.2.2.2.all (fun e => v_okI 10 m_251 e.1 e.2.1 e.2.2.1 e.2.2.2) = true := by decide +kernel
theorem ok_252 : m_252.2.2.2.2.2.2.2.all (fun e => v_okI 10 m_252 e.1 e.2.1 e.2.2.1 e.2.2.2) = true := by decide +kernel
theorem ok_253 : m_253.2.2.2.2.2.2.2.all (fun e => v_okI 10 m_253 e.1 e.2.1 e.2.2.1 e.2.2.2) = true := by decide +kernel
theorem ok_254 : m_254.2.2.2.2.2.2.2.all (fun e => v_okI 10 m_254 e.1 e.2.1 e.2.2.1 e.2.2.2) = true := by decide +kernel
theorem ok_255 : m_255.2.2.2.2.2.2.2.all (fun e => v_okI 10 m_255 e.1 e.2.1 e.2.2.1 e.2.2.2) = true := by decide +kernel
theorem ok_256 : m_256.2.2.2.2.2.2.2.all (fun e => v_okI 10 m_256 e.1 e.2.1 e.2.2.1 e.2.2.2) = true := by decide +kernel
theorem ok_257 : m_257.2.2.2.2.2.2.2.all (fun e => v_okI 10 m_257 e.1 e.2.1 e.2.2.1 e.2.2.2) = true := by decide +kernel
theorem ok_258 : m_258.2.2.2.2.2.2.2.all (fun e => v_okI 10 m_258 e.1 e.2.1 e.2.2.1 e.2.2.2) = true := by decide +kernel
theorem ok_259 : m_259.2.2.2.2.2.2.2.all (fun e => v_okI 10 m_259 e.1 e.2.1 e.2.2.1 e.2.2.2) = true := by decide +kernel
theorem ok_260 : m_260.2.2.2.2.2.2.2.all (fun e => v_okI 10 m_260 e.1 e.2.1 e.2.2.1 e.2.2.2) = true := by decide +kernel
theorem ok_261 : m_261.2.2.2.2.2.2.2.all (fun e => v_okI 10 m_261 e.1 e.2.1 e.2.2.1 e.2.2.2) = true := by decide +kernel
theorem ok_262 : m_262.2.2.2.2.2.2.2.all (fun e => v_okI 10 m_262 e.1 e.2.1 e.2.2.1 e.2.2.2) = true := by decide +kernel
theorem ok_263 : m_263.2.2.2.2.2.2.2.all (fun e => v_okI 10 m_263 e.1 e.2.1 e.2.2.1 e.2.2.2) = true := by decide +kernel
theorem ok_264 : m_264.2.2.2.2.2.2.2.all (fun e => v_okI 10 m_264 e.1 e.2.1 e.2.2.1 e.2.2.2) = true := by decide +kernel
theorem ok_265 : m_265.2.2.2.2.2.2.2.all (fun e => v_okI 10 m_265 e.1 e.2.1 e.2.2.1 e.2.2.2) = true := by decide +kernel
theorem ok_266 : m_266.2.2.2.2.2.2.2.all (fun e => v_okI 10 m_266 e.1 e.2.1 e.2.2.1 e.2.2.2) = true := by decide +kernel
theorem ok_267 : m_267.2.2.2.2.2.2.2.all (fun e => v_okI 10 m_267 e.1 e.2.1 e.2.2.1 e.2.2.2) = true := by decide +kernel
theorem ok_268 : m_268.2.2.2.2.2.2.2.all (fun e => v_okI 10 m_268 e.1 e.2.1 e.2.2.1 e.2.2.2) = true := by decide +kernel
theorem ok_269 : m_269.2.2.2.2.2.2.2.all (fun e => v_okI 10 m_269 e.1 e.2.1 e.2.2.1 e.2.2.2) = true := by decide +kernel
theorem ok_270 : m_270.2.2.2.2.2.2.2.all (fun e => v_okI 10 m_270 e.1 e.2.1 e.2.2.1 e.2.2.2) = true := by decide +kernel
theorem ok_271 : m_271.2.2.2.2.2.2.2.all (fun e => v_okI 10 m_271 e.1 e.2.1 e.2.2.1 e.2.2.2) = true := by decide +kernel
theorem ok_272 : m_272.2.2.2.2.2.2.2.all (fun e => v_okI 10 m_272 e.1 e.2.1 e.2.2.1 e.2.2.2) = true := by decide +kernel
theorem ok_273 : m_273.2.2.2.2.2.2.2.all (fun e => v_okI 10 m_273 e.1 e.2.1 e.2.2.1 e.2.2.2) = true := by decide +kernel
theorem ok_274 : m_274.2.2.2.2.2.2.2.all (fun e => v_okI 10 m_274 e.1 e.2.1 e.2.2.1 e.2.2.2) = true := by decide +kernel
theorem ok_275 : m_275.2.2.2.2.2.2.2.all (fun e => v_okI 10 m_275 e.1 e.2.1 e.2.2.1 e.2.2.2) = true := by decide +kernel
theorem ok_276 : m_276.2.2.2.2.2.2.2.all (fun e => v_okI 10 m_276 e.1 e.2.1 e.2.2.1 e.2.2.2) = true := by decide +kernel
theorem ok_277 : m_277.2.2.2.2.2.2.2.all (fun e => v_okI 10 m_277 e.1 e.2.1 e.2.2.1 e.2.2.2) = true := by decide +kernel
theorem ok_278 : m_278.2.2.2.2.2.2.2.all (fun e => v_okI 10 m_278 e.1 e.2.1 e.2.2.1 e.2.2.2) = true := by decide +kernel
theorem ok_279 : m_279.2.2.2.2.2.2.2.all (fun e => v_okI 10 m_279 e.1 e.2.1 e.2.2.1 e.2.2.2) = true := by decide +kernel
theorem ok_280 : m_280.2.2.2.2.2.2.2.all (fun e => v_okI 10 m_280 e.1 e.2.1 e.2.2.1 e.2.2.2) = true := by decide +kernel
theorem ok_281 : m_281.2.2.2.2.2.2.2.all (fun e => v_okI 10 m_281 e.1 e.2.1 e.2.2.1 e.2.2.2) = true := by decide +kernel
theorem ok_282 : m_282.2.2.2.2.2.2.2.all (fun e => v_okI 10 m_282 e.1 e.2.1 e.2.2.1 e.2.2.2) = true := by decide +kernel
theorem ok_283 : m_283.2.2.2.2.2.2.2.all (fun e => v_okI 10 m_283 e.1 e.2.1 e.2.2.1 e.2.2.2) = true := by decide +kernel
theorem ok_284 : m_284.2.2.2.2.2.2.2.all (fun e => v_okI 10 m_284 e.1 e.2.1 e.2.2.1 e.2.2.2) = true := by decide +kernel
theorem ok_285 : m_285.2.2.2.2.2.2.2.all (fun e => v_okI 10 m_285 e.1 e.2.1 e.2.2.1 e.2.2.2) = true := by decide +kernel
theorem ok_286 : m_286.2.2.2.2.2.2.2.all (fun e => v_okI 10 m_286 e.1 e.2.1 e.2.2.1 e.2.2.2) = true := by decide +kernel
end
section
/-! ===== the tables hold the words ===== -/
def v_cidx (i : Nat) : Nat := v_nth [11, 0, 0, 0, 0, 0, 0, 0, 0, 0, 0, 0, 0, 0, 0, 0, 0, 0, 0, 0, 0, 0, 0, 0, 1, 1, 1, 1, 2, 2, 2, 2, 2, 2, 2, 2, 2, 2, 2, 2, 2, 2, 3, 3, 3, 3, 3, 3, 3, 3, 3, 3, 3, 3, 3, 3, 3, 4, 4, 4, 4, 4, 4, 4, 4, 4, 4, 4, 4, 4, 4, 4, 4, 5, 5, 5, 5, 5, 5, 6, 6, 6, 7, 7, 7, 7, 7, 7, 7, 8, 8, 8, 8, 8, 8, 8, 8, 8, 8, 8, 8, 8, 8, 8, 8, 8, 8, 8, 8, 8, 8, 8, 8, 8, 8, 8, 8, 8, 8, 8, 8, 9, 9, 9, 9, 9, 9, 9, 9, 9, 9, 9, 9, 9, 9, 9, 9, 9, 9, 9, 9, 9, 9, 9, 9, 9, 9, 9, 9, 9, 9, 9, 9, 9, 9, 9, 9, 9, 9, 9, 9, 9, 9, 9, 9, 9, 9, 9, 9, 9, 9, 9, 9, 9, 9, 9, 9, 9, 9, 9, 9, 9, 9, 9, 9, 10, 10, 10, 10, 10, 10, 10, 10, 10, 10, 10, 10, 10, 10, 10, 10, 10, 10, 10, 10, 10, 10, 10, 10, 10, 10, 10, 10, 10, 10, 10, 10, 10, 10, 10, 10, 10, 10, 10, 10, 10, 10, 10, 10, 10, 10, 10, 10, 10, 10, 10, 10, 10, 10, 10, 10, 10, 10, 10, 10, 10, 10, 10, 10, 10, 10, 10, 10, 10, 10, 10, 10, 10, 10, 10, 10, 10, 10, 10, 10, 10, 10, 10, 10, 10, 10, 10, 10, 10, 10, 10, 10, 10, 10, 10, 10, 10, 10, 10, 10, 10, 10] i
theorem v_app2 {α : Type} {p : α → Prop} {a b : List α} (ha : ∀ e ∈ a, p e) (hb : ∀ e ∈ b, p e) : ∀ e ∈ a ++ b, p e := fun e h => (List.mem_append.mp h).elim (ha e) (hb e)
def v_tbl : List Cond := lw_tbl.filter goodWord
def v_chk (ws : List Cond) (ps : List Nat) : Bool := match ws, ps with
  | [], [] => true
  | w :: ws, p :: ps => decide (lw_tbl[p]? = some w) && goodWord w && v_chk ws ps
  | _, _ => false
theorem v_chk_in : ∀ {ws : List Cond} {ps : List Nat}, v_chk ws ps = true → ∀ w ∈ ws, w ∈ v_tbl
  | [], _, _, _, h => by cases h
  | w :: ws, [], h, _, _ => by simp [v_chk] at h
  | w :: ws, p :: ps, h, u, hu => by
    simp only [v_chk, Bool.and_eq_true, decide_eq_true_eq] at h
    rcases List.mem_cons.mp hu with rfl | h1
    · exact List.mem_filter.mpr ⟨List.mem_of_getElem? h.1.1, h.1.2⟩
    · exact v_chk_in h.2 u h1
def v_fl (q : Nat × Nat × Nat × Nat) : Cond := match vcl[q.2.2.1]? with
  | some r => .fieldLink (v_own q.1) q.2.1 (r.2.1 q.2.2.2).1 (r.2.1 q.2.2.2).2.1 (r.2.1 q.2.2.2).2.2.1
  | none => .tt
theorem v_flk_in : ∀ q ∈ v_flk, v_fl q ∈ v_tbl := fun q hq => v_chk_in (ws := v_flk.map v_fl) (ps := [183, 420, 425, 437, 442, 110, 111, 112, 113, 396, 398, 326, 330, 321, 323, 325, 329, 332, 334, 337, 339, 342, 346, 350, 353, 421, 441, 444, 194, 195, 196, 197, 198, 199, 139, 428, 431, 434, 240, 242, 243, 244, 245, 246, 227, 135, 347, 343, 340, 351, 229, 231, 226, 419, 424, 427, 430, 433, 436, 439, 440, 443, 126, 127, 128, 129, 131, 133, 136, 138, 141, 143, 145, 146, 148, 322, 335, 445, 348, 344, 327, 354, 333, 331, 423, 426, 115, 262, 263, 264, 265, 266, 267, 268, 269, 270, 271, 272, 134, 324, 137, 130, 397, 147, 149, 132, 114, 144, 140, 429, 432, 435, 422, 336, 438, 142, 328, 228, 338, 341, 345, 349, 352, 241, 399, 232, 230, 184, 1171, 1172, 1175, 1178, 1179, 1180, 1181, 1182, 1183, 1184, 1185, 1186, 1187, 1188, 1189, 1190, 1176, 1173, 1174, 1177]) (by decide +kernel) _ (List.mem_map.mpr ⟨q, hq, rfl⟩)
theorem v_flk_k : ∀ q ∈ v_flk, q.2.2.1 < 11 ∧ q.2.2.2 < v_nf q.2.2.1 := by decide +kernel
def v_mw (q : Nat × Nat × Nat × Nat × Nat) : List Cond := match q.2.2.2.1 with
  | 0 => [.methodLink (v_own q.1) q.2.1 (v_m q.2.2.1).2.1, .instanceMethod (v_m q.2.2.1).2.1, .selects (v_m q.2.2.1).2.1.cls (v_m q.2.2.1).2.1 (v_m q.2.2.1).2.1, .initialized (v_m q.2.2.1).2.1.cls]
  | 1 => [.methodLink (v_own q.1) q.2.1 (v_m q.2.2.1).2.1, .static (v_m q.2.2.1).2.1, .initialized (v_m q.2.2.1).2.1.cls]
  | 2 => [.methodLink (v_own q.1) q.2.1 (v_m q.2.2.1).2.1, .instanceMethod (v_m q.2.2.1).2.1, .initialized (v_m q.2.2.1).2.1.cls]
  | 3 => [.static (v_m q.2.2.1).2.1, .initialized (v_m q.2.2.1).2.1.cls]
  | 4 => [.instanceMethod (v_m q.2.2.1).2.1, .initialized (v_m q.2.2.1).2.1.cls]
  | 5 => [.methodLink (v_own q.1) q.2.1 objectInit, .instanceMethod objectInit]
  | 6 => [.methodLink (v_own q.1) q.2.1 arraycopyName, .native arraycopyName, .static arraycopyName, .initialized "java/lang/System"]
  | 7 => [.methodLink (v_own q.1) q.2.1 Lib.Math.max.name, .static Lib.Math.max.name, .initialized "java/lang/Math"]
  | 8 => [.methodLink (v_own q.1) q.2.1 Lib.Math.min.name, .static Lib.Math.min.name, .initialized "java/lang/Math"]
  | _ => [.methodLink (v_own q.1) q.2.1 Lib.MathLoose.min_long.x, .static Lib.MathLoose.min_long.x, .initialized "java/lang/Math"]
theorem v_mlk_in0 : ∀ q ∈ v_mlk_0, ∀ w ∈ v_mw q, w ∈ v_tbl := fun q hq w hw => v_chk_in (ws := v_mlk_0.flatMap v_mw) (ps := [86, 87, 71, 1166, 1167, 78, 296, 297, 298, 71, 1233, 1234, 1235, 78, 491, 492, 493, 71, 1256, 1257, 1258, 78, 508, 509, 510, 71, 1268, 1269, 1270, 78, 537, 538, 539, 71, 1284, 1285, 1286, 78, 554, 555, 556, 71, 1292, 1293, 1294, 78, 558, 559, 560, 71, 1296, 1297, 1298, 78, 562, 563, 564, 71, 1300, 1301, 1302, 78, 571, 572, 573, 71, 1304, 1305, 1306, 78, 584, 585, 586, 71, 1320, 1321, 1322, 78, 645, 646, 647, 71, 1327, 1328, 1329, 78, 660, 661, 662, 71, 1331, 1332, 1333, 78, 676, 677, 678, 71, 1339, 1340, 1341, 78, 684, 685, 686, 71, 1343, 1344, 1345, 78]) (by decide +kernel) _ (List.mem_flatMap.mpr ⟨q, hq, hw⟩)
theorem v_mlk_in1 : ∀ q ∈ v_mlk_1, ∀ w ∈ v_mw q, w ∈ v_tbl := fun q hq w hw => v_chk_in (ws := v_mlk_1.flatMap v_mw) (ps := [697, 698, 699, 71, 1351, 1352, 1353, 78, 713, 714, 715, 71, 1366, 1367, 1368, 78, 717, 718, 719, 71, 1370, 1371, 1372, 78, 729, 730, 731, 71, 1382, 1383, 1384, 78, 737, 738, 739, 71, 1386, 1387, 1388, 78, 745, 746, 747, 71, 1390, 1391, 1392, 78, 757, 758, 759, 71, 1402, 1403, 1404, 78, 803, 804, 805, 71, 1430, 1431, 1432, 78, 846, 847, 848, 71, 1443, 1444, 1445, 78, 932, 933, 934, 71, 1478, 1479, 1480, 78, 942, 943, 944, 71, 1482, 1483, 1484, 78, 946, 947, 948, 71, 1486, 1487, 1488, 78, 954, 955, 956, 71, 1490, 1491, 1492, 78, 1017, 1018, 1019, 71, 1518, 1519, 1520, 78]) (by decide +kernel) _ (List.mem_flatMap.mpr ⟨q, hq, hw⟩)
theorem v_mlk_in2 : ∀ q ∈ v_mlk_2, ∀ w ∈ v_mw q, w ∈ v_tbl := fun q hq w hw => v_chk_in (ws := v_mlk_2.flatMap v_mw) (ps := [1025, 1026, 1027, 71, 1522, 1523, 1524, 78, 1038, 1039, 1040, 71, 1526, 1527, 1528, 78, 1046, 1047, 1048, 71, 1530, 1531, 1532, 78, 1054, 1055, 1056, 71, 1534, 1535, 1536, 78, 1058, 1059, 1060, 71, 1538, 1539, 1540, 78, 1065, 1066, 1067, 71, 1545, 1546, 1547, 78, 1069, 1070, 1071, 71, 1549, 1550, 1551, 78, 1074, 1075, 1076, 71, 1553, 1554, 1555, 78, 1078, 1079, 1080, 71, 1557, 1558, 1559, 78, 1117, 1118, 1119, 71, 1574, 1575, 1576, 78, 613, 614, 615, 71, 1578, 1579, 1580, 78, 605, 606, 607, 71, 1589, 1590, 1591, 78, 591, 592, 593, 71, 1593, 1594, 1595, 78, 1121, 1122, 1123, 71, 1601, 1602, 1603, 78]) (by decide +kernel) _ (List.mem_flatMap.mpr ⟨q, hq, hw⟩)
theorem v_mlk_in3 : ∀ q ∈ v_mlk_3, ∀ w ∈ v_mw q, w ∈ v_tbl := fun q hq w hw => v_chk_in (ws := v_mlk_3.flatMap v_mw) (ps := [1126, 1127, 1128, 71, 1608, 1609, 1610, 78, 1130, 1131, 1132, 71, 1612, 1613, 1614, 78, 1135, 1136, 1137, 71, 1616, 1617, 1618, 78, 1139, 1140, 1141, 71, 1620, 1621, 1622, 78, 1143, 1144, 1145, 71, 1624, 1625, 1626, 78, 1160, 1161, 1162, 71, 1628, 1629, 1630, 78, 182, 90, 862, 863, 864, 74, 882, 883, 884, 74, 899, 900, 901, 74, 916, 917, 918, 74, 920, 921, 922, 74, 924, 925, 926, 74, 866, 868, 11, 74, 870, 872, 12, 74, 874, 876, 13, 74, 878, 880, 14, 74, 886, 888, 15, 74, 890, 892, 16, 74, 895, 897, 17, 74, 903, 905, 18, 74, 911, 913, 20, 74]) (by decide +kernel) _ (List.mem_flatMap.mpr ⟨q, hq, hw⟩)
theorem v_mlk_in4 : ∀ q ∈ v_mlk_4, ∀ w ∈ v_mw q, w ∈ v_tbl := fun q hq w hw => v_chk_in (ws := v_mlk_4.flatMap v_mw) (ps := [907, 909, 19, 74, 970, 972, 21, 74, 978, 980, 23, 74, 974, 976, 22, 74, 966, 967, 968, 74, 915, 797, 83, 894, 658, 83, 109, 90, 474, 386, 385, 80, 395, 90, 409, 386, 385, 80, 589, 71, 657, 658, 83, 633, 634, 635, 81, 668, 669, 670, 81, 991, 71, 1004, 71, 638, 639, 640, 81, 643, 71, 320, 90, 483, 484, 485, 79, 384, 386, 385, 80, 504, 505, 506, 79, 621, 622, 623, 79, 193, 90, 778, 779, 780, 75, 782, 411, 412, 72, 783, 784, 785, 75]) (by decide +kernel) _ (List.mem_flatMap.mpr ⟨q, hq, hw⟩)
theorem v_mlk_in5 : ∀ q ∈ v_mlk_5, ∀ w ∈ v_mw q, w ∈ v_tbl := fun q hq w hw => v_chk_in (ws := v_mlk_5.flatMap v_mw) (ps := [792, 793, 794, 75, 796, 797, 83, 811, 812, 813, 75, 819, 820, 821, 75, 827, 828, 829, 75, 831, 832, 833, 75, 841, 842, 843, 75, 835, 836, 837, 75, 815, 816, 817, 75, 823, 824, 825, 75, 840, 658, 83, 219, 90, 222, 223, 77, 1094, 1095, 1096, 76, 1107, 1108, 1109, 76, 1111, 1112, 1113, 76, 1116, 1043, 1044, 77, 1098, 313, 314, 72, 1099, 1100, 1101, 76, 1104, 1105, 83, 1115, 797, 83, 225, 90, 418, 90, 97, 90, 107, 73, 312, 313, 314, 72, 380, 381, 382, 79, 387, 388, 389, 72]) (by decide +kernel) _ (List.mem_flatMap.mpr ⟨q, hq, hw⟩)
theorem v_mlk_in6 : ∀ q ∈ v_mlk_6, ∀ w ∈ v_mw q, w ∈ v_tbl := fun q hq w hw => v_chk_in (ws := v_mlk_6.flatMap v_mw) (ps := [405, 406, 407, 81, 410, 411, 412, 72, 465, 466, 467, 82, 469, 386, 385, 80, 470, 471, 472, 73, 318, 79, 393, 81, 416, 82, 479, 480, 481, 79, 529, 530, 531, 81, 533, 534, 535, 72, 753, 754, 755, 82, 520, 505, 506, 79, 583, 522, 523, 72, 549, 550, 551, 72, 599, 517, 518, 72, 600, 580, 581, 72, 601, 602, 603, 81, 709, 710, 711, 81, 653, 654, 655, 81, 692, 693, 694, 72, 696, 634, 635, 81, 629, 630, 631, 81, 940, 851, 852, 72, 941, 855, 856, 72, 962, 963, 964, 74, 982, 983, 984, 72, 993, 994, 995, 72]) (by decide +kernel) _ (List.mem_flatMap.mpr ⟨q, hq, hw⟩)
theorem v_mlk_in7 : ∀ q ∈ v_mlk_7, ∀ w ∈ v_mw q, w ∈ v_tbl := fun q hq w hw => v_chk_in (ws := v_mlk_7.flatMap v_mw) (ps := [999, 1000, 1001, 72, 1011, 1012, 1013, 72, 986, 987, 988, 81, 997, 771, 772, 82, 998, 900, 901, 74, 1004, 71, 1006, 1007, 1008, 81, 1015, 669, 670, 81, 1016, 658, 83, 1151, 1152, 1153, 79, 1155, 1156, 1157, 81, 1159, 689, 690, 72, 89, 90, 94, 95, 72, 180, 74, 191, 75, 217, 76, 261, 223, 77, 300, 302, 0, 71, 304, 306, 1, 71, 475, 476, 477, 72, 487, 489, 2, 71, 495, 497, 3, 71, 499, 313, 314, 72, 500, 501, 502, 79, 512, 514, 4, 71, 521, 522, 523, 72, 525, 526, 527, 72]) (by decide +kernel) _ (List.mem_flatMap.mpr ⟨q, hq, hw⟩)
theorem v_mlk_in8 : ∀ q ∈ v_mlk_8, ∀ w ∈ v_mw q, w ∈ v_tbl := fun q hq w hw => v_chk_in (ws := v_mlk_8.flatMap v_mw) (ps := [541, 543, 5, 71, 545, 546, 547, 72, 553, 534, 535, 72, 566, 550, 551, 72, 567, 568, 569, 72, 575, 577, 6, 71, 579, 580, 581, 72, 588, 589, 71, 595, 596, 597, 72, 609, 610, 611, 79, 617, 618, 619, 79, 625, 626, 627, 72, 649, 650, 651, 72, 664, 665, 666, 81, 672, 673, 674, 73, 680, 681, 682, 73, 688, 689, 690, 72, 701, 703, 7, 71, 705, 706, 707, 72, 721, 723, 8, 71, 725, 726, 727, 79, 733, 734, 735, 79, 741, 742, 743, 79, 749, 750, 751, 72, 761, 763, 9, 71, 769, 411, 412, 72, 799, 800, 801, 75, 765, 767, 10, 71]) (by decide +kernel) _ (List.mem_flatMap.mpr ⟨q, hq, hw⟩)
theorem v_mlk_in9 : ∀ q ∈ v_mlk_9, ∀ w ∈ v_mw q, w ∈ v_tbl := fun q hq w hw => v_chk_in (ws := v_mlk_9.flatMap v_mw) (ps := [807, 808, 809, 75, 770, 771, 772, 82, 850, 851, 852, 72, 854, 855, 856, 72, 858, 859, 860, 74, 928, 929, 930, 82, 936, 937, 938, 72, 950, 951, 952, 82, 958, 959, 960, 72, 1021, 1022, 1023, 79, 1029, 1030, 1031, 82, 1033, 883, 884, 74, 1034, 1035, 1036, 79, 1042, 1043, 1044, 77, 1050, 1051, 1052, 77, 1062, 1063, 71, 1073, 484, 485, 79, 1082, 1083, 1084, 72, 1086, 1087, 1088, 72, 1090, 1091, 1092, 76, 1125, 643, 71, 1134, 386, 385, 80, 1147, 1148, 1149, 72, 308, 309, 310, 72, 516, 517, 518, 72, 774, 775, 776, 75, 787, 784, 785, 75, 788, 789, 790, 75]) (by decide +kernel) _ (List.mem_flatMap.mpr ⟨q, hq, hw⟩)
theorem v_mlk_in10 : ∀ q ∈ v_mlk_10, ∀ w ∈ v_mw q, w ∈ v_tbl := fun q hq w hw => v_chk_in (ws := v_mlk_10.flatMap v_mw) (ps := [1169, 90, 1237, 1238, 78, 1264, 1266, 29, 78, 1272, 1274, 30, 78, 1276, 1278, 31, 78, 1418, 1420, 48, 78, 1451, 1453, 54, 78, 1398, 1400, 44, 78, 1240, 1242, 24, 78, 1244, 1246, 25, 78, 1248, 1250, 26, 78, 1252, 1254, 27, 78, 1260, 1262, 28, 78, 1280, 1282, 32, 78, 1288, 1290, 33, 78, 1312, 1314, 35, 78, 1308, 1310, 34, 78, 1316, 1318, 36, 78, 1324, 1325, 78, 1335, 1337, 37, 78, 1347, 1349, 38, 78, 1359, 1360, 78, 1355, 1357, 39, 78, 1362, 1364, 40, 78, 1378, 1380, 42, 78, 1374, 1376, 41, 78, 1394, 1396, 43, 78, 1406, 1408, 45, 78]) (by decide +kernel) _ (List.mem_flatMap.mpr ⟨q, hq, hw⟩)
theorem v_mlk_in11 : ∀ q ∈ v_mlk_11, ∀ w ∈ v_mw q, w ∈ v_tbl := fun q hq w hw => v_chk_in (ws := v_mlk_11.flatMap v_mw) (ps := [1414, 1416, 47, 78, 1410, 1412, 46, 78, 1422, 1424, 49, 78, 1426, 1428, 50, 78, 1438, 1440, 52, 78, 1434, 1436, 51, 78, 1455, 1457, 55, 78, 1459, 1461, 56, 78, 1463, 1465, 57, 78, 1467, 1468, 78, 1447, 1449, 53, 78, 1470, 1472, 58, 78, 1474, 1476, 59, 78, 1510, 1511, 78, 1506, 1508, 63, 78, 1494, 1496, 60, 78, 1498, 1500, 61, 78, 1502, 1504, 62, 78, 1513, 1515, 64, 78, 1542, 1543, 78, 1570, 1572, 67, 78, 1561, 1563, 65, 78, 1565, 1567, 66, 78, 1586, 1587, 78, 1582, 1584, 68, 78, 1597, 1599, 69, 78, 1605, 1606, 78]) (by decide +kernel) _ (List.mem_flatMap.mpr ⟨q, hq, hw⟩)
theorem v_mlk_in : ∀ q ∈ v_mlk, ∀ w ∈ v_mw q, w ∈ v_tbl := v_app2 v_mlk_in0 (v_app2 v_mlk_in1 (v_app2 v_mlk_in2 (v_app2 v_mlk_in3 (v_app2 v_mlk_in4 (v_app2 v_mlk_in5 (v_app2 v_mlk_in6 (v_app2 v_mlk_in7 (v_app2 v_mlk_in8 (v_app2 v_mlk_in9 (v_app2 v_mlk_in10 (v_mlk_in11)))))))))))
/-- of a callee: its name; how many arguments -/
def v_cl (q : Nat × Nat × Nat × Nat × Nat) : Bool := match decide (q.2.2.2.1 < 5) with
  | false => true
  | true => decide ((v_m q.2.2.1).2.1.cls ≠ "java/lang/invoke/MethodHandle") && decide ((v_m q.2.2.1).2.1.cls ≠ "java/lang/invoke/VarHandle") && plainName (v_m q.2.2.1).2.1.cls && decide ((parseMethodDescriptor (v_m q.2.2.1).2.1.desc).map (fun d => d.parameters.length) = some (q.2.2.2.2 - (if q.2.2.2.1 = 1 ∨ q.2.2.2.1 = 3 then 0 else 1))) && (!(q.2.2.2.1 == 2 || q.2.2.2.1 == 4) || (decide ((v_m q.2.2.1).2.1.name = "<init>") && decide ((v_m q.2.2.1).2.2.2.2.1 = none))) && !(q.2.2.1 == 0) && decide (q.2.2.1 < 287) && decide (1 ≤ q.2.2.2.2 ∨ q.2.2.2.1 = 1 ∨ q.2.2.2.1 = 3) && decide ((v_cidx q.2.2.1) < 11 ∧ v_own (v_cidx q.2.2.1) = (v_m q.2.2.1).2.1.cls ∧ vcl[v_cidx q.2.2.1]?.map (fun r => r.1) = some (v_m q.2.2.1).2.1.cls)
theorem v_mlk_cl : ∀ q ∈ v_mlk, v_cl q = true := by decide +kernel
def v_cw (q : Nat × Nat × Nat × Nat) : Cond := match vcl[q.2.2.1]? with
  | some r => .classLink (v_own q.1) q.2.1 r.1
  | none => .tt
theorem v_clk_in : ∀ q ∈ v_clk, v_cw q ∈ v_tbl := fun q hq => v_chk_in (ws := v_clk.map v_cw) (ps := [84, 1164, 220, 98, 100, 102, 104, 98, 100, 102, 92, 177, 188, 214, 260]) (by decide +kernel) _ (List.mem_map.mpr ⟨q, hq, rfl⟩)
theorem v_ck_in : ∀ q ∈ v_ck, Cond.constant (v_own q.1) q.2.1 (Int32.ofInt q.2.2) ∈ v_tbl := fun q hq => v_chk_in (ws := v_ck.map (fun q => Cond.constant (v_own q.1) q.2.1 (Int32.ofInt q.2.2))) (ps := [839, 1170, 1442]) (by decide +kernel) _ (List.mem_map.mpr ⟨q, hq, rfl⟩)
theorem v_ckl_in : ∀ q ∈ v_ckl, Cond.constantLong (v_own q.1) q.2.1 (Int64.ofInt q.2.2) ∈ v_tbl := fun q hq => v_chk_in (ws := v_ckl.map (fun q => Cond.constantLong (v_own q.1) q.2.1 (Int64.ofInt q.2.2))) (ps := [845, 1103, 1517, 1569]) (by decide +kernel) _ (List.mem_map.mpr ⟨q, hq, rfl⟩)
theorem v_arr_in : ∀ w ∈ [Cond.arrayClass .int, Cond.arrayClass .boolean, Cond.arrayClass .long], w ∈ v_tbl := v_chk_in (ps := [125, 213, 1232]) (by decide +kernel)
def v_nest : List (Nat × Nat × Nat × Nat × Nat) := [(2, 25, 180, 3, 1), (2, 42, 181, 3, 1), (2, 54, 183, 3, 2), (2, 61, 182, 3, 1), (8, 35, 24, 4, 1), (8, 96, 42, 4, 1), (8, 97, 28, 4, 1), (8, 98, 82, 4, 1), (8, 201, 183, 3, 2), (9, 35, 1, 4, 1), (9, 42, 57, 4, 1), (9, 49, 73, 4, 1)]
def v_nw (q : Nat × Nat × Nat × Nat × Nat) : Cond := .methodLinkNest (v_own q.1) q.2.1 (v_m q.2.2.1).2.1 "BeeYard"
def v_chk2 (ws : List Cond) (ps : List Nat) : Bool := match ws, ps with
  | [], [] => true
  | w :: ws, p :: ps => decide (lw_tbl[p]? = some w) && v_chk2 ws ps
  | _, _ => false
theorem v_chk2_in : ∀ {ws : List Cond} {ps : List Nat}, v_chk2 ws ps = true → ∀ w ∈ ws, w ∈ lw_tbl
  | [], _, _, _, h => by cases h
  | w :: ws, [], h, _, _ => by simp [v_chk2] at h
  | w :: ws, p :: ps, h, u, hu => by
    simp only [v_chk2, Bool.and_eq_true, decide_eq_true_eq] at h
    rcases List.mem_cons.mp hu with rfl | h1
    · exact List.mem_of_getElem? h.1
    · exact v_chk2_in h.2 u h1
theorem v_nest_in : ∀ q ∈ v_nest, v_nw q ∈ lw_tbl := fun q hq => v_chk2_in (ws := v_nest.map v_nw) (ps := [637, 990, 1010, 642, 106, 317, 392, 415, 1003, 179, 190, 216]) (by decide +kernel) _ (List.mem_map.mpr ⟨q, hq, rfl⟩)
theorem v_nest_of : ∀ q ∈ v_mlk, q.2.2.2.1 = 3 ∨ q.2.2.2.1 = 4 → q ∈ v_nest := by decide +kernel
theorem v_over_in : ∀ w ∈ [Cond.arrayOver (.object RX3), Cond.arrayOver (.object RX2), Cond.arrayOver (.object RX7)], w ∈ lw_tbl := v_chk2_in (ps := [99, 101, 103]) (by decide +kernel)

theorem v_c0_in : ∀ w ∈ u_ws RX0 TX0 1 ++ [Cond.instantiable RX0 1, Cond.initialized RX0], w ∈ v_tbl := v_chk_in (ps := [185, 178, 74]) (by decide +kernel)
theorem v_c1_in : ∀ w ∈ u_ws RX1 TX1 4 ++ [Cond.instantiable RX1 4, Cond.initialized RX1], w ∈ v_tbl := v_chk_in (ps := [116, 118, 120, 122, 105, 73]) (by decide +kernel)
theorem v_c2_in : ∀ w ∈ u_ws RX2 TX2 2 ++ [Cond.instantiable RX2 2, Cond.initialized RX2], w ∈ v_tbl := v_chk_in (ps := [400, 402, 391, 81]) (by decide +kernel)
theorem v_c3_in : ∀ w ∈ u_ws RX3 TX3 12 ++ [Cond.instantiable RX3 12, Cond.initialized RX3], w ∈ v_tbl := v_chk_in (ps := [355, 357, 359, 361, 363, 365, 367, 369, 371, 373, 375, 377, 316, 79]) (by decide +kernel)
theorem v_c4_in : ∀ w ∈ u_ws RX4 TX4 6 ++ [Cond.instantiable RX4 6, Cond.initialized RX4], w ∈ v_tbl := v_chk_in (ps := [200, 202, 204, 206, 208, 210, 189, 75]) (by decide +kernel)
theorem v_c5_in : ∀ w ∈ u_ws RX5 TX5 6 ++ [Cond.instantiable RX5 6, Cond.initialized RX5], w ∈ v_tbl := v_chk_in (ps := [247, 249, 251, 253, 255, 257, 215, 76]) (by decide +kernel)
theorem v_c6_in : ∀ w ∈ u_ws RX6 TX6 3 ++ [Cond.instantiable RX6 3, Cond.initialized RX6], w ∈ v_tbl := v_chk_in (ps := [233, 235, 237, 221, 77]) (by decide +kernel)
theorem v_c7_in : ∀ w ∈ u_ws RX7 TX7 9 ++ [Cond.instantiable RX7 9, Cond.initialized RX7], w ∈ v_tbl := v_chk_in (ps := [446, 448, 450, 452, 454, 456, 458, 460, 462, 414, 82]) (by decide +kernel)
theorem v_c8_in : ∀ w ∈ u_ws RX8 TX8 13 ++ [Cond.instantiable RX8 13, Cond.initialized RX8], w ∈ v_tbl := v_chk_in (ps := [150, 152, 154, 156, 158, 160, 162, 164, 166, 168, 170, 172, 174, 93, 72]) (by decide +kernel)
theorem v_c9_in : ∀ w ∈ u_ws RX9 TX9 11 ++ [Cond.instantiable RX9 11, Cond.initialized RX9], w ∈ v_tbl := v_chk_in (ps := [273, 275, 277, 279, 281, 283, 285, 287, 289, 291, 293, 85, 71]) (by decide +kernel)
theorem v_c10_in : ∀ w ∈ u_ws RX10 TX10 20 ++ [Cond.instantiable RX10 20, Cond.initialized RX10], w ∈ v_tbl := v_chk_in (ps := [1191, 1193, 1195, 1197, 1199, 1201, 1203, 1205, 1207, 1209, 1211, 1213, 1215, 1217, 1219, 1221, 1223, 1225, 1227, 1229, 1165, 78]) (by decide +kernel)
end
section
/-! ===== the words of the code ===== -/
theorem v_pc1 {w : Cond} (h : w ∈ tables_1_1) (hg : goodWord w = true) : w ∈ v_tbl := List.mem_filter.mpr ⟨List.mem_append_right _ (show w ∈ tables_1 from List.mem_append_left _ h), hg⟩
theorem v_pc2 {w : Cond} (h : w ∈ tables_1_2) (hg : goodWord w = true) : w ∈ v_tbl := List.mem_filter.mpr ⟨List.mem_append_right _ (show w ∈ tables_1 from List.mem_append_right _ (List.mem_append_left _ h)), hg⟩
theorem v_pc3 {w : Cond} (h : w ∈ tables_1_3) (hg : goodWord w = true) : w ∈ v_tbl := List.mem_filter.mpr ⟨List.mem_append_right _ (show w ∈ tables_1 from List.mem_append_right _ (List.mem_append_right _ (List.mem_append_left _ h))), hg⟩
theorem v_pc4 {w : Cond} (h : w ∈ tables_1_4) (hg : goodWord w = true) : w ∈ v_tbl := List.mem_filter.mpr ⟨List.mem_append_right _ (show w ∈ tables_1 from List.mem_append_right _ (List.mem_append_right _ (List.mem_append_right _ (List.mem_append_left _ h)))), hg⟩
theorem v_pc5 {w : Cond} (h : w ∈ tables_1_5) (hg : goodWord w = true) : w ∈ v_tbl := List.mem_filter.mpr ⟨List.mem_append_right _ (show w ∈ tables_1 from List.mem_append_right _ (List.mem_append_right _ (List.mem_append_right _ (List.mem_append_right _ (List.mem_append_left _ h))))), hg⟩
theorem v_pc6 {w : Cond} (h : w ∈ tables_1_6) (hg : goodWord w = true) : w ∈ v_tbl := List.mem_filter.mpr ⟨List.mem_append_right _ (show w ∈ tables_1 from List.mem_append_right _ (List.mem_append_right _ (List.mem_append_right _ (List.mem_append_right _ (List.mem_append_right _ (List.mem_append_left _ h)))))), hg⟩
theorem v_pc7 {w : Cond} (h : w ∈ tables_1_7) (hg : goodWord w = true) : w ∈ v_tbl := List.mem_filter.mpr ⟨List.mem_append_right _ (show w ∈ tables_1 from List.mem_append_right _ (List.mem_append_right _ (List.mem_append_right _ (List.mem_append_right _ (List.mem_append_right _ (List.mem_append_right _ (h))))))), hg⟩
theorem cw_1 : Cond.code m_1.2.1 m_1.2.2.1 m_1.2.2.2.1 m_1.2.2.2.2.1 ∈ v_tbl := v_pc1 (List.mem_of_getElem? (i := 111) rfl) rfl
theorem cw_2 : Cond.code m_2.2.1 m_2.2.2.1 m_2.2.2.2.1 m_2.2.2.2.2.1 ∈ v_tbl := v_pc4 (List.mem_of_getElem? (i := 71) rfl) rfl
theorem cw_3 : Cond.code m_3.2.1 m_3.2.2.1 m_3.2.2.2.1 m_3.2.2.2.2.1 ∈ v_tbl := v_pc4 (List.mem_of_getElem? (i := 75) rfl) rfl
theorem cw_4 : Cond.code m_4.2.1 m_4.2.2.1 m_4.2.2.2.1 m_4.2.2.2.2.1 ∈ v_tbl := v_pc4 (List.mem_of_getElem? (i := 95) rfl) rfl
theorem cw_5 : Cond.code m_5.2.1 m_5.2.2.1 m_5.2.2.2.1 m_5.2.2.2.2.1 ∈ v_tbl := v_pc4 (List.mem_of_getElem? (i := 112) rfl) rfl
theorem cw_6 : Cond.code m_6.2.1 m_6.2.2.1 m_6.2.2.2.1 m_6.2.2.2.2.1 ∈ v_tbl := v_pc4 (List.mem_of_getElem? (i := 179) rfl) rfl
theorem cw_7 : Cond.code m_7.2.1 m_7.2.2.1 m_7.2.2.2.1 m_7.2.2.2.2.1 ∈ v_tbl := v_pc4 (List.mem_of_getElem? (i := 137) rfl) rfl
theorem cw_8 : Cond.code m_8.2.1 m_8.2.2.1 m_8.2.2.2.1 m_8.2.2.2.2.1 ∈ v_tbl := v_pc4 (List.mem_of_getElem? (i := 129) rfl) rfl
theorem cw_9 : Cond.code m_9.2.1 m_9.2.2.1 m_9.2.2.2.1 m_9.2.2.2.2.1 ∈ v_tbl := v_pc4 (List.mem_of_getElem? (i := 133) rfl) rfl
theorem cw_10 : Cond.code m_10.2.1 m_10.2.2.1 m_10.2.2.2.1 m_10.2.2.2.2.1 ∈ v_tbl := v_pc4 (List.mem_of_getElem? (i := 175) rfl) rfl
theorem cw_11 : Cond.code m_11.2.1 m_11.2.2.1 m_11.2.2.2.1 m_11.2.2.2.2.1 ∈ v_tbl := v_pc4 (List.mem_of_getElem? (i := 187) rfl) rfl
theorem cw_12 : Cond.code m_12.2.1 m_12.2.2.1 m_12.2.2.2.1 m_12.2.2.2.2.1 ∈ v_tbl := v_pc4 (List.mem_of_getElem? (i := 83) rfl) rfl
theorem cw_13 : Cond.code m_13.2.1 m_13.2.2.1 m_13.2.2.2.1 m_13.2.2.2.2.1 ∈ v_tbl := v_pc4 (List.mem_of_getElem? (i := 108) rfl) rfl
theorem cw_14 : Cond.code m_14.2.1 m_14.2.2.1 m_14.2.2.2.1 m_14.2.2.2.2.1 ∈ v_tbl := v_pc4 (List.mem_of_getElem? (i := 91) rfl) rfl
theorem cw_15 : Cond.code m_15.2.1 m_15.2.2.1 m_15.2.2.2.1 m_15.2.2.2.2.1 ∈ v_tbl := v_pc4 (List.mem_of_getElem? (i := 120) rfl) rfl
theorem cw_16 : Cond.code m_16.2.1 m_16.2.2.1 m_16.2.2.2.1 m_16.2.2.2.2.1 ∈ v_tbl := v_pc4 (List.mem_of_getElem? (i := 183) rfl) rfl
theorem cw_17 : Cond.code m_17.2.1 m_17.2.2.1 m_17.2.2.2.1 m_17.2.2.2.2.1 ∈ v_tbl := v_pc4 (List.mem_of_getElem? (i := 116) rfl) rfl
theorem cw_18 : Cond.code m_18.2.1 m_18.2.2.1 m_18.2.2.2.1 m_18.2.2.2.2.1 ∈ v_tbl := v_pc4 (List.mem_of_getElem? (i := 124) rfl) rfl
theorem cw_19 : Cond.code m_19.2.1 m_19.2.2.1 m_19.2.2.2.1 m_19.2.2.2.2.1 ∈ v_tbl := v_pc4 (List.mem_of_getElem? (i := 79) rfl) rfl
theorem cw_20 : Cond.code m_20.2.1 m_20.2.2.1 m_20.2.2.2.1 m_20.2.2.2.2.1 ∈ v_tbl := v_pc4 (List.mem_of_getElem? (i := 191) rfl) rfl
theorem cw_21 : Cond.code m_21.2.1 m_21.2.2.1 m_21.2.2.2.1 m_21.2.2.2.2.1 ∈ v_tbl := v_pc4 (List.mem_of_getElem? (i := 99) rfl) rfl
theorem cw_22 : Cond.code m_22.2.1 m_22.2.2.1 m_22.2.2.2.1 m_22.2.2.2.2.1 ∈ v_tbl := v_pc4 (List.mem_of_getElem? (i := 87) rfl) rfl
theorem cw_23 : Cond.code m_23.2.1 m_23.2.2.1 m_23.2.2.2.1 m_23.2.2.2.2.1 ∈ v_tbl := v_pc4 (List.mem_of_getElem? (i := 103) rfl) rfl
theorem cw_24 : Cond.code m_24.2.1 m_24.2.2.1 m_24.2.2.2.1 m_24.2.2.2.2.1 ∈ v_tbl := v_pc1 (List.mem_of_getElem? (i := 38) rfl) rfl
theorem cw_25 : Cond.code m_25.2.1 m_25.2.2.1 m_25.2.2.2.1 m_25.2.2.2.2.1 ∈ v_tbl := v_pc3 (List.mem_of_getElem? (i := 125) rfl) rfl
theorem cw_26 : Cond.code m_26.2.1 m_26.2.2.1 m_26.2.2.2.1 m_26.2.2.2.2.1 ∈ v_tbl := v_pc3 (List.mem_of_getElem? (i := 133) rfl) rfl
theorem cw_27 : Cond.code m_27.2.1 m_27.2.2.1 m_27.2.2.2.1 m_27.2.2.2.2.1 ∈ v_tbl := v_pc2 (List.mem_of_getElem? (i := 163) rfl) rfl
theorem cw_28 : Cond.code m_28.2.1 m_28.2.2.1 m_28.2.2.2.1 m_28.2.2.2.2.1 ∈ v_tbl := v_pc2 (List.mem_of_getElem? (i := 84) rfl) rfl
theorem cw_29 : Cond.code m_29.2.1 m_29.2.2.1 m_29.2.2.2.1 m_29.2.2.2.2.1 ∈ v_tbl := v_pc2 (List.mem_of_getElem? (i := 222) rfl) rfl
theorem cw_30 : Cond.code m_30.2.1 m_30.2.2.1 m_30.2.2.2.1 m_30.2.2.2.2.1 ∈ v_tbl := v_pc2 (List.mem_of_getElem? (i := 98) rfl) rfl
theorem cw_31 : Cond.code m_31.2.1 m_31.2.2.1 m_31.2.2.2.1 m_31.2.2.2.2.1 ∈ v_tbl := v_pc3 (List.mem_of_getElem? (i := 54) rfl) rfl
theorem cw_32 : Cond.code m_32.2.1 m_32.2.2.1 m_32.2.2.2.1 m_32.2.2.2.2.1 ∈ v_tbl := v_pc3 (List.mem_of_getElem? (i := 86) rfl) rfl
theorem cw_33 : Cond.code m_33.2.1 m_33.2.2.1 m_33.2.2.2.1 m_33.2.2.2.2.1 ∈ v_tbl := v_pc3 (List.mem_of_getElem? (i := 106) rfl) rfl
theorem cw_34 : Cond.code m_34.2.1 m_34.2.2.1 m_34.2.2.2.1 m_34.2.2.2.2.1 ∈ v_tbl := v_pc3 (List.mem_of_getElem? (i := 121) rfl) rfl
theorem cw_35 : Cond.code m_35.2.1 m_35.2.2.1 m_35.2.2.2.1 m_35.2.2.2.2.1 ∈ v_tbl := v_pc3 (List.mem_of_getElem? (i := 117) rfl) rfl
theorem cw_36 : Cond.code m_36.2.1 m_36.2.2.1 m_36.2.2.2.1 m_36.2.2.2.2.1 ∈ v_tbl := v_pc3 (List.mem_of_getElem? (i := 162) rfl) rfl
theorem cw_37 : Cond.code m_37.2.1 m_37.2.2.1 m_37.2.2.2.1 m_37.2.2.2.2.1 ∈ v_tbl := v_pc4 (List.mem_of_getElem? (i := 199) rfl) rfl
theorem cw_38 : Cond.code m_38.2.1 m_38.2.2.1 m_38.2.2.2.1 m_38.2.2.2.2.1 ∈ v_tbl := v_pc4 (List.mem_of_getElem? (i := 219) rfl) rfl
theorem cw_39 : Cond.code m_39.2.1 m_39.2.2.1 m_39.2.2.2.1 m_39.2.2.2.2.1 ∈ v_tbl := v_pc3 (List.mem_of_getElem? (i := 82) rfl) rfl
theorem cw_40 : Cond.code m_40.2.1 m_40.2.2.1 m_40.2.2.2.1 m_40.2.2.2.2.1 ∈ v_tbl := v_pc3 (List.mem_of_getElem? (i := 91) rfl) rfl
theorem cw_41 : Cond.code m_41.2.1 m_41.2.2.1 m_41.2.2.2.1 m_41.2.2.2.2.1 ∈ v_tbl := v_pc5 (List.mem_of_getElem? (i := 128) rfl) rfl
theorem cw_42 : Cond.code m_42.2.1 m_42.2.2.1 m_42.2.2.2.1 m_42.2.2.2.2.1 ∈ v_tbl := v_pc2 (List.mem_of_getElem? (i := 9) rfl) rfl
theorem cw_43 : Cond.code m_43.2.1 m_43.2.2.1 m_43.2.2.2.1 m_43.2.2.2.2.1 ∈ v_tbl := v_pc2 (List.mem_of_getElem? (i := 172) rfl) rfl
theorem cw_44 : Cond.code m_44.2.1 m_44.2.2.1 m_44.2.2.2.1 m_44.2.2.2.2.1 ∈ v_tbl := v_pc2 (List.mem_of_getElem? (i := 73) rfl) rfl
theorem cw_45 : Cond.code m_45.2.1 m_45.2.2.1 m_45.2.2.2.1 m_45.2.2.2.2.1 ∈ v_tbl := v_pc2 (List.mem_of_getElem? (i := 197) rfl) rfl
theorem cw_46 : Cond.code m_46.2.1 m_46.2.2.1 m_46.2.2.2.1 m_46.2.2.2.2.1 ∈ v_tbl := v_pc2 (List.mem_of_getElem? (i := 193) rfl) rfl
theorem cw_47 : Cond.code m_47.2.1 m_47.2.2.1 m_47.2.2.2.1 m_47.2.2.2.2.1 ∈ v_tbl := v_pc3 (List.mem_of_getElem? (i := 178) rfl) rfl
theorem cw_48 : Cond.code m_48.2.1 m_48.2.2.1 m_48.2.2.2.1 m_48.2.2.2.2.1 ∈ v_tbl := v_pc3 (List.mem_of_getElem? (i := 186) rfl) rfl
theorem cw_49 : Cond.code m_49.2.1 m_49.2.2.1 m_49.2.2.2.1 m_49.2.2.2.2.1 ∈ v_tbl := v_pc3 (List.mem_of_getElem? (i := 194) rfl) rfl
theorem cw_50 : Cond.code m_50.2.1 m_50.2.2.1 m_50.2.2.2.1 m_50.2.2.2.2.1 ∈ v_tbl := v_pc4 (List.mem_of_getElem? (i := 234) rfl) rfl
theorem cw_51 : Cond.code m_51.2.1 m_51.2.2.1 m_51.2.2.2.1 m_51.2.2.2.2.1 ∈ v_tbl := v_pc5 (List.mem_of_getElem? (i := 7) rfl) rfl
theorem cw_52 : Cond.code m_52.2.1 m_52.2.2.1 m_52.2.2.2.1 m_52.2.2.2.2.1 ∈ v_tbl := v_pc2 (List.mem_of_getElem? (i := 176) rfl) rfl
theorem cw_53 : Cond.code m_53.2.1 m_53.2.2.1 m_53.2.2.2.1 m_53.2.2.2.2.1 ∈ v_tbl := v_pc3 (List.mem_of_getElem? (i := 62) rfl) rfl
theorem cw_54 : Cond.code m_54.2.1 m_54.2.2.1 m_54.2.2.2.1 m_54.2.2.2.2.1 ∈ v_tbl := v_pc3 (List.mem_of_getElem? (i := 74) rfl) rfl
theorem cw_55 : Cond.code m_55.2.1 m_55.2.2.1 m_55.2.2.2.1 m_55.2.2.2.2.1 ∈ v_tbl := v_pc3 (List.mem_of_getElem? (i := 70) rfl) rfl
theorem cw_56 : Cond.code m_56.2.1 m_56.2.2.1 m_56.2.2.2.1 m_56.2.2.2.2.1 ∈ v_tbl := v_pc5 (List.mem_of_getElem? (i := 124) rfl) rfl
theorem cw_57 : Cond.code m_57.2.1 m_57.2.2.1 m_57.2.2.2.1 m_57.2.2.2.2.1 ∈ v_tbl := v_pc1 (List.mem_of_getElem? (i := 122) rfl) rfl
theorem cw_58 : Cond.code m_58.2.1 m_58.2.2.1 m_58.2.2.2.1 m_58.2.2.2.2.1 ∈ v_tbl := v_pc3 (List.mem_of_getElem? (i := 236) rfl) rfl
theorem cw_59 : Cond.code m_59.2.1 m_59.2.2.1 m_59.2.2.2.1 m_59.2.2.2.2.1 ∈ v_tbl := v_pc3 (List.mem_of_getElem? (i := 231) rfl) rfl
theorem cw_60 : Cond.code m_60.2.1 m_60.2.2.1 m_60.2.2.2.1 m_60.2.2.2.2.1 ∈ v_tbl := v_pc3 (List.mem_of_getElem? (i := 227) rfl) rfl
theorem cw_61 : Cond.code m_61.2.1 m_61.2.2.1 m_61.2.2.2.1 m_61.2.2.2.2.1 ∈ v_tbl := v_pc4 (List.mem_of_getElem? (i := 1) rfl) rfl
theorem cw_62 : Cond.code m_62.2.1 m_62.2.2.1 m_62.2.2.2.1 m_62.2.2.2.2.1 ∈ v_tbl := v_pc4 (List.mem_of_getElem? (i := 5) rfl) rfl
theorem cw_63 : Cond.code m_63.2.1 m_63.2.2.1 m_63.2.2.2.1 m_63.2.2.2.2.1 ∈ v_tbl := v_pc4 (List.mem_of_getElem? (i := 12) rfl) rfl
theorem cw_64 : Cond.code m_64.2.1 m_64.2.2.1 m_64.2.2.2.1 m_64.2.2.2.2.1 ∈ v_tbl := v_pc4 (List.mem_of_getElem? (i := 20) rfl) rfl
theorem cw_65 : Cond.code m_65.2.1 m_65.2.2.1 m_65.2.2.2.1 m_65.2.2.2.2.1 ∈ v_tbl := v_pc4 (List.mem_of_getElem? (i := 24) rfl) rfl
theorem cw_66 : Cond.code m_66.2.1 m_66.2.2.1 m_66.2.2.2.1 m_66.2.2.2.2.1 ∈ v_tbl := v_pc4 (List.mem_of_getElem? (i := 28) rfl) rfl
theorem cw_67 : Cond.code m_67.2.1 m_67.2.2.1 m_67.2.2.2.1 m_67.2.2.2.2.1 ∈ v_tbl := v_pc4 (List.mem_of_getElem? (i := 32) rfl) rfl
theorem cw_68 : Cond.code m_68.2.1 m_68.2.2.1 m_68.2.2.2.1 m_68.2.2.2.2.1 ∈ v_tbl := v_pc4 (List.mem_of_getElem? (i := 36) rfl) rfl
theorem cw_69 : Cond.code m_69.2.1 m_69.2.2.1 m_69.2.2.2.1 m_69.2.2.2.2.1 ∈ v_tbl := v_pc4 (List.mem_of_getElem? (i := 40) rfl) rfl
theorem cw_70 : Cond.code m_70.2.1 m_70.2.2.1 m_70.2.2.2.1 m_70.2.2.2.2.1 ∈ v_tbl := v_pc4 (List.mem_of_getElem? (i := 54) rfl) rfl
theorem cw_71 : Cond.code m_71.2.1 m_71.2.2.1 m_71.2.2.2.1 m_71.2.2.2.2.1 ∈ v_tbl := v_pc4 (List.mem_of_getElem? (i := 44) rfl) rfl
theorem cw_72 : Cond.code m_72.2.1 m_72.2.2.1 m_72.2.2.2.1 m_72.2.2.2.2.1 ∈ v_tbl := v_pc4 (List.mem_of_getElem? (i := 48) rfl) rfl
theorem cw_73 : Cond.code m_73.2.1 m_73.2.2.1 m_73.2.2.2.1 m_73.2.2.2.2.1 ∈ v_tbl := v_pc1 (List.mem_of_getElem? (i := 148) rfl) rfl
theorem cw_74 : Cond.code m_74.2.1 m_74.2.2.1 m_74.2.2.2.1 m_74.2.2.2.2.1 ∈ v_tbl := v_pc5 (List.mem_of_getElem? (i := 63) rfl) rfl
theorem cw_75 : Cond.code m_75.2.1 m_75.2.2.1 m_75.2.2.2.1 m_75.2.2.2.2.1 ∈ v_tbl := v_pc5 (List.mem_of_getElem? (i := 67) rfl) rfl
theorem cw_76 : Cond.code m_76.2.1 m_76.2.2.1 m_76.2.2.2.1 m_76.2.2.2.2.1 ∈ v_tbl := v_pc5 (List.mem_of_getElem? (i := 72) rfl) rfl
theorem cw_77 : Cond.code m_77.2.1 m_77.2.2.1 m_77.2.2.2.1 m_77.2.2.2.2.1 ∈ v_tbl := v_pc5 (List.mem_of_getElem? (i := 80) rfl) rfl
theorem cw_78 : Cond.code m_78.2.1 m_78.2.2.1 m_78.2.2.2.1 m_78.2.2.2.2.1 ∈ v_tbl := v_pc5 (List.mem_of_getElem? (i := 84) rfl) rfl
theorem cw_79 : Cond.code m_79.2.1 m_79.2.2.1 m_79.2.2.2.1 m_79.2.2.2.2.1 ∈ v_tbl := v_pc1 (List.mem_of_getElem? (i := 154) rfl) rfl
theorem cw_80 : Cond.code m_80.2.1 m_80.2.2.1 m_80.2.2.2.1 m_80.2.2.2.2.1 ∈ v_tbl := v_pc5 (List.mem_of_getElem? (i := 15) rfl) rfl
theorem cw_81 : Cond.code m_81.2.1 m_81.2.2.1 m_81.2.2.2.1 m_81.2.2.2.2.1 ∈ v_tbl := v_pc5 (List.mem_of_getElem? (i := 23) rfl) rfl
theorem cw_82 : Cond.code m_82.2.1 m_82.2.2.1 m_82.2.2.2.1 m_82.2.2.2.2.1 ∈ v_tbl := v_pc2 (List.mem_of_getElem? (i := 107) rfl) rfl
theorem cw_83 : Cond.code m_83.2.1 m_83.2.2.1 m_83.2.2.2.1 m_83.2.2.2.2.1 ∈ v_tbl := v_pc3 (List.mem_of_getElem? (i := 206) rfl) rfl
theorem cw_84 : Cond.code m_84.2.1 m_84.2.2.1 m_84.2.2.2.1 m_84.2.2.2.2.1 ∈ v_tbl := v_pc2 (List.mem_of_getElem? (i := 158) rfl) rfl
theorem cw_85 : Cond.code m_85.2.1 m_85.2.2.1 m_85.2.2.2.1 m_85.2.2.2.2.1 ∈ v_tbl := v_pc4 (List.mem_of_getElem? (i := 163) rfl) rfl
theorem cw_86 : Cond.code m_86.2.1 m_86.2.2.1 m_86.2.2.2.1 m_86.2.2.2.2.1 ∈ v_tbl := v_pc3 (List.mem_of_getElem? (i := 223) rfl) rfl
theorem cw_87 : Cond.code m_87.2.1 m_87.2.2.1 m_87.2.2.2.1 m_87.2.2.2.2.1 ∈ v_tbl := v_pc5 (List.mem_of_getElem? (i := 2) rfl) rfl
theorem cw_88 : Cond.code m_88.2.1 m_88.2.2.1 m_88.2.2.2.1 m_88.2.2.2.2.1 ∈ v_tbl := v_pc4 (List.mem_of_getElem? (i := 141) rfl) rfl
theorem cw_89 : Cond.code m_89.2.1 m_89.2.2.1 m_89.2.2.2.1 m_89.2.2.2.2.1 ∈ v_tbl := v_pc1 (List.mem_of_getElem? (i := 26) rfl) rfl
theorem cw_90 : Cond.code m_90.2.1 m_90.2.2.1 m_90.2.2.2.1 m_90.2.2.2.2.1 ∈ v_tbl := v_pc2 (List.mem_of_getElem? (i := 1) rfl) rfl
theorem cw_91 : Cond.code m_91.2.1 m_91.2.2.1 m_91.2.2.2.1 m_91.2.2.2.2.1 ∈ v_tbl := v_pc2 (List.mem_of_getElem? (i := 5) rfl) rfl
theorem cw_92 : Cond.code m_92.2.1 m_92.2.2.1 m_92.2.2.2.1 m_92.2.2.2.2.1 ∈ v_tbl := v_pc2 (List.mem_of_getElem? (i := 80) rfl) rfl
theorem cw_93 : Cond.code m_93.2.1 m_93.2.2.1 m_93.2.2.2.1 m_93.2.2.2.2.1 ∈ v_tbl := v_pc2 (List.mem_of_getElem? (i := 103) rfl) rfl
theorem cw_94 : Cond.code m_94.2.1 m_94.2.2.1 m_94.2.2.2.1 m_94.2.2.2.2.1 ∈ v_tbl := v_pc2 (List.mem_of_getElem? (i := 168) rfl) rfl
theorem cw_95 : Cond.code m_95.2.1 m_95.2.2.1 m_95.2.2.2.1 m_95.2.2.2.2.1 ∈ v_tbl := v_pc2 (List.mem_of_getElem? (i := 218) rfl) rfl
theorem cw_96 : Cond.code m_96.2.1 m_96.2.2.1 m_96.2.2.2.1 m_96.2.2.2.2.1 ∈ v_tbl := v_pc3 (List.mem_of_getElem? (i := 202) rfl) rfl
theorem cw_97 : Cond.code m_97.2.1 m_97.2.2.1 m_97.2.2.2.1 m_97.2.2.2.2.1 ∈ v_tbl := v_pc2 (List.mem_of_getElem? (i := 209) rfl) rfl
theorem cw_98 : Cond.code m_98.2.1 m_98.2.2.1 m_98.2.2.2.1 m_98.2.2.2.2.1 ∈ v_tbl := v_pc2 (List.mem_of_getElem? (i := 214) rfl) rfl
theorem cw_99 : Cond.code m_99.2.1 m_99.2.2.1 m_99.2.2.2.1 m_99.2.2.2.2.1 ∈ v_tbl := v_pc2 (List.mem_of_getElem? (i := 226) rfl) rfl
theorem cw_100 : Cond.code m_100.2.1 m_100.2.2.1 m_100.2.2.2.1 m_100.2.2.2.2.1 ∈ v_tbl := v_pc3 (List.mem_of_getElem? (i := 32) rfl) rfl
theorem cw_101 : Cond.code m_101.2.1 m_101.2.2.1 m_101.2.2.2.1 m_101.2.2.2.2.1 ∈ v_tbl := v_pc2 (List.mem_of_getElem? (i := 238) rfl) rfl
theorem cw_102 : Cond.code m_102.2.1 m_102.2.2.1 m_102.2.2.2.1 m_102.2.2.2.2.1 ∈ v_tbl := v_pc3 (List.mem_of_getElem? (i := 2) rfl) rfl
theorem cw_103 : Cond.code m_103.2.1 m_103.2.2.1 m_103.2.2.2.1 m_103.2.2.2.2.1 ∈ v_tbl := v_pc3 (List.mem_of_getElem? (i := 20) rfl) rfl
theorem cw_104 : Cond.code m_104.2.1 m_104.2.2.1 m_104.2.2.2.1 m_104.2.2.2.2.1 ∈ v_tbl := v_pc3 (List.mem_of_getElem? (i := 48) rfl) rfl
theorem cw_105 : Cond.code m_105.2.1 m_105.2.2.1 m_105.2.2.2.1 m_105.2.2.2.2.1 ∈ v_tbl := v_pc3 (List.mem_of_getElem? (i := 158) rfl) rfl
theorem cw_106 : Cond.code m_106.2.1 m_106.2.2.1 m_106.2.2.2.1 m_106.2.2.2.2.1 ∈ v_tbl := v_pc3 (List.mem_of_getElem? (i := 102) rfl) rfl
theorem cw_107 : Cond.code m_107.2.1 m_107.2.2.1 m_107.2.2.2.1 m_107.2.2.2.2.1 ∈ v_tbl := v_pc3 (List.mem_of_getElem? (i := 141) rfl) rfl
theorem cw_108 : Cond.code m_108.2.1 m_108.2.2.1 m_108.2.2.2.1 m_108.2.2.2.2.1 ∈ v_tbl := v_pc3 (List.mem_of_getElem? (i := 145) rfl) rfl
theorem cw_109 : Cond.code m_109.2.1 m_109.2.2.1 m_109.2.2.2.1 m_109.2.2.2.2.1 ∈ v_tbl := v_pc3 (List.mem_of_getElem? (i := 78) rfl) rfl
theorem cw_110 : Cond.code m_110.2.1 m_110.2.2.1 m_110.2.2.2.1 m_110.2.2.2.2.1 ∈ v_tbl := v_pc4 (List.mem_of_getElem? (i := 63) rfl) rfl
theorem cw_111 : Cond.code m_111.2.1 m_111.2.2.1 m_111.2.2.2.1 m_111.2.2.2.2.1 ∈ v_tbl := v_pc4 (List.mem_of_getElem? (i := 67) rfl) rfl
theorem cw_112 : Cond.code m_112.2.1 m_112.2.2.1 m_112.2.2.2.1 m_112.2.2.2.2.1 ∈ v_tbl := v_pc4 (List.mem_of_getElem? (i := 149) rfl) rfl
theorem cw_113 : Cond.code m_113.2.1 m_113.2.2.1 m_113.2.2.2.1 m_113.2.2.2.2.1 ∈ v_tbl := v_pc5 (List.mem_of_getElem? (i := 55) rfl) rfl
theorem cw_114 : Cond.code m_114.2.1 m_114.2.2.1 m_114.2.2.2.1 m_114.2.2.2.2.1 ∈ v_tbl := v_pc5 (List.mem_of_getElem? (i := 59) rfl) rfl
theorem cw_115 : Cond.code m_115.2.1 m_115.2.2.1 m_115.2.2.2.1 m_115.2.2.2.2.1 ∈ v_tbl := v_pc4 (List.mem_of_getElem? (i := 171) rfl) rfl
theorem cw_116 : Cond.code m_116.2.1 m_116.2.2.1 m_116.2.2.2.1 m_116.2.2.2.2.1 ∈ v_tbl := v_pc4 (List.mem_of_getElem? (i := 195) rfl) rfl
theorem cw_117 : Cond.code m_117.2.1 m_117.2.2.1 m_117.2.2.2.1 m_117.2.2.2.2.1 ∈ v_tbl := v_pc4 (List.mem_of_getElem? (i := 206) rfl) rfl
theorem cw_118 : Cond.code m_118.2.1 m_118.2.2.1 m_118.2.2.2.1 m_118.2.2.2.2.1 ∈ v_tbl := v_pc4 (List.mem_of_getElem? (i := 212) rfl) rfl
theorem cw_119 : Cond.code m_119.2.1 m_119.2.2.1 m_119.2.2.2.1 m_119.2.2.2.2.1 ∈ v_tbl := v_pc4 (List.mem_of_getElem? (i := 224) rfl) rfl
theorem cw_120 : Cond.code m_120.2.1 m_120.2.2.1 m_120.2.2.2.1 m_120.2.2.2.2.1 ∈ v_tbl := v_pc5 (List.mem_of_getElem? (i := 120) rfl) rfl
theorem cw_121 : Cond.code m_121.2.1 m_121.2.2.1 m_121.2.2.2.1 m_121.2.2.2.2.1 ∈ v_tbl := v_pc1 (List.mem_of_getElem? (i := 18) rfl) rfl
theorem cw_122 : Cond.code m_122.2.1 m_122.2.2.1 m_122.2.2.2.1 m_122.2.2.2.2.1 ∈ v_tbl := v_pc1 (List.mem_of_getElem? (i := 229) rfl) rfl
theorem cw_123 : Cond.code m_123.2.1 m_123.2.2.1 m_123.2.2.2.1 m_123.2.2.2.2.1 ∈ v_tbl := v_pc2 (List.mem_of_getElem? (i := 184) rfl) rfl
theorem cw_124 : Cond.code m_124.2.1 m_124.2.2.1 m_124.2.2.2.1 m_124.2.2.2.2.1 ∈ v_tbl := v_pc2 (List.mem_of_getElem? (i := 201) rfl) rfl
theorem cw_125 : Cond.code m_125.2.1 m_125.2.2.1 m_125.2.2.2.1 m_125.2.2.2.2.1 ∈ v_tbl := v_pc2 (List.mem_of_getElem? (i := 230) rfl) rfl
theorem cw_126 : Cond.code m_126.2.1 m_126.2.2.1 m_126.2.2.2.1 m_126.2.2.2.2.1 ∈ v_tbl := v_pc3 (List.mem_of_getElem? (i := 7) rfl) rfl
theorem cw_127 : Cond.code m_127.2.1 m_127.2.2.1 m_127.2.2.2.1 m_127.2.2.2.2.1 ∈ v_tbl := v_pc3 (List.mem_of_getElem? (i := 11) rfl) rfl
theorem cw_128 : Cond.code m_128.2.1 m_128.2.2.1 m_128.2.2.2.1 m_128.2.2.2.2.1 ∈ v_tbl := v_pc3 (List.mem_of_getElem? (i := 15) rfl) rfl
theorem cw_129 : Cond.code m_129.2.1 m_129.2.2.1 m_129.2.2.2.1 m_129.2.2.2.2.1 ∈ v_tbl := v_pc3 (List.mem_of_getElem? (i := 24) rfl) rfl
theorem cw_130 : Cond.code m_130.2.1 m_130.2.2.1 m_130.2.2.2.1 m_130.2.2.2.2.1 ∈ v_tbl := v_pc3 (List.mem_of_getElem? (i := 37) rfl) rfl
theorem cw_131 : Cond.code m_131.2.1 m_131.2.2.1 m_131.2.2.2.1 m_131.2.2.2.2.1 ∈ v_tbl := v_pc3 (List.mem_of_getElem? (i := 44) rfl) rfl
theorem cw_132 : Cond.code m_132.2.1 m_132.2.2.1 m_132.2.2.2.1 m_132.2.2.2.2.1 ∈ v_tbl := v_pc3 (List.mem_of_getElem? (i := 58) rfl) rfl
theorem cw_133 : Cond.code m_133.2.1 m_133.2.2.1 m_133.2.2.2.1 m_133.2.2.2.2.1 ∈ v_tbl := v_pc3 (List.mem_of_getElem? (i := 66) rfl) rfl
theorem cw_134 : Cond.code m_134.2.1 m_134.2.2.1 m_134.2.2.2.1 m_134.2.2.2.2.1 ∈ v_tbl := v_pc3 (List.mem_of_getElem? (i := 98) rfl) rfl
theorem cw_135 : Cond.code m_135.2.1 m_135.2.2.1 m_135.2.2.2.1 m_135.2.2.2.2.1 ∈ v_tbl := v_pc3 (List.mem_of_getElem? (i := 113) rfl) rfl
theorem cw_136 : Cond.code m_136.2.1 m_136.2.2.1 m_136.2.2.2.1 m_136.2.2.2.2.1 ∈ v_tbl := v_pc3 (List.mem_of_getElem? (i := 129) rfl) rfl
theorem cw_137 : Cond.code m_137.2.1 m_137.2.2.1 m_137.2.2.2.1 m_137.2.2.2.2.1 ∈ v_tbl := v_pc3 (List.mem_of_getElem? (i := 137) rfl) rfl
theorem cw_138 : Cond.code m_138.2.1 m_138.2.2.1 m_138.2.2.2.1 m_138.2.2.2.2.1 ∈ v_tbl := v_pc3 (List.mem_of_getElem? (i := 150) rfl) rfl
theorem cw_139 : Cond.code m_139.2.1 m_139.2.2.1 m_139.2.2.2.1 m_139.2.2.2.2.1 ∈ v_tbl := v_pc3 (List.mem_of_getElem? (i := 166) rfl) rfl
theorem cw_140 : Cond.code m_140.2.1 m_140.2.2.1 m_140.2.2.2.1 m_140.2.2.2.2.1 ∈ v_tbl := v_pc3 (List.mem_of_getElem? (i := 170) rfl) rfl
theorem cw_141 : Cond.code m_141.2.1 m_141.2.2.1 m_141.2.2.2.1 m_141.2.2.2.2.1 ∈ v_tbl := v_pc3 (List.mem_of_getElem? (i := 182) rfl) rfl
theorem cw_142 : Cond.code m_142.2.1 m_142.2.2.1 m_142.2.2.2.1 m_142.2.2.2.2.1 ∈ v_tbl := v_pc3 (List.mem_of_getElem? (i := 190) rfl) rfl
theorem cw_143 : Cond.code m_143.2.1 m_143.2.2.1 m_143.2.2.2.1 m_143.2.2.2.2.1 ∈ v_tbl := v_pc3 (List.mem_of_getElem? (i := 198) rfl) rfl
theorem cw_144 : Cond.code m_144.2.1 m_144.2.2.1 m_144.2.2.2.1 m_144.2.2.2.2.1 ∈ v_tbl := v_pc3 (List.mem_of_getElem? (i := 210) rfl) rfl
theorem cw_145 : Cond.code m_145.2.1 m_145.2.2.1 m_145.2.2.2.1 m_145.2.2.2.2.1 ∈ v_tbl := v_pc4 (List.mem_of_getElem? (i := 16) rfl) rfl
theorem cw_146 : Cond.code m_146.2.1 m_146.2.2.1 m_146.2.2.2.1 m_146.2.2.2.2.1 ∈ v_tbl := v_pc4 (List.mem_of_getElem? (i := 59) rfl) rfl
theorem cw_147 : Cond.code m_147.2.1 m_147.2.2.1 m_147.2.2.2.1 m_147.2.2.2.2.1 ∈ v_tbl := v_pc4 (List.mem_of_getElem? (i := 145) rfl) rfl
theorem cw_148 : Cond.code m_148.2.1 m_148.2.2.1 m_148.2.2.2.1 m_148.2.2.2.2.1 ∈ v_tbl := v_pc4 (List.mem_of_getElem? (i := 155) rfl) rfl
theorem cw_149 : Cond.code m_149.2.1 m_149.2.2.1 m_149.2.2.2.1 m_149.2.2.2.2.1 ∈ v_tbl := v_pc4 (List.mem_of_getElem? (i := 159) rfl) rfl
theorem cw_150 : Cond.code m_150.2.1 m_150.2.2.1 m_150.2.2.2.1 m_150.2.2.2.2.1 ∈ v_tbl := v_pc4 (List.mem_of_getElem? (i := 167) rfl) rfl
theorem cw_151 : Cond.code m_151.2.1 m_151.2.2.1 m_151.2.2.2.1 m_151.2.2.2.2.1 ∈ v_tbl := v_pc4 (List.mem_of_getElem? (i := 230) rfl) rfl
theorem cw_152 : Cond.code m_152.2.1 m_152.2.2.1 m_152.2.2.2.1 m_152.2.2.2.2.1 ∈ v_tbl := v_pc4 (List.mem_of_getElem? (i := 238) rfl) rfl
theorem cw_153 : Cond.code m_153.2.1 m_153.2.2.1 m_153.2.2.2.1 m_153.2.2.2.2.1 ∈ v_tbl := v_pc5 (List.mem_of_getElem? (i := 11) rfl) rfl
theorem cw_154 : Cond.code m_154.2.1 m_154.2.2.1 m_154.2.2.2.1 m_154.2.2.2.2.1 ∈ v_tbl := v_pc5 (List.mem_of_getElem? (i := 19) rfl) rfl
theorem cw_155 : Cond.code m_155.2.1 m_155.2.2.1 m_155.2.2.2.1 m_155.2.2.2.2.1 ∈ v_tbl := v_pc5 (List.mem_of_getElem? (i := 27) rfl) rfl
theorem cw_156 : Cond.code m_156.2.1 m_156.2.2.1 m_156.2.2.2.1 m_156.2.2.2.2.1 ∈ v_tbl := v_pc5 (List.mem_of_getElem? (i := 31) rfl) rfl
theorem cw_157 : Cond.code m_157.2.1 m_157.2.2.1 m_157.2.2.2.1 m_157.2.2.2.2.1 ∈ v_tbl := v_pc5 (List.mem_of_getElem? (i := 38) rfl) rfl
theorem cw_158 : Cond.code m_158.2.1 m_158.2.2.1 m_158.2.2.2.1 m_158.2.2.2.2.1 ∈ v_tbl := v_pc5 (List.mem_of_getElem? (i := 42) rfl) rfl
theorem cw_159 : Cond.code m_159.2.1 m_159.2.2.1 m_159.2.2.2.1 m_159.2.2.2.2.1 ∈ v_tbl := v_pc5 (List.mem_of_getElem? (i := 47) rfl) rfl
theorem cw_160 : Cond.code m_160.2.1 m_160.2.2.1 m_160.2.2.2.1 m_160.2.2.2.2.1 ∈ v_tbl := v_pc5 (List.mem_of_getElem? (i := 51) rfl) rfl
theorem cw_161 : Cond.code m_161.2.1 m_161.2.2.1 m_161.2.2.2.1 m_161.2.2.2.2.1 ∈ v_tbl := v_pc5 (List.mem_of_getElem? (i := 90) rfl) rfl
theorem cw_162 : Cond.code m_162.2.1 m_162.2.2.1 m_162.2.2.2.1 m_162.2.2.2.2.1 ∈ v_tbl := v_pc5 (List.mem_of_getElem? (i := 94) rfl) rfl
theorem cw_163 : Cond.code m_163.2.1 m_163.2.2.1 m_163.2.2.2.1 m_163.2.2.2.2.1 ∈ v_tbl := v_pc5 (List.mem_of_getElem? (i := 99) rfl) rfl
theorem cw_164 : Cond.code m_164.2.1 m_164.2.2.1 m_164.2.2.2.1 m_164.2.2.2.2.1 ∈ v_tbl := v_pc5 (List.mem_of_getElem? (i := 103) rfl) rfl
theorem cw_165 : Cond.code m_165.2.1 m_165.2.2.1 m_165.2.2.2.1 m_165.2.2.2.2.1 ∈ v_tbl := v_pc5 (List.mem_of_getElem? (i := 108) rfl) rfl
theorem cw_166 : Cond.code m_166.2.1 m_166.2.2.1 m_166.2.2.2.1 m_166.2.2.2.2.1 ∈ v_tbl := v_pc5 (List.mem_of_getElem? (i := 112) rfl) rfl
theorem cw_167 : Cond.code m_167.2.1 m_167.2.2.1 m_167.2.2.2.1 m_167.2.2.2.2.1 ∈ v_tbl := v_pc5 (List.mem_of_getElem? (i := 116) rfl) rfl
theorem cw_168 : Cond.code m_168.2.1 m_168.2.2.1 m_168.2.2.2.1 m_168.2.2.2.2.1 ∈ v_tbl := v_pc5 (List.mem_of_getElem? (i := 133) rfl) rfl
theorem cw_169 : Cond.code m_169.2.1 m_169.2.2.1 m_169.2.2.2.1 m_169.2.2.2.2.1 ∈ v_tbl := v_pc2 (List.mem_of_getElem? (i := 180) rfl) rfl
theorem cw_170 : Cond.code m_170.2.1 m_170.2.2.1 m_170.2.2.2.1 m_170.2.2.2.2.1 ∈ v_tbl := v_pc1 (List.mem_of_getElem? (i := 233) rfl) rfl
theorem cw_171 : Cond.code m_171.2.1 m_171.2.2.1 m_171.2.2.2.1 m_171.2.2.2.2.1 ∈ v_tbl := v_pc1 (List.mem_of_getElem? (i := 237) rfl) rfl
theorem cw_172 : Cond.code m_172.2.1 m_172.2.2.1 m_172.2.2.2.1 m_172.2.2.2.2.1 ∈ v_tbl := v_pc2 (List.mem_of_getElem? (i := 188) rfl) rfl
theorem cw_173 : Cond.code m_173.2.1 m_173.2.2.1 m_173.2.2.2.1 m_173.2.2.2.2.1 ∈ v_tbl := v_pc3 (List.mem_of_getElem? (i := 174) rfl) rfl
theorem cw_174 : Cond.code m_174.2.1 m_174.2.2.1 m_174.2.2.2.1 m_174.2.2.2.2.1 ∈ v_tbl := v_pc3 (List.mem_of_getElem? (i := 218) rfl) rfl
theorem cw_175 : Cond.code m_175.2.1 m_175.2.2.1 m_175.2.2.2.1 m_175.2.2.2.2.1 ∈ v_tbl := v_pc2 (List.mem_of_getElem? (i := 205) rfl) rfl
theorem cw_176 : Cond.code m_176.2.1 m_176.2.2.1 m_176.2.2.2.1 m_176.2.2.2.2.1 ∈ v_tbl := v_pc2 (List.mem_of_getElem? (i := 234) rfl) rfl
theorem cw_177 : Cond.code m_177.2.1 m_177.2.2.1 m_177.2.2.2.1 m_177.2.2.2.2.1 ∈ v_tbl := v_pc3 (List.mem_of_getElem? (i := 28) rfl) rfl
theorem cw_178 : Cond.code m_178.2.1 m_178.2.2.1 m_178.2.2.2.1 m_178.2.2.2.2.1 ∈ v_tbl := v_pc3 (List.mem_of_getElem? (i := 154) rfl) rfl
theorem cw_179 : Cond.code m_179.2.1 m_179.2.2.1 m_179.2.2.2.1 m_179.2.2.2.2.1 ∈ v_tbl := v_pc3 (List.mem_of_getElem? (i := 214) rfl) rfl
theorem cw_180 : Cond.code m_180.2.1 m_180.2.2.1 m_180.2.2.2.1 m_180.2.2.2.2.1 ∈ v_tbl := v_pc3 (List.mem_of_getElem? (i := 40) rfl) rfl
theorem cw_181 : Cond.code m_181.2.1 m_181.2.2.1 m_181.2.2.2.1 m_181.2.2.2.2.1 ∈ v_tbl := v_pc4 (List.mem_of_getElem? (i := 202) rfl) rfl
theorem cw_182 : Cond.code m_182.2.1 m_182.2.2.1 m_182.2.2.2.1 m_182.2.2.2.2.1 ∈ v_tbl := v_pc3 (List.mem_of_getElem? (i := 94) rfl) rfl
theorem cw_183 : Cond.code m_183.2.1 m_183.2.2.1 m_183.2.2.2.1 m_183.2.2.2.2.1 ∈ v_tbl := v_pc4 (List.mem_of_getElem? (i := 215) rfl) rfl
theorem cw_184 : Cond.code m_184.2.1 m_184.2.2.1 m_184.2.2.2.1 m_184.2.2.2.2.1 ∈ v_tbl := v_pc5 (List.mem_of_getElem? (i := 34) rfl) rfl
theorem cw_185 : Cond.code m_185.2.1 m_185.2.2.1 m_185.2.2.2.1 m_185.2.2.2.2.1 ∈ v_tbl := v_pc5 (List.mem_of_getElem? (i := 138) rfl) rfl
theorem cw_186 : Cond.code m_186.2.1 m_186.2.2.1 m_186.2.2.2.1 m_186.2.2.2.2.1 ∈ v_tbl := v_pc5 (List.mem_of_getElem? (i := 213) rfl) rfl
theorem cw_187 : Cond.code m_187.2.1 m_187.2.2.1 m_187.2.2.2.1 m_187.2.2.2.2.1 ∈ v_tbl := v_pc5 (List.mem_of_getElem? (i := 225) rfl) rfl
theorem cw_188 : Cond.code m_188.2.1 m_188.2.2.1 m_188.2.2.2.1 m_188.2.2.2.2.1 ∈ v_tbl := v_pc5 (List.mem_of_getElem? (i := 217) rfl) rfl
theorem cw_189 : Cond.code m_189.2.1 m_189.2.2.1 m_189.2.2.2.1 m_189.2.2.2.2.1 ∈ v_tbl := v_pc5 (List.mem_of_getElem? (i := 209) rfl) rfl
theorem cw_190 : Cond.code m_190.2.1 m_190.2.2.1 m_190.2.2.2.1 m_190.2.2.2.2.1 ∈ v_tbl := v_pc5 (List.mem_of_getElem? (i := 237) rfl) rfl
theorem cw_191 : Cond.code m_191.2.1 m_191.2.2.1 m_191.2.2.2.1 m_191.2.2.2.2.1 ∈ v_tbl := v_pc5 (List.mem_of_getElem? (i := 221) rfl) rfl
theorem cw_192 : Cond.code m_192.2.1 m_192.2.2.1 m_192.2.2.2.1 m_192.2.2.2.2.1 ∈ v_tbl := v_pc6 (List.mem_of_getElem? (i := 151) rfl) rfl
theorem cw_193 : Cond.code m_193.2.1 m_193.2.2.1 m_193.2.2.2.1 m_193.2.2.2.2.1 ∈ v_tbl := v_pc6 (List.mem_of_getElem? (i := 131) rfl) rfl
theorem cw_194 : Cond.code m_194.2.1 m_194.2.2.1 m_194.2.2.2.1 m_194.2.2.2.2.1 ∈ v_tbl := v_pc6 (List.mem_of_getElem? (i := 9) rfl) rfl
theorem cw_195 : Cond.code m_195.2.1 m_195.2.2.1 m_195.2.2.2.1 m_195.2.2.2.2.1 ∈ v_tbl := v_pc6 (List.mem_of_getElem? (i := 45) rfl) rfl
theorem cw_196 : Cond.code m_196.2.1 m_196.2.2.1 m_196.2.2.2.1 m_196.2.2.2.2.1 ∈ v_tbl := v_pc6 (List.mem_of_getElem? (i := 49) rfl) rfl
theorem cw_197 : Cond.code m_197.2.1 m_197.2.2.1 m_197.2.2.2.1 m_197.2.2.2.2.1 ∈ v_tbl := v_pc6 (List.mem_of_getElem? (i := 13) rfl) rfl
theorem cw_198 : Cond.code m_198.2.1 m_198.2.2.1 m_198.2.2.2.1 m_198.2.2.2.2.1 ∈ v_tbl := v_pc5 (List.mem_of_getElem? (i := 233) rfl) rfl
theorem cw_199 : Cond.code m_199.2.1 m_199.2.2.1 m_199.2.2.2.1 m_199.2.2.2.2.1 ∈ v_tbl := v_pc6 (List.mem_of_getElem? (i := 139) rfl) rfl
theorem cw_200 : Cond.code m_200.2.1 m_200.2.2.1 m_200.2.2.2.1 m_200.2.2.2.2.1 ∈ v_tbl := v_pc6 (List.mem_of_getElem? (i := 5) rfl) rfl
theorem cw_201 : Cond.code m_201.2.1 m_201.2.2.1 m_201.2.2.2.1 m_201.2.2.2.2.1 ∈ v_tbl := v_pc6 (List.mem_of_getElem? (i := 21) rfl) rfl
theorem cw_202 : Cond.code m_202.2.1 m_202.2.2.1 m_202.2.2.2.1 m_202.2.2.2.2.1 ∈ v_tbl := v_pc6 (List.mem_of_getElem? (i := 91) rfl) rfl
theorem cw_203 : Cond.code m_203.2.1 m_203.2.2.1 m_203.2.2.2.1 m_203.2.2.2.2.1 ∈ v_tbl := v_pc6 (List.mem_of_getElem? (i := 56) rfl) rfl
theorem cw_204 : Cond.code m_204.2.1 m_204.2.2.1 m_204.2.2.2.1 m_204.2.2.2.2.1 ∈ v_tbl := v_pc6 (List.mem_of_getElem? (i := 147) rfl) rfl
theorem cw_205 : Cond.code m_205.2.1 m_205.2.2.1 m_205.2.2.2.1 m_205.2.2.2.2.1 ∈ v_tbl := v_pc6 (List.mem_of_getElem? (i := 184) rfl) rfl
theorem cw_206 : Cond.code m_206.2.1 m_206.2.2.1 m_206.2.2.2.1 m_206.2.2.2.2.1 ∈ v_tbl := v_pc6 (List.mem_of_getElem? (i := 188) rfl) rfl
theorem cw_207 : Cond.code m_207.2.1 m_207.2.2.1 m_207.2.2.2.1 m_207.2.2.2.2.1 ∈ v_tbl := v_pc6 (List.mem_of_getElem? (i := 227) rfl) rfl
theorem cw_208 : Cond.code m_208.2.1 m_208.2.2.1 m_208.2.2.2.1 m_208.2.2.2.2.1 ∈ v_tbl := v_pc6 (List.mem_of_getElem? (i := 192) rfl) rfl
theorem cw_209 : Cond.code m_209.2.1 m_209.2.2.1 m_209.2.2.2.1 m_209.2.2.2.2.1 ∈ v_tbl := v_pc6 (List.mem_of_getElem? (i := 196) rfl) rfl
theorem cw_210 : Cond.code m_210.2.1 m_210.2.2.1 m_210.2.2.2.1 m_210.2.2.2.2.1 ∈ v_tbl := v_pc5 (List.mem_of_getElem? (i := 206) rfl) rfl
theorem cw_211 : Cond.code m_211.2.1 m_211.2.2.1 m_211.2.2.2.1 m_211.2.2.2.2.1 ∈ v_tbl := v_pc5 (List.mem_of_getElem? (i := 229) rfl) rfl
theorem cw_212 : Cond.code m_212.2.1 m_212.2.2.1 m_212.2.2.2.1 m_212.2.2.2.2.1 ∈ v_tbl := v_pc6 (List.mem_of_getElem? (i := 1) rfl) rfl
theorem cw_213 : Cond.code m_213.2.1 m_213.2.2.1 m_213.2.2.2.1 m_213.2.2.2.2.1 ∈ v_tbl := v_pc6 (List.mem_of_getElem? (i := 17) rfl) rfl
theorem cw_214 : Cond.code m_214.2.1 m_214.2.2.1 m_214.2.2.2.1 m_214.2.2.2.2.1 ∈ v_tbl := v_pc6 (List.mem_of_getElem? (i := 25) rfl) rfl
theorem cw_215 : Cond.code m_215.2.1 m_215.2.2.1 m_215.2.2.2.1 m_215.2.2.2.2.1 ∈ v_tbl := v_pc6 (List.mem_of_getElem? (i := 29) rfl) rfl
theorem cw_216 : Cond.code m_216.2.1 m_216.2.2.1 m_216.2.2.2.1 m_216.2.2.2.2.1 ∈ v_tbl := v_pc6 (List.mem_of_getElem? (i := 33) rfl) rfl
theorem cw_217 : Cond.code m_217.2.1 m_217.2.2.1 m_217.2.2.2.1 m_217.2.2.2.2.1 ∈ v_tbl := v_pc6 (List.mem_of_getElem? (i := 41) rfl) rfl
theorem cw_218 : Cond.code m_218.2.1 m_218.2.2.1 m_218.2.2.2.1 m_218.2.2.2.2.1 ∈ v_tbl := v_pc6 (List.mem_of_getElem? (i := 37) rfl) rfl
theorem cw_219 : Cond.code m_219.2.1 m_219.2.2.1 m_219.2.2.2.1 m_219.2.2.2.2.1 ∈ v_tbl := v_pc6 (List.mem_of_getElem? (i := 53) rfl) rfl
theorem cw_220 : Cond.code m_220.2.1 m_220.2.2.1 m_220.2.2.2.1 m_220.2.2.2.2.1 ∈ v_tbl := v_pc6 (List.mem_of_getElem? (i := 60) rfl) rfl
theorem cw_221 : Cond.code m_221.2.1 m_221.2.2.1 m_221.2.2.2.1 m_221.2.2.2.2.1 ∈ v_tbl := v_pc6 (List.mem_of_getElem? (i := 68) rfl) rfl
theorem cw_222 : Cond.code m_222.2.1 m_222.2.2.1 m_222.2.2.2.1 m_222.2.2.2.2.1 ∈ v_tbl := v_pc6 (List.mem_of_getElem? (i := 64) rfl) rfl
theorem cw_223 : Cond.code m_223.2.1 m_223.2.2.1 m_223.2.2.2.1 m_223.2.2.2.2.1 ∈ v_tbl := v_pc6 (List.mem_of_getElem? (i := 72) rfl) rfl
theorem cw_224 : Cond.code m_224.2.1 m_224.2.2.1 m_224.2.2.2.1 m_224.2.2.2.2.1 ∈ v_tbl := v_pc6 (List.mem_of_getElem? (i := 80) rfl) rfl
theorem cw_225 : Cond.code m_225.2.1 m_225.2.2.1 m_225.2.2.2.1 m_225.2.2.2.2.1 ∈ v_tbl := v_pc6 (List.mem_of_getElem? (i := 76) rfl) rfl
theorem cw_226 : Cond.code m_226.2.1 m_226.2.2.1 m_226.2.2.2.1 m_226.2.2.2.2.1 ∈ v_tbl := v_pc6 (List.mem_of_getElem? (i := 88) rfl) rfl
theorem cw_227 : Cond.code m_227.2.1 m_227.2.2.1 m_227.2.2.2.1 m_227.2.2.2.2.1 ∈ v_tbl := v_pc6 (List.mem_of_getElem? (i := 95) rfl) rfl
theorem cw_228 : Cond.code m_228.2.1 m_228.2.2.1 m_228.2.2.2.1 m_228.2.2.2.2.1 ∈ v_tbl := v_pc6 (List.mem_of_getElem? (i := 84) rfl) rfl
theorem cw_229 : Cond.code m_229.2.1 m_229.2.2.1 m_229.2.2.2.1 m_229.2.2.2.2.1 ∈ v_tbl := v_pc6 (List.mem_of_getElem? (i := 99) rfl) rfl
theorem cw_230 : Cond.code m_230.2.1 m_230.2.2.1 m_230.2.2.2.1 m_230.2.2.2.2.1 ∈ v_tbl := v_pc6 (List.mem_of_getElem? (i := 111) rfl) rfl
theorem cw_231 : Cond.code m_231.2.1 m_231.2.2.1 m_231.2.2.2.1 m_231.2.2.2.2.1 ∈ v_tbl := v_pc6 (List.mem_of_getElem? (i := 107) rfl) rfl
theorem cw_232 : Cond.code m_232.2.1 m_232.2.2.1 m_232.2.2.2.1 m_232.2.2.2.2.1 ∈ v_tbl := v_pc6 (List.mem_of_getElem? (i := 103) rfl) rfl
theorem cw_233 : Cond.code m_233.2.1 m_233.2.2.1 m_233.2.2.2.1 m_233.2.2.2.2.1 ∈ v_tbl := v_pc6 (List.mem_of_getElem? (i := 115) rfl) rfl
theorem cw_234 : Cond.code m_234.2.1 m_234.2.2.1 m_234.2.2.2.1 m_234.2.2.2.2.1 ∈ v_tbl := v_pc6 (List.mem_of_getElem? (i := 119) rfl) rfl
theorem cw_235 : Cond.code m_235.2.1 m_235.2.2.1 m_235.2.2.2.1 m_235.2.2.2.2.1 ∈ v_tbl := v_pc6 (List.mem_of_getElem? (i := 127) rfl) rfl
theorem cw_236 : Cond.code m_236.2.1 m_236.2.2.1 m_236.2.2.2.1 m_236.2.2.2.2.1 ∈ v_tbl := v_pc6 (List.mem_of_getElem? (i := 123) rfl) rfl
theorem cw_237 : Cond.code m_237.2.1 m_237.2.2.1 m_237.2.2.2.1 m_237.2.2.2.2.1 ∈ v_tbl := v_pc6 (List.mem_of_getElem? (i := 159) rfl) rfl
theorem cw_238 : Cond.code m_238.2.1 m_238.2.2.1 m_238.2.2.2.1 m_238.2.2.2.2.1 ∈ v_tbl := v_pc6 (List.mem_of_getElem? (i := 155) rfl) rfl
theorem cw_239 : Cond.code m_239.2.1 m_239.2.2.1 m_239.2.2.2.1 m_239.2.2.2.2.1 ∈ v_tbl := v_pc6 (List.mem_of_getElem? (i := 143) rfl) rfl
theorem cw_240 : Cond.code m_240.2.1 m_240.2.2.1 m_240.2.2.2.1 m_240.2.2.2.2.1 ∈ v_tbl := v_pc6 (List.mem_of_getElem? (i := 135) rfl) rfl
theorem cw_241 : Cond.code m_241.2.1 m_241.2.2.1 m_241.2.2.2.1 m_241.2.2.2.2.1 ∈ v_tbl := v_pc6 (List.mem_of_getElem? (i := 171) rfl) rfl
theorem cw_242 : Cond.code m_242.2.1 m_242.2.2.1 m_242.2.2.2.1 m_242.2.2.2.2.1 ∈ v_tbl := v_pc6 (List.mem_of_getElem? (i := 167) rfl) rfl
theorem cw_243 : Cond.code m_243.2.1 m_243.2.2.1 m_243.2.2.2.1 m_243.2.2.2.2.1 ∈ v_tbl := v_pc6 (List.mem_of_getElem? (i := 163) rfl) rfl
theorem cw_244 : Cond.code m_244.2.1 m_244.2.2.1 m_244.2.2.2.1 m_244.2.2.2.2.1 ∈ v_tbl := v_pc6 (List.mem_of_getElem? (i := 203) rfl) rfl
theorem cw_245 : Cond.code m_245.2.1 m_245.2.2.1 m_245.2.2.2.1 m_245.2.2.2.2.1 ∈ v_tbl := v_pc6 (List.mem_of_getElem? (i := 207) rfl) rfl
theorem cw_246 : Cond.code m_246.2.1 m_246.2.2.1 m_246.2.2.2.1 m_246.2.2.2.2.1 ∈ v_tbl := v_pc6 (List.mem_of_getElem? (i := 199) rfl) rfl
theorem cw_247 : Cond.code m_247.2.1 m_247.2.2.1 m_247.2.2.2.1 m_247.2.2.2.2.1 ∈ v_tbl := v_pc6 (List.mem_of_getElem? (i := 180) rfl) rfl
theorem cw_248 : Cond.code m_248.2.1 m_248.2.2.1 m_248.2.2.2.1 m_248.2.2.2.2.1 ∈ v_tbl := v_pc6 (List.mem_of_getElem? (i := 176) rfl) rfl
theorem cw_249 : Cond.code m_249.2.1 m_249.2.2.1 m_249.2.2.2.1 m_249.2.2.2.2.1 ∈ v_tbl := v_pc6 (List.mem_of_getElem? (i := 211) rfl) rfl
theorem cw_250 : Cond.code m_250.2.1 m_250.2.2.1 m_250.2.2.2.1 m_250.2.2.2.2.1 ∈ v_tbl := v_pc6 (List.mem_of_getElem? (i := 215) rfl) rfl
theorem cw_251 : Cond.code m_251.2.1 m_251.2.2.1 m_251.2.2.2.1 m_251.2.2.2.2.1 ∈ v_tbl := v_pc6 (List.mem_of_getElem? (i := 219) rfl) rfl
theorem cw_252 : Cond.code m_252.2.1 m_252.2.2.1 m_252.2.2.2.1 m_252.2.2.2.2.1 ∈ v_tbl := v_pc6 (List.mem_of_getElem? (i := 231) rfl) rfl
theorem cw_253 : Cond.code m_253.2.1 m_253.2.2.1 m_253.2.2.2.1 m_253.2.2.2.2.1 ∈ v_tbl := v_pc7 (List.mem_of_getElem? (i := 2) rfl) rfl
theorem cw_254 : Cond.code m_254.2.1 m_254.2.2.1 m_254.2.2.2.1 m_254.2.2.2.2.1 ∈ v_tbl := v_pc6 (List.mem_of_getElem? (i := 239) rfl) rfl
theorem cw_255 : Cond.code m_255.2.1 m_255.2.2.1 m_255.2.2.2.1 m_255.2.2.2.2.1 ∈ v_tbl := v_pc6 (List.mem_of_getElem? (i := 235) rfl) rfl
theorem cw_256 : Cond.code m_256.2.1 m_256.2.2.1 m_256.2.2.2.1 m_256.2.2.2.2.1 ∈ v_tbl := v_pc7 (List.mem_of_getElem? (i := 6) rfl) rfl
theorem cw_257 : Cond.code m_257.2.1 m_257.2.2.1 m_257.2.2.2.1 m_257.2.2.2.2.1 ∈ v_tbl := v_pc6 (List.mem_of_getElem? (i := 223) rfl) rfl
theorem cw_258 : Cond.code m_258.2.1 m_258.2.2.1 m_258.2.2.2.1 m_258.2.2.2.2.1 ∈ v_tbl := v_pc7 (List.mem_of_getElem? (i := 11) rfl) rfl
theorem cw_259 : Cond.code m_259.2.1 m_259.2.2.1 m_259.2.2.2.1 m_259.2.2.2.2.1 ∈ v_tbl := v_pc7 (List.mem_of_getElem? (i := 15) rfl) rfl
theorem cw_260 : Cond.code m_260.2.1 m_260.2.2.1 m_260.2.2.2.1 m_260.2.2.2.2.1 ∈ v_tbl := v_pc7 (List.mem_of_getElem? (i := 19) rfl) rfl
theorem cw_261 : Cond.code m_261.2.1 m_261.2.2.1 m_261.2.2.2.1 m_261.2.2.2.2.1 ∈ v_tbl := v_pc7 (List.mem_of_getElem? (i := 23) rfl) rfl
theorem cw_262 : Cond.code m_262.2.1 m_262.2.2.1 m_262.2.2.2.1 m_262.2.2.2.2.1 ∈ v_tbl := v_pc7 (List.mem_of_getElem? (i := 27) rfl) rfl
theorem cw_263 : Cond.code m_263.2.1 m_263.2.2.1 m_263.2.2.2.1 m_263.2.2.2.2.1 ∈ v_tbl := v_pc7 (List.mem_of_getElem? (i := 34) rfl) rfl
theorem cw_264 : Cond.code m_264.2.1 m_264.2.2.1 m_264.2.2.2.1 m_264.2.2.2.2.1 ∈ v_tbl := v_pc7 (List.mem_of_getElem? (i := 31) rfl) rfl
theorem cw_265 : Cond.code m_265.2.1 m_265.2.2.1 m_265.2.2.2.1 m_265.2.2.2.2.1 ∈ v_tbl := v_pc7 (List.mem_of_getElem? (i := 38) rfl) rfl
theorem cw_266 : Cond.code m_266.2.1 m_266.2.2.1 m_266.2.2.2.1 m_266.2.2.2.2.1 ∈ v_tbl := v_pc7 (List.mem_of_getElem? (i := 42) rfl) rfl
theorem cw_267 : Cond.code m_267.2.1 m_267.2.2.1 m_267.2.2.2.1 m_267.2.2.2.2.1 ∈ v_tbl := v_pc7 (List.mem_of_getElem? (i := 46) rfl) rfl
theorem cw_268 : Cond.code m_268.2.1 m_268.2.2.1 m_268.2.2.2.1 m_268.2.2.2.2.1 ∈ v_tbl := v_pc7 (List.mem_of_getElem? (i := 54) rfl) rfl
theorem cw_269 : Cond.code m_269.2.1 m_269.2.2.1 m_269.2.2.2.1 m_269.2.2.2.2.1 ∈ v_tbl := v_pc7 (List.mem_of_getElem? (i := 63) rfl) rfl
theorem cw_270 : Cond.code m_270.2.1 m_270.2.2.1 m_270.2.2.2.1 m_270.2.2.2.2.1 ∈ v_tbl := v_pc7 (List.mem_of_getElem? (i := 58) rfl) rfl
theorem cw_271 : Cond.code m_271.2.1 m_271.2.2.1 m_271.2.2.2.1 m_271.2.2.2.2.1 ∈ v_tbl := v_pc7 (List.mem_of_getElem? (i := 50) rfl) rfl
theorem cw_272 : Cond.code m_272.2.1 m_272.2.2.1 m_272.2.2.2.1 m_272.2.2.2.2.1 ∈ v_tbl := v_pc7 (List.mem_of_getElem? (i := 67) rfl) rfl
theorem cw_273 : Cond.code m_273.2.1 m_273.2.2.1 m_273.2.2.2.1 m_273.2.2.2.2.1 ∈ v_tbl := v_pc7 (List.mem_of_getElem? (i := 78) rfl) rfl
theorem cw_274 : Cond.code m_274.2.1 m_274.2.2.1 m_274.2.2.2.1 m_274.2.2.2.2.1 ∈ v_tbl := v_pc7 (List.mem_of_getElem? (i := 75) rfl) rfl
theorem cw_275 : Cond.code m_275.2.1 m_275.2.2.1 m_275.2.2.2.1 m_275.2.2.2.2.1 ∈ v_tbl := v_pc7 (List.mem_of_getElem? (i := 71) rfl) rfl
theorem cw_276 : Cond.code m_276.2.1 m_276.2.2.1 m_276.2.2.2.1 m_276.2.2.2.2.1 ∈ v_tbl := v_pc7 (List.mem_of_getElem? (i := 82) rfl) rfl
theorem cw_277 : Cond.code m_277.2.1 m_277.2.2.1 m_277.2.2.2.1 m_277.2.2.2.2.1 ∈ v_tbl := v_pc7 (List.mem_of_getElem? (i := 90) rfl) rfl
theorem cw_278 : Cond.code m_278.2.1 m_278.2.2.1 m_278.2.2.2.1 m_278.2.2.2.2.1 ∈ v_tbl := v_pc7 (List.mem_of_getElem? (i := 86) rfl) rfl
theorem cw_279 : Cond.code m_279.2.1 m_279.2.2.1 m_279.2.2.2.1 m_279.2.2.2.2.1 ∈ v_tbl := v_pc7 (List.mem_of_getElem? (i := 97) rfl) rfl
theorem cw_280 : Cond.code m_280.2.1 m_280.2.2.1 m_280.2.2.2.1 m_280.2.2.2.2.1 ∈ v_tbl := v_pc7 (List.mem_of_getElem? (i := 94) rfl) rfl
theorem cw_281 : Cond.code m_281.2.1 m_281.2.2.1 m_281.2.2.2.1 m_281.2.2.2.2.1 ∈ v_tbl := v_pc7 (List.mem_of_getElem? (i := 101) rfl) rfl
theorem cw_282 : Cond.code m_282.2.1 m_282.2.2.1 m_282.2.2.2.1 m_282.2.2.2.2.1 ∈ v_tbl := v_pc7 (List.mem_of_getElem? (i := 105) rfl) rfl
theorem cw_283 : Cond.code m_283.2.1 m_283.2.2.1 m_283.2.2.2.1 m_283.2.2.2.2.1 ∈ v_tbl := v_pc7 (List.mem_of_getElem? (i := 109) rfl) rfl
theorem cw_284 : Cond.code m_284.2.1 m_284.2.2.1 m_284.2.2.2.1 m_284.2.2.2.2.1 ∈ v_tbl := v_pc7 (List.mem_of_getElem? (i := 113) rfl) rfl
theorem cw_285 : Cond.code m_285.2.1 m_285.2.2.1 m_285.2.2.2.1 m_285.2.2.2.2.1 ∈ v_tbl := v_pc7 (List.mem_of_getElem? (i := 117) rfl) rfl
theorem cw_286 : Cond.code m_286.2.1 m_286.2.2.1 m_286.2.2.2.1 m_286.2.2.2.2.1 ∈ v_tbl := v_pc7 (List.mem_of_getElem? (i := 121) rfl) rfl
theorem cw_obj : Cond.code objectInit ⟨#[0xb1]⟩ 1 none ∈ v_tbl := v_pc1 (List.mem_of_getElem? (i := 21) (by first | rfl | decide +kernel)) rfl
theorem cw_max : Cond.code Lib.Math.max.name Lib.Math.max.code 2 (some .int) ∈ v_tbl := v_pc4 (List.mem_of_getElem? (i := 8) (by first | rfl | decide +kernel)) rfl
theorem cw_min : Cond.code Lib.Math.min.name Lib.Math.min.code 2 (some .int) ∈ v_tbl := v_pc3 (List.mem_of_getElem? (i := 109) (by first | rfl | decide +kernel)) rfl
theorem cw_minl : Cond.code Lib.MathLoose.min_long.x Lib.MathLoose.min_long.code 4 (some .long) ∈ v_tbl := v_pc5 (List.mem_of_getElem? (i := 76) (by first | rfl | decide +kernel)) rfl
theorem v_cc0 : ∀ m ∈ ([m_1, m_2, m_3, m_4, m_5, m_6, m_7, m_8, m_9, m_10, m_11, m_12, m_13, m_14, m_15, m_16, m_17, m_18, m_19, m_20, m_21, m_22, m_23, m_24] : List VM), Cond.code m.2.1 m.2.2.1 m.2.2.2.1 m.2.2.2.2.1 ∈ v_tbl := List.forall_mem_cons.mpr ⟨cw_1, List.forall_mem_cons.mpr ⟨cw_2, List.forall_mem_cons.mpr ⟨cw_3, List.forall_mem_cons.mpr ⟨cw_4, List.forall_mem_cons.mpr ⟨cw_5, List.forall_mem_cons.mpr ⟨cw_6, List.forall_mem_cons.mpr ⟨cw_7, List.forall_mem_cons.mpr ⟨cw_8, List.forall_mem_cons.mpr ⟨cw_9, List.forall_mem_cons.mpr ⟨cw_10, List.forall_mem_cons.mpr ⟨cw_11, List.forall_mem_cons.mpr ⟨cw_12, List.forall_mem_cons.mpr ⟨cw_13, List.forall_mem_cons.mpr ⟨cw_14, List.forall_mem_cons.mpr ⟨cw_15, List.forall_mem_cons.mpr ⟨cw_16, List.forall_mem_cons.mpr ⟨cw_17, List.forall_mem_cons.mpr ⟨cw_18, List.forall_mem_cons.mpr ⟨cw_19, List.forall_mem_cons.mpr ⟨cw_20, List.forall_mem_cons.mpr ⟨cw_21, List.forall_mem_cons.mpr ⟨cw_22, List.forall_mem_cons.mpr ⟨cw_23, List.forall_mem_cons.mpr ⟨cw_24, fun _ h => absurd h List.not_mem_nil⟩⟩⟩⟩⟩⟩⟩⟩⟩⟩⟩⟩⟩⟩⟩⟩⟩⟩⟩⟩⟩⟩⟩⟩
theorem v_cc1 : ∀ m ∈ ([m_25, m_26, m_27, m_28, m_29, m_30, m_31, m_32, m_33, m_34, m_35, m_36, m_37, m_38, m_39, m_40, m_41, m_42, m_43, m_44, m_45, m_46, m_47, m_48] : List VM), Cond.code m.2.1 m.2.2.1 m.2.2.2.1 m.2.2.2.2.1 ∈ v_tbl := List.forall_mem_cons.mpr ⟨cw_25, List.forall_mem_cons.mpr ⟨cw_26, List.forall_mem_cons.mpr ⟨cw_27, List.forall_mem_cons.mpr ⟨cw_28, List.forall_mem_cons.mpr ⟨cw_29, List.forall_mem_cons.mpr ⟨cw_30, List.forall_mem_cons.mpr ⟨cw_31, List.forall_mem_cons.mpr ⟨cw_32, List.forall_mem_cons.mpr ⟨cw_33, List.forall_mem_cons.mpr ⟨cw_34, List.forall_mem_cons.mpr ⟨cw_35, List.forall_mem_cons.mpr ⟨cw_36, List.forall_mem_cons.mpr ⟨cw_37, List.forall_mem_cons.mpr ⟨cw_38, List.forall_mem_cons.mpr ⟨cw_39, List.forall_mem_cons.mpr ⟨cw_40, List.forall_mem_cons.mpr ⟨cw_41, List.forall_mem_cons.mpr ⟨cw_42, List.forall_mem_cons.mpr ⟨cw_43, List.forall_mem_cons.mpr ⟨cw_44, List.forall_mem_cons.mpr ⟨cw_45, List.forall_mem_cons.mpr ⟨cw_46, List.forall_mem_cons.mpr ⟨cw_47, List.forall_mem_cons.mpr ⟨cw_48, fun _ h => absurd h List.not_mem_nil⟩⟩⟩⟩⟩⟩⟩⟩⟩⟩⟩⟩⟩⟩⟩⟩⟩⟩⟩⟩⟩⟩⟩⟩
theorem v_cc2 : ∀ m ∈ ([m_49, m_50, m_51, m_52, m_53, m_54, m_55, m_56, m_57, m_58, m_59, m_60, m_61, m_62, m_63, m_64, m_65, m_66, m_67, m_68, m_69, m_70, m_71, m_72] : List VM), Cond.code m.2.1 m.2.2.1 m.2.2.2.1 m.2.2.2.2.1 ∈ v_tbl := List.forall_mem_cons.mpr ⟨cw_49, List.forall_mem_cons.mpr ⟨cw_50, List.forall_mem_cons.mpr ⟨cw_51, List.forall_mem_cons.mpr ⟨cw_52, List.forall_mem_cons.mpr ⟨cw_53, List.forall_mem_cons.mpr ⟨cw_54, List.forall_mem_cons.mpr ⟨cw_55, List.forall_mem_cons.mpr ⟨cw_56, List.forall_mem_cons.mpr ⟨cw_57, List.forall_mem_cons.mpr ⟨cw_58, List.forall_mem_cons.mpr ⟨cw_59, List.forall_mem_cons.mpr ⟨cw_60, List.forall_mem_cons.mpr ⟨cw_61, List.forall_mem_cons.mpr ⟨cw_62, List.forall_mem_cons.mpr ⟨cw_63, List.forall_mem_cons.mpr ⟨cw_64, List.forall_mem_cons.mpr ⟨cw_65, List.forall_mem_cons.mpr ⟨cw_66, List.forall_mem_cons.mpr ⟨cw_67, List.forall_mem_cons.mpr ⟨cw_68, List.forall_mem_cons.mpr ⟨cw_69, List.forall_mem_cons.mpr ⟨cw_70, List.forall_mem_cons.mpr ⟨cw_71, List.forall_mem_cons.mpr ⟨cw_72, fun _ h => absurd h List.not_mem_nil⟩⟩⟩⟩⟩⟩⟩⟩⟩⟩⟩⟩⟩⟩⟩⟩⟩⟩⟩⟩⟩⟩⟩⟩
theorem v_cc3 : ∀ m ∈ ([m_73, m_74, m_75, m_76, m_77, m_78, m_79, m_80, m_81, m_82, m_83, m_84, m_85, m_86, m_87, m_88, m_89, m_90, m_91, m_92, m_93, m_94, m_95, m_96] : List VM), Cond.code m.2.1 m.2.2.1 m.2.2.2.1 m.2.2.2.2.1 ∈ v_tbl := List.forall_mem_cons.mpr ⟨cw_73, List.forall_mem_cons.mpr ⟨cw_74, List.forall_mem_cons.mpr ⟨cw_75, List.forall_mem_cons.mpr ⟨cw_76, List.forall_mem_cons.mpr ⟨cw_77, List.forall_mem_cons.mpr ⟨cw_78, List.forall_mem_cons.mpr ⟨cw_79, List.forall_mem_cons.mpr ⟨cw_80, List.forall_mem_cons.mpr ⟨cw_81, List.forall_mem_cons.mpr ⟨cw_82, List.forall_mem_cons.mpr ⟨cw_83, List.forall_mem_cons.mpr ⟨cw_84, List.forall_mem_cons.mpr ⟨cw_85, List.forall_mem_cons.mpr ⟨cw_86, List.forall_mem_cons.mpr ⟨cw_87, List.forall_mem_cons.mpr ⟨cw_88, List.forall_mem_cons.mpr ⟨cw_89, List.forall_mem_cons.mpr ⟨cw_90, List.forall_mem_cons.mpr ⟨cw_91, List.forall_mem_cons.mpr ⟨cw_92, List.forall_mem_cons.mpr ⟨cw_93, List.forall_mem_cons.mpr ⟨cw_94, List.forall_mem_cons.mpr ⟨cw_95, List.forall_mem_cons.mpr ⟨cw_96, fun _ h => absurd h List.not_mem_nil⟩⟩⟩⟩⟩⟩⟩⟩⟩⟩⟩⟩⟩⟩⟩⟩⟩⟩⟩⟩⟩⟩⟩⟩
theorem v_cc4 : ∀ m ∈ ([m_97, m_98, m_99, m_100, m_101, m_102, m_103, m_104, m_105, m_106, m_107, m_108, m_109, m_110, m_111, m_112, m_113, m_114, m_115, m_116, m_117, m_118, m_119, m_120] : List VM), Cond.code m.2.1 m.2.2.1 m.2.2.2.1 m.2.2.2.2.1 ∈ v_tbl := List.forall_mem_cons.mpr ⟨cw_97, List.forall_mem_cons.mpr ⟨cw_98, List.forall_mem_cons.mpr ⟨cw_99, List.forall_mem_cons.mpr ⟨cw_100, List.forall_mem_cons.mpr ⟨cw_101, List.forall_mem_cons.mpr ⟨cw_102, List.forall_mem_cons.mpr ⟨cw_103, List.forall_mem_cons.mpr ⟨cw_104, List.forall_mem_cons.mpr ⟨cw_105, List.forall_mem_cons.mpr ⟨cw_106, List.forall_mem_cons.mpr ⟨cw_107, List.forall_mem_cons.mpr ⟨cw_108, List.forall_mem_cons.mpr ⟨cw_109, List.forall_mem_cons.mpr ⟨cw_110, List.forall_mem_cons.mpr ⟨cw_111, List.forall_mem_cons.mpr ⟨cw_112, List.forall_mem_cons.mpr ⟨cw_113, List.forall_mem_cons.mpr ⟨cw_114, List.forall_mem_cons.mpr ⟨cw_115, List.forall_mem_cons.mpr ⟨cw_116, List.forall_mem_cons.mpr ⟨cw_117, List.forall_mem_cons.mpr ⟨cw_118, List.forall_mem_cons.mpr ⟨cw_119, List.forall_mem_cons.mpr ⟨cw_120, fun _ h => absurd h List.not_mem_nil⟩⟩⟩⟩⟩⟩⟩⟩⟩⟩⟩⟩⟩⟩⟩⟩⟩⟩⟩⟩⟩⟩⟩⟩
theorem v_cc5 : ∀ m ∈ ([m_121, m_122, m_123, m_124, m_125, m_126, m_127, m_128, m_129, m_130, m_131, m_132, m_133, m_134, m_135, m_136, m_137, m_138, m_139, m_140, m_141, m_142, m_143, m_144] : List VM), Cond.code m.2.1 m.2.2.1 m.2.2.2.1 m.2.2.2.2.1 ∈ v_tbl := List.forall_mem_cons.mpr ⟨cw_121, List.forall_mem_cons.mpr ⟨cw_122, List.forall_mem_cons.mpr ⟨cw_123, List.forall_mem_cons.mpr ⟨cw_124, List.forall_mem_cons.mpr ⟨cw_125, List.forall_mem_cons.mpr ⟨cw_126, List.forall_mem_cons.mpr ⟨cw_127, List.forall_mem_cons.mpr ⟨cw_128, List.forall_mem_cons.mpr ⟨cw_129, List.forall_mem_cons.mpr ⟨cw_130, List.forall_mem_cons.mpr ⟨cw_131, List.forall_mem_cons.mpr ⟨cw_132, List.forall_mem_cons.mpr ⟨cw_133, List.forall_mem_cons.mpr ⟨cw_134, List.forall_mem_cons.mpr ⟨cw_135, List.forall_mem_cons.mpr ⟨cw_136, List.forall_mem_cons.mpr ⟨cw_137, List.forall_mem_cons.mpr ⟨cw_138, List.forall_mem_cons.mpr ⟨cw_139, List.forall_mem_cons.mpr ⟨cw_140, List.forall_mem_cons.mpr ⟨cw_141, List.forall_mem_cons.mpr ⟨cw_142, List.forall_mem_cons.mpr ⟨cw_143, List.forall_mem_cons.mpr ⟨cw_144, fun _ h => absurd h List.not_mem_nil⟩⟩⟩⟩⟩⟩⟩⟩⟩⟩⟩⟩⟩⟩⟩⟩⟩⟩⟩⟩⟩⟩⟩⟩
theorem v_cc6 : ∀ m ∈ ([m_145, m_146, m_147, m_148, m_149, m_150, m_151, m_152, m_153, m_154, m_155, m_156, m_157, m_158, m_159, m_160, m_161, m_162, m_163, m_164, m_165, m_166, m_167, m_168] : List VM), Cond.code m.2.1 m.2.2.1 m.2.2.2.1 m.2.2.2.2.1 ∈ v_tbl := List.forall_mem_cons.mpr ⟨cw_145, List.forall_mem_cons.mpr ⟨cw_146, List.forall_mem_cons.mpr ⟨cw_147, List.forall_mem_cons.mpr ⟨cw_148, List.forall_mem_cons.mpr ⟨cw_149, List.forall_mem_cons.mpr ⟨cw_150, List.forall_mem_cons.mpr ⟨cw_151, List.forall_mem_cons.mpr ⟨cw_152, List.forall_mem_cons.mpr ⟨cw_153, List.forall_mem_cons.mpr ⟨cw_154, List.forall_mem_cons.mpr ⟨cw_155, List.forall_mem_cons.mpr ⟨cw_156, List.forall_mem_cons.mpr ⟨cw_157, List.forall_mem_cons.mpr ⟨cw_158, List.forall_mem_cons.mpr ⟨cw_159, List.forall_mem_cons.mpr ⟨cw_160, List.forall_mem_cons.mpr ⟨cw_161, List.forall_mem_cons.mpr ⟨cw_162, List.forall_mem_cons.mpr ⟨cw_163, List.forall_mem_cons.mpr ⟨cw_164, List.forall_mem_cons.mpr ⟨cw_165, List.forall_mem_cons.mpr ⟨cw_166, List.forall_mem_cons.mpr ⟨cw_167, List.forall_mem_cons.mpr ⟨cw_168, fun _ h => absurd h List.not_mem_nil⟩⟩⟩⟩⟩⟩⟩⟩⟩⟩⟩⟩⟩⟩⟩⟩⟩⟩⟩⟩⟩⟩⟩⟩
theorem v_cc7 : ∀ m ∈ ([m_169, m_170, m_171, m_172, m_173, m_174, m_175, m_176, m_177, m_178, m_179, m_180, m_181, m_182, m_183, m_184, m_185, m_186, m_187, m_188, m_189, m_190, m_191, m_192] : List VM), Cond.code m.2.1 m.2.2.1 m.2.2.2.1 m.2.2.2.2.1 ∈ v_tbl := List.forall_mem_cons.mpr ⟨cw_169, List.forall_mem_cons.mpr ⟨cw_170, List.forall_mem_cons.mpr ⟨cw_171, List.forall_mem_cons.mpr ⟨cw_172, List.forall_mem_cons.mpr ⟨cw_173, List.forall_mem_cons.mpr ⟨cw_174, List.forall_mem_cons.mpr ⟨cw_175, List.forall_mem_cons.mpr ⟨cw_176, List.forall_mem_cons.mpr ⟨cw_177, List.forall_mem_cons.mpr ⟨cw_178, List.forall_mem_cons.mpr ⟨cw_179, List.forall_mem_cons.mpr ⟨cw_180, List.forall_mem_cons.mpr ⟨cw_181, List.forall_mem_cons.mpr ⟨cw_182, List.forall_mem_cons.mpr ⟨cw_183, List.forall_mem_cons.mpr ⟨cw_184, List.forall_mem_cons.mpr ⟨cw_185, List.forall_mem_cons.mpr ⟨cw_186, List.forall_mem_cons.mpr ⟨cw_187, List.forall_mem_cons.mpr ⟨cw_188, List.forall_mem_cons.mpr ⟨cw_189, List.forall_mem_cons.mpr ⟨cw_190, List.forall_mem_cons.mpr ⟨cw_191, List.forall_mem_cons.mpr ⟨cw_192, fun _ h => absurd h List.not_mem_nil⟩⟩⟩⟩⟩⟩⟩⟩⟩⟩⟩⟩⟩⟩⟩⟩⟩⟩⟩⟩⟩⟩⟩⟩
theorem v_cc8 : ∀ m ∈ ([m_193, m_194, m_195, m_196, m_197, m_198, m_199, m_200, m_201, m_202, m_203, m_204, m_205, m_206, m_207, m_208, m_209, m_210, m_211, m_212, m_213, m_214, m_215, m_216] : List VM), Cond.code m.2.1 m.2.2.1 m.2.2.2.1 m.2.2.2.2.1 ∈ v_tbl := List.forall_mem_cons.mpr ⟨cw_193, List.forall_mem_cons.mpr ⟨cw_194, List.forall_mem_cons.mpr ⟨cw_195, List.forall_mem_cons.mpr ⟨cw_196, List.forall_mem_cons.mpr ⟨cw_197, List.forall_mem_cons.mpr ⟨cw_198, List.forall_mem_cons.mpr ⟨cw_199, List.forall_mem_cons.mpr ⟨cw_200, List.forall_mem_cons.mpr ⟨cw_201, List.forall_mem_cons.mpr ⟨cw_202, List.forall_mem_cons.mpr ⟨cw_203, List.forall_mem_cons.mpr ⟨cw_204, List.forall_mem_cons.mpr ⟨cw_205, List.forall_mem_cons.mpr ⟨cw_206, List.forall_mem_cons.mpr ⟨cw_207, List.forall_mem_cons.mpr ⟨cw_208, List.forall_mem_cons.mpr ⟨cw_209, List.forall_mem_cons.mpr ⟨cw_210, List.forall_mem_cons.mpr ⟨cw_211, List.forall_mem_cons.mpr ⟨cw_212, List.forall_mem_cons.mpr ⟨cw_213, List.forall_mem_cons.mpr ⟨cw_214, List.forall_mem_cons.mpr ⟨cw_215, List.forall_mem_cons.mpr ⟨cw_216, fun _ h => absurd h List.not_mem_nil⟩⟩⟩⟩⟩⟩⟩⟩⟩⟩⟩⟩⟩⟩⟩⟩⟩⟩⟩⟩⟩⟩⟩⟩
theorem v_cc9 : ∀ m ∈ ([m_217, m_218, m_219, m_220, m_221, m_222, m_223, m_224, m_225, m_226, m_227, m_228, m_229, m_230, m_231, m_232, m_233, m_234, m_235, m_236, m_237, m_238, m_239, m_240] : List VM), Cond.code m.2.1 m.2.2.1 m.2.2.2.1 m.2.2.2.2.1 ∈ v_tbl := List.forall_mem_cons.mpr ⟨cw_217, List.forall_mem_cons.mpr ⟨cw_218, List.forall_mem_cons.mpr ⟨cw_219, List.forall_mem_cons.mpr ⟨cw_220, List.forall_mem_cons.mpr ⟨cw_221, List.forall_mem_cons.mpr ⟨cw_222, List.forall_mem_cons.mpr ⟨cw_223, List.forall_mem_cons.mpr ⟨cw_224, List.forall_mem_cons.mpr ⟨cw_225, List.forall_mem_cons.mpr ⟨cw_226, List.forall_mem_cons.mpr ⟨cw_227, List.forall_mem_cons.mpr ⟨cw_228, List.forall_mem_cons.mpr ⟨cw_229, List.forall_mem_cons.mpr ⟨cw_230, List.forall_mem_cons.mpr ⟨cw_231, List.forall_mem_cons.mpr ⟨cw_232, List.forall_mem_cons.mpr ⟨cw_233, List.forall_mem_cons.mpr ⟨cw_234, List.forall_mem_cons.mpr ⟨cw_235, List.forall_mem_cons.mpr ⟨cw_236, List.forall_mem_cons.mpr ⟨cw_237, List.forall_mem_cons.mpr ⟨cw_238, List.forall_mem_cons.mpr ⟨cw_239, List.forall_mem_cons.mpr ⟨cw_240, fun _ h => absurd h List.not_mem_nil⟩⟩⟩⟩⟩⟩⟩⟩⟩⟩⟩⟩⟩⟩⟩⟩⟩⟩⟩⟩⟩⟩⟩⟩
theorem v_cc10 : ∀ m ∈ ([m_241, m_242, m_243, m_244, m_245, m_246, m_247, m_248, m_249, m_250, m_251, m_252, m_253, m_254, m_255, m_256, m_257, m_258, m_259, m_260, m_261, m_262, m_263, m_264] : List VM), Cond.code m.2.1 m.2.2.1 m.2.2.2.1 m.2.2.2.2.1 ∈ v_tbl := List.forall_mem_cons.mpr ⟨cw_241, List.forall_mem_cons.mpr ⟨cw_242, List.forall_mem_cons.mpr ⟨cw_243, List.forall_mem_cons.mpr ⟨cw_244, List.forall_mem_cons.mpr ⟨cw_245, List.forall_mem_cons.mpr ⟨cw_246, List.forall_mem_cons.mpr ⟨cw_247, List.forall_mem_cons.mpr ⟨cw_248, List.forall_mem_cons.mpr ⟨cw_249, List.forall_mem_cons.mpr ⟨cw_250, List.forall_mem_cons.mpr ⟨cw_251, List.forall_mem_cons.mpr ⟨cw_252, List.forall_mem_cons.mpr ⟨cw_253, List.forall_mem_cons.mpr ⟨cw_254, List.forall_mem_cons.mpr ⟨cw_255, List.forall_mem_cons.mpr ⟨cw_256, List.forall_mem_cons.mpr ⟨cw_257, List.forall_mem_cons.mpr ⟨cw_258, List.forall_mem_cons.mpr ⟨cw_259, List.forall_mem_cons.mpr ⟨cw_260, List.forall_mem_cons.mpr ⟨cw_261, List.forall_mem_cons.mpr ⟨cw_262, List.forall_mem_cons.mpr ⟨cw_263, List.forall_mem_cons.mpr ⟨cw_264, fun _ h => absurd h List.not_mem_nil⟩⟩⟩⟩⟩⟩⟩⟩⟩⟩⟩⟩⟩⟩⟩⟩⟩⟩⟩⟩⟩⟩⟩⟩
theorem v_cc11 : ∀ m ∈ ([m_265, m_266, m_267, m_268, m_269, m_270, m_271, m_272, m_273, m_274, m_275, m_276, m_277, m_278, m_279, m_280, m_281, m_282, m_283, m_284, m_285, m_286] : List VM), Cond.code m.2.1 m.2.2.1 m.2.2.2.1 m.2.2.2.2.1 ∈ v_tbl := List.forall_mem_cons.mpr ⟨cw_265, List.forall_mem_cons.mpr ⟨cw_266, List.forall_mem_cons.mpr ⟨cw_267, List.forall_mem_cons.mpr ⟨cw_268, List.forall_mem_cons.mpr ⟨cw_269, List.forall_mem_cons.mpr ⟨cw_270, List.forall_mem_cons.mpr ⟨cw_271, List.forall_mem_cons.mpr ⟨cw_272, List.forall_mem_cons.mpr ⟨cw_273, List.forall_mem_cons.mpr ⟨cw_274, List.forall_mem_cons.mpr ⟨cw_275, List.forall_mem_cons.mpr ⟨cw_276, List.forall_mem_cons.mpr ⟨cw_277, List.forall_mem_cons.mpr ⟨cw_278, List.forall_mem_cons.mpr ⟨cw_279, List.forall_mem_cons.mpr ⟨cw_280, List.forall_mem_cons.mpr ⟨cw_281, List.forall_mem_cons.mpr ⟨cw_282, List.forall_mem_cons.mpr ⟨cw_283, List.forall_mem_cons.mpr ⟨cw_284, List.forall_mem_cons.mpr ⟨cw_285, List.forall_mem_cons.mpr ⟨cw_286, fun _ h => absurd h List.not_mem_nil⟩⟩⟩⟩⟩⟩⟩⟩⟩⟩⟩⟩⟩⟩⟩⟩⟩⟩⟩⟩⟩⟩
theorem v_codes : ∀ m ∈ v_ms.drop 1, Cond.code m.2.1 m.2.2.1 m.2.2.2.1 m.2.2.2.2.1 ∈ v_tbl := v_app2 v_cc0 (v_app2 v_cc1 (v_app2 v_cc2 (v_app2 v_cc3 (v_app2 v_cc4 (v_app2 v_cc5 (v_app2 v_cc6 (v_app2 v_cc7 (v_app2 v_cc8 (v_app2 v_cc9 (v_app2 v_cc10 (v_cc11)))))))))))
end
section
/-! ===== the virtual heap beside the machine's ===== -/
def v_enc (ρ : VA → Nat) : VV → Value
  | .inl x => .int x
  | .inr (.inl x) => .long x
  | .inr (.inr a) => if a.1 = 0 then .null else .ref (ρ a)
/-- what is fixed in a run: the classes' numbers, the script's cell, its length, its ints, where the new cells begin -/
abbrev VC : Type := va_G × Nat × Nat × (Nat → Int32) × Nat
def v_cA (G : VC) (V : VH) (a : VA) : Prop := a.1 = 0 ∨ a = (60, G.2.2.1, 0) ∨ V.2.2.2.1 a = true
def v_clo (G : VC) (V : VH) : VV → Prop
  | .inl _ => True
  | .inr (.inl _) => True
  | .inr (.inr a) => v_cA G V a
def v_ety (k : Nat) : FieldType := match k with
  | 11 => .int
  | 12 => .boolean
  | 13 => .long
  | 14 => .object RX3
  | 15 => .object RX2
  | _ => .object RX7
def v_rq (ρ : VA → Nat) (a : VA) : Option Nat := if a.1 = 0 then none else some (ρ a)
def v_F (ρ : VA → Nat) (V : VH) (a : VA) (j : Nat) : Value := if v_fty (v_kind a) j = 1 then v_enc ρ (.inr (.inr (V.2.1 a j))) else .int (V.1 a j)
def v_E (ρ : VA → Nat) (V : VH) (cA : ClassId) (a : VA) : va_E :=
  if v_kind a < 11 then .inr (v_kind a, (List.range (v_nf (v_kind a))).map (v_F ρ V a))
  else if v_kind a = 13 then .inl (cA, v_len a, .inr (.inl (V.2.2.1 a)))
  else if v_kind a < 13 then .inl (cA, v_len a, .inl (V.1 a))
  else .inl (cA, v_len a, .inr (.inr (.inr (.inr (fun j => v_rq ρ (V.2.1 a j))))))
def v_KA (s : State) (cA : ClassId) (a : VA) : Prop := 11 ≤ v_kind a → ArrOfT s cA (v_ety (v_kind a)) ∧ va_RA s cA (v_ety (v_kind a))
def v_Rl (G : VC) (ρ : VA → Nat) (V : VH) (ws : va_W) (s : State) (H : Heap) : Prop :=
  va_P G.1 vcl ws H ∧ va_D (fun q => G.2.2.2.2 ≤ q) ws ∧ va_K G.1 vcl [] s ∧
  (∀ a, V.2.2.2.1 a = true → a.1 ≠ 0 ∧ v_kind a ≤ 16 ∧ ∃ (k : Nat) (cA : ClassId), ws[k]? = some (ρ a, v_E ρ V cA a) ∧ v_KA s cA a) ∧
  (∀ a a', V.2.2.2.1 a = true → V.2.2.2.1 a' = true → ρ a = ρ a' → a = a') ∧
  (∀ a j, V.2.2.2.1 a = true → v_cA G V (V.2.1 a j)) ∧
  ρ (60, G.2.2.1, 0) = G.2.1 ∧ ∀ j, j < G.2.2.1 → V.1 (60, G.2.2.1, 0) j = G.2.2.2.1 j
theorem v_E_congr {ρ ρ' : VA → Nat} {V V' : VH} {cA : ClassId} {a : VA} (h1 : V'.1 a = V.1 a) (h2 : V'.2.1 a = V.2.1 a) (h3 : V'.2.2.1 a = V.2.2.1 a) (hr : ∀ j, (V.2.1 a j).1 = 0 ∨ ρ' (V.2.1 a j) = ρ (V.2.1 a j)) : v_E ρ' V' cA a = v_E ρ V cA a := by
  have e1 : v_F ρ' V' a = v_F ρ V a := by
    funext j
    unfold v_F
    rw [h1, h2]
    by_cases hc : v_fty (v_kind a) j = 1
    · simp only [hc, if_true]
      unfold v_enc
      rcases hr j with h | h
      · simp [h]
      · simp [h]
    · simp only [hc, if_false]
  have e2 : (fun j => v_rq ρ' (V'.2.1 a j)) = fun j => v_rq ρ (V.2.1 a j) := by
    funext j
    rw [h2]
    unfold v_rq
    rcases hr j with h | h
    · simp [h]
    · simp [h]
  unfold v_E
  rw [e1, e2, h1, h3]
theorem v_script_no {G : VC} {ρ : VA → Nat} {V : VH} {ws : va_W} {s : State} {H : Heap} (h : v_Rl G ρ V ws s H) {a : VA} (ha : V.2.2.2.1 a = true) : a ≠ (60, G.2.2.1, 0) := by
  intro e
  obtain ⟨-, hk, -⟩ := h.2.2.2.1 a ha
  rw [e] at hk
  exact absurd (show (17 : Nat) ≤ 16 from hk) (by decide)
/-- one cell's rows have changed -/
theorem v_Rl.upd {G : VC} {ρ : VA → Nat} {V V' : VH} {ws : va_W} {s : State} {H H1 : Heap} (h : v_Rl G ρ V ws s H) {a : VA} {k : Nat} {cA : ClassId} {e : va_E} (ha : V.2.2.2.1 a = true) (hk : ws[k]? = some (ρ a, v_E ρ V cA a)) (hK : v_KA s cA a) (he : e = v_E ρ V' cA a)
    (hP : va_P G.1 vcl (ws.set k (ρ a, e)) H1) (hD : va_D (fun q => G.2.2.2.2 ≤ q) (ws.set k (ρ a, e)))
    (h1 : ∀ b, b ≠ a → V'.1 b = V.1 b) (h2 : ∀ b, b ≠ a → V'.2.1 b = V.2.1 b) (h3 : ∀ b, b ≠ a → V'.2.2.1 b = V.2.2.1 b) (h4 : V'.2.2.2.1 = V.2.2.2.1) (hc : ∀ j, v_cA G V (V'.2.1 a j)) : v_Rl G ρ V' (ws.set k (ρ a, e)) s H1 := by
  subst he
  obtain ⟨g1, g2, g3, g4, g5, g6, g7, g8⟩ := id h
  have hcA : ∀ b, v_cA G V b → v_cA G V' b := fun b hb => by unfold v_cA at hb ⊢; rw [h4]; exact hb
  refine ⟨hP, hD, g3, fun b hb => ?_, fun b b' hb hb' => g5 b b' (by rw [← h4]; exact hb) (by rw [← h4]; exact hb'), fun b j hb => ?_, g7, fun j hj => ?_⟩
  · rw [h4] at hb
    obtain ⟨n0, nk, k', cB, hw, hKb⟩ := g4 b hb
    refine ⟨n0, nk, ?_⟩
    by_cases hba : b = a
    · subst hba
      refine ⟨k, cA, ?_, hK⟩
      have hl : k < ws.length := (List.getElem?_eq_some_iff.mp hk).1
      rw [List.getElem?_set_self hl]
    · refine ⟨k', cB, ?_, hKb⟩
      have hne : k ≠ k' := by
        intro hkk
        subst hkk
        rw [hk] at hw
        exact hba (g5 b a hb ha (congrArg Prod.fst (Option.some.inj hw)).symm)
      rw [List.getElem?_set_ne hne, hw, v_E_congr (h1 b hba) (h2 b hba) (h3 b hba) (fun j => Or.inr rfl)]
  · rw [h4] at hb
    by_cases hba : b = a
    · subst hba
      exact hcA _ (hc j)
    · rw [h2 b hba]
      exact hcA _ (g6 b j hb)
  · rw [h1 _ (fun e => v_script_no h ha e.symm)]
    exact g8 j hj
def v_ext (ρ : VA → Nat) (a : VA) (q : Nat) : VA → Nat := fun b => if b = a then q else ρ b
theorem v_ext_cA {G : VC} {ρ : VA → Nat} {V : VH} {a b : VA} {q : Nat} (hn : V.2.2.2.1 a = false) (hs : a ≠ (60, G.2.2.1, 0)) (hb : v_cA G V b) : b.1 = 0 ∨ v_ext ρ a q b = ρ b := by
  rcases hb with h | h | h
  · exact Or.inl h
  · subst h
    exact Or.inr (if_neg (fun e => hs e.symm))
  · refine Or.inr (if_neg (fun e => ?_))
    rw [e, hn] at h
    cases h
/-- a new cell -/
theorem v_Rl.new {G : VC} {ρ : VA → Nat} {V : VH} {ws : va_W} {s : State} {H H1 : Heap} (h : v_Rl G ρ V ws s H) {a : VA} {q n : Nat} {cA : ClassId} {e : va_E} (hn : V.2.2.2.1 a = false) (h0 : a.1 ≠ 0) (hk : v_kind a ≤ 16) (hK : v_KA s cA a) (he : e = v_E (v_ext ρ a q) (v_make V a n) cA a)
    (hP : va_P G.1 vcl (ws ++ [(q, e)]) H1) (hD : va_D (fun q => G.2.2.2.2 ≤ q) (ws ++ [(q, e)])) : v_Rl G (v_ext ρ a q) (v_make V a n) (ws ++ [(q, e)]) s H1 := by
  subst he
  obtain ⟨g1, g2, g3, g4, g5, g6, g7, g8⟩ := id h
  have hs : a ≠ (60, G.2.2.1, 0) := by
    intro e
    rw [e] at hk
    exact absurd (show (17 : Nat) ≤ 16 from hk) (by decide)
  have hal : ∀ b, (v_make V a n).2.2.2.1 b = true → b ≠ a → V.2.2.2.1 b = true := fun b hb hba => by
    have h9 : (if b = a then true else V.2.2.2.1 b) = true := hb
    rwa [if_neg hba] at h9
  have hcA : ∀ b, v_cA G V b → v_cA G (v_make V a n) b := fun b hb => by
    rcases hb with h | h | h
    · exact Or.inl h
    · exact Or.inr (Or.inl h)
    · refine Or.inr (Or.inr ?_)
      show (if b = a then true else V.2.2.2.1 b) = true
      split <;> first | rfl | exact h
  have hnew : (ws ++ [(q, v_E (v_ext ρ a q) (v_make V a n) cA a)])[ws.length]? = some (q, v_E (v_ext ρ a q) (v_make V a n) cA a) := by
    rw [List.getElem?_append_right (Nat.le_refl _)]; simp
  have hold : ∀ (k' : Nat) (x : Nat × va_E), ws[k']? = some x → (ws ++ [(q, v_E (v_ext ρ a q) (v_make V a n) cA a)])[k']? = some x := fun k' x hx => by
    rw [List.getElem?_append_left (List.getElem?_eq_some_iff.mp hx).1]; exact hx
  have hfar : ∀ b, V.2.2.2.1 b = true → ρ b ≠ q := fun b hb e => by
    obtain ⟨-, -, k', cB, hw, -⟩ := g4 b hb
    have h9 := hD.1 k' ws.length _ _ (hold k' _ hw) hnew e
    have h8 := (List.getElem?_eq_some_iff.mp hw).1
    omega
  have hρa : v_ext ρ a q a = q := if_pos rfl
  have hρ : ∀ b, b ≠ a → v_ext ρ a q b = ρ b := fun b hb => if_neg hb
  refine ⟨hP, hD, g3, fun b hb => ?_, fun b b' hb hb' => ?_, fun b j hb => ?_, ?_, fun j hj => ?_⟩
  · by_cases hba : b = a
    · subst hba
      exact ⟨h0, hk, ws.length, cA, by rw [hρa]; exact hnew, hK⟩
    · have hb' := hal b hb hba
      obtain ⟨n0, nk, k', cB, hw, hKb⟩ := g4 b hb'
      refine ⟨n0, nk, k', cB, ?_, hKb⟩
      rw [hold k' _ hw, hρ b hba, v_E_congr (ρ := ρ) (V := V) (if_neg hba) (if_neg hba) (if_neg hba) (fun j => v_ext_cA hn hs (g6 b j hb'))]
  · by_cases hba : b = a
    · by_cases hba' : b' = a
      · intro _; rw [hba, hba']
      · rw [hba, hρa, hρ b' hba']
        exact fun e => absurd e.symm (hfar b' (hal b' hb' hba'))
    · by_cases hba' : b' = a
      · rw [hba', hρa, hρ b hba]
        exact fun e => absurd e (hfar b (hal b hb hba))
      · rw [hρ b hba, hρ b' hba']
        exact g5 b b' (hal b hb hba) (hal b' hb' hba')
  · by_cases hba : b = a
    · subst hba
      refine Or.inl ?_
      show ((if b = b then fun _ => ((0, 0, 0) : VA) else V.2.1 b) j).1 = 0
      rw [if_pos rfl]
    · have h9 : (v_make V a n).2.1 b = V.2.1 b := if_neg hba
      rw [h9]
      exact hcA _ (g6 b j (hal b hb hba))
  · rw [hρ _ (fun e => hs e.symm)]; exact g7
  · have h9 : (v_make V a n).1 (60, G.2.2.1, 0) = V.1 (60, G.2.2.1, 0) := if_neg (fun e => hs e.symm)
    rw [h9]; exact g8 j hj
theorem v_enc_ext {G : VC} {ρ ρ' : VA → Nat} {V : VH} (hρ : ∀ a, V.2.2.2.1 a = true → ρ' a = ρ a) (hs : ρ' (60, G.2.2.1, 0) = ρ (60, G.2.2.1, 0)) {v : VV} (hv : v_clo G V v) : v_enc ρ' v = v_enc ρ v := by
  match v, hv with
  | .inl _, _ => rfl
  | .inr (.inl _), _ => rfl
  | .inr (.inr a), hv =>
    show (if a.1 = 0 then Value.null else .ref (ρ' a)) = if a.1 = 0 then .null else .ref (ρ a)
    rcases hv with h | h | h
    · rw [if_pos h, if_pos h]
    · rw [h, hs]
    · rw [hρ a h]
theorem v_map_ext {G : VC} {ρ ρ' : VA → Nat} {V : VH} (hρ : ∀ a, V.2.2.2.1 a = true → ρ' a = ρ a) (hs : ρ' (60, G.2.2.1, 0) = ρ (60, G.2.2.1, 0)) {st : List VV} (h : ∀ v ∈ st, v_clo G V v) : st.map (v_enc ρ') = st.map (v_enc ρ) := List.map_congr_left fun v hv => v_enc_ext hρ hs (h v hv)
theorem v_lv_ext {G : VC} {ρ ρ' : VA → Nat} {V : VH} (hρ : ∀ a, V.2.2.2.1 a = true → ρ' a = ρ a) (hs : ρ' (60, G.2.2.1, 0) = ρ (60, G.2.2.1, 0)) {lv : VL} (h : ∀ q ∈ lv, v_clo G V q.2) : lv.map (fun q => (q.1, v_enc ρ' q.2)) = lv.map (fun q => (q.1, v_enc ρ q.2)) := List.map_congr_left fun q hq => by rw [v_enc_ext hρ hs (h q hq)]
theorem v_clo_mono {G : VC} {V V' : VH} (h : ∀ a, V.2.2.2.1 a = true → V'.2.2.2.1 a = true) {v : VV} (hv : v_clo G V v) : v_clo G V' v := by
  match v, hv with
  | .inl _, _ => trivial
  | .inr (.inl _), _ => trivial
  | .inr (.inr a), hv =>
    rcases hv with h1 | h1 | h1
    · exact Or.inl h1
    · exact Or.inr (Or.inl h1)
    · exact Or.inr (Or.inr (h a h1))
theorem v_Rl.ref {G : VC} {ρ : VA → Nat} {V : VH} {ws : va_W} {s : State} {H : Heap} (_h : v_Rl G ρ V ws s H) {a : VA} (hc : v_cA G V a) (hk : v_kind a ≤ 16) : V.2.2.2.1 a = true ∧ v_enc ρ (.inr (.inr a)) = .ref (ρ a) := by
  rcases hc with h | h | h
  · have : v_kind a = 99 := by unfold v_kind; rw [h]; rfl
    omega
  · rw [h] at hk
    exact absurd (show (17 : Nat) ≤ 16 from hk) (by decide)
  · refine ⟨h, if_neg ?_⟩
    intro h0
    have : v_kind a = 99 := by unfold v_kind; rw [h0]; rfl
    omega
theorem v_Rl.moved {G : VC} {ρ : VA → Nat} {V : VH} {ws : va_W} {s t : State} {H : Heap} (hvm : s.vm.Alike t.vm) (h : v_Rl G ρ V ws s H) : v_Rl G ρ V ws t H := by
  obtain ⟨g1, g2, g3, g4, g5, g6, g7, g8⟩ := h
  refine ⟨g1, g2, va_K.moved hvm g3, fun a ha => ?_, g5, g6, g7, g8⟩
  obtain ⟨n0, nk, k, cA, hw, hK⟩ := g4 a ha
  exact ⟨n0, nk, k, cA, hw, fun h11 => ⟨arrOfT_moved hvm (hK h11).1, (hK h11).2.moved hvm⟩⟩
end
section
/-! ===== one step of the clean interpreter is steps of the machine ===== -/
/-- words that are carried apart: links of nest mates, arrays of objects -/
def v_Wd (s : State) : Prop := (∀ q ∈ v_nest, va_Nw (v_nw q) s) ∧ va_AO RX3 s ∧ va_AO RX2 s ∧ va_AO RX7 s
def v_CX (G : VC) (oi : Nat) (m : VM) (p : Program) (R : Room) (s : State) (mid : MethodId) (args : Array Value) (meth : Method) (c : Code) : Prop :=
  p.tables.exec = Jvm.exec ∧ c.code = m.2.2.1 ∧ c.maxLocals = m.2.2.2.1 ∧ s.vm.findClass (v_own oi) = some mid.cls ∧ (∀ w ∈ v_tbl, w.before args s = true) ∧ v_Wd s ∧ (m.2.1.name = "<init>" → meth.name = "<init>") ∧ m.2.2.2.2.2.1 ≤ R.frames ∧ m.2.2.2.2.2.2.1 ≤ R.locals ∧ G.2.2.2.2 ≤ s.heap.size ∧ va_X G.2.1 G.2.2.1 G.2.2.2.1 s s.heap ∧ G.2.1 < s.heap.size ∧ G.2.1 < G.2.2.2.2
def v_ST (G : VC) (m : VM) (s : State) (ρ : VA → Nat) (V : VH) (ws : va_W) (H : Heap) (locs : List Loc) (ls : Array Slot) (lv : VL) (st : List VV) : Prop :=
  v_Rl G ρ V ws s H ∧ lv_has ls m.2.2.2.1 (lv.map (fun q => (q.1, v_enc ρ q.2))) ∧ (∀ q ∈ lv, v_clo G V q.2) ∧ (∀ v ∈ st, v_clo G V v) ∧ va_S (fun q => G.2.2.2.2 ≤ q) s.heap H locs
def v_SP (i : Instr) : Prop := ∀ (p : Program) (l : Launch) (e : Env) (R : Room) (s : State) (mid : MethodId) (args : Array Value) (below : List Frame) (meth : Method) (c : Code) (Q : State → Prop) (G : VC) (oi : Nat) (m : VM) (len : Nat) (x : VX) (pc : Nat) (lv : VL) (st : List VV) (V : VH) (pc2 : Nat) (lv2 : VL) (st2 : List VV) (V2 : VH) (ρ : VA → Nat) (ws : va_W) (H : Heap) (locs : List Loc) (ls : Array Slot) (c0 s0 : Nat),
  v_CX G oi m p R s mid args meth c → decode m.2.2.1 pc = .ok (i, len) → v_okI oi m pc i len x = true → v_ST G m s ρ V ws H locs ls lv st → v_i i len x pc lv st V = some (.inl (pc2, lv2, st2, V2)) → c0 ≤ V.2.2.2.2.1 → s0 ≤ V.2.2.2.2.2 → V2.2.2.2.2.1 - c0 ≤ R.cells → V2.2.2.2.2.2 - s0 ≤ R.slots →
  (∀ (ρ2 : VA → Nat) (ws2 : va_W) (H2 : Heap) (locs2 : List Loc) (ls2 : Array Slot), v_ST G m s ρ2 V2 ws2 H2 locs2 ls2 lv2 st2 → (∀ a, V.2.2.2.1 a = true → ρ2 a = ρ a) → W p l e R s mid args below meth c H2 locs2 (V2.2.2.2.2.1 - c0) (V2.2.2.2.2.2 - s0) Q (F0 mid pc2 ls2 (st2.map (v_enc ρ2)))) →
  W p l e R s mid args below meth c H locs (V.2.2.2.2.1 - c0) (V.2.2.2.2.2 - s0) Q (F0 mid pc ls (st.map (v_enc ρ)))
theorem v_inj {a a' : Nat} {b b' : VL} {c c' : List VV} {d d' : VH} (h : (some (Sum.inl (a, b, c, d)) : Option VO) = some (.inl (a', b', c', d'))) : a = a' ∧ b = b' ∧ c = c' ∧ d = d' := by
  cases h
  exact ⟨rfl, rfl, rfl, rfl⟩
theorem v_okd {b : Bool} {o o' : VO} (h : v_ok b o = some o') : b = true ∧ some o = some o' := by
  cases b with
  | true => exact ⟨rfl, h⟩
  | false => cases h
theorem v_cs {P : VV → Prop} {x : VV} {r : List VV} (hx : P x) (hr : ∀ v ∈ r, P v) : ∀ v ∈ x :: r, P v := fun v hv => by
  rcases List.mem_cons.mp hv with rfl | h
  · exact hx
  · exact hr v h
theorem v_t1 {P : VV → Prop} {x : VV} {r : List VV} (h : ∀ v ∈ x :: r, P v) : ∀ v ∈ r, P v := fun v hv => h v (List.mem_cons_of_mem _ hv)
theorem v_t2 {P : VV → Prop} {x y : VV} {r : List VV} (h : ∀ v ∈ x :: y :: r, P v) : ∀ v ∈ r, P v := v_t1 (v_t1 h)
theorem v_get_mem {lv : VL} {i : Nat} {v : VV} (h : v_get lv i = some v) : (i, v) ∈ lv := by
  induction lv with
  | nil => cases h
  | cons q l ih =>
    obtain ⟨j, w⟩ := q
    unfold v_get at h
    split at h
    · rename_i hj
      cases h
      rw [beq_iff_eq] at hj
      subst hj
      exact List.mem_cons_self
    · exact List.mem_cons_of_mem _ (ih h)
theorem v_get_at {ls : Array Slot} {n : Nat} {ρ : VA → Nat} {lv : VL} {i : Nat} {v : VV} (hl : lv_has ls n (lv.map (fun q => (q.1, v_enc ρ q.2)))) (h : v_get lv i = some v) : ls[i]? = some (.val (v_enc ρ v)) := hl.2.2 (i, v_enc ρ v) (List.mem_map.mpr ⟨(i, v), v_get_mem h, rfl⟩)
theorem v_enc_cat (ρ : VA → Nat) (v : VV) : (v_enc ρ v).category = v_cat v := by
  match v with
  | .inl _ => rfl
  | .inr (.inl _) => rfl
  | .inr (.inr a) =>
    show (if a.1 = 0 then Value.null else .ref (ρ a)).category = 1
    split <;> rfl
theorem v_put1_map (ρ : VA → Nat) (lv : VL) (i : Nat) (v : VV) : (i, v_enc ρ v) :: (lv.map (fun q => (q.1, v_enc ρ q.2))).filter (fun q => !(q.1 == i) && !(q.1 + 1 == i && q.2.category == 2)) = (v_put1 lv i v).map (fun q => (q.1, v_enc ρ q.2)) := by
  unfold v_put1
  rw [List.map_cons, List.filter_map]
  congr 2
  apply List.filter_congr
  intro q _
  simp only [Function.comp, v_enc_cat]
theorem v_put2_map (ρ : VA → Nat) (lv : VL) (i : Nat) (v : VV) : (i, v_enc ρ v) :: (lv.map (fun q => (q.1, v_enc ρ q.2))).filter (fun q => !(q.1 == i) && (!(q.1 == i + 1) && !(q.1 + 1 == i && q.2.category == 2))) = (v_put2 lv i v).map (fun q => (q.1, v_enc ρ q.2)) := by
  unfold v_put2
  rw [List.map_cons, List.filter_map]
  congr 2
  apply List.filter_congr
  intro q _
  simp only [Function.comp, v_enc_cat]
theorem v_put1_clo {G : VC} {V : VH} {lv : VL} {i : Nat} {v : VV} (h : ∀ q ∈ lv, v_clo G V q.2) (hv : v_clo G V v) : ∀ q ∈ v_put1 lv i v, v_clo G V q.2 := fun q hq => by
  rcases List.mem_cons.mp hq with rfl | h1
  · exact hv
  · exact h q (List.mem_filter.mp h1).1
theorem v_put2_clo {G : VC} {V : VH} {lv : VL} {i : Nat} {v : VV} (h : ∀ q ∈ lv, v_clo G V q.2) (hv : v_clo G V v) : ∀ q ∈ v_put2 lv i v, v_clo G V q.2 := fun q hq => by
  rcases List.mem_cons.mp hq with rfl | h1
  · exact hv
  · exact h q (List.mem_filter.mp h1).1
theorem v_in_iff {i : Int32} {n : Nat} (h : v_in i n = true) : vp_in i n := by
  unfold v_in at h
  unfold vp_in
  simpa [not_or] using h
theorem v_s_iconst (n : Int) : v_SP (.iconst n) := by
  intro p l e R s mid args below meth c Q G oi m len x pc lv st V pc2 lv2 st2 V2 ρ ws H locs ls c0 s0 hC hd ho hS h hc0 hs0 hrc hrs hk
  obtain ⟨hx, hb, hml, hown, hts, hWd, hin, hfr, hlo, hB, hX, hXl, hXB⟩ := id hC
  obtain ⟨hR, hl, hlc, hst, hva⟩ := id hS
  have hlen : len = 1 := by simpa [v_okI] using ho
  subst hlen
  simp only [v_i] at h
  obtain ⟨rfl, rfl, rfl, rfl⟩ := v_inj h
  exact lv_iconst hx hb hd rfl (hk ρ ws H locs ls ⟨hR, hl, hlc, v_cs trivial hst, hva⟩ (fun _ _ => rfl))
theorem v_s_bipush (n : Int) : v_SP (.bipush n) := by
  intro p l e R s mid args below meth c Q G oi m len x pc lv st V pc2 lv2 st2 V2 ρ ws H locs ls c0 s0 hC hd ho hS h hc0 hs0 hrc hrs hk
  obtain ⟨hx, hb, hml, hown, hts, hWd, hin, hfr, hlo, hB, hX, hXl, hXB⟩ := id hC
  obtain ⟨hR, hl, hlc, hst, hva⟩ := id hS
  have hlen : len = 2 := by simpa [v_okI] using ho
  subst hlen
  simp only [v_i] at h
  obtain ⟨rfl, rfl, rfl, rfl⟩ := v_inj h
  exact lv_bipush hx hb hd rfl (hk ρ ws H locs ls ⟨hR, hl, hlc, v_cs trivial hst, hva⟩ (fun _ _ => rfl))
theorem v_s_sipush (n : Int) : v_SP (.sipush n) := by
  intro p l e R s mid args below meth c Q G oi m len x pc lv st V pc2 lv2 st2 V2 ρ ws H locs ls c0 s0 hC hd ho hS h hc0 hs0 hrc hrs hk
  obtain ⟨hx, hb, hml, hown, hts, hWd, hin, hfr, hlo, hB, hX, hXl, hXB⟩ := id hC
  obtain ⟨hR, hl, hlc, hst, hva⟩ := id hS
  have hlen : len = 3 := by simpa [v_okI] using ho
  subst hlen
  simp only [v_i] at h
  obtain ⟨rfl, rfl, rfl, rfl⟩ := v_inj h
  exact lv_sipush hx hb hd rfl (hk ρ ws H locs ls ⟨hR, hl, hlc, v_cs trivial hst, hva⟩ (fun _ _ => rfl))
theorem v_s_lconst (n : Fin 2) : v_SP (.lconst n) := by
  intro p l e R s mid args below meth c Q G oi m len x pc lv st V pc2 lv2 st2 V2 ρ ws H locs ls c0 s0 hC hd ho hS h hc0 hs0 hrc hrs hk
  obtain ⟨hx, hb, hml, hown, hts, hWd, hin, hfr, hlo, hB, hX, hXl, hXB⟩ := id hC
  obtain ⟨hR, hl, hlc, hst, hva⟩ := id hS
  have hlen : len = 1 := by simpa [v_okI] using ho
  subst hlen
  simp only [v_i] at h
  obtain ⟨rfl, rfl, rfl, rfl⟩ := v_inj h
  exact lv_lconst hx hb hd rfl (hk ρ ws H locs ls ⟨hR, hl, hlc, v_cs trivial hst, hva⟩ (fun _ _ => rfl))
theorem v_s_iload (k : Nat) : v_SP (.iload k) := by
  intro p l e R s mid args below meth c Q G oi m len x pc lv st V pc2 lv2 st2 V2 ρ ws H locs ls c0 s0 hC hd ho hS h hc0 hs0 hrc hrs hk
  obtain ⟨hx, hb, hml, hown, hts, hWd, hin, hfr, hlo, hB, hX, hXl, hXB⟩ := id hC
  obtain ⟨hR, hl, hlc, hst, hva⟩ := id hS
  have hlen : len = 2 := by simpa [v_okI] using ho
  subst hlen
  simp only [v_i] at h
  split at h
  · rename_i v hv
    obtain ⟨rfl, rfl, rfl, rfl⟩ := v_inj h
    exact lv_iload hx hb hd (v_get_at hl hv) (hk ρ ws H locs ls ⟨hR, hl, hlc, v_cs trivial hst, hva⟩ (fun _ _ => rfl))
  · cases h
theorem v_s_iload_n (k : Fin 4) : v_SP (.iload_n k) := by
  intro p l e R s mid args below meth c Q G oi m len x pc lv st V pc2 lv2 st2 V2 ρ ws H locs ls c0 s0 hC hd ho hS h hc0 hs0 hrc hrs hk
  obtain ⟨hx, hb, hml, hown, hts, hWd, hin, hfr, hlo, hB, hX, hXl, hXB⟩ := id hC
  obtain ⟨hR, hl, hlc, hst, hva⟩ := id hS
  have hlen : len = 1 := by simpa [v_okI] using ho
  subst hlen
  simp only [v_i] at h
  split at h
  · rename_i v hv
    obtain ⟨rfl, rfl, rfl, rfl⟩ := v_inj h
    exact lv_iload_n hx hb hd rfl (v_get_at hl hv) (hk ρ ws H locs ls ⟨hR, hl, hlc, v_cs trivial hst, hva⟩ (fun _ _ => rfl))
  · cases h
theorem v_s_lload (k : Nat) : v_SP (.lload k) := by
  intro p l e R s mid args below meth c Q G oi m len x pc lv st V pc2 lv2 st2 V2 ρ ws H locs ls c0 s0 hC hd ho hS h hc0 hs0 hrc hrs hk
  obtain ⟨hx, hb, hml, hown, hts, hWd, hin, hfr, hlo, hB, hX, hXl, hXB⟩ := id hC
  obtain ⟨hR, hl, hlc, hst, hva⟩ := id hS
  have hlen : len = 2 := by simpa [v_okI] using ho
  subst hlen
  simp only [v_i] at h
  split at h
  · rename_i v hv
    obtain ⟨rfl, rfl, rfl, rfl⟩ := v_inj h
    exact lv_lload hx hb hd (v_get_at hl hv) (hk ρ ws H locs ls ⟨hR, hl, hlc, v_cs trivial hst, hva⟩ (fun _ _ => rfl))
  · cases h
theorem v_s_lload_n (k : Fin 4) : v_SP (.lload_n k) := by
  intro p l e R s mid args below meth c Q G oi m len x pc lv st V pc2 lv2 st2 V2 ρ ws H locs ls c0 s0 hC hd ho hS h hc0 hs0 hrc hrs hk
  obtain ⟨hx, hb, hml, hown, hts, hWd, hin, hfr, hlo, hB, hX, hXl, hXB⟩ := id hC
  obtain ⟨hR, hl, hlc, hst, hva⟩ := id hS
  have hlen : len = 1 := by simpa [v_okI] using ho
  subst hlen
  simp only [v_i] at h
  split at h
  · rename_i v hv
    obtain ⟨rfl, rfl, rfl, rfl⟩ := v_inj h
    exact lv_lload_n hx hb hd rfl (v_get_at hl hv) (hk ρ ws H locs ls ⟨hR, hl, hlc, v_cs trivial hst, hva⟩ (fun _ _ => rfl))
  · cases h
theorem v_s_aload (k : Nat) : v_SP (.aload k) := by
  intro p l e R s mid args below meth c Q G oi m len x pc lv st V pc2 lv2 st2 V2 ρ ws H locs ls c0 s0 hC hd ho hS h hc0 hs0 hrc hrs hk
  obtain ⟨hx, hb, hml, hown, hts, hWd, hin, hfr, hlo, hB, hX, hXl, hXB⟩ := id hC
  obtain ⟨hR, hl, hlc, hst, hva⟩ := id hS
  have hlen : len = 2 := by simpa [v_okI] using ho
  subst hlen
  simp only [v_i] at h
  split at h
  · rename_i v hv
    obtain ⟨rfl, rfl, rfl, rfl⟩ := v_inj h
    have hcv : v_clo G V (.inr (.inr v)) := hlc _ (v_get_mem hv)
    have hk9 := hk ρ ws H locs ls ⟨hR, hl, hlc, v_cs hcv hst, hva⟩ (fun _ _ => rfl)
    have h9 := v_get_at hl hv
    by_cases h0 : v.1 = 0
    · have e : v_enc ρ (.inr (.inr v)) = .null := if_pos h0
      rw [e] at h9
      rw [List.map_cons, e] at hk9
      exact lv_aloadN hx hb hd h9 hk9
    · have e : v_enc ρ (.inr (.inr v)) = .ref (ρ v) := if_neg h0
      rw [e] at h9
      rw [List.map_cons, e] at hk9
      exact lv_aload hx hb hd h9 hk9
  · cases h
theorem v_s_aload_n (k : Fin 4) : v_SP (.aload_n k) := by
  intro p l e R s mid args below meth c Q G oi m len x pc lv st V pc2 lv2 st2 V2 ρ ws H locs ls c0 s0 hC hd ho hS h hc0 hs0 hrc hrs hk
  obtain ⟨hx, hb, hml, hown, hts, hWd, hin, hfr, hlo, hB, hX, hXl, hXB⟩ := id hC
  obtain ⟨hR, hl, hlc, hst, hva⟩ := id hS
  have hlen : len = 1 := by simpa [v_okI] using ho
  subst hlen
  simp only [v_i] at h
  split at h
  · rename_i v hv
    obtain ⟨rfl, rfl, rfl, rfl⟩ := v_inj h
    have hcv : v_clo G V (.inr (.inr v)) := hlc _ (v_get_mem hv)
    have hk9 := hk ρ ws H locs ls ⟨hR, hl, hlc, v_cs hcv hst, hva⟩ (fun _ _ => rfl)
    have h9 := v_get_at hl hv
    by_cases h0 : v.1 = 0
    · have e : v_enc ρ (.inr (.inr v)) = .null := if_pos h0
      rw [e] at h9
      rw [List.map_cons, e] at hk9
      exact lv_aload_nN hx hb hd rfl h9 hk9
    · have e : v_enc ρ (.inr (.inr v)) = .ref (ρ v) := if_neg h0
      rw [e] at h9
      rw [List.map_cons, e] at hk9
      exact lv_aload_n hx hb hd rfl h9 hk9
  · cases h
theorem v_s_istore (k : Nat) : v_SP (.istore k) := by
  intro p l e R s mid args below meth c Q G oi m len x pc lv st V pc2 lv2 st2 V2 ρ ws H locs ls c0 s0 hC hd ho hS h hc0 hs0 hrc hrs hk
  obtain ⟨hx, hb, hml, hown, hts, hWd, hin, hfr, hlo, hB, hX, hXl, hXB⟩ := id hC
  obtain ⟨hR, hl, hlc, hst, hva⟩ := id hS
  have hlen : len = 2 ∧ (k < m.2.2.2.1) := by simpa [v_okI] using ho
  obtain ⟨rfl, hn⟩ := hlen
  simp only [v_i] at h
  split at h
  · rename_i v r
    obtain ⟨rfl, rfl, rfl, rfl⟩ := v_inj h
    refine lv_istore hx hb hd hl hn (v_put1_map ρ lv k (.inl v)) (fun ls2 hl2 => hk ρ ws H locs ls2 ⟨hR, hl2, v_put1_clo hlc trivial, v_t1 hst, hva⟩ (fun _ _ => rfl))
  · cases h
theorem v_s_istore_n (k : Fin 4) : v_SP (.istore_n k) := by
  intro p l e R s mid args below meth c Q G oi m len x pc lv st V pc2 lv2 st2 V2 ρ ws H locs ls c0 s0 hC hd ho hS h hc0 hs0 hrc hrs hk
  obtain ⟨hx, hb, hml, hown, hts, hWd, hin, hfr, hlo, hB, hX, hXl, hXB⟩ := id hC
  obtain ⟨hR, hl, hlc, hst, hva⟩ := id hS
  have hlen : len = 1 ∧ (k.val < m.2.2.2.1) := by simpa [v_okI] using ho
  obtain ⟨rfl, hn⟩ := hlen
  simp only [v_i] at h
  split at h
  · rename_i v r
    obtain ⟨rfl, rfl, rfl, rfl⟩ := v_inj h
    refine lv_istore_n hx hb hd rfl hl hn (v_put1_map ρ lv k (.inl v)) (fun ls2 hl2 => hk ρ ws H locs ls2 ⟨hR, hl2, v_put1_clo hlc trivial, v_t1 hst, hva⟩ (fun _ _ => rfl))
  · cases h
theorem v_s_lstore (k : Nat) : v_SP (.lstore k) := by
  intro p l e R s mid args below meth c Q G oi m len x pc lv st V pc2 lv2 st2 V2 ρ ws H locs ls c0 s0 hC hd ho hS h hc0 hs0 hrc hrs hk
  obtain ⟨hx, hb, hml, hown, hts, hWd, hin, hfr, hlo, hB, hX, hXl, hXB⟩ := id hC
  obtain ⟨hR, hl, hlc, hst, hva⟩ := id hS
  have hlen : len = 2 ∧ (k + 1 < m.2.2.2.1) := by simpa [v_okI] using ho
  obtain ⟨rfl, hn⟩ := hlen
  simp only [v_i] at h
  split at h
  · rename_i v r
    obtain ⟨rfl, rfl, rfl, rfl⟩ := v_inj h
    refine lv_lstore hx hb hd hl hn (v_put2_map ρ lv k (.inr (.inl v))) (fun ls2 hl2 => hk ρ ws H locs ls2 ⟨hR, hl2, v_put2_clo hlc trivial, v_t1 hst, hva⟩ (fun _ _ => rfl))
  · cases h
theorem v_s_lstore_n (k : Fin 4) : v_SP (.lstore_n k) := by
  intro p l e R s mid args below meth c Q G oi m len x pc lv st V pc2 lv2 st2 V2 ρ ws H locs ls c0 s0 hC hd ho hS h hc0 hs0 hrc hrs hk
  obtain ⟨hx, hb, hml, hown, hts, hWd, hin, hfr, hlo, hB, hX, hXl, hXB⟩ := id hC
  obtain ⟨hR, hl, hlc, hst, hva⟩ := id hS
  have hlen : len = 1 ∧ (k.val + 1 < m.2.2.2.1) := by simpa [v_okI] using ho
  obtain ⟨rfl, hn⟩ := hlen
  simp only [v_i] at h
  split at h
  · rename_i v r
    obtain ⟨rfl, rfl, rfl, rfl⟩ := v_inj h
    refine lv_lstore_n hx hb hd rfl hl hn (v_put2_map ρ lv k (.inr (.inl v))) (fun ls2 hl2 => hk ρ ws H locs ls2 ⟨hR, hl2, v_put2_clo hlc trivial, v_t1 hst, hva⟩ (fun _ _ => rfl))
  · cases h
theorem v_s_astore (k : Nat) : v_SP (.astore k) := by
  intro p l e R s mid args below meth c Q G oi m len x pc lv st V pc2 lv2 st2 V2 ρ ws H locs ls c0 s0 hC hd ho hS h hc0 hs0 hrc hrs hk
  obtain ⟨hx, hb, hml, hown, hts, hWd, hin, hfr, hlo, hB, hX, hXl, hXB⟩ := id hC
  obtain ⟨hR, hl, hlc, hst, hva⟩ := id hS
  have hlen : len = 2 ∧ (k < m.2.2.2.1) := by simpa [v_okI] using ho
  obtain ⟨rfl, hn⟩ := hlen
  simp only [v_i] at h
  split at h
  · rename_i v r
    obtain ⟨rfl, rfl, rfl, rfl⟩ := v_inj h
    have hcv : v_clo G V (.inr (.inr v)) := hst _ List.mem_cons_self
    have h9 := v_put1_map ρ lv k (.inr (.inr v))
    rw [List.map_cons]
    by_cases h0 : v.1 = 0
    · have e : v_enc ρ (.inr (.inr v)) = .null := if_pos h0
      rw [e] at h9 ⊢
      exact lv_astoreN hx hb hd hl hn h9 (fun ls2 hl2 => hk ρ ws H locs ls2 ⟨hR, hl2, v_put1_clo hlc hcv, v_t1 hst, hva⟩ (fun _ _ => rfl))
    · have e : v_enc ρ (.inr (.inr v)) = .ref (ρ v) := if_neg h0
      rw [e] at h9 ⊢
      exact lv_astore hx hb hd hl hn h9 (fun ls2 hl2 => hk ρ ws H locs ls2 ⟨hR, hl2, v_put1_clo hlc hcv, v_t1 hst, hva⟩ (fun _ _ => rfl))
  · cases h
theorem v_s_astore_n (k : Fin 4) : v_SP (.astore_n k) := by
  intro p l e R s mid args below meth c Q G oi m len x pc lv st V pc2 lv2 st2 V2 ρ ws H locs ls c0 s0 hC hd ho hS h hc0 hs0 hrc hrs hk
  obtain ⟨hx, hb, hml, hown, hts, hWd, hin, hfr, hlo, hB, hX, hXl, hXB⟩ := id hC
  obtain ⟨hR, hl, hlc, hst, hva⟩ := id hS
  have hlen : len = 1 ∧ (k.val < m.2.2.2.1) := by simpa [v_okI] using ho
  obtain ⟨rfl, hn⟩ := hlen
  simp only [v_i] at h
  split at h
  · rename_i v r
    obtain ⟨rfl, rfl, rfl, rfl⟩ := v_inj h
    have hcv : v_clo G V (.inr (.inr v)) := hst _ List.mem_cons_self
    have h9 := v_put1_map ρ lv k (.inr (.inr v))
    rw [List.map_cons]
    by_cases h0 : v.1 = 0
    · have e : v_enc ρ (.inr (.inr v)) = .null := if_pos h0
      rw [e] at h9 ⊢
      exact lv_astore_nN hx hb hd rfl hl hn h9 (fun ls2 hl2 => hk ρ ws H locs ls2 ⟨hR, hl2, v_put1_clo hlc hcv, v_t1 hst, hva⟩ (fun _ _ => rfl))
    · have e : v_enc ρ (.inr (.inr v)) = .ref (ρ v) := if_neg h0
      rw [e] at h9 ⊢
      exact lv_astore_n hx hb hd rfl hl hn h9 (fun ls2 hl2 => hk ρ ws H locs ls2 ⟨hR, hl2, v_put1_clo hlc hcv, v_t1 hst, hva⟩ (fun _ _ => rfl))
  · cases h
theorem v_s_iinc (k : Nat) (n : Int) : v_SP (.iinc k n) := by
  intro p l e R s mid args below meth c Q G oi m len x pc lv st V pc2 lv2 st2 V2 ρ ws H locs ls c0 s0 hC hd ho hS h hc0 hs0 hrc hrs hk
  obtain ⟨hx, hb, hml, hown, hts, hWd, hin, hfr, hlo, hB, hX, hXl, hXB⟩ := id hC
  obtain ⟨hR, hl, hlc, hst, hva⟩ := id hS
  have hlen : len = 3 ∧ (k < m.2.2.2.1) := by simpa [v_okI] using ho
  obtain ⟨rfl, hn⟩ := hlen
  simp only [v_i] at h
  split at h
  · rename_i v hv
    obtain ⟨rfl, rfl, rfl, rfl⟩ := v_inj h
    obtain ⟨j, hj⟩ := List.mem_iff_getElem?.mp (List.mem_map.mpr ⟨(k, .inl v), v_get_mem hv, rfl⟩ : (k, v_enc ρ (.inl v)) ∈ lv.map (fun q => (q.1, v_enc ρ q.2)))
    exact lv_iinc hx hb hd hl hj rfl hn (v_put1_map ρ lv k (.inl (v + Int32.ofInt n))) (fun ls2 hl2 => hk ρ ws H locs ls2 ⟨hR, hl2, v_put1_clo hlc trivial, hst, hva⟩ (fun _ _ => rfl))
  · cases h
theorem v_s_iadd : v_SP (.iadd) := by
  intro p l e R s mid args below meth c Q G oi m len x pc lv st V pc2 lv2 st2 V2 ρ ws H locs ls c0 s0 hC hd ho hS h hc0 hs0 hrc hrs hk
  obtain ⟨hx, hb, hml, hown, hts, hWd, hin, hfr, hlo, hB, hX, hXl, hXB⟩ := id hC
  obtain ⟨hR, hl, hlc, hst, hva⟩ := id hS
  have hlen : len = 1 := by simpa [v_okI] using ho
  subst hlen
  simp only [v_i] at h
  split at h
  · obtain ⟨rfl, rfl, rfl, rfl⟩ := v_inj h
    exact lv_iadd hx hb hd (hk ρ ws H locs ls ⟨hR, hl, hlc, v_cs trivial (v_t2 hst), hva⟩ (fun _ _ => rfl))
  · cases h
theorem v_s_isub : v_SP (.isub) := by
  intro p l e R s mid args below meth c Q G oi m len x pc lv st V pc2 lv2 st2 V2 ρ ws H locs ls c0 s0 hC hd ho hS h hc0 hs0 hrc hrs hk
  obtain ⟨hx, hb, hml, hown, hts, hWd, hin, hfr, hlo, hB, hX, hXl, hXB⟩ := id hC
  obtain ⟨hR, hl, hlc, hst, hva⟩ := id hS
  have hlen : len = 1 := by simpa [v_okI] using ho
  subst hlen
  simp only [v_i] at h
  split at h
  · obtain ⟨rfl, rfl, rfl, rfl⟩ := v_inj h
    exact lv_isub hx hb hd (hk ρ ws H locs ls ⟨hR, hl, hlc, v_cs trivial (v_t2 hst), hva⟩ (fun _ _ => rfl))
  · cases h
theorem v_s_imul : v_SP (.imul) := by
  intro p l e R s mid args below meth c Q G oi m len x pc lv st V pc2 lv2 st2 V2 ρ ws H locs ls c0 s0 hC hd ho hS h hc0 hs0 hrc hrs hk
  obtain ⟨hx, hb, hml, hown, hts, hWd, hin, hfr, hlo, hB, hX, hXl, hXB⟩ := id hC
  obtain ⟨hR, hl, hlc, hst, hva⟩ := id hS
  have hlen : len = 1 := by simpa [v_okI] using ho
  subst hlen
  simp only [v_i] at h
  split at h
  · obtain ⟨rfl, rfl, rfl, rfl⟩ := v_inj h
    exact lv_imul hx hb hd (hk ρ ws H locs ls ⟨hR, hl, hlc, v_cs trivial (v_t2 hst), hva⟩ (fun _ _ => rfl))
  · cases h
theorem v_s_iand : v_SP (.iand) := by
  intro p l e R s mid args below meth c Q G oi m len x pc lv st V pc2 lv2 st2 V2 ρ ws H locs ls c0 s0 hC hd ho hS h hc0 hs0 hrc hrs hk
  obtain ⟨hx, hb, hml, hown, hts, hWd, hin, hfr, hlo, hB, hX, hXl, hXB⟩ := id hC
  obtain ⟨hR, hl, hlc, hst, hva⟩ := id hS
  have hlen : len = 1 := by simpa [v_okI] using ho
  subst hlen
  simp only [v_i] at h
  split at h
  · obtain ⟨rfl, rfl, rfl, rfl⟩ := v_inj h
    exact lv_iand hx hb hd (hk ρ ws H locs ls ⟨hR, hl, hlc, v_cs trivial (v_t2 hst), hva⟩ (fun _ _ => rfl))
  · cases h
theorem v_s_ior : v_SP (.ior) := by
  intro p l e R s mid args below meth c Q G oi m len x pc lv st V pc2 lv2 st2 V2 ρ ws H locs ls c0 s0 hC hd ho hS h hc0 hs0 hrc hrs hk
  obtain ⟨hx, hb, hml, hown, hts, hWd, hin, hfr, hlo, hB, hX, hXl, hXB⟩ := id hC
  obtain ⟨hR, hl, hlc, hst, hva⟩ := id hS
  have hlen : len = 1 := by simpa [v_okI] using ho
  subst hlen
  simp only [v_i] at h
  split at h
  · obtain ⟨rfl, rfl, rfl, rfl⟩ := v_inj h
    exact lv_ior hx hb hd (hk ρ ws H locs ls ⟨hR, hl, hlc, v_cs trivial (v_t2 hst), hva⟩ (fun _ _ => rfl))
  · cases h
theorem v_s_ishl : v_SP (.ishl) := by
  intro p l e R s mid args below meth c Q G oi m len x pc lv st V pc2 lv2 st2 V2 ρ ws H locs ls c0 s0 hC hd ho hS h hc0 hs0 hrc hrs hk
  obtain ⟨hx, hb, hml, hown, hts, hWd, hin, hfr, hlo, hB, hX, hXl, hXB⟩ := id hC
  obtain ⟨hR, hl, hlc, hst, hva⟩ := id hS
  have hlen : len = 1 := by simpa [v_okI] using ho
  subst hlen
  simp only [v_i] at h
  split at h
  · obtain ⟨rfl, rfl, rfl, rfl⟩ := v_inj h
    exact lv_ishl hx hb hd (hk ρ ws H locs ls ⟨hR, hl, hlc, v_cs trivial (v_t2 hst), hva⟩ (fun _ _ => rfl))
  · cases h
theorem v_s_ishr : v_SP (.ishr) := by
  intro p l e R s mid args below meth c Q G oi m len x pc lv st V pc2 lv2 st2 V2 ρ ws H locs ls c0 s0 hC hd ho hS h hc0 hs0 hrc hrs hk
  obtain ⟨hx, hb, hml, hown, hts, hWd, hin, hfr, hlo, hB, hX, hXl, hXB⟩ := id hC
  obtain ⟨hR, hl, hlc, hst, hva⟩ := id hS
  have hlen : len = 1 := by simpa [v_okI] using ho
  subst hlen
  simp only [v_i] at h
  split at h
  · obtain ⟨rfl, rfl, rfl, rfl⟩ := v_inj h
    exact lv_ishr hx hb hd (hk ρ ws H locs ls ⟨hR, hl, hlc, v_cs trivial (v_t2 hst), hva⟩ (fun _ _ => rfl))
  · cases h
theorem v_s_ladd : v_SP (.ladd) := by
  intro p l e R s mid args below meth c Q G oi m len x pc lv st V pc2 lv2 st2 V2 ρ ws H locs ls c0 s0 hC hd ho hS h hc0 hs0 hrc hrs hk
  obtain ⟨hx, hb, hml, hown, hts, hWd, hin, hfr, hlo, hB, hX, hXl, hXB⟩ := id hC
  obtain ⟨hR, hl, hlc, hst, hva⟩ := id hS
  have hlen : len = 1 := by simpa [v_okI] using ho
  subst hlen
  simp only [v_i] at h
  split at h
  · obtain ⟨rfl, rfl, rfl, rfl⟩ := v_inj h
    exact lv_ladd hx hb hd (hk ρ ws H locs ls ⟨hR, hl, hlc, v_cs trivial (v_t2 hst), hva⟩ (fun _ _ => rfl))
  · cases h
theorem v_s_lsub : v_SP (.lsub) := by
  intro p l e R s mid args below meth c Q G oi m len x pc lv st V pc2 lv2 st2 V2 ρ ws H locs ls c0 s0 hC hd ho hS h hc0 hs0 hrc hrs hk
  obtain ⟨hx, hb, hml, hown, hts, hWd, hin, hfr, hlo, hB, hX, hXl, hXB⟩ := id hC
  obtain ⟨hR, hl, hlc, hst, hva⟩ := id hS
  have hlen : len = 1 := by simpa [v_okI] using ho
  subst hlen
  simp only [v_i] at h
  split at h
  · obtain ⟨rfl, rfl, rfl, rfl⟩ := v_inj h
    exact lv_lsub hx hb hd (hk ρ ws H locs ls ⟨hR, hl, hlc, v_cs trivial (v_t2 hst), hva⟩ (fun _ _ => rfl))
  · cases h
theorem v_s_lmul : v_SP (.lmul) := by
  intro p l e R s mid args below meth c Q G oi m len x pc lv st V pc2 lv2 st2 V2 ρ ws H locs ls c0 s0 hC hd ho hS h hc0 hs0 hrc hrs hk
  obtain ⟨hx, hb, hml, hown, hts, hWd, hin, hfr, hlo, hB, hX, hXl, hXB⟩ := id hC
  obtain ⟨hR, hl, hlc, hst, hva⟩ := id hS
  have hlen : len = 1 := by simpa [v_okI] using ho
  subst hlen
  simp only [v_i] at h
  split at h
  · obtain ⟨rfl, rfl, rfl, rfl⟩ := v_inj h
    exact lv_lmul hx hb hd (hk ρ ws H locs ls ⟨hR, hl, hlc, v_cs trivial (v_t2 hst), hva⟩ (fun _ _ => rfl))
  · cases h
theorem v_s_lcmp : v_SP (.lcmp) := by
  intro p l e R s mid args below meth c Q G oi m len x pc lv st V pc2 lv2 st2 V2 ρ ws H locs ls c0 s0 hC hd ho hS h hc0 hs0 hrc hrs hk
  obtain ⟨hx, hb, hml, hown, hts, hWd, hin, hfr, hlo, hB, hX, hXl, hXB⟩ := id hC
  obtain ⟨hR, hl, hlc, hst, hva⟩ := id hS
  have hlen : len = 1 := by simpa [v_okI] using ho
  subst hlen
  simp only [v_i] at h
  split at h
  · obtain ⟨rfl, rfl, rfl, rfl⟩ := v_inj h
    exact W.lcmp hx hb hd (hk ρ ws H locs ls ⟨hR, hl, hlc, v_cs trivial (v_t2 hst), hva⟩ (fun _ _ => rfl))
  · cases h
theorem v_s_ineg : v_SP (.ineg) := by
  intro p l e R s mid args below meth c Q G oi m len x pc lv st V pc2 lv2 st2 V2 ρ ws H locs ls c0 s0 hC hd ho hS h hc0 hs0 hrc hrs hk
  obtain ⟨hx, hb, hml, hown, hts, hWd, hin, hfr, hlo, hB, hX, hXl, hXB⟩ := id hC
  obtain ⟨hR, hl, hlc, hst, hva⟩ := id hS
  have hlen : len = 1 := by simpa [v_okI] using ho
  subst hlen
  simp only [v_i] at h
  split at h
  · obtain ⟨rfl, rfl, rfl, rfl⟩ := v_inj h
    exact lv_ineg hx hb hd (hk ρ ws H locs ls ⟨hR, hl, hlc, v_cs trivial (v_t1 hst), hva⟩ (fun _ _ => rfl))
  · cases h
theorem v_s_i2l : v_SP (.i2l) := by
  intro p l e R s mid args below meth c Q G oi m len x pc lv st V pc2 lv2 st2 V2 ρ ws H locs ls c0 s0 hC hd ho hS h hc0 hs0 hrc hrs hk
  obtain ⟨hx, hb, hml, hown, hts, hWd, hin, hfr, hlo, hB, hX, hXl, hXB⟩ := id hC
  obtain ⟨hR, hl, hlc, hst, hva⟩ := id hS
  have hlen : len = 1 := by simpa [v_okI] using ho
  subst hlen
  simp only [v_i] at h
  split at h
  · obtain ⟨rfl, rfl, rfl, rfl⟩ := v_inj h
    exact lv_i2l hx hb hd rfl (hk ρ ws H locs ls ⟨hR, hl, hlc, v_cs trivial (v_t1 hst), hva⟩ (fun _ _ => rfl))
  · cases h
theorem v_s_l2i : v_SP (.l2i) := by
  intro p l e R s mid args below meth c Q G oi m len x pc lv st V pc2 lv2 st2 V2 ρ ws H locs ls c0 s0 hC hd ho hS h hc0 hs0 hrc hrs hk
  obtain ⟨hx, hb, hml, hown, hts, hWd, hin, hfr, hlo, hB, hX, hXl, hXB⟩ := id hC
  obtain ⟨hR, hl, hlc, hst, hva⟩ := id hS
  have hlen : len = 1 := by simpa [v_okI] using ho
  subst hlen
  simp only [v_i] at h
  split at h
  · obtain ⟨rfl, rfl, rfl, rfl⟩ := v_inj h
    exact lv_l2i hx hb hd rfl (hk ρ ws H locs ls ⟨hR, hl, hlc, v_cs trivial (v_t1 hst), hva⟩ (fun _ _ => rfl))
  · cases h
theorem v_s_idiv : v_SP (.idiv) := by
  intro p l e R s mid args below meth c Q G oi m len x pc lv st V pc2 lv2 st2 V2 ρ ws H locs ls c0 s0 hC hd ho hS h hc0 hs0 hrc hrs hk
  obtain ⟨hx, hb, hml, hown, hts, hWd, hin, hfr, hlo, hB, hX, hXl, hXB⟩ := id hC
  obtain ⟨hR, hl, hlc, hst, hva⟩ := id hS
  have hlen : len = 1 := by simpa [v_okI] using ho
  subst hlen
  simp only [v_i] at h
  split at h
  · obtain ⟨hne, h⟩ := v_okd h
    obtain ⟨rfl, rfl, rfl, rfl⟩ := v_inj h
    exact lv_idiv hx hb hd (of_decide_eq_true hne) (hk ρ ws H locs ls ⟨hR, hl, hlc, v_cs trivial (v_t2 hst), hva⟩ (fun _ _ => rfl))
  · cases h
theorem v_s_irem : v_SP (.irem) := by
  intro p l e R s mid args below meth c Q G oi m len x pc lv st V pc2 lv2 st2 V2 ρ ws H locs ls c0 s0 hC hd ho hS h hc0 hs0 hrc hrs hk
  obtain ⟨hx, hb, hml, hown, hts, hWd, hin, hfr, hlo, hB, hX, hXl, hXB⟩ := id hC
  obtain ⟨hR, hl, hlc, hst, hva⟩ := id hS
  have hlen : len = 1 := by simpa [v_okI] using ho
  subst hlen
  simp only [v_i] at h
  split at h
  · obtain ⟨hne, h⟩ := v_okd h
    obtain ⟨rfl, rfl, rfl, rfl⟩ := v_inj h
    exact lv_irem hx hb hd (of_decide_eq_true hne) (hk ρ ws H locs ls ⟨hR, hl, hlc, v_cs trivial (v_t2 hst), hva⟩ (fun _ _ => rfl))
  · cases h
theorem v_s_ldiv : v_SP (.ldiv) := by
  intro p l e R s mid args below meth c Q G oi m len x pc lv st V pc2 lv2 st2 V2 ρ ws H locs ls c0 s0 hC hd ho hS h hc0 hs0 hrc hrs hk
  obtain ⟨hx, hb, hml, hown, hts, hWd, hin, hfr, hlo, hB, hX, hXl, hXB⟩ := id hC
  obtain ⟨hR, hl, hlc, hst, hva⟩ := id hS
  have hlen : len = 1 := by simpa [v_okI] using ho
  subst hlen
  simp only [v_i] at h
  split at h
  · obtain ⟨hne, h⟩ := v_okd h
    obtain ⟨rfl, rfl, rfl, rfl⟩ := v_inj h
    exact lv_ldiv hx hb hd (of_decide_eq_true hne) (hk ρ ws H locs ls ⟨hR, hl, hlc, v_cs trivial (v_t2 hst), hva⟩ (fun _ _ => rfl))
  · cases h
theorem v_s_dup : v_SP (.dup) := by
  intro p l e R s mid args below meth c Q G oi m len x pc lv st V pc2 lv2 st2 V2 ρ ws H locs ls c0 s0 hC hd ho hS h hc0 hs0 hrc hrs hk
  obtain ⟨hx, hb, hml, hown, hts, hWd, hin, hfr, hlo, hB, hX, hXl, hXB⟩ := id hC
  obtain ⟨hR, hl, hlc, hst, hva⟩ := id hS
  have hlen : len = 1 := by simpa [v_okI] using ho
  subst hlen
  simp only [v_i] at h
  split at h
  · obtain ⟨rfl, rfl, rfl, rfl⟩ := v_inj h
    exact lv_dup hx hb hd rfl (hk ρ ws H locs ls ⟨hR, hl, hlc, v_cs trivial hst, hva⟩ (fun _ _ => rfl))
  · obtain ⟨rfl, rfl, rfl, rfl⟩ := v_inj h
    exact lv_dup hx hb hd (v_enc_cat _ _) (hk ρ ws H locs ls ⟨hR, hl, hlc, v_cs (hst _ List.mem_cons_self) hst, hva⟩ (fun _ _ => rfl))
  · cases h
theorem v_s_dup2 : v_SP (.dup2) := by
  intro p l e R s mid args below meth c Q G oi m len x pc lv st V pc2 lv2 st2 V2 ρ ws H locs ls c0 s0 hC hd ho hS h hc0 hs0 hrc hrs hk
  obtain ⟨hx, hb, hml, hown, hts, hWd, hin, hfr, hlo, hB, hX, hXl, hXB⟩ := id hC
  obtain ⟨hR, hl, hlc, hst, hva⟩ := id hS
  have hlen : len = 1 := by simpa [v_okI] using ho
  subst hlen
  simp only [v_i] at h
  split at h
  · obtain ⟨rfl, rfl, rfl, rfl⟩ := v_inj h
    exact lv_dup2_11 hx hb hd rfl (v_enc_cat _ _) (hk ρ ws H locs ls ⟨hR, hl, hlc, v_cs trivial (v_cs (v_t1 hst _ List.mem_cons_self) hst), hva⟩ (fun _ _ => rfl))
  · cases h
theorem v_s_if_icmp (cd : Jvm.ClassFile.Cond) (off : Int) : v_SP (.if_icmp cd off) := by
  intro p l e R s mid args below meth c Q G oi m len x pc lv st V pc2 lv2 st2 V2 ρ ws H locs ls c0 s0 hC hd ho hS h hc0 hs0 hrc hrs hk
  obtain ⟨hx, hb, hml, hown, hts, hWd, hin, hfr, hlo, hB, hX, hXl, hXB⟩ := id hC
  obtain ⟨hR, hl, hlc, hst, hva⟩ := id hS
  have hlen : len = 3 ∧ ((pc : Int) + off = (x.1 : Int)) := by simpa [v_okI] using ho
  obtain ⟨rfl, ht⟩ := hlen
  simp only [v_i] at h
  split at h
  · rename_i bb aa r
    obtain ⟨rfl, rfl, rfl, rfl⟩ := v_inj h
    have hk9 := hk ρ ws H locs ls ⟨hR, hl, hlc, v_t2 hst, hva⟩ (fun _ _ => rfl)
    have et : ∀ {P : Prop} [Decidable P], P → v_br (decide P) x.1 (pc + 3) = x.1 := fun h => by rw [decide_eq_true h]; rfl
    have ef : ∀ {P : Prop} [Decidable P], ¬ P → v_br (decide P) x.1 (pc + 3) = pc + 3 := fun h => by rw [decide_eq_false h]; rfl
    cases cd with
    | eq => exact lv_icmp_eq hx hb hd ht (fun q => by simpa only [v_cmp, et q] using hk9) (fun q => by simpa only [v_cmp, ef q] using hk9)
    | ne => exact lv_icmp_ne hx hb hd ht (fun q => by simpa only [v_cmp, et q] using hk9) (fun q => by simpa only [v_cmp, ef (not_not_intro q)] using hk9)
    | lt => exact lv_icmp_lt hx hb hd ht (fun q => by simpa only [v_cmp, et q] using hk9) (fun q => by simpa only [v_cmp, ef q] using hk9)
    | ge => exact lv_icmp_ge hx hb hd ht (fun q => by simpa only [v_cmp, et q] using hk9) (fun q => by simpa only [v_cmp, ef q] using hk9)
    | gt => exact lv_icmp_gt hx hb hd ht (fun q => by simpa only [v_cmp, et q] using hk9) (fun q => by simpa only [v_cmp, ef q] using hk9)
    | le => exact lv_icmp_le hx hb hd ht (fun q => by simpa only [v_cmp, et q] using hk9) (fun q => by simpa only [v_cmp, ef q] using hk9)
  · cases h
theorem v_s_ifCond (cd : Jvm.ClassFile.Cond) (off : Int) : v_SP (.ifCond cd off) := by
  intro p l e R s mid args below meth c Q G oi m len x pc lv st V pc2 lv2 st2 V2 ρ ws H locs ls c0 s0 hC hd ho hS h hc0 hs0 hrc hrs hk
  obtain ⟨hx, hb, hml, hown, hts, hWd, hin, hfr, hlo, hB, hX, hXl, hXB⟩ := id hC
  obtain ⟨hR, hl, hlc, hst, hva⟩ := id hS
  have hlen : len = 3 ∧ ((pc : Int) + off = (x.1 : Int)) := by simpa [v_okI] using ho
  obtain ⟨rfl, ht⟩ := hlen
  simp only [v_i] at h
  split at h
  · rename_i aa r
    obtain ⟨rfl, rfl, rfl, rfl⟩ := v_inj h
    have hk9 := hk ρ ws H locs ls ⟨hR, hl, hlc, v_t1 hst, hva⟩ (fun _ _ => rfl)
    have et : ∀ {P : Prop} [Decidable P], P → v_br (decide P) x.1 (pc + 3) = x.1 := fun h => by rw [decide_eq_true h]; rfl
    have ef : ∀ {P : Prop} [Decidable P], ¬ P → v_br (decide P) x.1 (pc + 3) = pc + 3 := fun h => by rw [decide_eq_false h]; rfl
    cases cd with
    | eq => exact lv_if_eq hx hb hd ht (fun q => by simpa only [v_cmp, et q] using hk9) (fun q => by simpa only [v_cmp, ef q] using hk9)
    | ne => exact lv_if_ne hx hb hd ht (fun q => by simpa only [v_cmp, et q] using hk9) (fun q => by simpa only [v_cmp, ef (not_not_intro q)] using hk9)
    | lt => exact lv_if_lt hx hb hd ht (fun q => by simpa only [v_cmp, et q] using hk9) (fun q => by simpa only [v_cmp, ef q] using hk9)
    | ge => exact lv_if_ge hx hb hd ht (fun q => by simpa only [v_cmp, et q] using hk9) (fun q => by simpa only [v_cmp, ef q] using hk9)
    | gt => exact lv_if_gt hx hb hd ht (fun q => by simpa only [v_cmp, et q] using hk9) (fun q => by simpa only [v_cmp, ef q] using hk9)
    | le => exact lv_if_le hx hb hd ht (fun q => by simpa only [v_cmp, et q] using hk9) (fun q => by simpa only [v_cmp, ef q] using hk9)
  · cases h
theorem v_s_goto (off : Int) : v_SP (.goto off) := by
  intro p l e R s mid args below meth c Q G oi m len x pc lv st V pc2 lv2 st2 V2 ρ ws H locs ls c0 s0 hC hd ho hS h hc0 hs0 hrc hrs hk
  obtain ⟨hx, hb, hml, hown, hts, hWd, hin, hfr, hlo, hB, hX, hXl, hXB⟩ := id hC
  obtain ⟨hR, hl, hlc, hst, hva⟩ := id hS
  have hlen : len = 3 ∧ ((pc : Int) + off = (x.1 : Int)) := by simpa [v_okI] using ho
  obtain ⟨rfl, ht⟩ := hlen
  simp only [v_i] at h
  obtain ⟨rfl, rfl, rfl, rfl⟩ := v_inj h
  exact lv_goto hx hb hd ht (hk ρ ws H locs ls ⟨hR, hl, hlc, hst, hva⟩ (fun _ _ => rfl))
theorem v_s_ifnonnull (off : Int) : v_SP (.ifnonnull off) := by
  intro p l e R s mid args below meth c Q G oi m len x pc lv st V pc2 lv2 st2 V2 ρ ws H locs ls c0 s0 hC hd ho hS h hc0 hs0 hrc hrs hk
  obtain ⟨hx, hb, hml, hown, hts, hWd, hin, hfr, hlo, hB, hX, hXl, hXB⟩ := id hC
  obtain ⟨hR, hl, hlc, hst, hva⟩ := id hS
  have hlen : len = 3 ∧ ((pc : Int) + off = (x.1 : Int)) := by simpa [v_okI] using ho
  obtain ⟨rfl, ht⟩ := hlen
  simp only [v_i] at h
  split at h
  · rename_i a r
    obtain ⟨rfl, rfl, rfl, rfl⟩ := v_inj h
    have hk9 := hk ρ ws H locs ls ⟨hR, hl, hlc, v_t1 hst, hva⟩ (fun _ _ => rfl)
    rw [List.map_cons]
    by_cases h0 : a.1 = 0
    · have e : v_enc ρ (.inr (.inr a)) = .null := if_pos h0
      have eb : v_br (!(a.1 == 0)) x.1 (pc + 3) = pc + 3 := by rw [beq_iff_eq.mpr h0]; rfl
      rw [eb] at hk9
      rw [e]
      exact lv_ifnonnullN hx hb hd hk9
    · have e : v_enc ρ (.inr (.inr a)) = .ref (ρ a) := if_neg h0
      have eb : v_br (!(a.1 == 0)) x.1 (pc + 3) = x.1 := by rw [beq_eq_false_iff_ne.mpr h0]; rfl
      rw [eb] at hk9
      rw [e]
      exact lv_ifnonnull hx hb hd ht hk9
  · cases h
end
section
/-! ===== one step: constants, switches, fields, arrays, new cells ===== -/
def v_tc (c : Nat) (ty : FieldType) : Bool := match c, ty with
  | 0, .int => true
  | 1, .object _ => true
  | 1, .array _ => true
  | 2, .boolean => true
  | _, _ => false
theorem v_cls {ci : Nat} (h : ci < 11) : ∃ (C : String) (T : u_T) (ty0 : Nat → FieldType), vcl[ci]? = some (C, T, v_nf ci) ∧ (∀ w ∈ u_ws C T (v_nf ci), w ∈ v_tbl) ∧ Cond.instantiable C (v_nf ci) ∈ v_tbl ∧ Cond.initialized C ∈ v_tbl ∧ (∀ k, k < v_nf ci → parseFieldDescriptor (T k).2.2.1 = some (ty0 k)) ∧ (∀ a, a < v_nf ci → ∀ b, b < v_nf ci → a ≠ b → (T a).2.1 ≠ (T b).2.1) ∧ (∀ k, k < v_nf ci → v_tc (v_fty ci k) (ty0 k) = true) ∧ (∀ k, k < v_nf ci → (T k).1 = v_own ci) := by
  have hw : ∀ {A B : List Cond}, (∀ w ∈ A ++ B, w ∈ v_tbl) → ∀ w ∈ A, w ∈ v_tbl := fun h w hw => h w (List.mem_append_left _ hw)
  have h1 : ∀ {A : List Cond} {x y : Cond}, (∀ w ∈ A ++ [x, y], w ∈ v_tbl) → x ∈ v_tbl := fun h => h _ (List.mem_append_right _ (by simp))
  have h2 : ∀ {A : List Cond} {x y : Cond}, (∀ w ∈ A ++ [x, y], w ∈ v_tbl) → y ∈ v_tbl := fun h => h _ (List.mem_append_right _ (by simp))
  match ci, h with
  | 0, _ => exact ⟨RX0, TX0, tyX0, rfl, hw v_c0_in, h1 v_c0_in, h2 v_c0_in, tyX0_ok, nmX0, by decide +kernel, by decide +kernel⟩
  | 1, _ => exact ⟨RX1, TX1, tyX1, rfl, hw v_c1_in, h1 v_c1_in, h2 v_c1_in, tyX1_ok, nmX1, by decide +kernel, by decide +kernel⟩
  | 2, _ => exact ⟨RX2, TX2, tyX2, rfl, hw v_c2_in, h1 v_c2_in, h2 v_c2_in, tyX2_ok, nmX2, by decide +kernel, by decide +kernel⟩
  | 3, _ => exact ⟨RX3, TX3, tyX3, rfl, hw v_c3_in, h1 v_c3_in, h2 v_c3_in, tyX3_ok, nmX3, by decide +kernel, by decide +kernel⟩
  | 4, _ => exact ⟨RX4, TX4, tyX4, rfl, hw v_c4_in, h1 v_c4_in, h2 v_c4_in, tyX4_ok, nmX4, by decide +kernel, by decide +kernel⟩
  | 5, _ => exact ⟨RX5, TX5, tyX5, rfl, hw v_c5_in, h1 v_c5_in, h2 v_c5_in, tyX5_ok, nmX5, by decide +kernel, by decide +kernel⟩
  | 6, _ => exact ⟨RX6, TX6, tyX6, rfl, hw v_c6_in, h1 v_c6_in, h2 v_c6_in, tyX6_ok, nmX6, by decide +kernel, by decide +kernel⟩
  | 7, _ => exact ⟨RX7, TX7, tyX7, rfl, hw v_c7_in, h1 v_c7_in, h2 v_c7_in, tyX7_ok, nmX7, by decide +kernel, by decide +kernel⟩
  | 8, _ => exact ⟨RX8, TX8, tyX8, rfl, hw v_c8_in, h1 v_c8_in, h2 v_c8_in, tyX8_ok, nmX8, by decide +kernel, by decide +kernel⟩
  | 9, _ => exact ⟨RX9, TX9, tyX9, rfl, hw v_c9_in, h1 v_c9_in, h2 v_c9_in, tyX9_ok, nmX9, by decide +kernel, by decide +kernel⟩
  | 10, _ => exact ⟨RX10, TX10, tyX10, rfl, hw v_c10_in, h1 v_c10_in, h2 v_c10_in, tyX10_ok, nmX10, by decide +kernel, by decide +kernel⟩
theorem v_E_obj {ρ : VA → Nat} {V : VH} {cA : ClassId} {a : VA} (h : v_kind a < 11) : v_E ρ V cA a = .inr (v_kind a, (List.range (v_nf (v_kind a))).map (v_F ρ V a)) := if_pos h
theorem v_E_int {ρ : VA → Nat} {V : VH} {cA : ClassId} {a : VA} (h : v_kind a = 11 ∨ v_kind a = 12) : v_E ρ V cA a = .inl (cA, v_len a, .inl (V.1 a)) := by
  unfold v_E
  rw [if_neg (by omega), if_neg (by omega), if_pos (by omega)]
theorem v_E_long {ρ : VA → Nat} {V : VH} {cA : ClassId} {a : VA} (h : v_kind a = 13) : v_E ρ V cA a = .inl (cA, v_len a, .inr (.inl (V.2.2.1 a))) := by
  unfold v_E
  rw [if_neg (by omega), if_pos h]
theorem v_E_ref {ρ : VA → Nat} {V : VH} {cA : ClassId} {a : VA} (h : 14 ≤ v_kind a) : v_E ρ V cA a = .inl (cA, v_len a, .inr (.inr (.inr (.inr (fun j => v_rq ρ (V.2.1 a j)))))) := by
  unfold v_E
  rw [if_neg (by omega), if_neg (by omega), if_neg (by omega)]
theorem v_range_get {α : Type} (f : Nat → α) {n k : Nat} (h : k < n) : ((List.range n).map f)[k]? = some (f k) := by
  rw [List.getElem?_map, List.getElem?_range h]; rfl
theorem v_range_set {α : Type} (f g : Nat → α) {n k : Nat} (h : ∀ j, j ≠ k → g j = f j) : ((List.range n).map f).set k (g k) = (List.range n).map g := by
  apply List.ext_getElem?
  intro j
  by_cases hj : j < n
  · by_cases hk : j = k
    · subst hk
      rw [List.getElem?_set_self (by simpa using hj), v_range_get g hj]
    · rw [List.getElem?_set_ne (fun e => hk e.symm), v_range_get f hj, v_range_get g hj, h j hk]
  · rw [List.getElem?_eq_none (by simpa using hj), List.getElem?_eq_none (by simpa using hj)]
theorem v_KK {D : va_G} {s : State} {cA : ClassId} {ty : FieldType} (h : va_K D vcl [] s) (h2 : ArrOfT s cA ty ∧ va_RA s cA ty) : va_K D vcl [(cA, ty)] s := by
  refine ⟨h.1, fun k q hq => ?_⟩
  match k, hq with
  | 0, hq => cases hq; exact h2
  | k + 1, hq => simp at hq
theorem v_KK2 {D : va_G} {s : State} {cA cB : ClassId} {ty : FieldType} (h : va_K D vcl [] s) (h1 : ArrOfT s cA ty ∧ va_RA s cA ty) (h2 : ArrOfT s cB ty ∧ va_RA s cB ty) : va_K D vcl [(cA, ty), (cB, ty)] s := by
  refine ⟨h.1, fun k q hq => ?_⟩
  match k, hq with
  | 0, hq => cases hq; exact h1
  | 1, hq => cases hq; exact h2
  | k + 2, hq => simp at hq
theorem v_ST.keep {G : VC} {m : VM} {s : State} {ρ : VA → Nat} {V V' : VH} {ws ws' : va_W} {H H' : Heap} {locs locs' : List Loc} {ls : Array Slot} {lv : VL} {st st' : List VV} (hS : v_ST G m s ρ V ws H locs ls lv st) (hal : V'.2.2.2.1 = V.2.2.2.1) (hR : v_Rl G ρ V' ws' s H') (hva : va_S (fun q => G.2.2.2.2 ≤ q) s.heap H' locs') (hst : ∀ v ∈ st', v_clo G V v) : v_ST G m s ρ V' ws' H' locs' ls lv st' := by
  have hm : ∀ a, V.2.2.2.1 a = true → V'.2.2.2.1 a = true := fun a h => by rw [hal]; exact h
  exact ⟨hR, hS.2.1, fun q hq => v_clo_mono hm (hS.2.2.1 q hq), fun v hv => v_clo_mono hm (hst v hv), hva⟩
theorem v_rf (ρ : VA → Nat) (a : VA) : va_rf (v_rq ρ a) = v_enc ρ (.inr (.inr a)) := by
  show va_rf (if a.1 = 0 then none else some (ρ a)) = if a.1 = 0 then .null else .ref (ρ a)
  split <;> rfl
theorem v_bool_ok {v : Int32} (h : v_bool v = true) : narrow .boolean (.int v) = .int v ∧ fits .boolean (.int v) = true := by
  unfold v_bool at h
  simp only [Bool.or_eq_true, decide_eq_true_eq] at h
  rcases h with rfl | rfl <;> exact ⟨rfl, rfl⟩
theorem v_s_ldc (idx : Nat) : v_SP (.ldc idx) := by
  intro p l e R s mid args below meth c Q G oi m len x pc lv st V pc2 lv2 st2 V2 ρ ws H locs ls c0 s0 hC hd ho hS h hc0 hs0 hrc hrs hk
  obtain ⟨hx, hb, hml, hown, hts, hWd, hin, hfr, hlo, hB, hX, hXl, hXB⟩ := id hC
  obtain ⟨hR, hl, hlc, hst, hva⟩ := id hS
  have hlen : len = 2 ∧ (oi, idx, x.2.2.2) ∈ v_ck := by simpa [v_okI] using ho
  obtain ⟨rfl, hck⟩ := hlen
  simp only [v_i] at h
  obtain ⟨rfl, rfl, rfl, rfl⟩ := v_inj h
  exact lv_ldc hx hb hown (hts _ (v_ck_in _ hck)) hd (hk ρ ws H locs ls ⟨hR, hl, hlc, v_cs trivial hst, hva⟩ (fun _ _ => rfl))
theorem v_s_ldc2_w (idx : Nat) : v_SP (.ldc2_w idx) := by
  intro p l e R s mid args below meth c Q G oi m len x pc lv st V pc2 lv2 st2 V2 ρ ws H locs ls c0 s0 hC hd ho hS h hc0 hs0 hrc hrs hk
  obtain ⟨hx, hb, hml, hown, hts, hWd, hin, hfr, hlo, hB, hX, hXl, hXB⟩ := id hC
  obtain ⟨hR, hl, hlc, hst, hva⟩ := id hS
  have hlen : len = 3 ∧ (oi, idx, x.2.2.2) ∈ v_ckl := by simpa [v_okI] using ho
  obtain ⟨rfl, hck⟩ := hlen
  simp only [v_i] at h
  obtain ⟨rfl, rfl, rfl, rfl⟩ := v_inj h
  exact lv_ldc2 hx hb hown (hts _ (v_ckl_in _ hck)) hd (hk ρ ws H locs ls ⟨hR, hl, hlc, v_cs trivial hst, hva⟩ (fun _ _ => rfl))
theorem v_s_tableswitch (d lo hi : Int) (offs : Array Int) : v_SP (.tableswitch d lo hi offs) := by
  intro p l e R s mid args below meth c Q G oi m len x pc lv st V pc2 lv2 st2 V2 ρ ws H locs ls c0 s0 hC hd ho hS h hc0 hs0 hrc hrs hk
  obtain ⟨hx, hb, hml, hown, hts, hWd, hin, hfr, hlo, hB, hX, hXl, hXB⟩ := id hC
  obtain ⟨hR, hl, hlc, hst, hva⟩ := id hS
  have ho2 : 0 ≤ (pc : Int) + d ∧ ∀ o ∈ offs.toList, 0 ≤ (pc : Int) + o := by
    simp only [v_okI, Bool.and_eq_true, decide_eq_true_eq, List.all_eq_true] at ho
    exact ho
  simp only [v_i] at h
  split at h
  · rename_i a r
    unfold v_off at h
    split at h
    · rename_i o hoo
      obtain ⟨rfl, rfl, rfl, rfl⟩ := v_inj h
      have hk9 := hk ρ ws H locs ls ⟨hR, hl, hlc, v_t1 hst, hva⟩ (fun _ _ => rfl)
      unfold v_tab at hoo
      split at hoo
      · rename_i hc
        cases hoo
        refine lv_tableOut hx hb hd ?_ (Int.toNat_of_nonneg ho2.1).symm hk9
        simpa using hc
      · rename_i hc
        have hc2 : ¬ a.toInt < lo ∧ ¬ hi < a.toInt := by simpa using hc
        have ho3 : offs[(a.toInt - lo).toNat]? = some o := by rw [← Array.getElem?_toList]; exact hoo
        exact lv_tableIn hx hb hd hc2.1 hc2.2 ho3 (Int.toNat_of_nonneg (ho2.2 o (List.mem_of_getElem? hoo))).symm hk9
    · cases h
  · cases h
theorem v_look_off (d x : Int) : ∀ l : List (Int × Int), Op.lookupswitch.offset l d x = v_look d x l
  | [] => rfl
  | (a, o) :: l => by
    unfold v_look
    by_cases h : x = a
    · subst h
      simp [Op.lookupswitch.offset]
    · simp [Op.lookupswitch.offset, h, fun e : a = x => h e.symm]
      rw [if_neg (fun e : a = x => h e.symm)]
      exact v_look_off d x l
theorem v_look_ge {pc d x : Int} : ∀ {l : List (Int × Int)}, 0 ≤ pc + d → (∀ o ∈ l, 0 ≤ pc + o.2) → 0 ≤ pc + v_look d x l
  | [], h, _ => h
  | (a, o) :: l, h, h2 => by
    unfold v_look
    split
    · exact h2 (a, o) List.mem_cons_self
    · exact v_look_ge h (fun q hq => h2 q (List.mem_cons_of_mem _ hq))
theorem v_s_lookupswitch (d : Int) (ps : Array (Int × Int)) : v_SP (.lookupswitch d ps) := by
  intro p l e R s mid args below meth c Q G oi m len x pc lv st V pc2 lv2 st2 V2 ρ ws H locs ls c0 s0 hC hd ho hS h hc0 hs0 hrc hrs hk
  obtain ⟨hx, hb, hml, hown, hts, hWd, hin, hfr, hlo, hB, hX, hXl, hXB⟩ := id hC
  obtain ⟨hR, hl, hlc, hst, hva⟩ := id hS
  simp only [v_okI, Bool.and_eq_true, decide_eq_true_eq] at ho
  obtain ⟨⟨ho1, ho2⟩, ho3⟩ := ho
  have ho2 : ∀ o ∈ ps.toList, 0 ≤ (pc : Int) + o.2 := fun o h => of_decide_eq_true (List.all_eq_true.mp ho2 o h)
  simp only [v_i] at h
  split at h
  · rename_i a r
    simp only [v_off] at h
    obtain ⟨rfl, rfl, rfl, rfl⟩ := v_inj h
    exact lv_lookup hx hb hd ho3 (v_look_off d a.toInt ps.toList) (Int.toNat_of_nonneg (v_look_ge ho1 ho2)).symm (hk ρ ws H locs ls ⟨hR, hl, hlc, v_t1 hst, hva⟩ (fun _ _ => rfl))
  · cases h
theorem v_s_getfield (idx : Nat) : v_SP (.getfield idx) := by
  intro p l e R s mid args below meth c Q G oi m len x pc lv st V pc2 lv2 st2 V2 ρ ws H locs ls c0 s0 hC hd ho hS h hc0 hs0 hrc hrs hk
  obtain ⟨hx, hb, hml, hown, hts, hWd, hin, hfr, hlo, hB, hX, hXl, hXB⟩ := id hC
  obtain ⟨hR, hl, hlc, hst, hva⟩ := id hS
  simp only [v_okI, Bool.and_eq_true, decide_eq_true_eq, beq_iff_eq, List.elem_eq_mem] at ho
  obtain ⟨⟨⟨rfl, hfl⟩, hty⟩, hle⟩ := ho
  obtain ⟨hci, hkn⟩ := v_flk_k _ hfl
  dsimp only at hci hkn
  obtain ⟨C, T, ty0, hcl, hw0, -, -, hpf, hnm, htc, hT1⟩ := v_cls hci
  have hlink : Cond.fieldLink (v_own oi) idx (T x.2.1).1 (T x.2.1).2.1 (T x.2.1).2.2.1 ∈ v_tbl := by
    have h9 := v_flk_in _ hfl
    unfold v_fl at h9
    dsimp only at h9
    rw [hcl] at h9
    exact h9
  simp only [v_i] at h
  split at h
  · rename_i a r
    have hca : v_cA G V a := hst _ List.mem_cons_self
    have key : ∀ v : VV, v_kind a = x.1 → v_F ρ V a x.2.1 = v_enc ρ v → v_clo G V v → (∀ (q : v_ST G m s ρ V ws H locs ls lv (v :: r)), W p l e R s mid args below meth c H locs (V.2.2.2.2.1 - c0) (V.2.2.2.2.2 - s0) Q (F0 mid (pc + 3) ls ((v :: r).map (v_enc ρ)))) → W p l e R s mid args below meth c H locs (V.2.2.2.2.1 - c0) (V.2.2.2.2.2 - s0) Q (F0 mid pc ls ((.inr (.inr a) :: r).map (v_enc ρ))) := by
      intro v hka hv hcv hk2
      obtain ⟨hal, hen⟩ := hR.ref hca (by omega)
      obtain ⟨-, -, k, cA, hwk, hKA⟩ := hR.2.2.2.1 a hal
      rw [v_E_obj (by omega), hka] at hwk
      rw [List.map_cons, hen]
      exact va_get (D := G.1) (ci := x.1) (C := C) (T := T) (N := v_nf x.1) hx hb hts hw0 hown hR.2.2.1 hR.1 k hwk hcl x.2.1 hkn (hts _ hlink) (fun _ h9 => h9) (by rw [v_range_get _ hkn, hv]) hd (hk2 ⟨hR, hl, hlc, v_cs hcv (v_t1 hst), hva⟩)
    split at h
    · rename_i h0
      obtain ⟨hka, h⟩ := v_okd h
      obtain ⟨rfl, rfl, rfl, rfl⟩ := v_inj h
      rw [beq_iff_eq] at hka
      refine key (.inl (V.1 a x.2.1)) hka ?_ trivial (fun q => hk ρ ws H locs ls q (fun _ _ => rfl))
      have hne : ¬ v_fty (v_kind a) x.2.1 = 1 := by
        rw [hka]
        intro h1
        rw [h0, h1] at hty
        exact absurd hty (by decide)
      unfold v_F
      rw [if_neg hne]
      rfl
    · rename_i h0
      obtain ⟨hka, h⟩ := v_okd h
      obtain ⟨rfl, rfl, rfl, rfl⟩ := v_inj h
      rw [beq_iff_eq] at hka
      obtain ⟨hal, -⟩ := hR.ref hca (by omega)
      refine key (.inr (.inr (V.2.1 a x.2.1))) hka ?_ (hR.2.2.2.2.2.1 a _ hal) (fun q => hk ρ ws H locs ls q (fun _ _ => rfl))
      have h1 : x.2.2.1 = 1 := by
        have : x.2.2.1 ≠ 0 := h0
        omega
      have he : v_fty (v_kind a) x.2.1 = 1 := by
        rw [hka]
        rw [h1] at hty
        simpa using hty
      unfold v_F
      rw [if_pos he]
  · cases h
end
section
/-! ===== one step: writes, arrays, new cells ===== -/
theorem v_setI_F {ρ : VA → Nat} {V : VH} {a : VA} {k : Nat} {v : Int32} (h1 : ¬ v_fty (v_kind a) k = 1) : ∀ j, v_F ρ (v_setI V a k v) a j = if j = k then .int v else v_F ρ V a j := by
  intro j
  have e : (v_setI V a k v).1 a = upd (V.1 a) k v := if_pos rfl
  unfold v_F
  rw [e]
  by_cases hj : j = k
  · subst hj
    rw [if_neg h1, if_pos rfl]
    show Value.int (upd (V.1 a) j v j) = .int v
    unfold upd
    rw [if_pos rfl]
  · rw [if_neg hj]
    show (if v_fty (v_kind a) j = 1 then v_enc ρ (.inr (.inr (V.2.1 a j))) else .int (upd (V.1 a) k v j)) = _
    unfold upd
    rw [if_neg hj]
theorem v_setR_F {ρ : VA → Nat} {V : VH} {a : VA} {k : Nat} {v : VA} (h1 : v_fty (v_kind a) k = 1) : ∀ j, v_F ρ (v_setR V a k v) a j = if j = k then v_enc ρ (.inr (.inr v)) else v_F ρ V a j := by
  intro j
  have e : (v_setR V a k v).2.1 a = va_up (V.2.1 a) k v := if_pos rfl
  unfold v_F
  rw [e]
  by_cases hj : j = k
  · subst hj
    rw [if_pos h1, if_pos rfl]
    unfold va_up
    rw [if_pos rfl]
  · rw [if_neg hj]
    unfold va_up
    rw [if_neg hj]
    rfl
/-- a put of a field, final or not -/
theorem v_putx {p : Program} {l : Launch} {e : Env} {R : Room} {s : State} {mid : MethodId} {args : Array Value} {below : List Frame} {meth : Method} {c : Code} {Q : State → Prop} {G : VC} {oi : Nat} {m : VM} {idx : Nat} {x : VX} {pc : Nat} {V V' : VH} {ρ : VA → Nat} {ws : va_W} {H : Heap} {locs : List Loc} {ls : Array Slot} {cells slots : Nat} {a : VA} {v : Value} {rest : List Value} {lv : VL} {st : List VV}
    (hC : v_CX G oi m p R s mid args meth c) (hd : decode m.2.2.1 pc = .ok (.putfield idx, 3)) (hS : v_ST G m s ρ V ws H locs ls lv st) (hfl : (oi, idx, x.1, x.2.1) ∈ v_flk) (hfin : (!(v_fin x.1 x.2.1) || ((m.2.1.name == "<init>") && (oi == x.1))) = true) (hka : v_kind a = x.1) (hca : v_cA G V a)
    (hnar : ∀ ty, v_tc (v_fty x.1 x.2.1) ty = true → narrow ty v = v ∧ fits ty v = true) (hF : ∀ j, v_F ρ V' a j = if j = x.2.1 then v else v_F ρ V a j)
    (h1 : ∀ b, b ≠ a → V'.1 b = V.1 b) (h2 : ∀ b, b ≠ a → V'.2.1 b = V.2.1 b) (h3 : ∀ b, b ≠ a → V'.2.2.1 b = V.2.2.1 b) (h4 : V'.2.2.2.1 = V.2.2.2.1) (hc : ∀ j, v_cA G V (V'.2.1 a j))
    (hk : ∀ (ws2 : va_W) (H2 : Heap) (locs2 : List Loc), v_Rl G ρ V' ws2 s H2 → va_S (fun q => G.2.2.2.2 ≤ q) s.heap H2 locs2 → W p l e R s mid args below meth c H2 locs2 cells slots Q (F0 mid (pc + 3) ls rest)) : W p l e R s mid args below meth c H locs cells slots Q (F0 mid pc ls (v :: v_enc ρ (.inr (.inr a)) :: rest)) := by
  obtain ⟨hx, hb, hml, hown, hts, hWd, hin, hfr, hlo, hB, hX, hXl, hXB⟩ := id hC
  obtain ⟨hR, hl, hlc, hst, hva⟩ := id hS
  obtain ⟨hci, hkn⟩ := v_flk_k _ hfl
  dsimp only at hci hkn
  obtain ⟨C, T, ty0, hcl, hw0, -, -, hpf, hnm, htc, hT1⟩ := v_cls hci
  have hlink : Cond.fieldLink (v_own oi) idx (T x.2.1).1 (T x.2.1).2.1 (T x.2.1).2.2.1 ∈ v_tbl := by
    have h9 := v_flk_in _ hfl
    unfold v_fl at h9
    dsimp only at h9
    rw [hcl] at h9
    exact h9
  obtain ⟨hal, hen⟩ := hR.ref hca (by omega)
  obtain ⟨-, -, k, cA, hwk, hKA⟩ := hR.2.2.2.1 a hal
  have hwk2 := hwk
  rw [v_E_obj (by omega), hka] at hwk2
  rw [hen]
  obtain ⟨hn1, hn2⟩ := hnar _ (htc _ hkn)
  have hset : ((List.range (v_nf x.1)).map (v_F ρ V a)).set x.2.1 v = (List.range (v_nf x.1)).map (v_F ρ V' a) := by
    have h9 := v_range_set (v_F ρ V a) (v_F ρ V' a) (n := v_nf x.1) (k := x.2.1) (fun j hj => by rw [hF, if_neg hj])
    rw [hF, if_pos rfl] at h9
    exact h9
  have kk : ∀ (H1 : Heap) (locs1 : List Loc), va_P G.1 vcl (ws.set k (ρ a, .inr (x.1, ((List.range (v_nf x.1)).map (v_F ρ V a)).set x.2.1 v))) H1 → va_D (fun q => G.2.2.2.2 ≤ q) (ws.set k (ρ a, .inr (x.1, ((List.range (v_nf x.1)).map (v_F ρ V a)).set x.2.1 v))) → va_S (fun q => G.2.2.2.2 ≤ q) s.heap H1 locs1 → W p l e R s mid args below meth c H1 locs1 cells slots Q (F0 mid (pc + 3) ls rest) := by
    intro H1 locs1 hP1 hD1 hS1
    refine hk _ H1 locs1 (hR.upd hal hwk hKA ?_ hP1 hD1 h1 h2 h3 h4 hc) hS1
    rw [v_E_obj (by omega), hka, hset]
  by_cases hf : (T x.2.1).2.2.2 = true
  · have hfe : v_fin x.1 x.2.1 = true := by unfold v_fin; rw [hcl]; exact hf
    rw [hfe] at hfin
    simp only [Bool.not_true, Bool.false_or, Bool.and_eq_true, beq_iff_eq] at hfin
    exact va_putF (D := G.1) (ci := x.1) (C := C) (T := T) (N := v_nf x.1) hx hb hts hw0 ty0 hpf hnm hown hR.2.2.1 hR.1 hR.2.1 hva k hwk2 hcl x.2.1 hkn (hts _ hlink) (fun _ h9 => h9) hf (hin hfin.1) (by rw [hT1 _ hkn, hfin.2]) (hpf _ hkn) hn1 hn2 (by simpa using hkn) hd kk
  · exact va_put (D := G.1) (ci := x.1) (C := C) (T := T) (N := v_nf x.1) hx hb hts hw0 ty0 hpf hnm hown hR.2.2.1 hR.1 hR.2.1 hva k hwk2 hcl x.2.1 hkn (hts _ hlink) (fun _ h9 => h9) (by simpa using hf) (hpf _ hkn) hn1 hn2 (by simpa using hkn) hd kk
theorem v_tc1 {v : VA} {ρ : VA → Nat} : ∀ ty, v_tc 1 ty = true → narrow ty (v_enc ρ (.inr (.inr v))) = v_enc ρ (.inr (.inr v)) ∧ fits ty (v_enc ρ (.inr (.inr v))) = true := by
  intro ty h
  show narrow ty (if v.1 = 0 then .null else .ref (ρ v)) = (if v.1 = 0 then .null else .ref (ρ v)) ∧ fits ty (if v.1 = 0 then .null else .ref (ρ v)) = true
  cases ty <;> first | (simp [v_tc] at h; done) | (split <;> exact ⟨rfl, rfl⟩)
theorem v_tc0 {v : Int32} : ∀ ty, v_tc 0 ty = true → narrow ty (.int v) = .int v ∧ fits ty (.int v) = true := by
  intro ty h
  cases ty <;> first | (simp [v_tc] at h; done) | exact ⟨rfl, rfl⟩
theorem v_tc2 {v : Int32} (hv : v_bool v = true) : ∀ ty, v_tc 2 ty = true → narrow ty (.int v) = .int v ∧ fits ty (.int v) = true := by
  intro ty h
  cases ty <;> first | (simp [v_tc] at h; done) | exact v_bool_ok hv
theorem v_s_putfield (idx : Nat) : v_SP (.putfield idx) := by
  intro p l e R s mid args below meth c Q G oi m len x pc lv st V pc2 lv2 st2 V2 ρ ws H locs ls c0 s0 hC hd ho hS h hc0 hs0 hrc hrs hk
  obtain ⟨hx, hb, hml, hown, hts, hWd, hin, hfr, hlo, hB, hX, hXl, hXB⟩ := id hC
  obtain ⟨hR, hl, hlc, hst, hva⟩ := id hS
  simp only [v_okI, Bool.and_eq_true, decide_eq_true_eq, beq_iff_eq, List.elem_eq_mem] at ho
  obtain ⟨⟨⟨⟨rfl, hfl⟩, hty⟩, hfin⟩, hle⟩ := ho
  simp only [v_i] at h
  split at h
  · rename_i h0
    split at h
    · rename_i v a r
      obtain ⟨hka, h⟩ := v_okd h
      obtain ⟨rfl, rfl, rfl, rfl⟩ := v_inj h
      rw [beq_iff_eq] at hka
      have hca : v_cA G V a := v_t1 hst _ List.mem_cons_self
      have hcv : v_cA G V v := hst _ List.mem_cons_self
      have hal := (hR.ref hca (by have := (v_flk_k _ hfl).1; dsimp only at this; omega)).1
      refine v_putx (x := x) (V' := v_setR V a x.2.1 v) hC hd hS hfl hfin hka hca (by rw [← hty, h0]; exact v_tc1) (v_setR_F (by rw [hka, ← hty, h0])) (fun b hb => rfl) (fun b hb => if_neg hb) (fun b hb => rfl) rfl (fun j => ?_) (fun ws2 H2 locs2 hR2 hva2 => hk ρ ws2 H2 locs2 ls (hS.keep rfl hR2 hva2 (v_t2 hst)) (fun _ _ => rfl))
      show v_cA G V ((if a = a then va_up (V.2.1 a) x.2.1 v else V.2.1 a) j)
      rw [if_pos rfl]
      unfold va_up
      split
      · exact hcv
      · exact hR.2.2.2.2.2.1 a j hal
    · cases h
  · rename_i h0
    split at h
    · rename_i v a r
      obtain ⟨hka, h⟩ := v_okd h
      obtain ⟨rfl, rfl, rfl, rfl⟩ := v_inj h
      rw [beq_iff_eq] at hka
      have hca : v_cA G V a := v_t1 hst _ List.mem_cons_self
      have hal := (hR.ref hca (by have := (v_flk_k _ hfl).1; dsimp only at this; omega)).1
      exact v_putx (x := x) (V' := v_setI V a x.2.1 v) hC hd hS hfl hfin hka hca (by rw [← hty, h0]; exact v_tc0) (v_setI_F (by rw [hka, ← hty, h0]; decide)) (fun b hb => if_neg hb) (fun b hb => rfl) (fun b hb => rfl) rfl (fun j => hR.2.2.2.2.2.1 a j hal) (fun ws2 H2 locs2 hR2 hva2 => hk ρ ws2 H2 locs2 ls (hS.keep rfl hR2 hva2 (v_t2 hst)) (fun _ _ => rfl))
    · cases h
  · rename_i h1 h0
    have h2 : x.2.2.1 = 2 := by
      have g1 : x.2.2.1 ≠ 1 := h1
      have g0 : x.2.2.1 ≠ 0 := h0
      omega
    split at h
    · rename_i v a r
      obtain ⟨hka, h⟩ := v_okd h
      obtain ⟨rfl, rfl, rfl, rfl⟩ := v_inj h
      rw [Bool.and_eq_true, beq_iff_eq] at hka
      obtain ⟨hka, hbv⟩ := hka
      have hca : v_cA G V a := v_t1 hst _ List.mem_cons_self
      have hal := (hR.ref hca (by have := (v_flk_k _ hfl).1; dsimp only at this; omega)).1
      exact v_putx (x := x) (V' := v_setI V a x.2.1 v) hC hd hS hfl hfin hka hca (by rw [← hty, h2]; exact v_tc2 hbv) (v_setI_F (by rw [hka, ← hty, h2]; decide)) (fun b hb => if_neg hb) (fun b hb => rfl) (fun b hb => rfl) rfl (fun j => hR.2.2.2.2.2.1 a j hal) (fun ws2 H2 locs2 hR2 hva2 => hk ρ ws2 H2 locs2 ls (hS.keep rfl hR2 hva2 (v_t2 hst)) (fun _ _ => rfl))
    · cases h
/-- the script's cell -/
theorem v_script {G : VC} {ρ : VA → Nat} {V : VH} {ws : va_W} {s : State} {H : Heap} (h : v_Rl G ρ V ws s H) {a : VA} (hc : v_cA G V a) (hk : v_kind a = 17) : a = (60, G.2.2.1, 0) := by
  rcases hc with h0 | h0 | h0
  · have : v_kind a = 99 := by unfold v_kind; rw [h0]; rfl
    omega
  · exact h0
  · have := (h.2.2.2.1 a h0).2.1
    omega
theorem v_in_lt {i : Int32} {n : Nat} (h : v_in i n = true) : i.toNatClampNeg < n := by
  have h1 := v_in_iff h
  unfold vp_in at h1
  omega
theorem v_s_arraylength : v_SP .arraylength := by
  intro p l e R s mid args below meth c Q G oi m len x pc lv st V pc2 lv2 st2 V2 ρ ws H locs ls c0 s0 hC hd ho hS h hc0 hs0 hrc hrs hk
  obtain ⟨hx, hb, hml, hown, hts, hWd, hin, hfr, hlo, hB, hX, hXl, hXB⟩ := id hC
  obtain ⟨hR, hl, hlc, hst, hva⟩ := id hS
  have hlen : len = 1 := by simpa [v_okI] using ho
  subst hlen
  simp only [v_i] at h
  split at h
  · rename_i a r
    obtain ⟨hka, h⟩ := v_okd h
    obtain ⟨rfl, rfl, rfl, rfl⟩ := v_inj h
    have hca : v_cA G V a := hst _ List.mem_cons_self
    have hk9 := hk ρ ws H locs ls ⟨hR, hl, hlc, v_cs trivial (v_t1 hst), hva⟩ (fun _ _ => rfl)
    simp only [Bool.or_eq_true, beq_iff_eq] at hka
    rcases hka with hka | hka
    · obtain ⟨hal, hen⟩ := hR.ref hca (by omega)
      obtain ⟨-, -, k, cA, hwk, hKA⟩ := hR.2.2.2.1 a hal
      rw [v_E_int (Or.inl hka)] at hwk
      rw [List.map_cons, hen]
      have hKA := hKA (by omega)
      rw [hka] at hKA
      exact va_alen hx hb (v_KK hR.2.2.1 hKA) hR.1 k 0 hwk rfl rfl hd hk9
    · have he := v_script hR hca hka
      subst he
      have hen : v_enc ρ (.inr (.inr (60, G.2.2.1, 0))) = .ref G.2.1 := by
        show (if (60 : Nat) = 0 then Value.null else .ref (ρ (60, G.2.2.1, 0))) = _
        rw [if_neg (by decide), hR.2.2.2.2.2.2.1]
      rw [List.map_cons, hen]
      exact va_slen hx hb hX hXl (Nat.not_le.mpr hXB) hva hd hk9
  · cases h
theorem v_s_iaload : v_SP .iaload := by
  intro p l e R s mid args below meth c Q G oi m len x pc lv st V pc2 lv2 st2 V2 ρ ws H locs ls c0 s0 hC hd ho hS h hc0 hs0 hrc hrs hk
  obtain ⟨hx, hb, hml, hown, hts, hWd, hin, hfr, hlo, hB, hX, hXl, hXB⟩ := id hC
  obtain ⟨hR, hl, hlc, hst, hva⟩ := id hS
  have hlen : len = 1 := by simpa [v_okI] using ho
  subst hlen
  simp only [v_i] at h
  split at h
  · rename_i j a r
    obtain ⟨hka, h⟩ := v_okd h
    obtain ⟨rfl, rfl, rfl, rfl⟩ := v_inj h
    have hca : v_cA G V a := v_t1 hst _ List.mem_cons_self
    have hk9 := hk ρ ws H locs ls ⟨hR, hl, hlc, v_cs trivial (v_t2 hst), hva⟩ (fun _ _ => rfl)
    simp only [Bool.and_eq_true, Bool.or_eq_true, beq_iff_eq] at hka
    obtain ⟨hka, hj⟩ := hka
    rcases hka with hka | hka
    · obtain ⟨hal, hen⟩ := hR.ref hca (by omega)
      obtain ⟨-, -, k, cA, hwk, hKA⟩ := hR.2.2.2.1 a hal
      rw [v_E_int (Or.inl hka)] at hwk
      rw [List.map_cons, List.map_cons, hen]
      have hKA := hKA (by omega)
      rw [hka] at hKA
      exact va_iald hx hb (v_KK hR.2.2.1 hKA) hR.1 k 0 hwk rfl (v_in_iff hj) hd hk9
    · have he := v_script hR hca hka
      subst he
      have hen : v_enc ρ (.inr (.inr (60, G.2.2.1, 0))) = .ref G.2.1 := by
        show (if (60 : Nat) = 0 then Value.null else .ref (ρ (60, G.2.2.1, 0))) = _
        rw [if_neg (by decide), hR.2.2.2.2.2.2.1]
      have hv := hR.2.2.2.2.2.2.2 j.toNatClampNeg (v_in_lt hj)
      rw [List.map_cons, List.map_cons, hen]
      rw [hv] at hk9
      exact va_sld hx hb hX hXl (Nat.not_le.mpr hXB) hva (v_in_iff hj) hd hk9
  · cases h
theorem v_s_baload : v_SP .baload := by
  intro p l e R s mid args below meth c Q G oi m len x pc lv st V pc2 lv2 st2 V2 ρ ws H locs ls c0 s0 hC hd ho hS h hc0 hs0 hrc hrs hk
  obtain ⟨hx, hb, hml, hown, hts, hWd, hin, hfr, hlo, hB, hX, hXl, hXB⟩ := id hC
  obtain ⟨hR, hl, hlc, hst, hva⟩ := id hS
  have hlen : len = 1 := by simpa [v_okI] using ho
  subst hlen
  simp only [v_i] at h
  split at h
  · rename_i j a r
    obtain ⟨hka, h⟩ := v_okd h
    obtain ⟨rfl, rfl, rfl, rfl⟩ := v_inj h
    have hca : v_cA G V a := v_t1 hst _ List.mem_cons_self
    simp only [Bool.and_eq_true, beq_iff_eq] at hka
    obtain ⟨hka, hj⟩ := hka
    obtain ⟨hal, hen⟩ := hR.ref hca (by omega)
    obtain ⟨-, -, k, cA, hwk, hKA⟩ := hR.2.2.2.1 a hal
    rw [v_E_int (Or.inr hka)] at hwk
    rw [List.map_cons, List.map_cons, hen]
    have hKA := hKA (by omega)
    rw [hka] at hKA
    exact va_zald hx hb (v_KK hR.2.2.1 hKA) hR.1 k 0 hwk rfl (v_in_iff hj) hd (hk ρ ws H locs ls ⟨hR, hl, hlc, v_cs trivial (v_t2 hst), hva⟩ (fun _ _ => rfl))
  · cases h
theorem v_s_laload : v_SP .laload := by
  intro p l e R s mid args below meth c Q G oi m len x pc lv st V pc2 lv2 st2 V2 ρ ws H locs ls c0 s0 hC hd ho hS h hc0 hs0 hrc hrs hk
  obtain ⟨hx, hb, hml, hown, hts, hWd, hin, hfr, hlo, hB, hX, hXl, hXB⟩ := id hC
  obtain ⟨hR, hl, hlc, hst, hva⟩ := id hS
  have hlen : len = 1 := by simpa [v_okI] using ho
  subst hlen
  simp only [v_i] at h
  split at h
  · rename_i j a r
    obtain ⟨hka, h⟩ := v_okd h
    obtain ⟨rfl, rfl, rfl, rfl⟩ := v_inj h
    have hca : v_cA G V a := v_t1 hst _ List.mem_cons_self
    simp only [Bool.and_eq_true, beq_iff_eq] at hka
    obtain ⟨hka, hj⟩ := hka
    obtain ⟨hal, hen⟩ := hR.ref hca (by omega)
    obtain ⟨-, -, k, cA, hwk, hKA⟩ := hR.2.2.2.1 a hal
    rw [v_E_long hka] at hwk
    rw [List.map_cons, List.map_cons, hen]
    have hKA := hKA (by omega)
    rw [hka] at hKA
    exact va_lald hx hb (v_KK hR.2.2.1 hKA) hR.1 k 0 hwk rfl (v_in_iff hj) hd (hk ρ ws H locs ls ⟨hR, hl, hlc, v_cs trivial (v_t2 hst), hva⟩ (fun _ _ => rfl))
  · cases h
theorem v_ety_obj {k : Nat} (h : 14 ≤ k ∧ k ≤ 16) : ∃ r : vw_C, v_ety k = .object r.1 ∧ vcl[v_cls3 k]? = some r ∧ v_cls3 k < 11 := by
  have : k = 14 ∨ k = 15 ∨ k = 16 := by omega
  rcases this with rfl | rfl | rfl
  · exact ⟨(RX3, TX3, 12), rfl, rfl, by decide⟩
  · exact ⟨(RX2, TX2, 2), rfl, rfl, by decide⟩
  · exact ⟨(RX7, TX7, 9), rfl, rfl, by decide⟩
theorem v_s_aaload : v_SP .aaload := by
  intro p l e R s mid args below meth c Q G oi m len x pc lv st V pc2 lv2 st2 V2 ρ ws H locs ls c0 s0 hC hd ho hS h hc0 hs0 hrc hrs hk
  obtain ⟨hx, hb, hml, hown, hts, hWd, hin, hfr, hlo, hB, hX, hXl, hXB⟩ := id hC
  obtain ⟨hR, hl, hlc, hst, hva⟩ := id hS
  have hlen : len = 1 := by simpa [v_okI] using ho
  subst hlen
  simp only [v_i] at h
  split at h
  · rename_i j a r
    obtain ⟨hka, h⟩ := v_okd h
    obtain ⟨rfl, rfl, rfl, rfl⟩ := v_inj h
    have hca : v_cA G V a := v_t1 hst _ List.mem_cons_self
    simp only [Bool.and_eq_true, decide_eq_true_eq] at hka
    obtain ⟨hka, hj⟩ := hka
    obtain ⟨hal, hen⟩ := hR.ref hca (by omega)
    obtain ⟨-, -, k, cA, hwk, hKA⟩ := hR.2.2.2.1 a hal
    rw [v_E_ref hka.1] at hwk
    rw [List.map_cons, List.map_cons, hen]
    have hKA := hKA (by omega)
    obtain ⟨rr, he1, -, -⟩ := v_ety_obj hka
    rw [he1] at hKA
    have hk9 := hk ρ ws H locs ls ⟨hR, hl, hlc, v_cs (hR.2.2.2.2.2.1 a _ hal) (v_t2 hst), hva⟩ (fun _ _ => rfl)
    rw [List.map_cons, ← v_rf] at hk9
    exact va_aldq hx hb (v_KK hR.2.2.1 hKA) hR.1 k 0 hwk rfl (v_in_iff hj) hd hk9
  · cases h
theorem v_s_iastore : v_SP .iastore := by
  intro p l e R s mid args below meth c Q G oi m len x pc lv st V pc2 lv2 st2 V2 ρ ws H locs ls c0 s0 hC hd ho hS h hc0 hs0 hrc hrs hk
  obtain ⟨hx, hb, hml, hown, hts, hWd, hin, hfr, hlo, hB, hX, hXl, hXB⟩ := id hC
  obtain ⟨hR, hl, hlc, hst, hva⟩ := id hS
  have hlen : len = 1 := by simpa [v_okI] using ho
  subst hlen
  simp only [v_i] at h
  split at h
  · rename_i v j a r
    obtain ⟨hka, h⟩ := v_okd h
    obtain ⟨rfl, rfl, rfl, rfl⟩ := v_inj h
    have hca : v_cA G V a := v_t2 hst _ List.mem_cons_self
    simp only [Bool.and_eq_true, beq_iff_eq] at hka
    obtain ⟨hka, hj⟩ := hka
    obtain ⟨hal, hen⟩ := hR.ref hca (by omega)
    obtain ⟨-, -, k, cA, hwk, hKA⟩ := hR.2.2.2.1 a hal
    have hwk2 := hwk
    rw [v_E_int (Or.inl hka)] at hwk2
    rw [List.map_cons, List.map_cons, List.map_cons, hen]
    have hKA2 := hKA (by omega)
    rw [hka] at hKA2
    refine va_iast hx hb (v_KK hR.2.2.1 hKA2) hR.1 hR.2.1 hva k 0 hwk2 rfl (v_in_iff hj) hd (fun H1 locs1 hP1 hD1 hS1 => hk ρ _ H1 locs1 ls (hS.keep rfl (hR.upd (V' := v_setI V a j.toNatClampNeg v) hal hwk hKA ?_ hP1 hD1 (fun b hb => if_neg hb) (fun b hb => rfl) (fun b hb => rfl) rfl (fun i => hR.2.2.2.2.2.1 a i hal)) hS1 (v_t1 (v_t2 hst))) (fun _ _ => rfl))
    rw [v_E_int (Or.inl hka), show (v_setI V a j.toNatClampNeg v).1 a = upd (V.1 a) j.toNatClampNeg v from if_pos rfl]
  · cases h
theorem v_nar_bool {v : Int32} (h : v_bool v = true) : vp_nar .boolean v = v := by
  unfold vp_nar
  rw [(v_bool_ok h).1]
theorem v_s_bastore : v_SP .bastore := by
  intro p l e R s mid args below meth c Q G oi m len x pc lv st V pc2 lv2 st2 V2 ρ ws H locs ls c0 s0 hC hd ho hS h hc0 hs0 hrc hrs hk
  obtain ⟨hx, hb, hml, hown, hts, hWd, hin, hfr, hlo, hB, hX, hXl, hXB⟩ := id hC
  obtain ⟨hR, hl, hlc, hst, hva⟩ := id hS
  have hlen : len = 1 := by simpa [v_okI] using ho
  subst hlen
  simp only [v_i] at h
  split at h
  · rename_i v j a r
    obtain ⟨hka, h⟩ := v_okd h
    obtain ⟨rfl, rfl, rfl, rfl⟩ := v_inj h
    have hca : v_cA G V a := v_t2 hst _ List.mem_cons_self
    simp only [Bool.and_eq_true, beq_iff_eq] at hka
    obtain ⟨⟨hka, hj⟩, hbv⟩ := hka
    obtain ⟨hal, hen⟩ := hR.ref hca (by omega)
    obtain ⟨-, -, k, cA, hwk, hKA⟩ := hR.2.2.2.1 a hal
    have hwk2 := hwk
    rw [v_E_int (Or.inr hka)] at hwk2
    rw [List.map_cons, List.map_cons, List.map_cons, hen]
    have hKA2 := hKA (by omega)
    rw [hka] at hKA2
    refine va_zast hx hb (v_KK hR.2.2.1 hKA2) hR.1 hR.2.1 hva k 0 hwk2 rfl (v_in_iff hj) hd (fun H1 locs1 hP1 hD1 hS1 => hk ρ _ H1 locs1 ls (hS.keep rfl (hR.upd (V' := v_setI V a j.toNatClampNeg v) hal hwk hKA ?_ hP1 hD1 (fun b hb => if_neg hb) (fun b hb => rfl) (fun b hb => rfl) rfl (fun i => hR.2.2.2.2.2.1 a i hal)) hS1 (v_t1 (v_t2 hst))) (fun _ _ => rfl))
    rw [v_E_int (Or.inr hka), show (v_setI V a j.toNatClampNeg v).1 a = upd (V.1 a) j.toNatClampNeg v from if_pos rfl, v_nar_bool hbv]
  · cases h
theorem v_s_lastore : v_SP .lastore := by
  intro p l e R s mid args below meth c Q G oi m len x pc lv st V pc2 lv2 st2 V2 ρ ws H locs ls c0 s0 hC hd ho hS h hc0 hs0 hrc hrs hk
  obtain ⟨hx, hb, hml, hown, hts, hWd, hin, hfr, hlo, hB, hX, hXl, hXB⟩ := id hC
  obtain ⟨hR, hl, hlc, hst, hva⟩ := id hS
  have hlen : len = 1 := by simpa [v_okI] using ho
  subst hlen
  simp only [v_i] at h
  split at h
  · rename_i v j a r
    obtain ⟨hka, h⟩ := v_okd h
    obtain ⟨rfl, rfl, rfl, rfl⟩ := v_inj h
    have hca : v_cA G V a := v_t2 hst _ List.mem_cons_self
    simp only [Bool.and_eq_true, beq_iff_eq] at hka
    obtain ⟨hka, hj⟩ := hka
    obtain ⟨hal, hen⟩ := hR.ref hca (by omega)
    obtain ⟨-, -, k, cA, hwk, hKA⟩ := hR.2.2.2.1 a hal
    have hwk2 := hwk
    rw [v_E_long hka] at hwk2
    rw [List.map_cons, List.map_cons, List.map_cons, hen]
    have hKA2 := hKA (by omega)
    rw [hka] at hKA2
    refine va_last hx hb (v_KK hR.2.2.1 hKA2) hR.1 hR.2.1 hva k 0 hwk2 rfl (v_in_iff hj) hd (fun H1 locs1 hP1 hD1 hS1 => hk ρ _ H1 locs1 ls (hS.keep rfl (hR.upd (V' := v_setL V a j.toNatClampNeg v) hal hwk hKA ?_ hP1 hD1 (fun b hb => rfl) (fun b hb => rfl) (fun b hb => if_neg hb) rfl (fun i => hR.2.2.2.2.2.1 a i hal)) hS1 (v_t1 (v_t2 hst))) (fun _ _ => rfl))
    rw [v_E_long hka, show (v_setL V a j.toNatClampNeg v).2.2.1 a = vp_updL (V.2.2.1 a) j.toNatClampNeg v from if_pos rfl]
  · cases h
theorem v_s_aastore : v_SP .aastore := by
  intro p l e R s mid args below meth c Q G oi m len x pc lv st V pc2 lv2 st2 V2 ρ ws H locs ls c0 s0 hC hd ho hS h hc0 hs0 hrc hrs hk
  obtain ⟨hx, hb, hml, hown, hts, hWd, hin, hfr, hlo, hB, hX, hXl, hXB⟩ := id hC
  obtain ⟨hR, hl, hlc, hst, hva⟩ := id hS
  have hlen : len = 1 := by simpa [v_okI] using ho
  subst hlen
  simp only [v_i] at h
  split at h
  · rename_i v j a r
    obtain ⟨hka, h⟩ := v_okd h
    obtain ⟨rfl, rfl, rfl, rfl⟩ := v_inj h
    have hca : v_cA G V a := v_t2 hst _ List.mem_cons_self
    have hcv : v_cA G V v := hst _ List.mem_cons_self
    simp only [Bool.and_eq_true, decide_eq_true_eq, beq_iff_eq] at hka
    obtain ⟨⟨hka, hj⟩, hkv⟩ := hka
    obtain ⟨rr, he1, hcl, hc11⟩ := v_ety_obj hka
    have hkv : v_kind v = v_cls3 (v_kind a) := hkv
    obtain ⟨hal, hen⟩ := hR.ref hca (by omega)
    obtain ⟨halv, henv⟩ := hR.ref hcv (by omega)
    obtain ⟨-, -, k, cA, hwk, hKA⟩ := hR.2.2.2.1 a hal
    obtain ⟨-, -, kv, cv, hwv, -⟩ := hR.2.2.2.1 v halv
    rw [v_E_obj (by omega)] at hwv
    have hwk2 := hwk
    rw [v_E_ref hka.1] at hwk2
    rw [List.map_cons, List.map_cons, List.map_cons, hen, henv]
    have hKA2 := hKA (by omega)
    rw [he1] at hKA2
    refine va_astq (r := rr) hx hb (v_KK hR.2.2.1 hKA2) hR.1 hR.2.1 hva k 0 kv (v_kind v) hwk2 rfl hwv (by rw [hkv]; exact hcl) (v_in_iff hj) hd (fun H1 locs1 hP1 hD1 hS1 => hk ρ _ H1 locs1 ls (hS.keep rfl (hR.upd (V' := v_setR V a j.toNatClampNeg v) hal hwk hKA ?_ hP1 hD1 (fun b hb => rfl) (fun b hb => if_neg hb) (fun b hb => rfl) rfl (fun i => ?_)) hS1 (v_t1 (v_t2 hst))) (fun _ _ => rfl))
    · have hv0 : ¬ v.1 = 0 := by
        intro h0
        have : v_kind v = 99 := by unfold v_kind; rw [h0]; rfl
        omega
      rw [v_E_ref hka.1, show (v_setR V a j.toNatClampNeg v).2.1 a = va_up (V.2.1 a) j.toNatClampNeg v from if_pos rfl]
      congr 7
      funext i
      unfold va_up
      by_cases hi : i = j.toNatClampNeg
      · rw [if_pos hi, if_pos hi]
        unfold v_rq
        rw [if_neg hv0]
      · rw [if_neg hi, if_neg hi]
    · show v_cA G V ((if a = a then va_up (V.2.1 a) j.toNatClampNeg v else V.2.1 a) i)
      rw [if_pos rfl]
      unfold va_up
      split
      · exact hcv
      · exact hR.2.2.2.2.2.1 a i hal
  · cases h
end
section
/-! ===== one step: new cells, the calls that are steps of their own ===== -/
theorem v_le_make (V : VH) (a : VA) (n : Nat) : ∀ b, V.2.2.2.1 b = true → (v_make V a n).2.2.2.1 b = true := fun b hb => by
  show (if b = a then true else V.2.2.2.1 b) = true
  split
  · rfl
  · exact hb
/-- behind a new cell -/
theorem v_made {G : VC} {m : VM} {s : State} {ρ : VA → Nat} {V : VH} {ws : va_W} {H H1 : Heap} {locs : List Loc} {ls : Array Slot} {lv : VL} {st : List VV} {a : VA} {q n : Nat} {cA : ClassId} {e : va_E} (hS : v_ST G m s ρ V ws H locs ls lv st) (hn : V.2.2.2.1 a = false) (h0 : a.1 ≠ 0) (hk : v_kind a ≤ 16) (hK : v_KA s cA a) (he : e = v_E (v_ext ρ a q) (v_make V a n) cA a)
    (hP : va_P G.1 vcl (ws ++ [(q, e)]) H1) (hD : va_D (fun q => G.2.2.2.2 ≤ q) (ws ++ [(q, e)])) (hva : va_S (fun q => G.2.2.2.2 ≤ q) s.heap H1 locs) {r : List VV} (hr : ∀ v ∈ r, v_clo G V v) :
    v_ST G m s (v_ext ρ a q) (v_make V a n) (ws ++ [(q, e)]) H1 locs ls lv (.inr (.inr a) :: r) ∧ (∀ b, V.2.2.2.1 b = true → v_ext ρ a q b = ρ b) ∧ (.inr (.inr a) :: r).map (v_enc (v_ext ρ a q)) = .ref q :: r.map (v_enc ρ) := by
  obtain ⟨hR, hl, hlc, hst, -⟩ := id hS
  have hs : a ≠ (60, G.2.2.1, 0) := by
    intro e
    rw [e] at hk
    exact absurd (show (17 : Nat) ≤ 16 from hk) (by decide)
  have hρ : ∀ b, V.2.2.2.1 b = true → v_ext ρ a q b = ρ b := fun b hb => if_neg (fun e => by rw [e, hn] at hb; cases hb)
  have hρs : v_ext ρ a q (60, G.2.2.1, 0) = ρ (60, G.2.2.1, 0) := if_neg (fun e => hs e.symm)
  refine ⟨⟨hR.new hn h0 hk hK he hP hD, ?_, fun q hq => v_clo_mono (v_le_make V a n) (hlc q hq), v_cs (Or.inr (Or.inr ?_)) (fun v hv => v_clo_mono (v_le_make V a n) (hr v hv)), hva⟩, hρ, ?_⟩
  · rw [v_lv_ext hρ hρs hlc]; exact hl
  · show (if a = a then true else V.2.2.2.1 a) = true
    rw [if_pos rfl]
  · rw [List.map_cons, v_map_ext hρ hρs hr]
    congr 1
    show (if a.1 = 0 then Value.null else .ref (v_ext ρ a q a)) = _
    rw [if_neg h0, show v_ext ρ a q a = q from if_pos rfl]
theorem v_newd {a : Option VA} {k n pc len : Nat} {lv lv2 : VL} {st st2 : List VV} {V V2 : VH} {pc2 : Nat} (h : v_new a k n pc len lv st V = some (.inl (pc2, lv2, st2, V2))) : ∃ b, a = some b ∧ V.2.2.2.1 b = false ∧ v_kind b = k ∧ b.1 ≠ 0 ∧ pc + len = pc2 ∧ lv = lv2 ∧ .inr (.inr b) :: st = st2 ∧ v_make V b n = V2 := by
  unfold v_new at h
  split at h
  · rename_i b
    obtain ⟨h1, h⟩ := v_okd h
    obtain ⟨e1, e2, e3, e4⟩ := v_inj h
    simp only [Bool.and_eq_true, Bool.not_eq_true', beq_iff_eq, beq_eq_false_iff_ne] at h1
    exact ⟨b, rfl, h1.1.1, h1.1.2, h1.2, e1, e2, e3, e4⟩
  · cases h
theorem v_tc_def (c : Nat) (ty : FieldType) (h : v_tc c ty = true) : defaultValue ty = if c = 1 then .null else .int 0 := by
  unfold v_tc at h
  split at h <;> first | rfl | cases h
theorem v_s_new (idx : Nat) : v_SP (.new idx) := by
  intro p l e R s mid args below meth c Q G oi m len x pc lv st V pc2 lv2 st2 V2 ρ ws H locs ls c0 s0 hC hd ho hS h hc0 hs0 hrc hrs hk
  obtain ⟨hx, hb, hml, hown, hts, hWd, hin, hfr, hlo, hB, hX, hXl, hXB⟩ := id hC
  obtain ⟨hR, hl, hlc, hst, hva⟩ := id hS
  simp only [v_okI, Bool.and_eq_true, decide_eq_true_eq, beq_iff_eq, List.elem_eq_mem] at ho
  obtain ⟨⟨⟨rfl, hck⟩, hci⟩, -⟩ := ho
  simp only [v_i] at h
  obtain ⟨b, -, hn, hkb, h0, rfl, rfl, rfl, rfl⟩ := v_newd h
  obtain ⟨C, T, ty0, hcl, hw0, hin1, hin2, hpf, hnm, htc, hT1⟩ := v_cls hci
  have hlink : Cond.classLink (v_own oi) idx C ∈ v_tbl := by
    have h9 := v_clk_in _ hck
    unfold v_cw at h9
    dsimp only at h9
    rw [hcl] at h9
    exact h9
  have hcn : (v_make V b (v_nf x.1)).2.2.2.2.1 = V.2.2.2.2.1 + 1 := rfl
  have hsn : (v_make V b (v_nf x.1)).2.2.2.2.2 = V.2.2.2.2.2 + v_nf x.1 := rfl
  rw [hcn] at hrc
  rw [hsn] at hrs
  have hF : ∀ (ρ' : VA → Nat) (j : Nat), v_F ρ' (v_make V b (v_nf x.1)) b j = if v_fty x.1 j = 1 then .null else .int 0 := by
    intro ρ' j
    unfold v_F
    rw [hkb, show (v_make V b (v_nf x.1)).2.1 b = fun _ => (0, 0, 0) from if_pos rfl, show (v_make V b (v_nf x.1)).1 b = fun _ => 0 from if_pos rfl]
    rfl
  refine va_new (D := G.1) (ci := x.1) (fs := (List.range (v_nf x.1)).map (fun j => if v_fty x.1 j = 1 then Value.null else .int 0)) (C := C) (T := T) (N := v_nf x.1) hx hb hts hw0 ty0 hpf hown (hts _ hlink) (hts _ hin1) (hts _ hin2) hR.2.2.1 hR.1 hR.2.1 hva (fun q hq => Nat.le_trans hB hq) hcl (fun j hj => ?_) (by omega) (by omega) hd (fun q H1 hP1 hD1 hS1 => ?_)
  · unfold vp_V
    rw [List.getD_eq_getElem?_getD, v_range_get _ hj]
    exact v_tc_def _ _ (htc j hj)
  · obtain ⟨g1, g2, g3⟩ := v_made (cA := 0) hS hn h0 (by omega) (fun h11 => by omega) (by rw [v_E_obj (by omega), hkb]; congr 2; exact List.map_congr_left (fun j _ => (hF _ j).symm)) hP1 hD1 hS1 (n := v_nf x.1) hst
    have hk9 := hk _ _ H1 locs ls g1 g2
    rw [g3] at hk9
    exact W.cs (by rw [hcn]; omega) (by rw [hsn]; omega) hk9
theorem v_at (t t' : ArrayType) (h : (t == t') = true) : t = t' := by
  revert h
  cases t <;> cases t' <;> decide
theorem v_s_newarray (t : ArrayType) : v_SP (.newarray t) := by
  intro p l e R s mid args below meth c Q G oi m len x pc lv st V pc2 lv2 st2 V2 ρ ws H locs ls c0 s0 hC hd ho hS h hc0 hs0 hrc hrs hk
  obtain ⟨hx, hb, hml, hown, hts, hWd, hin, hfr, hlo, hB, hX, hXl, hXB⟩ := id hC
  obtain ⟨hR, hl, hlc, hst, hva⟩ := id hS
  simp only [v_okI, Bool.and_eq_true, beq_iff_eq, Bool.or_eq_true] at ho
  obtain ⟨⟨rfl, hkt⟩, -⟩ := ho
  simp only [v_i] at h
  split at h
  · rename_i n r
    split at h
    · rename_i b hfr2
      split at h
      · rename_i hcond
        simp only [Bool.and_eq_true, decide_eq_true_eq, beq_iff_eq] at hcond
        obtain ⟨⟨hn0, hlen⟩, hmax⟩ := hcond
        obtain ⟨b2, hb2, hn, hkb, h0, rfl, rfl, rfl, rfl⟩ := v_newd h
        cases hb2
        have hcn : (v_make V b n.toNatClampNeg).2.2.2.2.1 = V.2.2.2.2.1 + 1 := rfl
        have hsn : (v_make V b n.toNatClampNeg).2.2.2.2.2 = V.2.2.2.2.2 + n.toNatClampNeg := rfl
        rw [hcn] at hrc
        rw [hsn] at hrs
        have hI : (v_make V b n.toNatClampNeg).1 b = fun _ => 0 := if_pos rfl
        have hL : (v_make V b n.toNatClampNeg).2.2.1 b = fun _ => 0 := if_pos rfl
        rcases hkt with (⟨hx1, ht⟩ | ⟨hx1, ht⟩) | ⟨hx1, ht⟩ <;> (have ht := v_at _ _ ht; subst ht)
        · refine va_newa (atype := .int) (ty := .int) (a0 := (n.toNatClampNeg, .inl (fun _ => 0))) hx hb (hts (Cond.arrayClass .int) (v_arr_in _ (by simp))) rfl hR.2.2.1 hR.1 hR.2.1 hva (fun q hq => Nat.le_trans hB hq) (fun _ => rfl) hn0 rfl (by show n.toNatClampNeg * 4 ≤ _; omega) (by omega) (by omega) hd (fun q cA H1 hK1 hP1 hD1 hS1 => ?_)
          obtain ⟨g1, g2, g3⟩ := v_made (cA := cA) hS hn h0 (by omega) (fun _ => by rw [hkb, hx1]; exact hK1.2 0 _ rfl) (by rw [v_E_int (Or.inl (by omega)), hI, hlen]) hP1 hD1 hS1 (n := n.toNatClampNeg) (v_t1 hst)
          have hk9 := hk _ _ H1 locs ls g1 g2
          rw [g3] at hk9
          exact W.cs (by rw [hcn]; omega) (by rw [hsn]; omega) hk9
        · refine va_newa (atype := .boolean) (ty := .boolean) (a0 := (n.toNatClampNeg, .inl (fun _ => 0))) hx hb (hts (Cond.arrayClass .boolean) (v_arr_in _ (by simp))) rfl hR.2.2.1 hR.1 hR.2.1 hva (fun q hq => Nat.le_trans hB hq) (fun _ => rfl) hn0 rfl (by show n.toNatClampNeg * 1 ≤ _; omega) (by omega) (by omega) hd (fun q cA H1 hK1 hP1 hD1 hS1 => ?_)
          obtain ⟨g1, g2, g3⟩ := v_made (cA := cA) hS hn h0 (by omega) (fun _ => by rw [hkb, hx1]; exact hK1.2 0 _ rfl) (by rw [v_E_int (Or.inr (by omega)), hI, hlen]) hP1 hD1 hS1 (n := n.toNatClampNeg) (v_t1 hst)
          have hk9 := hk _ _ H1 locs ls g1 g2
          rw [g3] at hk9
          exact W.cs (by rw [hcn]; omega) (by rw [hsn]; omega) hk9
        · refine va_newa (atype := .long) (ty := .long) (a0 := (n.toNatClampNeg, .inr (.inl (fun _ => 0)))) hx hb (hts (Cond.arrayClass .long) (v_arr_in _ (by simp))) rfl hR.2.2.1 hR.1 hR.2.1 hva (fun q hq => Nat.le_trans hB hq) (fun _ => rfl) hn0 rfl (by show n.toNatClampNeg * 8 ≤ _; omega) (by omega) (by omega) hd (fun q cA H1 hK1 hP1 hD1 hS1 => ?_)
          obtain ⟨g1, g2, g3⟩ := v_made (cA := cA) hS hn h0 (by omega) (fun _ => by rw [hkb, hx1]; exact hK1.2 0 _ rfl) (by rw [v_E_long (by omega), hL, hlen]) hP1 hD1 hS1 (n := n.toNatClampNeg) (v_t1 hst)
          have hk9 := hk _ _ H1 locs ls g1 g2
          rw [g3] at hk9
          exact W.cs (by rw [hcn]; omega) (by rw [hsn]; omega) hk9
      · cases h
    · cases h
  · cases h
theorem v_s_anewarray (idx : Nat) : v_SP (.anewarray idx) := by
  intro p l e R s mid args below meth c Q G oi m len x pc lv st V pc2 lv2 st2 V2 ρ ws H locs ls c0 s0 hC hd ho hS h hc0 hs0 hrc hrs hk
  obtain ⟨hx, hb, hml, hown, hts, hWd, hin, hfr, hlo, hB, hX, hXl, hXB⟩ := id hC
  obtain ⟨hR, hl, hlc, hst, hva⟩ := id hS
  simp only [v_okI, Bool.and_eq_true, decide_eq_true_eq, beq_iff_eq, List.elem_eq_mem] at ho
  obtain ⟨⟨⟨rfl, hck⟩, hkr⟩, -⟩ := ho
  obtain ⟨rr, he1, hcl, hc11⟩ := v_ety_obj hkr
  have hlink : Cond.classLink (v_own oi) idx rr.1 ∈ v_tbl := by
    have h9 := v_clk_in _ hck
    unfold v_cw at h9
    dsimp only at h9
    rw [hcl] at h9
    exact h9
  have hover : va_AO rr.1 s := by
    have h3 : x.1 = 14 ∨ x.1 = 15 ∨ x.1 = 16 := by omega
    rcases h3 with h3 | h3 | h3 <;> rw [h3] at hcl
    · have e : rr = (RX3, TX3, 12) := (Option.some.inj hcl).symm
      rw [e]; exact hWd.2.1
    · have e : rr = (RX2, TX2, 2) := (Option.some.inj hcl).symm
      rw [e]; exact hWd.2.2.1
    · have e : rr = (RX7, TX7, 9) := (Option.some.inj hcl).symm
      rw [e]; exact hWd.2.2.2
  simp only [v_i] at h
  split at h
  · rename_i n r
    split at h
    · rename_i b hfr2
      split at h
      · rename_i hcond
        simp only [Bool.and_eq_true, decide_eq_true_eq, beq_iff_eq] at hcond
        obtain ⟨⟨hn0, hlen⟩, hmax⟩ := hcond
        obtain ⟨b2, hb2, hn, hkb, h0, rfl, rfl, rfl, rfl⟩ := v_newd h
        cases hb2
        have hcn : (v_make V b n.toNatClampNeg).2.2.2.2.1 = V.2.2.2.2.1 + 1 := rfl
        have hsn : (v_make V b n.toNatClampNeg).2.2.2.2.2 = V.2.2.2.2.2 + n.toNatClampNeg := rfl
        rw [hcn] at hrc
        rw [hsn] at hrs
        have hRr : (v_make V b n.toNatClampNeg).2.1 b = fun _ => (0, 0, 0) := if_pos rfl
        refine va_newq hx hb hown (hts _ hlink) hover hR.2.2.1 hR.1 hR.2.1 hva (fun q hq => Nat.le_trans hB hq) hn0 rfl (by omega) (by omega) (by omega) hd (fun q cA H1 hK1 hP1 hD1 hS1 => ?_)
        obtain ⟨g1, g2, g3⟩ := v_made (cA := cA) hS hn h0 (by omega) (fun _ => by rw [hkb, he1]; exact hK1.2 0 _ rfl) (by rw [v_E_ref (by omega), hRr, hlen]; rfl) hP1 hD1 hS1 (n := n.toNatClampNeg) (v_t1 hst)
        have hk9 := hk _ _ H1 locs ls g1 g2
        rw [g3] at hk9
        exact W.cs (by rw [hcn]; omega) (by rw [hsn]; omega) hk9
      · cases h
    · cases h
  · cases h
theorem v_take_eq : ∀ {n : Nat} {acc st as r : List VV}, v_take n acc st = some (as, r) → ∃ pre, st = pre ++ r ∧ pre.length = n ∧ as = pre.reverse ++ acc
  | 0, acc, st, as, r, h => by
    cases h
    exact ⟨[], rfl, rfl, rfl⟩
  | n + 1, acc, [], as, r, h => by cases h
  | n + 1, acc, v :: st, as, r, h => by
    obtain ⟨pre, h1, h2, h3⟩ := v_take_eq (n := n) (acc := v :: acc) (st := st) h
    exact ⟨v :: pre, by rw [h1]; rfl, by simp [h2], by rw [h3]; simp⟩
theorem v_sum_cat (ρ : VA → Nat) : ∀ st : List VV, ((st.map (v_enc ρ)).map fun v => v.category).sum = v_sum st
  | [] => rfl
  | v :: l => by
    rw [List.map_cons, List.map_cons, List.sum_cons, v_sum_cat ρ l, v_enc_cat]
    rfl
theorem v_s_invokespecial (idx : Nat) : v_SP (.invokespecial idx) := by
  intro p l e R s mid args below meth c Q G oi m len x pc lv st V pc2 lv2 st2 V2 ρ ws H locs ls c0 s0 hC hd ho hS h hc0 hs0 hrc hrs hk
  obtain ⟨hx, hb, hml, hown, hts, hWd, hin, hfr, hlo, hB, hX, hXl, hXB⟩ := id hC
  obtain ⟨hR, hl, hlc, hst, hva⟩ := id hS
  simp only [v_okI, Bool.and_eq_true, Bool.or_eq_true, decide_eq_true_eq, beq_iff_eq, List.elem_eq_mem] at ho
  obtain ⟨⟨rfl, hml2⟩, hkd⟩ := ho
  simp only [v_i] at h
  unfold v_call at h
  split at h
  · rename_i as r htk
    obtain ⟨pre, hp1, hp2, hp3⟩ := v_take_eq htk
    rcases hkd with ⟨⟨⟨h5, hn1⟩, hf1⟩, hl1⟩ | ⟨⟨h24, -⟩, -⟩
    · simp only [h5] at h
      split at h
      · rename_i a
        obtain ⟨h8, h⟩ := v_okd h
        obtain ⟨rfl, rfl, rfl, rfl⟩ := v_inj h
        rw [Bool.and_eq_true, decide_eq_true_eq, Bool.not_eq_true', beq_eq_false_iff_ne] at h8
        have hw9 := v_mlk_in _ hml2
        unfold v_mw at hw9
        dsimp only at hw9
        simp only [h5] at hw9
        have hpr : pre = [.inr (.inr a)] := by
          have h9 := congrArg List.reverse hp3
          simpa using h9.symm
        subst hpr
        subst hp1
        have hen : v_enc ρ (.inr (.inr a)) = .ref (ρ a) := if_neg h8.2
        have hk9 := hk ρ ws H locs ls ⟨hR, hl, hlc, v_t1 hst, hva⟩ (fun _ _ => rfl)
        rw [show ([Sum.inr (Sum.inr a)] ++ r : List VV).map (v_enc ρ) = .ref (ρ a) :: r.map (v_enc ρ) by rw [List.singleton_append, List.map_cons, hen]]
        refine W.objInit hx hb hown (hts _ (hw9 _ (by simp))) (hts _ (hw9 _ (by simp))) (hts _ cw_obj) rfl (by rw [hml]; exact hl.1) rfl hd (by omega) ?_ hk9
        have h7 := v_sum_cat ρ r
        show 2 * 0 + _ + 12 ≤ _
        omega
      · cases h
    · exfalso
      rcases h24 with h24 | h24 <;> rw [h24] at h <;> (obtain ⟨-, h⟩ := v_okd h; cases h)
  · cases h
theorem v_s_invokestatic (idx : Nat) : v_SP (.invokestatic idx) := by
  intro p l e R s mid args below meth c Q G oi m len x pc lv st V pc2 lv2 st2 V2 ρ ws H locs ls c0 s0 hC hd ho hS h hc0 hs0 hrc hrs hk
  obtain ⟨hx, hb, hml, hown, hts, hWd, hin, hfr, hlo, hB, hX, hXl, hXB⟩ := id hC
  obtain ⟨hR, hl, hlc, hst, hva⟩ := id hS
  simp only [v_okI, Bool.and_eq_true, Bool.or_eq_true, decide_eq_true_eq, beq_iff_eq, List.elem_eq_mem] at ho
  obtain ⟨⟨rfl, hml2⟩, hkd⟩ := ho
  have hw9 := v_mlk_in _ hml2
  unfold v_mw at hw9
  dsimp only at hw9
  simp only [v_i] at h
  unfold v_call at h
  split at h
  · rename_i as r htk
    obtain ⟨pre, hp1, hp2, hp3⟩ := v_take_eq htk
    have hpr : pre = as.reverse := by rw [hp3]; simp
    subst hpr
    subst hp1
    have hcr : ∀ v ∈ r, v_clo G V v := fun v hv => hst v (List.mem_append_right _ hv)
    have h7 := v_sum_cat ρ r
    rw [List.map_append]
    rcases hkd with (⟨⟨⟨h6, -⟩, hf1⟩, hl1⟩ | ⟨⟨⟨h789, -⟩, hf1⟩, hl1⟩) | ⟨⟨h13, -⟩, -⟩
    · simp only [h6] at h hw9
      split at h
      · rename_i a sp b dp n
        obtain ⟨h8, h⟩ := v_okd h
        obtain ⟨rfl, rfl, rfl, rfl⟩ := v_inj h
        simp only [Bool.and_eq_true, decide_eq_true_eq, beq_iff_eq] at h8
        obtain ⟨⟨⟨⟨⟨⟨⟨g0, ga⟩, gb⟩, g1⟩, g2⟩, g3⟩, g4⟩, g5⟩ := h8
        have hca : v_cA G V a := hst (.inr (.inr a)) (by simp)
        have hcb : v_cA G V b := hst (.inr (.inr b)) (by simp)
        obtain ⟨hala, hena⟩ := hR.ref hca (by omega)
        obtain ⟨halb, henb⟩ := hR.ref hcb (by omega)
        obtain ⟨-, -, ka, cA, hwa, hKA⟩ := hR.2.2.2.1 a hala
        obtain ⟨-, -, kb, cB, hwb, hKB⟩ := hR.2.2.2.1 b halb
        have hKA2 := hKA (by omega)
        have hKB2 := hKB (by omega)
        rw [ga] at hKA2
        rw [gb] at hKB2
        rw [v_E_int (Or.inl ga)] at hwa
        have hwb2 := hwb
        rw [v_E_int (Or.inl gb)] at hwb2
        have es : ([Sum.inr (Sum.inr a), Sum.inl sp, Sum.inr (Sum.inr b), Sum.inl dp, Sum.inl n] : List VV).reverse.map (v_enc ρ) ++ r.map (v_enc ρ) = .int n :: .int dp :: .ref (ρ b) :: .int sp :: .ref (ρ a) :: r.map (v_enc ρ) := by
          show v_enc ρ (.inl n) :: v_enc ρ (.inl dp) :: v_enc ρ (.inr (.inr b)) :: v_enc ρ (.inl sp) :: v_enc ρ (.inr (.inr a)) :: _ = _
          rw [hena, henb]
          rfl
        rw [es]
        refine va_copyi (ty := .int) hx hb (by rw [hml]; exact hl.1.symm) hown (hts _ (hw9 _ (by simp))) (hts _ (hw9 _ (by simp))) (hts _ (hw9 _ (by simp))) (hts _ (hw9 _ (by simp))) (v_KK2 hR.2.2.1 hKA2 hKB2) hR.1 hR.2.1 hva ka kb 0 1 hwa hwb2 rfl rfl rfl g1 g2 g3 g4 g5 (fun _ _ => rfl) (by omega) ?_ hd (fun H1 locs1 hP1 hD1 hS1 => hk ρ _ H1 locs1 ls (hS.keep rfl (hR.upd (V' := v_rowI V b (va_cpy (V.1 a) (V.1 b) sp.toNatClampNeg dp.toNatClampNeg n.toNatClampNeg)) halb hwb hKB ?_ hP1 hD1 (fun b hb => if_neg hb) (fun b hb => rfl) (fun b hb => rfl) rfl (fun i => hR.2.2.2.2.2.1 b i halb)) hS1 hcr) (fun _ _ => rfl))
        · have h9 : nativeFrameWords "java/lang/System" "arraycopy" 5 + 11 ≤ 60 := by decide
          omega
        · rw [v_E_int (Or.inl gb), show (v_rowI V b (va_cpy (V.1 a) (V.1 b) sp.toNatClampNeg dp.toNatClampNeg n.toNatClampNeg)).1 b = va_cpy (V.1 a) (V.1 b) sp.toNatClampNeg dp.toNatClampNeg n.toNatClampNeg from if_pos rfl]
      · cases h
    · rcases h789 with (h6 | h6) | h6 <;> simp only [h6] at h hw9
      · split at h
        · rename_i a b
          obtain ⟨h8, h⟩ := v_okd h
          obtain ⟨rfl, rfl, rfl, rfl⟩ := v_inj h
          have h8 := of_decide_eq_true h8
          rw [show ([Sum.inl a, Sum.inl b] : List VV).reverse.map (v_enc ρ) ++ r.map (v_enc ρ) = .int b :: .int a :: r.map (v_enc ρ) from rfl]
          exact va_mmax hx hb (by rw [hml]; exact hl.1.symm) hown (hts _ (hw9 _ (by simp))) (hts _ (hw9 _ (by simp))) (hts _ (hw9 _ (by simp))) (hts _ cw_max) (by omega) (by omega) hrc hrs hd (hk ρ ws H locs ls ⟨hR, hl, hlc, v_cs trivial hcr, hva⟩ (fun _ _ => rfl))
        · cases h
      · split at h
        · rename_i a b
          obtain ⟨h8, h⟩ := v_okd h
          obtain ⟨rfl, rfl, rfl, rfl⟩ := v_inj h
          have h8 := of_decide_eq_true h8
          rw [show ([Sum.inl a, Sum.inl b] : List VV).reverse.map (v_enc ρ) ++ r.map (v_enc ρ) = .int b :: .int a :: r.map (v_enc ρ) from rfl]
          exact va_mmin hx hb (by rw [hml]; exact hl.1.symm) hown (hts _ (hw9 _ (by simp))) (hts _ (hw9 _ (by simp))) (hts _ (hw9 _ (by simp))) (hts _ cw_min) (by omega) (by omega) hrc hrs hd (hk ρ ws H locs ls ⟨hR, hl, hlc, v_cs trivial hcr, hva⟩ (fun _ _ => rfl))
        · cases h
      · split at h
        · rename_i a b
          obtain ⟨h8, h⟩ := v_okd h
          obtain ⟨rfl, rfl, rfl, rfl⟩ := v_inj h
          have h8 := of_decide_eq_true h8
          rw [show ([Sum.inr (Sum.inl a), Sum.inr (Sum.inl b)] : List VV).reverse.map (v_enc ρ) ++ r.map (v_enc ρ) = .long b :: .long a :: r.map (v_enc ρ) from rfl]
          exact va_mmin_long hx hb (by rw [hml]; exact hl.1.symm) hown (hts _ (hw9 _ (by simp))) (hts _ (hw9 _ (by simp))) (hts _ (hw9 _ (by simp))) (hts _ cw_minl) (by omega) (by omega) hrc hrs hd (hk ρ ws H locs ls ⟨hR, hl, hlc, v_cs trivial hcr, hva⟩ (fun _ _ => rfl))
        · cases h
    · exfalso
      rcases h13 with h24 | h24 <;> rw [h24] at h <;> (obtain ⟨-, h⟩ := v_okd h; cases h)
  · cases h
theorem v_s_invokevirtual (idx : Nat) : v_SP (.invokevirtual idx) := by
  intro p l e R s mid args below meth c Q G oi m len x pc lv st V pc2 lv2 st2 V2 ρ ws H locs ls c0 s0 hC hd ho hS h hc0 hs0 hrc hrs hk
  obtain ⟨hx, hb, hml, hown, hts, hWd, hin, hfr, hlo, hB, hX, hXl, hXB⟩ := id hC
  obtain ⟨hR, hl, hlc, hst, hva⟩ := id hS
  simp only [v_okI, Bool.and_eq_true, decide_eq_true_eq, beq_iff_eq, List.elem_eq_mem] at ho
  obtain ⟨⟨⟨⟨rfl, -⟩, h0⟩, -⟩, -⟩ := ho
  exfalso
  simp only [v_i] at h
  unfold v_call at h
  split at h
  · rw [h0] at h
    obtain ⟨-, h⟩ := v_okd h
    cases h
  · cases h
end
section
/-! ===== the run: what the clean interpreter answers, the machine answers ===== -/
def v_stats : List Nat := [0, 180, 181, 182, 183, 184, 189, 202, 203, 246, 253, 263, 273, 279]
/-- the receiver is of the callee's class; the arguments fit its locals -/
def v_rcv (m2 : Nat) (as : List VV) : Bool := decide (v_sum as ≤ (v_m m2).2.2.2.1) && (v_stats.elem m2 || match as with
  | .inr (.inr a) :: _ => (v_kind a == v_cidx m2)
  | _ => false)
def v_go : Nat → Nat → VS → Option (Option VV × VH)
  | 0, _, _ => none
  | n + 1, m, s => match v_1 (v_code m) s with
    | none => none
    | some (.inl t) => v_go n m t
    | some (.inr (.inl r)) => some r
    | some (.inr (.inr (m2, as, t))) => match v_rcv m2 as with
      | false => none
      | true => match v_go n m2 (0, v_args 0 as, [], t.2.2.2) with
        | none => none
        | some (r, V) => v_go n m (t.1, t.2.1, r.toList ++ t.2.2.1, V)
theorem v_step (i : Instr) : v_SP i := by
  cases i
  case aaload => apply v_s_aaload
  case aastore => apply v_s_aastore
  case aload => apply v_s_aload
  case aload_n => apply v_s_aload_n
  case anewarray => apply v_s_anewarray
  case arraylength => apply v_s_arraylength
  case astore => apply v_s_astore
  case astore_n => apply v_s_astore_n
  case baload => apply v_s_baload
  case bastore => apply v_s_bastore
  case bipush => apply v_s_bipush
  case dup => apply v_s_dup
  case dup2 => apply v_s_dup2
  case getfield => apply v_s_getfield
  case goto => apply v_s_goto
  case i2l => apply v_s_i2l
  case iadd => apply v_s_iadd
  case iaload => apply v_s_iaload
  case iand => apply v_s_iand
  case iastore => apply v_s_iastore
  case iconst => apply v_s_iconst
  case idiv => apply v_s_idiv
  case ifCond => apply v_s_ifCond
  case if_icmp => apply v_s_if_icmp
  case ifnonnull => apply v_s_ifnonnull
  case iinc => apply v_s_iinc
  case iload => apply v_s_iload
  case iload_n => apply v_s_iload_n
  case imul => apply v_s_imul
  case ineg => apply v_s_ineg
  case invokespecial => apply v_s_invokespecial
  case invokestatic => apply v_s_invokestatic
  case invokevirtual => apply v_s_invokevirtual
  case ior => apply v_s_ior
  case irem => apply v_s_irem
  case ishl => apply v_s_ishl
  case ishr => apply v_s_ishr
  case istore => apply v_s_istore
  case istore_n => apply v_s_istore_n
  case isub => apply v_s_isub
  case l2i => apply v_s_l2i
  case ladd => apply v_s_ladd
  case laload => apply v_s_laload
  case lastore => apply v_s_lastore
  case lcmp => apply v_s_lcmp
  case lconst => apply v_s_lconst
  case ldc => apply v_s_ldc
  case ldc2_w => apply v_s_ldc2_w
  case ldiv => apply v_s_ldiv
  case lload => apply v_s_lload
  case lload_n => apply v_s_lload_n
  case lmul => apply v_s_lmul
  case lookupswitch => apply v_s_lookupswitch
  case lstore => apply v_s_lstore
  case lstore_n => apply v_s_lstore_n
  case lsub => apply v_s_lsub
  case new => apply v_s_new
  case newarray => apply v_s_newarray
  case putfield => apply v_s_putfield
  case sipush => apply v_s_sipush
  case tableswitch => apply v_s_tableswitch
  all_goals (intro p l e R s mid args below meth c Q G oi m len x pc lv st V pc2 lv2 st2 V2 ρ ws H locs ls c0 s0 hC hd ho hS h; exfalso; simp only [v_i] at h; first | (cases h; done) | (split at h <;> first | (cases h; done) | (obtain ⟨-, h⟩ := v_okd h; cases h; done)))
def v_le (V V' : VH) : Prop := V.2.2.2.2.1 ≤ V'.2.2.2.2.1 ∧ V.2.2.2.2.2 ≤ V'.2.2.2.2.2 ∧ ∀ a, V.2.2.2.1 a = true → V'.2.2.2.1 a = true
theorem v_le_of {V V' : VH} (h : V'.2.2.2 = V.2.2.2) : v_le V V' := ⟨Nat.le_of_eq (by rw [h]), Nat.le_of_eq (by rw [h]), fun a ha => by rw [h]; exact ha⟩
theorem v_le_tr {A B C : VH} (h : v_le A B) (k : v_le B C) : v_le A C := ⟨Nat.le_trans h.1 k.1, Nat.le_trans h.2.1 k.2.1, fun a ha => k.2.2 a (h.2.2 a ha)⟩
def v_hp : VO → VH
  | .inl t => t.2.2.2
  | .inr (.inl r) => r.2
  | .inr (.inr t) => t.2.2.2.2.2
theorem v_new_le {a : Option VA} {k n pc len : Nat} {lv : VL} {st : List VV} {V : VH} {o : VO} (h : v_new a k n pc len lv st V = some o) : v_le V (v_hp o) := by
  unfold v_new at h
  split at h
  · obtain ⟨-, h⟩ := v_okd h
    cases h
    exact ⟨Nat.le_succ _, Nat.le_add_right _ _, v_le_make V _ n⟩
  · cases h
theorem v_off_le {pc : Nat} {d : Option Int} {lv : VL} {st : List VV} {V : VH} {o : VO} (h : v_off pc d lv st V = some o) : v_le V (v_hp o) := by
  unfold v_off at h
  split at h
  · cases h; exact v_le_of rfl
  · cases h
theorem v_call_le {x : VX} {pc : Nat} {lv : VL} {V : VH} {q : Option (List VV × List VV)} {o : VO} (h : v_call x pc lv V q = some o) : v_le V (v_hp o) := by
  unfold v_call at h
  split at h
  · split at h <;> (try split at h) <;> first | (cases h; done) | (obtain ⟨-, h⟩ := v_okd h; cases h; exact v_le_of rfl)
  · cases h
theorem v_i_le {i : Instr} {len : Nat} {x : VX} {pc : Nat} {lv : VL} {st : List VV} {V : VH} {o : VO} (h : v_i i len x pc lv st V = some o) : v_le V (v_hp o) := by
  unfold v_i at h
  split at h <;> (try split at h) <;> (try split at h) <;> (try split at h) <;> first | exact v_new_le h | exact v_call_le h | exact v_off_le h | (cases h; done) | (cases h; exact v_le_of rfl) | (obtain ⟨-, h⟩ := v_okd h; cases h; exact v_le_of rfl)
theorem v_1_le {cd : List VE} {s : VS} {o : VO} (h : v_1 cd s = some o) : v_le s.2.2.2 (v_hp o) := by
  unfold v_1 at h
  split at h
  · exact v_i_le h
  · cases h
theorem v_go_le : ∀ {n m : Nat} {s : VS} {r : Option VV} {V : VH}, v_go n m s = some (r, V) → v_le s.2.2.2 V
  | 0, _, _, _, _, h => by cases h
  | n + 1, m, s, r, V, h => by
    unfold v_go at h
    split at h
    · cases h
    · rename_i t ht
      exact v_le_tr (v_1_le ht) (v_go_le h)
    · rename_i q ht
      cases h
      exact v_1_le ht
    · rename_i m2 as t ht
      split at h
      · cases h
      · split at h
        · cases h
        · rename_i q V1 h1
          have g1 : v_le s.2.2.2 t.2.2.2 := v_1_le ht
          have g2 : v_le t.2.2.2 V1 := v_go_le (s := (0, v_args 0 as, [], t.2.2.2)) h1
          have g3 : v_le V1 V := v_go_le (s := (t.1, t.2.1, q.toList ++ t.2.2.1, V1)) h
          exact v_le_tr g1 (v_le_tr g2 g3)
theorem v_go_mono : ∀ {n m : Nat} {s : VS} {q : Option VV × VH} (k : Nat), v_go n m s = some q → v_go (n + k) m s = some q
  | 0, _, _, _, _, h => by cases h
  | n + 1, m, s, q, k, h => by
    rw [Nat.add_right_comm]
    unfold v_go at h ⊢
    split at h
    · cases h
    · exact v_go_mono k h
    · exact h
    · split at h
      · cases h
      · rename_i hr
        split at h
        · cases h
        · rename_i h1
          simp only [hr, v_go_mono k h1]
          exact v_go_mono k h
def v_OKm (oi : Nat) (m : VM) : Prop := ∀ e ∈ m.2.2.2.2.2.2.2, decode m.2.2.1 e.1 = .ok (e.2.1, e.2.2.1) ∧ v_okI oi m e.1 e.2.1 e.2.2.1 e.2.2.2 = true
theorem v_OK_of {oi : Nat} {m : VM} (h1 : ∀ e ∈ m.2.2.2.2.2.2.2, decode m.2.2.1 e.1 = .ok (e.2.1, e.2.2.1)) (h2 : m.2.2.2.2.2.2.2.all (fun e => v_okI oi m e.1 e.2.1 e.2.2.1 e.2.2.2) = true) : v_OKm oi m := fun e he => ⟨h1 e he, List.all_eq_true.mp h2 e he⟩
def v_all2 : List VM → List Nat → Prop
  | m :: ms, o :: os => v_OKm o m ∧ v_all2 ms os
  | [], [] => True
  | _, _ => False
theorem v_all2_app : ∀ {a : List VM} {oa : List Nat} {b : List VM} {ob : List Nat}, v_all2 a oa → v_all2 b ob → v_all2 (a ++ b) (oa ++ ob)
  | [], [], _, _, _, h => h
  | _ :: _, _ :: _, _, _, h, k => ⟨h.1, v_all2_app h.2 k⟩
  | [], _ :: _, _, _, h, _ => h.elim
  | _ :: _, [], _, _, h, _ => h.elim
theorem v_all2_get : ∀ {ms : List VM} {os : List Nat}, v_all2 ms os → ∀ i, i < ms.length → v_OKm (v_nth os i) (v_mth ms i)
  | [], _, _, i, h => absurd h (Nat.not_lt_zero _)
  | m :: ms, [], h, _, _ => h.elim
  | m :: ms, o :: os, h, 0, _ => h.1
  | m :: ms, o :: os, h, i + 1, hi => v_all2_get h.2 i (Nat.lt_of_succ_lt_succ hi)
theorem v_mth_mem : ∀ {ms : List VM} {i : Nat}, i < ms.length → v_mth ms i ∈ ms
  | [], _, h => absurd h (Nat.not_lt_zero _)
  | m :: ms, 0, _ => List.mem_cons_self
  | m :: ms, i + 1, h => List.mem_cons_of_mem _ (v_mth_mem (Nat.lt_of_succ_lt_succ h))
theorem v_ft_mem : ∀ {cd : List VE} {pc : Nat} {q : Instr × Nat × VX}, v_ft cd pc = some q → (pc, q) ∈ cd
  | [], _, _, h => by cases h
  | (p, i) :: l, pc, q, h => by
    unfold v_ft at h
    split at h
    · rename_i hp
      cases h
      rw [beq_iff_eq] at hp
      subst hp
      exact List.mem_cons_self
    · exact List.mem_cons_of_mem _ (v_ft_mem h)
theorem v_okc0 : v_all2 [m_0, m_1, m_2, m_3, m_4, m_5, m_6, m_7, m_8, m_9, m_10, m_11, m_12, m_13, m_14, m_15, m_16, m_17, m_18, m_19, m_20, m_21, m_22, m_23] [11, 0, 0, 0, 0, 0, 0, 0, 0, 0, 0, 0, 0, 0, 0, 0, 0, 0, 0, 0, 0, 0, 0, 0] := ⟨v_OK_of dk_0 ok_0, ⟨v_OK_of dk_1 ok_1, ⟨v_OK_of dk_2 ok_2, ⟨v_OK_of dk_3 ok_3, ⟨v_OK_of dk_4 ok_4, ⟨v_OK_of dk_5 ok_5, ⟨v_OK_of dk_6 ok_6, ⟨v_OK_of dk_7 ok_7, ⟨v_OK_of dk_8 ok_8, ⟨v_OK_of dk_9 ok_9, ⟨v_OK_of dk_10 ok_10, ⟨v_OK_of dk_11 ok_11, ⟨v_OK_of dk_12 ok_12, ⟨v_OK_of dk_13 ok_13, ⟨v_OK_of dk_14 ok_14, ⟨v_OK_of dk_15 ok_15, ⟨v_OK_of dk_16 ok_16, ⟨v_OK_of dk_17 ok_17, ⟨v_OK_of dk_18 ok_18, ⟨v_OK_of dk_19 ok_19, ⟨v_OK_of dk_20 ok_20, ⟨v_OK_of dk_21 ok_21, ⟨v_OK_of dk_22 ok_22, ⟨v_OK_of dk_23 ok_23, trivial⟩⟩⟩⟩⟩⟩⟩⟩⟩⟩⟩⟩⟩⟩⟩⟩⟩⟩⟩⟩⟩⟩⟩⟩
theorem v_okc1 : v_all2 [m_24, m_25, m_26, m_27, m_28, m_29, m_30, m_31, m_32, m_33, m_34, m_35, m_36, m_37, m_38, m_39, m_40, m_41, m_42, m_43, m_44, m_45, m_46, m_47] [1, 1, 1, 1, 2, 2, 2, 2, 2, 2, 2, 2, 2, 2, 2, 2, 2, 2, 3, 3, 3, 3, 3, 3] := ⟨v_OK_of dk_24 ok_24, ⟨v_OK_of dk_25 ok_25, ⟨v_OK_of dk_26 ok_26, ⟨v_OK_of dk_27 ok_27, ⟨v_OK_of dk_28 ok_28, ⟨v_OK_of dk_29 ok_29, ⟨v_OK_of dk_30 ok_30, ⟨v_OK_of dk_31 ok_31, ⟨v_OK_of dk_32 ok_32, ⟨v_OK_of dk_33 ok_33, ⟨v_OK_of dk_34 ok_34, ⟨v_OK_of dk_35 ok_35, ⟨v_OK_of dk_36 ok_36, ⟨v_OK_of dk_37 ok_37, ⟨v_OK_of dk_38 ok_38, ⟨v_OK_of dk_39 ok_39, ⟨v_OK_of dk_40 ok_40, ⟨v_OK_of dk_41 ok_41, ⟨v_OK_of dk_42 ok_42, ⟨v_OK_of dk_43 ok_43, ⟨v_OK_of dk_44 ok_44, ⟨v_OK_of dk_45 ok_45, ⟨v_OK_of dk_46 ok_46, ⟨v_OK_of dk_47 ok_47, trivial⟩⟩⟩⟩⟩⟩⟩⟩⟩⟩⟩⟩⟩⟩⟩⟩⟩⟩⟩⟩⟩⟩⟩⟩
theorem v_okc2 : v_all2 [m_48, m_49, m_50, m_51, m_52, m_53, m_54, m_55, m_56, m_57, m_58, m_59, m_60, m_61, m_62, m_63, m_64, m_65, m_66, m_67, m_68, m_69, m_70, m_71] [3, 3, 3, 3, 3, 3, 3, 3, 3, 4, 4, 4, 4, 4, 4, 4, 4, 4, 4, 4, 4, 4, 4, 4] := ⟨v_OK_of dk_48 ok_48, ⟨v_OK_of dk_49 ok_49, ⟨v_OK_of dk_50 ok_50, ⟨v_OK_of dk_51 ok_51, ⟨v_OK_of dk_52 ok_52, ⟨v_OK_of dk_53 ok_53, ⟨v_OK_of dk_54 ok_54, ⟨v_OK_of dk_55 ok_55, ⟨v_OK_of dk_56 ok_56, ⟨v_OK_of dk_57 ok_57, ⟨v_OK_of dk_58 ok_58, ⟨v_OK_of dk_59 ok_59, ⟨v_OK_of dk_60 ok_60, ⟨v_OK_of dk_61 ok_61, ⟨v_OK_of dk_62 ok_62, ⟨v_OK_of dk_63 ok_63, ⟨v_OK_of dk_64 ok_64, ⟨v_OK_of dk_65 ok_65, ⟨v_OK_of dk_66 ok_66, ⟨v_OK_of dk_67 ok_67, ⟨v_OK_of dk_68 ok_68, ⟨v_OK_of dk_69 ok_69, ⟨v_OK_of dk_70 ok_70, ⟨v_OK_of dk_71 ok_71, trivial⟩⟩⟩⟩⟩⟩⟩⟩⟩⟩⟩⟩⟩⟩⟩⟩⟩⟩⟩⟩⟩⟩⟩⟩
theorem v_okc3 : v_all2 [m_72, m_73, m_74, m_75, m_76, m_77, m_78, m_79, m_80, m_81, m_82, m_83, m_84, m_85, m_86, m_87, m_88, m_89, m_90, m_91, m_92, m_93, m_94, m_95] [4, 5, 5, 5, 5, 5, 5, 6, 6, 6, 7, 7, 7, 7, 7, 7, 7, 8, 8, 8, 8, 8, 8, 8] := ⟨v_OK_of dk_72 ok_72, ⟨v_OK_of dk_73 ok_73, ⟨v_OK_of dk_74 ok_74, ⟨v_OK_of dk_75 ok_75, ⟨v_OK_of dk_76 ok_76, ⟨v_OK_of dk_77 ok_77, ⟨v_OK_of dk_78 ok_78, ⟨v_OK_of dk_79 ok_79, ⟨v_OK_of dk_80 ok_80, ⟨v_OK_of dk_81 ok_81, ⟨v_OK_of dk_82 ok_82, ⟨v_OK_of dk_83 ok_83, ⟨v_OK_of dk_84 ok_84, ⟨v_OK_of dk_85 ok_85, ⟨v_OK_of dk_86 ok_86, ⟨v_OK_of dk_87 ok_87, ⟨v_OK_of dk_88 ok_88, ⟨v_OK_of dk_89 ok_89, ⟨v_OK_of dk_90 ok_90, ⟨v_OK_of dk_91 ok_91, ⟨v_OK_of dk_92 ok_92, ⟨v_OK_of dk_93 ok_93, ⟨v_OK_of dk_94 ok_94, ⟨v_OK_of dk_95 ok_95, trivial⟩⟩⟩⟩⟩⟩⟩⟩⟩⟩⟩⟩⟩⟩⟩⟩⟩⟩⟩⟩⟩⟩⟩⟩
theorem v_okc4 : v_all2 [m_96, m_97, m_98, m_99, m_100, m_101, m_102, m_103, m_104, m_105, m_106, m_107, m_108, m_109, m_110, m_111, m_112, m_113, m_114, m_115, m_116, m_117, m_118, m_119] [8, 8, 8, 8, 8, 8, 8, 8, 8, 8, 8, 8, 8, 8, 8, 8, 8, 8, 8, 8, 8, 8, 8, 8] := ⟨v_OK_of dk_96 ok_96, ⟨v_OK_of dk_97 ok_97, ⟨v_OK_of dk_98 ok_98, ⟨v_OK_of dk_99 ok_99, ⟨v_OK_of dk_100 ok_100, ⟨v_OK_of dk_101 ok_101, ⟨v_OK_of dk_102 ok_102, ⟨v_OK_of dk_103 ok_103, ⟨v_OK_of dk_104 ok_104, ⟨v_OK_of dk_105 ok_105, ⟨v_OK_of dk_106 ok_106, ⟨v_OK_of dk_107 ok_107, ⟨v_OK_of dk_108 ok_108, ⟨v_OK_of dk_109 ok_109, ⟨v_OK_of dk_110 ok_110, ⟨v_OK_of dk_111 ok_111, ⟨v_OK_of dk_112 ok_112, ⟨v_OK_of dk_113 ok_113, ⟨v_OK_of dk_114 ok_114, ⟨v_OK_of dk_115 ok_115, ⟨v_OK_of dk_116 ok_116, ⟨v_OK_of dk_117 ok_117, ⟨v_OK_of dk_118 ok_118, ⟨v_OK_of dk_119 ok_119, trivial⟩⟩⟩⟩⟩⟩⟩⟩⟩⟩⟩⟩⟩⟩⟩⟩⟩⟩⟩⟩⟩⟩⟩⟩
theorem v_okc5 : v_all2 [m_120, m_121, m_122, m_123, m_124, m_125, m_126, m_127, m_128, m_129, m_130, m_131, m_132, m_133, m_134, m_135, m_136, m_137, m_138, m_139, m_140, m_141, m_142, m_143] [8, 9, 9, 9, 9, 9, 9, 9, 9, 9, 9, 9, 9, 9, 9, 9, 9, 9, 9, 9, 9, 9, 9, 9] := ⟨v_OK_of dk_120 ok_120, ⟨v_OK_of dk_121 ok_121, ⟨v_OK_of dk_122 ok_122, ⟨v_OK_of dk_123 ok_123, ⟨v_OK_of dk_124 ok_124, ⟨v_OK_of dk_125 ok_125, ⟨v_OK_of dk_126 ok_126, ⟨v_OK_of dk_127 ok_127, ⟨v_OK_of dk_128 ok_128, ⟨v_OK_of dk_129 ok_129, ⟨v_OK_of dk_130 ok_130, ⟨v_OK_of dk_131 ok_131, ⟨v_OK_of dk_132 ok_132, ⟨v_OK_of dk_133 ok_133, ⟨v_OK_of dk_134 ok_134, ⟨v_OK_of dk_135 ok_135, ⟨v_OK_of dk_136 ok_136, ⟨v_OK_of dk_137 ok_137, ⟨v_OK_of dk_138 ok_138, ⟨v_OK_of dk_139 ok_139, ⟨v_OK_of dk_140 ok_140, ⟨v_OK_of dk_141 ok_141, ⟨v_OK_of dk_142 ok_142, ⟨v_OK_of dk_143 ok_143, trivial⟩⟩⟩⟩⟩⟩⟩⟩⟩⟩⟩⟩⟩⟩⟩⟩⟩⟩⟩⟩⟩⟩⟩⟩
theorem v_okc6 : v_all2 [m_144, m_145, m_146, m_147, m_148, m_149, m_150, m_151, m_152, m_153, m_154, m_155, m_156, m_157, m_158, m_159, m_160, m_161, m_162, m_163, m_164, m_165, m_166, m_167] [9, 9, 9, 9, 9, 9, 9, 9, 9, 9, 9, 9, 9, 9, 9, 9, 9, 9, 9, 9, 9, 9, 9, 9] := ⟨v_OK_of dk_144 ok_144, ⟨v_OK_of dk_145 ok_145, ⟨v_OK_of dk_146 ok_146, ⟨v_OK_of dk_147 ok_147, ⟨v_OK_of dk_148 ok_148, ⟨v_OK_of dk_149 ok_149, ⟨v_OK_of dk_150 ok_150, ⟨v_OK_of dk_151 ok_151, ⟨v_OK_of dk_152 ok_152, ⟨v_OK_of dk_153 ok_153, ⟨v_OK_of dk_154 ok_154, ⟨v_OK_of dk_155 ok_155, ⟨v_OK_of dk_156 ok_156, ⟨v_OK_of dk_157 ok_157, ⟨v_OK_of dk_158 ok_158, ⟨v_OK_of dk_159 ok_159, ⟨v_OK_of dk_160 ok_160, ⟨v_OK_of dk_161 ok_161, ⟨v_OK_of dk_162 ok_162, ⟨v_OK_of dk_163 ok_163, ⟨v_OK_of dk_164 ok_164, ⟨v_OK_of dk_165 ok_165, ⟨v_OK_of dk_166 ok_166, ⟨v_OK_of dk_167 ok_167, trivial⟩⟩⟩⟩⟩⟩⟩⟩⟩⟩⟩⟩⟩⟩⟩⟩⟩⟩⟩⟩⟩⟩⟩⟩
theorem v_okc7 : v_all2 [m_168, m_169, m_170, m_171, m_172, m_173, m_174, m_175, m_176, m_177, m_178, m_179, m_180, m_181, m_182, m_183, m_184, m_185, m_186, m_187, m_188, m_189, m_190, m_191] [9, 9, 9, 9, 9, 9, 9, 9, 9, 9, 9, 9, 9, 9, 9, 9, 9, 10, 10, 10, 10, 10, 10, 10] := ⟨v_OK_of dk_168 ok_168, ⟨v_OK_of dk_169 ok_169, ⟨v_OK_of dk_170 ok_170, ⟨v_OK_of dk_171 ok_171, ⟨v_OK_of dk_172 ok_172, ⟨v_OK_of dk_173 ok_173, ⟨v_OK_of dk_174 ok_174, ⟨v_OK_of dk_175 ok_175, ⟨v_OK_of dk_176 ok_176, ⟨v_OK_of dk_177 ok_177, ⟨v_OK_of dk_178 ok_178, ⟨v_OK_of dk_179 ok_179, ⟨v_OK_of dk_180 ok_180, ⟨v_OK_of dk_181 ok_181, ⟨v_OK_of dk_182 ok_182, ⟨v_OK_of dk_183 ok_183, ⟨v_OK_of dk_184 ok_184, ⟨v_OK_of dk_185 ok_185, ⟨v_OK_of dk_186 ok_186, ⟨v_OK_of dk_187 ok_187, ⟨v_OK_of dk_188 ok_188, ⟨v_OK_of dk_189 ok_189, ⟨v_OK_of dk_190 ok_190, ⟨v_OK_of dk_191 ok_191, trivial⟩⟩⟩⟩⟩⟩⟩⟩⟩⟩⟩⟩⟩⟩⟩⟩⟩⟩⟩⟩⟩⟩⟩⟩
theorem v_okc8 : v_all2 [m_192, m_193, m_194, m_195, m_196, m_197, m_198, m_199, m_200, m_201, m_202, m_203, m_204, m_205, m_206, m_207, m_208, m_209, m_210, m_211, m_212, m_213, m_214, m_215] [10, 10, 10, 10, 10, 10, 10, 10, 10, 10, 10, 10, 10, 10, 10, 10, 10, 10, 10, 10, 10, 10, 10, 10] := ⟨v_OK_of dk_192 ok_192, ⟨v_OK_of dk_193 ok_193, ⟨v_OK_of dk_194 ok_194, ⟨v_OK_of dk_195 ok_195, ⟨v_OK_of dk_196 ok_196, ⟨v_OK_of dk_197 ok_197, ⟨v_OK_of dk_198 ok_198, ⟨v_OK_of dk_199 ok_199, ⟨v_OK_of dk_200 ok_200, ⟨v_OK_of dk_201 ok_201, ⟨v_OK_of dk_202 ok_202, ⟨v_OK_of dk_203 ok_203, ⟨v_OK_of dk_204 ok_204, ⟨v_OK_of dk_205 ok_205, ⟨v_OK_of dk_206 ok_206, ⟨v_OK_of dk_207 ok_207, ⟨v_OK_of dk_208 ok_208, ⟨v_OK_of dk_209 ok_209, ⟨v_OK_of dk_210 ok_210, ⟨v_OK_of dk_211 ok_211, ⟨v_OK_of dk_212 ok_212, ⟨v_OK_of dk_213 ok_213, ⟨v_OK_of dk_214 ok_214, ⟨v_OK_of dk_215 ok_215, trivial⟩⟩⟩⟩⟩⟩⟩⟩⟩⟩⟩⟩⟩⟩⟩⟩⟩⟩⟩⟩⟩⟩⟩⟩
theorem v_okc9 : v_all2 [m_216, m_217, m_218, m_219, m_220, m_221, m_222, m_223, m_224, m_225, m_226, m_227, m_228, m_229, m_230, m_231, m_232, m_233, m_234, m_235, m_236, m_237, m_238, m_239] [10, 10, 10, 10, 10, 10, 10, 10, 10, 10, 10, 10, 10, 10, 10, 10, 10, 10, 10, 10, 10, 10, 10, 10] := ⟨v_OK_of dk_216 ok_216, ⟨v_OK_of dk_217 ok_217, ⟨v_OK_of dk_218 ok_218, ⟨v_OK_of dk_219 ok_219, ⟨v_OK_of dk_220 ok_220, ⟨v_OK_of dk_221 ok_221, ⟨v_OK_of dk_222 ok_222, ⟨v_OK_of dk_223 ok_223, ⟨v_OK_of dk_224 ok_224, ⟨v_OK_of dk_225 ok_225, ⟨v_OK_of dk_226 ok_226, ⟨v_OK_of dk_227 ok_227, ⟨v_OK_of dk_228 ok_228, ⟨v_OK_of dk_229 ok_229, ⟨v_OK_of dk_230 ok_230, ⟨v_OK_of dk_231 ok_231, ⟨v_OK_of dk_232 ok_232, ⟨v_OK_of dk_233 ok_233, ⟨v_OK_of dk_234 ok_234, ⟨v_OK_of dk_235 ok_235, ⟨v_OK_of dk_236 ok_236, ⟨v_OK_of dk_237 ok_237, ⟨v_OK_of dk_238 ok_238, ⟨v_OK_of dk_239 ok_239, trivial⟩⟩⟩⟩⟩⟩⟩⟩⟩⟩⟩⟩⟩⟩⟩⟩⟩⟩⟩⟩⟩⟩⟩⟩
theorem v_okc10 : v_all2 [m_240, m_241, m_242, m_243, m_244, m_245, m_246, m_247, m_248, m_249, m_250, m_251, m_252, m_253, m_254, m_255, m_256, m_257, m_258, m_259, m_260, m_261, m_262, m_263] [10, 10, 10, 10, 10, 10, 10, 10, 10, 10, 10, 10, 10, 10, 10, 10, 10, 10, 10, 10, 10, 10, 10, 10] := ⟨v_OK_of dk_240 ok_240, ⟨v_OK_of dk_241 ok_241, ⟨v_OK_of dk_242 ok_242, ⟨v_OK_of dk_243 ok_243, ⟨v_OK_of dk_244 ok_244, ⟨v_OK_of dk_245 ok_245, ⟨v_OK_of dk_246 ok_246, ⟨v_OK_of dk_247 ok_247, ⟨v_OK_of dk_248 ok_248, ⟨v_OK_of dk_249 ok_249, ⟨v_OK_of dk_250 ok_250, ⟨v_OK_of dk_251 ok_251, ⟨v_OK_of dk_252 ok_252, ⟨v_OK_of dk_253 ok_253, ⟨v_OK_of dk_254 ok_254, ⟨v_OK_of dk_255 ok_255, ⟨v_OK_of dk_256 ok_256, ⟨v_OK_of dk_257 ok_257, ⟨v_OK_of dk_258 ok_258, ⟨v_OK_of dk_259 ok_259, ⟨v_OK_of dk_260 ok_260, ⟨v_OK_of dk_261 ok_261, ⟨v_OK_of dk_262 ok_262, ⟨v_OK_of dk_263 ok_263, trivial⟩⟩⟩⟩⟩⟩⟩⟩⟩⟩⟩⟩⟩⟩⟩⟩⟩⟩⟩⟩⟩⟩⟩⟩
theorem v_okc11 : v_all2 [m_264, m_265, m_266, m_267, m_268, m_269, m_270, m_271, m_272, m_273, m_274, m_275, m_276, m_277, m_278, m_279, m_280, m_281, m_282, m_283, m_284, m_285, m_286] [10, 10, 10, 10, 10, 10, 10, 10, 10, 10, 10, 10, 10, 10, 10, 10, 10, 10, 10, 10, 10, 10, 10] := ⟨v_OK_of dk_264 ok_264, ⟨v_OK_of dk_265 ok_265, ⟨v_OK_of dk_266 ok_266, ⟨v_OK_of dk_267 ok_267, ⟨v_OK_of dk_268 ok_268, ⟨v_OK_of dk_269 ok_269, ⟨v_OK_of dk_270 ok_270, ⟨v_OK_of dk_271 ok_271, ⟨v_OK_of dk_272 ok_272, ⟨v_OK_of dk_273 ok_273, ⟨v_OK_of dk_274 ok_274, ⟨v_OK_of dk_275 ok_275, ⟨v_OK_of dk_276 ok_276, ⟨v_OK_of dk_277 ok_277, ⟨v_OK_of dk_278 ok_278, ⟨v_OK_of dk_279 ok_279, ⟨v_OK_of dk_280 ok_280, ⟨v_OK_of dk_281 ok_281, ⟨v_OK_of dk_282 ok_282, ⟨v_OK_of dk_283 ok_283, ⟨v_OK_of dk_284 ok_284, ⟨v_OK_of dk_285 ok_285, ⟨v_OK_of dk_286 ok_286, trivial⟩⟩⟩⟩⟩⟩⟩⟩⟩⟩⟩⟩⟩⟩⟩⟩⟩⟩⟩⟩⟩⟩⟩
theorem v_okall : v_all2 v_ms [11, 0, 0, 0, 0, 0, 0, 0, 0, 0, 0, 0, 0, 0, 0, 0, 0, 0, 0, 0, 0, 0, 0, 0, 1, 1, 1, 1, 2, 2, 2, 2, 2, 2, 2, 2, 2, 2, 2, 2, 2, 2, 3, 3, 3, 3, 3, 3, 3, 3, 3, 3, 3, 3, 3, 3, 3, 4, 4, 4, 4, 4, 4, 4, 4, 4, 4, 4, 4, 4, 4, 4, 4, 5, 5, 5, 5, 5, 5, 6, 6, 6, 7, 7, 7, 7, 7, 7, 7, 8, 8, 8, 8, 8, 8, 8, 8, 8, 8, 8, 8, 8, 8, 8, 8, 8, 8, 8, 8, 8, 8, 8, 8, 8, 8, 8, 8, 8, 8, 8, 8, 9, 9, 9, 9, 9, 9, 9, 9, 9, 9, 9, 9, 9, 9, 9, 9, 9, 9, 9, 9, 9, 9, 9, 9, 9, 9, 9, 9, 9, 9, 9, 9, 9, 9, 9, 9, 9, 9, 9, 9, 9, 9, 9, 9, 9, 9, 9, 9, 9, 9, 9, 9, 9, 9, 9, 9, 9, 9, 9, 9, 9, 9, 9, 9, 10, 10, 10, 10, 10, 10, 10, 10, 10, 10, 10, 10, 10, 10, 10, 10, 10, 10, 10, 10, 10, 10, 10, 10, 10, 10, 10, 10, 10, 10, 10, 10, 10, 10, 10, 10, 10, 10, 10, 10, 10, 10, 10, 10, 10, 10, 10, 10, 10, 10, 10, 10, 10, 10, 10, 10, 10, 10, 10, 10, 10, 10, 10, 10, 10, 10, 10, 10, 10, 10, 10, 10, 10, 10, 10, 10, 10, 10, 10, 10, 10, 10, 10, 10, 10, 10, 10, 10, 10, 10, 10, 10, 10, 10, 10, 10, 10, 10, 10, 10, 10, 10] := v_all2_app v_okc0 (v_all2_app v_okc1 (v_all2_app v_okc2 (v_all2_app v_okc3 (v_all2_app v_okc4 (v_all2_app v_okc5 (v_all2_app v_okc6 (v_all2_app v_okc7 (v_all2_app v_okc8 (v_all2_app v_okc9 (v_all2_app v_okc10 (v_okc11)))))))))))
theorem v_ms_len : v_ms.length = 287 := by decide +kernel
theorem v_okm {i : Nat} (h : i < 287) : v_OKm (v_cidx i) (v_m i) := v_all2_get v_okall i (by rw [v_ms_len]; exact h)
end
section
/-! ===== returns and calls ===== -/
theorem v_i_ret {i : Instr} {len : Nat} {x : VX} {pc : Nat} {lv : VL} {st : List VV} {V V' : VH} {r : Option VV} (h : v_i i len x pc lv st V = some (.inr (.inl (r, V')))) : V' = V ∧ ((i = .ireturn ∧ ∃ v, st = [.inl v] ∧ r = some (.inl v) ∧ v_ret x.1 v = true) ∨ (i = .lreturn ∧ ∃ v, st = [.inr (.inl v)] ∧ r = some (.inr (.inl v))) ∨ (i = .areturn ∧ ∃ v, st = [.inr (.inr v)] ∧ r = some (.inr (.inr v)) ∧ v.1 ≠ 0) ∨ (i = .return_ ∧ st = [] ∧ r = none)) := by
  have hcall : ∀ {q : Option (List VV × List VV)}, v_call x pc lv V q = some (.inr (.inl (r, V'))) → False := by
    intro q hq
    unfold v_call at hq
    split at hq
    · split at hq <;> (try split at hq) <;> first | (cases hq; done) | (obtain ⟨-, hq⟩ := v_okd hq; cases hq; done)
    · cases hq
  have hnew : ∀ {a : Option VA} {k n : Nat} {st : List VV}, v_new a k n pc len lv st V = some (.inr (.inl (r, V'))) → False := by
    intro a k n st hq
    unfold v_new at hq
    split at hq
    · obtain ⟨-, hq⟩ := v_okd hq; cases hq
    · cases hq
  have hoff : ∀ {d : Option Int} {st : List VV}, v_off pc d lv st V = some (.inr (.inl (r, V'))) → False := by
    intro d st hq
    unfold v_off at hq
    split at hq <;> cases hq
  unfold v_i at h
  split at h <;> (try split at h) <;> (try split at h) <;> (try split at h) <;> first
    | (cases h; done) | exact (hcall h).elim | exact (hnew h).elim | exact (hoff h).elim | (obtain ⟨-, h⟩ := v_okd h; cases h; done)
    | (obtain ⟨hc, h⟩ := v_okd h; cases h; first
        | exact ⟨rfl, Or.inl ⟨rfl, _, rfl, rfl, hc⟩⟩
        | exact ⟨rfl, Or.inr (Or.inr (Or.inl ⟨rfl, _, rfl, rfl, by simpa using hc⟩))⟩)
    | (cases h; exact ⟨rfl, Or.inr (Or.inl ⟨rfl, _, rfl, rfl⟩)⟩)
    | (cases h; exact ⟨rfl, Or.inr (Or.inr (Or.inr ⟨rfl, rfl, rfl⟩))⟩)
theorem v_i_call {i : Instr} {len : Nat} {x : VX} {pc : Nat} {lv : VL} {st : List VV} {V : VH} {m2 : Nat} {as : List VV} {t : VS} (h : v_i i len x pc lv st V = some (.inr (.inr (m2, as, t)))) : (∃ idx, i = .invokevirtual idx ∨ i = .invokestatic idx ∨ i = .invokespecial idx) ∧ ∃ r, v_take x.2.1 [] st = some (as, r) ∧ t = (pc + 3, lv, r, V) ∧ m2 = x.1 ∧ v_sum r ≤ 8 ∧ (x.2.2.1 < 5 ∨ 9 < x.2.2.1) := by
  have hcall : ∀ {q : Option (List VV × List VV)}, v_call x pc lv V q = some (.inr (.inr (m2, as, t))) → ∃ r, q = some (as, r) ∧ t = (pc + 3, lv, r, V) ∧ m2 = x.1 ∧ v_sum r ≤ 8 ∧ (x.2.2.1 < 5 ∨ 9 < x.2.2.1) := by
    intro q hq
    unfold v_call at hq
    split at hq
    · split at hq
      · split at hq <;> first | (cases hq; done) | (obtain ⟨-, hq⟩ := v_okd hq; cases hq; done)
      · split at hq <;> first | (cases hq; done) | (obtain ⟨-, hq⟩ := v_okd hq; cases hq; done)
      · split at hq <;> first | (cases hq; done) | (obtain ⟨-, hq⟩ := v_okd hq; cases hq; done)
      · split at hq <;> first | (cases hq; done) | (obtain ⟨-, hq⟩ := v_okd hq; cases hq; done)
      · split at hq <;> first | (cases hq; done) | (obtain ⟨-, hq⟩ := v_okd hq; cases hq; done)
      · rename_i n5 n6 n7 n8 n9
        obtain ⟨h8, hq⟩ := v_okd hq
        cases hq
        have g5 : x.2.2.1 ≠ 5 := n5
        have g6 : x.2.2.1 ≠ 6 := n6
        have g7 : x.2.2.1 ≠ 7 := n7
        have g8 : x.2.2.1 ≠ 8 := n8
        have g9 : x.2.2.1 ≠ 9 := n9
        exact ⟨_, rfl, rfl, rfl, of_decide_eq_true h8, by omega⟩
    · cases hq
  have hnew : ∀ {a : Option VA} {k n : Nat} {st : List VV}, v_new a k n pc len lv st V = some (.inr (.inr (m2, as, t))) → False := by
    intro a k n st hq
    unfold v_new at hq
    split at hq
    · obtain ⟨-, hq⟩ := v_okd hq; cases hq
    · cases hq
  have hoff : ∀ {d : Option Int} {st : List VV}, v_off pc d lv st V = some (.inr (.inr (m2, as, t))) → False := by
    intro d st hq
    unfold v_off at hq
    split at hq <;> cases hq
  unfold v_i at h
  split at h <;> (try split at h) <;> (try split at h) <;> (try split at h) <;> first
    | (cases h; done) | exact (hnew h).elim | exact (hoff h).elim
    | exact ⟨⟨_, Or.inl rfl⟩, hcall h⟩ | exact ⟨⟨_, Or.inr (Or.inl rfl)⟩, hcall h⟩ | exact ⟨⟨_, Or.inr (Or.inr rfl)⟩, hcall h⟩
    | (obtain ⟨-, h⟩ := v_okd h; cases h; done)
theorem v_char_ok {v : Int32} (h : v_ret 2 v = true) : narrow .char (.int v) = .int v := by
  have h2 : 0 ≤ v ∧ v ≤ 65535 := by simpa [v_ret] using h
  obtain ⟨j, hj, rfl⟩ := nI_of2 (M := 65535) (n := 65535) rfl (by rw [Int32.not_lt]; exact h2.1) h2.2
  exact (pk_charN (by omega)).1
theorem v_retW {p : Program} {l : Launch} {e : Env} {R : Room} {s : State} {mid : MethodId} {args : Array Value} {below : List Frame} {meth : Method} {c : Code} {G : VC} {oi : Nat} {m : VM} {i : Instr} {len : Nat} {x : VX} {pc : Nat} {lv : VL} {st : List VV} {V V' : VH} {r : Option VV} {ρ : VA → Nat} {ws : va_W} {H : Heap} {locs : List Loc} {ls : Array Slot} {cells slots : Nat} {Qc : Array Value → State → Outcome → State → Prop} {free : Addr → Prop}
    (hC : v_CX G oi m p R s mid args meth c) (hd : decode m.2.2.1 pc = .ok (i, len)) (ho : v_okI oi m pc i len x = true) (h : v_i i len x pc lv st V = some (.inr (.inl (r, V')))) (hr : meth.sig.returnType = m.2.2.2.2.1) (hlocks : meth.locks = false)
    (hq : ∀ t : State, t.heap = H → s.WarmedH t.vm → Qc args s (.returned (r.map (v_enc ρ))) t) (hf : ∀ q ∈ locs, free q.base) : W p l e R s mid args below meth c H locs cells slots (MQ below Qc args s cells slots free) (F0 mid pc ls (st.map (v_enc ρ))) := by
  obtain ⟨hx, hb, -⟩ := id hC
  obtain ⟨-, h⟩ := v_i_ret h
  rcases h with ⟨rfl, v, rfl, rfl, hv⟩ | ⟨rfl, v, rfl, rfl⟩ | ⟨rfl, v, rfl, rfl, hv⟩ | ⟨rfl, rfl, rfl⟩
  · simp only [v_okI, Bool.and_eq_true, Bool.or_eq_true, decide_eq_true_eq, beq_iff_eq] at ho
    obtain ⟨rfl, (⟨h0, hm⟩ | ⟨h0, hm⟩) | ⟨h0, hm⟩⟩ := ho
    · exact W.iret (v := v) hx hb (by rw [hr, hm]) hq hf hd
    · rw [h0] at hv
      exact W.zret (v := v) (ty := .boolean) hx hb (by rw [hr, hm]) (v_bool_ok hv).1 hq hf hd
    · rw [h0] at hv
      exact W.zret (v := v) (ty := .char) hx hb (by rw [hr, hm]) (v_char_ok hv) hq hf hd
  · simp only [v_okI, Bool.and_eq_true, decide_eq_true_eq, beq_iff_eq] at ho
    obtain ⟨rfl, hm⟩ := ho
    exact W.lret (v := v) hx hb (by rw [hr, hm]) hq hf hd
  · simp only [v_okI, Bool.and_eq_true, Bool.or_eq_true, decide_eq_true_eq, beq_iff_eq] at ho
    obtain ⟨rfl, hm⟩ := ho
    have hen : v_enc ρ (.inr (.inr v)) = .ref (ρ v) := if_neg hv
    rcases hm with (hm | hm) | hm <;> exact W.aret (v := v_enc ρ (.inr (.inr v))) hx hb (by rw [hr, hm]) (Or.inl ⟨_, rfl⟩) (Or.inr ⟨_, hen⟩) hq hf hd
  · simp only [v_okI, Bool.and_eq_true, decide_eq_true_eq, beq_iff_eq] at ho
    obtain ⟨rfl, hm⟩ := ho
    exact W.vret hx hb (by rw [hr, hm]) hq hf hd
def v_rm (m : VM) (mc ms : Nat) : Room := { frames := m.2.2.2.2.2.1, cells := mc, slots := ms, locals := m.2.2.2.2.2.2.1 }
def v_ws (m : VM) : List Cond := .code m.2.1 m.2.2.1 m.2.2.2.1 m.2.2.2.2.1 :: v_tbl
def v_Pc (G : VC) (ρ : VA → Nat) (V : VH) (ws : va_W) (as : List VV) : Array Value → State → Prop := fun a U => a = (as.map (v_enc ρ)).toArray ∧ v_Rl G ρ V ws U U.heap ∧ v_Wd U ∧ G.2.2.2.2 ≤ U.heap.size ∧ va_X G.2.1 G.2.2.1 G.2.2.2.1 U U.heap ∧ G.2.1 < U.heap.size
def v_Qc (G : VC) (ρ : VA → Nat) (V V1 : VH) (r : Option VV) : Array Value → State → Outcome → State → Prop := fun _ st o t => ∃ (ρ' : VA → Nat) (ws' : va_W), o = .returned (r.map (v_enc ρ')) ∧ v_Rl G ρ' V1 ws' t t.heap ∧ (∀ a, V.2.2.2.1 a = true → ρ' a = ρ a) ∧ (∀ v, r = some v → v_clo G V1 v) ∧ va_F (fun q => G.2.2.2.2 ≤ q) st t
theorem v_Wd.warm {s U : State} (hW : s.WarmedH U.vm) (h : v_Wd s) : v_Wd U := ⟨fun q hq => va_Nw.warmM hW (h.1 q hq), va_AO.moved hW.alike h.2.1, va_AO.moved hW.alike h.2.2.1, va_AO.moved hW.alike h.2.2.2⟩
theorem v_blind (G : VC) (ρ : VA → Nat) (V : VH) (ws : va_W) (as : List VV) : FrameBlind (v_Pc G ρ V ws as) := by
  intro a U g mk h
  obtain ⟨h1, h2, h3, h4, h5, h6⟩ := h
  exact ⟨h1, h2.moved (s := U) (t := U.calling g mk a) (Vm.Alike.refl U.vm), ⟨fun q hq => va_Nw.same rfl rfl (h3.1 q hq), va_AO.moved (u := U) (U := U.calling g mk a) (Vm.Alike.refl U.vm) h3.2.1, va_AO.moved (u := U) (U := U.calling g mk a) (Vm.Alike.refl U.vm) h3.2.2.1, va_AO.moved (u := U) (U := U.calling g mk a) (Vm.Alike.refl U.vm) h3.2.2.2⟩, h4, h5.moved (u := U) (U := U.calling g mk a) (Vm.Alike.refl U.vm), h6⟩
theorem v_args_map (ρ : VA → Nat) : ∀ (as : List VV) (i : Nat), lv_args i (as.map (v_enc ρ)) = (v_args i as).map (fun q => (q.1, v_enc ρ q.2))
  | [], _ => rfl
  | v :: l, i => by
    show (i, v_enc ρ v) :: lv_args (if (v_enc ρ v).category = 2 then i + 2 else i + 1) (l.map (v_enc ρ)) = (i, v_enc ρ v) :: (v_args (i + v_cat v) l).map _
    rw [v_enc_cat, ← v_args_map ρ l]
    match v with
    | .inl _ => rfl
    | .inr (.inl _) => rfl
    | .inr (.inr _) => rfl
theorem v_args_clo {G : VC} {V : VH} : ∀ {as : List VV} {i : Nat}, (∀ v ∈ as, v_clo G V v) → ∀ q ∈ v_args i as, v_clo G V q.2
  | [], _, _, _, h => by cases h
  | v :: l, i, h, q, hq => by
    rcases List.mem_cons.mp hq with rfl | h1
    · exact h v List.mem_cons_self
    · exact v_args_clo (fun w hw => h w (List.mem_cons_of_mem _ hw)) q h1
theorem v_lgsl (ρ : VA → Nat) : ∀ as : List VV, (lg_sl (as.map (v_enc ρ))).length = v_sum as
  | [] => rfl
  | v :: l => by
    have ih := v_lgsl ρ l
    unfold lg_sl at ih ⊢
    rw [List.map_cons, List.flatMap_cons, List.length_append, ih, v_enc_cat]
    match v with
    | .inl _ => rfl
    | .inr (.inl _) => rfl
    | .inr (.inr _) => rfl
theorem v_goodIn {m : VM} (h : Cond.code m.2.1 m.2.2.1 m.2.2.2.1 m.2.2.2.2.1 ∈ v_tbl) : GoodIn v_tbl (v_ws m) := by
  intro w hw
  have hm : w ∈ v_tbl := by
    rcases List.mem_cons.mp hw with rfl | h1
    · exact h
    · exact h1
  exact ⟨hm, good_of_word (List.mem_filter.mp hm).2⟩
section VCALL
variable {p : Program} {l : Launch} {e : Env} {R : Room} {s : State} {mid : MethodId} {args : Array Value} {below : List Frame} {meth : Method} {c : Code} {H : Heap} {locs : List Loc} {cells slots : Nat} {Q : State → Prop} {pc : Nat} {ls : Array Slot} {rest st0 : List Value} {a : Array Value} {mc ms : Nat} {free : Addr → Prop}
theorem v_callG {G : VC} {ρ : VA → Nat} {V V1 : VH} {r : Option VV} {H0 : Heap} (hr : va_Run p l e R s mid args below meth c H locs cells slots mc ms (F0 mid pc ls st0) rest (v_Qc G ρ V V1 r a) (fun q => G.2.2.2.2 ≤ q)) (hS : va_S (fun q => G.2.2.2.2 ≤ q) H0 H locs)
    (kk : ∀ (ρ' : VA → Nat) (ws' : va_W) (H1 : Heap) (locs1 : List Loc), v_Rl G ρ' V1 ws' s H1 → (∀ a, V.2.2.2.1 a = true → ρ' a = ρ a) → (∀ v, r = some v → v_clo G V1 v) → va_S (fun q => G.2.2.2.2 ≤ q) H0 H1 locs1 → W p l e R s mid args below meth c H1 locs1 (cells + mc) (slots + ms) Q (F0 mid (pc + 3) ls ((r.map (v_enc ρ')).toList ++ rest))) : W p l e R s mid args below meth c H locs cells slots Q (F0 mid pc ls st0) := by
  intro T hT X
  obtain ⟨v, st₀, t, T', L, h0, X', hL, e1, e2, ⟨ρ', ws', hv, hRl, hρ, hcl, hz, hk⟩, st⟩ := hr T hT X
  cases hv
  rw [h0] at hz hk
  obtain ⟨t2, a1, b1⟩ := kk ρ' ws' T'.heap (locs ++ L) (by rw [e1]; exact hRl.moved (by rw [← e2]; exact X'.warmed.alike.symm)) hρ hcl
    ⟨Nat.le_trans hS.1 (by rw [e1]; exact hz), fun q h1 h2 => by rw [e1, hk q (Nat.lt_of_lt_of_le h1 hS.1) h2]; exact hS.2.1 q h1 h2, fun q hq => by
      rcases List.mem_append.mp hq with h | h
      · exact hS.2.2 q h
      · exact hL q h⟩ T' rfl X'
  exact ⟨t2, st t2 a1, b1⟩
end VCALL
end
section
/-! ===== soundness: a run of the clean interpreter is a run of the machine ===== -/
theorem v_1_inv {cd : List VE} {s : VS} {o : VO} (h : v_1 cd s = some o) : ∃ (i : Instr) (len : Nat) (x : VX), (s.1, i, len, x) ∈ cd ∧ v_i i len x s.1 s.2.1 s.2.2.1 s.2.2.2 = some o := by
  unfold v_1 at h
  split at h
  · rename_i q hq
    exact ⟨q.1, q.2.1, q.2.2, v_ft_mem hq, h⟩
  · cases h
def v_SN (n : Nat) : Prop := ∀ (mi pc : Nat) (lv : VL) (st : List VV) (V : VH) (r : Option VV) (V' : VH), mi < 287 → v_go n mi (pc, lv, st, V) = some (r, V') → ∀ (p : Program) (l : Launch) (e : Env) (R : Room) (s : State) (mid : MethodId) (args : Array Value) (below : List Frame) (meth : Method) (c : Code) (Q : State → Prop) (G : VC) (ρ : VA → Nat) (ws : va_W) (H : Heap) (locs : List Loc) (ls : Array Slot) (c0 s0 : Nat),
  v_CX G (v_cidx mi) (v_m mi) p R s mid args meth c → v_ST G (v_m mi) s ρ V ws H locs ls lv st → c0 ≤ V.2.2.2.2.1 → s0 ≤ V.2.2.2.2.2 → V'.2.2.2.2.1 - c0 ≤ R.cells → V'.2.2.2.2.2 - s0 ≤ R.slots →
  (∀ (ρ2 : VA → Nat) (ws2 : va_W) (H2 : Heap) (locs2 : List Loc) (ls2 : Array Slot) (lv2 : VL) (st2 : List VV) (V2 : VH) (pc2 : Nat) (i : Instr) (len : Nat) (x : VX), decode (v_m mi).2.2.1 pc2 = .ok (i, len) → v_okI (v_cidx mi) (v_m mi) pc2 i len x = true → v_ST G (v_m mi) s ρ2 V2 ws2 H2 locs2 ls2 lv2 st2 → v_i i len x pc2 lv2 st2 V2 = some (.inr (.inl (r, V'))) → (∀ a, V.2.2.2.1 a = true → ρ2 a = ρ a) → W p l e R s mid args below meth c H2 locs2 (V2.2.2.2.2.1 - c0) (V2.2.2.2.2.2 - s0) Q (F0 mid pc2 ls2 (st2.map (v_enc ρ2)))) →
  W p l e R s mid args below meth c H locs (V.2.2.2.2.1 - c0) (V.2.2.2.2.2 - s0) Q (F0 mid pc ls (st.map (v_enc ρ)))
/-- a callee's contract -/
theorem v_met {n m2 : Nat} (IH : v_SN n) (hm2 : m2 < 287) {as : List VV} {V V1 : VH} {r1 : Option VV} (h1 : v_go n m2 (0, v_args 0 as, [], V) = some (r1, V1)) (hsum : v_sum as ≤ (v_m m2).2.2.2.1) (hpl : plainName (v_m m2).2.1.cls = true) (hown : v_own (v_cidx m2) = (v_m m2).2.1.cls) {G : VC} {ρ : VA → Nat} {ws : va_W} (hbB : G.2.1 < G.2.2.2.2) (hclo : ∀ v ∈ as, v_clo G V v) (l : Launch) :
    Met l (v_m m2).2.1 (v_ws (v_m m2)) (v_rm (v_m m2) (V1.2.2.2.2.1 - V.2.2.2.2.1) (V1.2.2.2.2.2 - V.2.2.2.2.2)) (v_Pc G ρ V ws as) (v_Qc G ρ V V1 r1) (V1.2.2.2.2.1 - V.2.2.2.2.1) (V1.2.2.2.2.2 - V.2.2.2.2.2) (fun q => G.2.2.2.2 ≤ q) := by
  refine Met.ofW (cc := (v_m m2).2.2.1) (maxL := (v_m m2).2.2.2.1) (ret := (v_m m2).2.2.2.2.1) hpl rfl ?_
  intro p e s mid args below meth c s₁ B hml hv
  obtain ⟨rfl, hRl, hWd, hBs, hX, hbs⟩ := hv
  have hl := lv_entry (as.map (v_enc ρ)) (n := (v_m m2).2.2.2.1) (by rw [v_lgsl]; exact hsum)
  rw [lg_entry_eq]
  generalize (lg_sl (as.map (v_enc ρ)) ++ List.replicate ((v_m m2).2.2.2.1 - (lg_sl (as.map (v_enc ρ))).length) Slot.unset).toArray = ls at hl ⊢
  rw [v_args_map] at hl
  have hts := atoms_spec (ws := v_ws (v_m m2)) B.pre
  have hCX : v_CX G (v_cidx m2) (v_m m2) p (headSpec (v_ws (v_m m2)) (v_rm (v_m m2) (V1.2.2.2.2.1 - V.2.2.2.2.1) (V1.2.2.2.2.2 - V.2.2.2.2.2))).room s mid (as.map (v_enc ρ)).toArray meth c := ⟨B.exec, B.bytes, hml, by rw [hown]; exact findClass_of_methodNamed B.named, fun w hw => hts w (List.mem_cons_of_mem _ hw), hWd, fun h => by rw [(name_of_methodNamed B.named B.method).1, h], Nat.le_refl _, Nat.le_refl _, hBs, hX, hbs, hbB⟩
  have key := IH m2 0 (v_args 0 as) [] V r1 V1 hm2 h1 p l e _ s mid _ below meth c (MQ below (v_Qc G ρ V V1 r1) (as.map (v_enc ρ)).toArray s (V1.2.2.2.2.1 - V.2.2.2.2.1) (V1.2.2.2.2.2 - V.2.2.2.2.2) (fun q => G.2.2.2.2 ≤ q)) G ρ ws s.heap [] ls V.2.2.2.2.1 V.2.2.2.2.2 hCX ⟨hRl, hl, v_args_clo hclo, fun _ h => (by cases h), va_S.rf⟩ (Nat.le_refl _) (Nat.le_refl _) (Nat.le_refl _) (Nat.le_refl _) (by
    intro ρ2 ws2 H2 locs2 ls2 lv2 st2 V2 pc2 i len x hd ho hST hi hρ
    have hi2 := v_i_ret hi
    have hV := hi2.1
    subst hV
    refine v_retW (ws := ws2) hCX hd ho hi B.returns B.notSynchronized (fun t ht hW => ⟨ρ2, ws2, rfl, by rw [ht]; exact hST.1.moved hW.alike, hρ, fun v hv => ?_, hST.2.2.2.2.F ht⟩) hST.2.2.2.2.2.2
    have hcl := hST.2.2.2.1
    rcases hi2.2 with ⟨-, w, e1, e2, -⟩ | ⟨-, w, e1, e2⟩ | ⟨-, w, e1, e2, -⟩ | ⟨-, e1, e2⟩
    · rw [e2] at hv; cases hv; exact trivial
    · rw [e2] at hv; cases hv; exact trivial
    · rw [e2] at hv; cases hv; exact hcl _ (by rw [e1]; exact List.mem_cons_self)
    · rw [e2] at hv; cases hv)
  rw [Nat.sub_self, Nat.sub_self] at key
  exact key
theorem v_mlk_ns : ∀ q ∈ v_mlk, (q.2.2.2.1 = 0 ∨ q.2.2.2.1 = 2 ∨ q.2.2.2.1 = 4) → v_stats.elem q.2.2.1 = false := by decide +kernel
theorem v_cl_facts {q : Nat × Nat × Nat × Nat × Nat} (h : q ∈ v_mlk) (hk : q.2.2.2.1 < 5) : (v_m q.2.2.1).2.1.cls ≠ "java/lang/invoke/MethodHandle" ∧ (v_m q.2.2.1).2.1.cls ≠ "java/lang/invoke/VarHandle" ∧ plainName (v_m q.2.2.1).2.1.cls = true ∧ (parseMethodDescriptor (v_m q.2.2.1).2.1.desc).map (fun d => d.parameters.length) = some (q.2.2.2.2 - (if q.2.2.2.1 = 1 ∨ q.2.2.2.1 = 3 then 0 else 1)) ∧ ((q.2.2.2.1 = 2 ∨ q.2.2.2.1 = 4) → (v_m q.2.2.1).2.1.name = "<init>" ∧ (v_m q.2.2.1).2.2.2.2.1 = none) ∧ q.2.2.1 < 287 ∧ ((v_cidx q.2.2.1) < 11 ∧ v_own (v_cidx q.2.2.1) = (v_m q.2.2.1).2.1.cls ∧ vcl[v_cidx q.2.2.1]?.map (fun r => r.1) = some (v_m q.2.2.1).2.1.cls) ∧ Cond.code (v_m q.2.2.1).2.1 (v_m q.2.2.1).2.2.1 (v_m q.2.2.1).2.2.2.1 (v_m q.2.2.1).2.2.2.2.1 ∈ v_tbl := by
  have hcl := v_mlk_cl q h
  unfold v_cl at hcl
  rw [decide_eq_true hk] at hcl
  simp only [Bool.and_eq_true, decide_eq_true_eq] at hcl
  obtain ⟨⟨⟨⟨⟨⟨⟨⟨k1, k2⟩, k3⟩, k4⟩, k5⟩, k6⟩, k7⟩, k8⟩, k9⟩ := hcl
  refine ⟨k1, k2, k3, k4, fun h24 => ?_, k7, k9, ?_⟩
  · have e : (q.2.2.2.1 == 2 || q.2.2.2.1 == 4) = true := by simpa using h24
    rw [e] at k5
    simpa using k5
  · refine v_codes (v_m q.2.2.1) ?_
    show v_mth v_ms q.2.2.1 ∈ v_ms.drop 1
    have k6 : q.2.2.1 ≠ 0 := by simpa using k6
    obtain ⟨j, hj⟩ : ∃ j, q.2.2.1 = j + 1 := ⟨q.2.2.1 - 1, by omega⟩
    rw [hj]
    exact v_mth_mem (ms := v_ms.drop 1) (by rw [List.length_drop, v_ms_len]; omega)
theorem v_sound : ∀ n, v_SN n := by
  intro n
  induction n with
  | zero =>
    intro mi pc lv st V r V' hmi h
    cases h
  | succ n IH =>
    intro mi pc lv st V r V' hmi h p l e R s mid args below meth c Q G ρ ws H locs ls c0 s0 hC hS hc0 hs0 hrc hrs hret
    have hOK := v_okm hmi
    unfold v_go at h
    split at h
    · cases h
    · rename_i t ht
      obtain ⟨i, len, x, hmem, hi⟩ := v_1_inv ht
      obtain ⟨hd, ho⟩ := hOK _ hmem
      obtain ⟨pc2, lv2, st2, V2⟩ := t
      have hle1 : v_le V V2 := v_i_le hi
      have hle2 : v_le V2 V' := v_go_le h
      have hle := hle2.1
      have hle' := hle2.2.1
      refine v_step i p l e R s mid args below meth c Q G (v_cidx mi) (v_m mi) len x pc lv st V pc2 lv2 st2 V2 ρ ws H locs ls c0 s0 hC hd ho hS hi hc0 hs0 (by omega) (by omega) ?_
      intro ρ2 ws2 H2 locs2 ls2 hS2 hρ
      exact IH mi pc2 lv2 st2 V2 r V' hmi h p l e R s mid args below meth c Q G ρ2 ws2 H2 locs2 ls2 c0 s0 hC hS2 (Nat.le_trans hc0 hle1.1) (Nat.le_trans hs0 hle1.2.1) hrc hrs (fun ρ3 ws3 H3 locs3 ls3 lv3 st3 V3 pc3 i3 len3 x3 g1 g2 g3 g4 g5 => hret ρ3 ws3 H3 locs3 ls3 lv3 st3 V3 pc3 i3 len3 x3 g1 g2 g3 g4 (fun a ha => (g5 a (hle1.2.2 a ha)).trans (hρ a ha)))
    · rename_i q ht
      obtain ⟨i, len, x, hmem, hi⟩ := v_1_inv ht
      obtain ⟨hd, ho⟩ := hOK _ hmem
      cases h
      exact hret ρ ws H locs ls lv st V pc i len x hd ho hS hi (fun _ _ => rfl)
    · rename_i m2 as t ht
      obtain ⟨i, len, x, hmem, hi⟩ := v_1_inv ht
      obtain ⟨hd, ho⟩ := hOK _ hmem
      split at h
      · cases h
      · rename_i hrcv
        split at h
        · cases h
        · rename_i r1 V1 h1
          obtain ⟨hwh, rr, htk, rfl, rfl, h8, hkd⟩ := v_i_call hi
          dsimp only at h h1 hd ho htk hi
          obtain ⟨pre, hp1, hp2, hp3⟩ := v_take_eq htk
          rw [List.append_nil] at hp3
          have hpr : pre = as.reverse := by rw [hp3, List.reverse_reverse]
          subst hpr
          subst hp1
          obtain ⟨hx, hb, hml, hown, hts, hWd, hin, hfr, hlo, hB, hX, hXl, hXB⟩ := id hC
          obtain ⟨hR, hl, hlc, hst, hva⟩ := id hS
          have hca : ∀ v ∈ as, v_clo G V v := fun v hv => hst v (List.mem_append_left _ (List.mem_reverse.mpr hv))
          have hcr : ∀ v ∈ rr, v_clo G V v := fun v hv => hst v (List.mem_append_right _ hv)
          have hle1 : v_le V V1 := v_go_le h1
          have hle2 : v_le V1 V' := v_go_le h
          have e1 := hle1.1
          have e2 := hle1.2.1
          have e3 := hle2.1
          have e4 := hle2.2.1
          unfold v_rcv at hrcv
          rw [Bool.and_eq_true, decide_eq_true_eq] at hrcv
          obtain ⟨hsum, hrcv⟩ := hrcv
          have hroom : ((rr.map (v_enc ρ)).map (fun v => v.category)).sum ≤ 8 := by rw [v_sum_cat]; exact h8
          have hcells : V.2.2.2.2.1 - c0 + (V1.2.2.2.2.1 - V.2.2.2.2.1) ≤ R.cells ∧ V.2.2.2.2.2 - s0 + (V1.2.2.2.2.2 - V.2.2.2.2.2) ≤ R.slots := ⟨by omega, by omega⟩
          have hPc : ∀ U : State, U.heap = H → s.WarmedH U.vm → v_Pc G ρ V ws as (as.map (v_enc ρ)).toArray U := fun U hU hW => ⟨rfl, by rw [hU]; exact hR.moved hW.alike, hWd.warm hW, by rw [hU]; exact Nat.le_trans hB hva.1, by rw [hU]; exact (hX.kept (hva.2.1 _ hXl (Nat.not_le.mpr hXB))).moved hW.alike, by rw [hU]; exact Nat.lt_of_lt_of_le hXl hva.1⟩
          have hafter : ∀ (ρ' : VA → Nat) (ws' : va_W) (H1 : Heap) (locs1 : List Loc), v_Rl G ρ' V1 ws' s H1 → (∀ a, V.2.2.2.1 a = true → ρ' a = ρ a) → (∀ v, r1 = some v → v_clo G V1 v) → va_S (fun q => G.2.2.2.2 ≤ q) s.heap H1 locs1 → W p l e R s mid args below meth c H1 locs1 (V.2.2.2.2.1 - c0 + (V1.2.2.2.2.1 - V.2.2.2.2.1)) (V.2.2.2.2.2 - s0 + (V1.2.2.2.2.2 - V.2.2.2.2.2)) Q (F0 mid (pc + 3) ls ((r1.map (v_enc ρ')).toList ++ rr.map (v_enc ρ))) := by
            intro ρ' ws' H1 locs1 hR1 hρ hcv hva1
            have hρs : ρ' (60, G.2.2.1, 0) = ρ (60, G.2.2.1, 0) := by rw [hR1.2.2.2.2.2.2.1, hR.2.2.2.2.2.2.1]
            have hst1 : v_ST G (v_m mi) s ρ' V1 ws' H1 locs1 ls lv (r1.toList ++ rr) := by
              refine ⟨hR1, by rw [v_lv_ext hρ hρs hlc]; exact hl, fun q hq => v_clo_mono hle1.2.2 (hlc q hq), fun v hv => ?_, hva1⟩
              rcases List.mem_append.mp hv with hv | hv
              · exact hcv v (by simpa using hv)
              · exact v_clo_mono hle1.2.2 (hcr v hv)
            have key := IH mi (pc + 3) lv (r1.toList ++ rr) V1 r V' hmi h p l e R s mid args below meth c Q G ρ' ws' H1 locs1 ls c0 s0 hC hst1 (Nat.le_trans hc0 e1) (Nat.le_trans hs0 e2) hrc hrs (fun ρ3 ws3 H3 locs3 ls3 lv3 st3 V3 pc3 i3 len3 x3 g1 g2 g3 g4 g5 => hret ρ3 ws3 H3 locs3 ls3 lv3 st3 V3 pc3 i3 len3 x3 g1 g2 g3 g4 (fun a ha => (g5 a (hle1.2.2 a ha)).trans (hρ a ha)))
            rw [List.map_append, v_map_ext hρ hρs hcr, show r1.toList.map (v_enc ρ') = (r1.map (v_enc ρ')).toList by cases r1 <;> rfl] at key
            exact W.cs (by omega) (by omega) key
          rw [List.map_append, List.map_reverse]
          obtain ⟨idx, hwh⟩ := hwh
          rcases hwh with rfl | rfl | rfl
          · simp only [v_okI, Bool.and_eq_true, decide_eq_true_eq, beq_iff_eq, List.elem_eq_mem] at ho
            obtain ⟨⟨⟨⟨rfl, hlk⟩, hk0⟩, hf1⟩, hf2⟩ := ho
            have hw9 := v_mlk_in _ hlk
            have hns := v_mlk_ns _ hlk (Or.inl rfl)
            simp only [v_mw] at hw9
            dsimp only at hns
            obtain ⟨k1, k2, k3, k4, -, k7, k9, hcode⟩ := v_cl_facts hlk (Nat.zero_lt_succ _)
            dsimp only at k1 k2 k3 k4 k7 k9 hcode
            rw [hns, Bool.false_or] at hrcv
            obtain ⟨a, As, rfl⟩ : ∃ a As, as = .inr (.inr a) :: As := by
              match as, hrcv with
              | .inr (.inr a) :: As, _ => exact ⟨a, As, rfl⟩
            have hka : v_kind a = v_cidx x.1 := by simpa using hrcv
            obtain ⟨hal, hen⟩ := hR.ref (hca _ List.mem_cons_self) (by omega)
            obtain ⟨-, -, kk, cA, hwk, -⟩ := hR.2.2.2.1 a hal
            rw [v_E_obj (by omega)] at hwk
            obtain ⟨C, T, ty0, hcl2, -⟩ := v_cls k9.1
            rw [hka] at hwk
            have hCn : C = (v_m x.1).2.1.cls := by
              have h9 := k9.2.2
              rw [hcl2] at h9
              simpa using h9
            have hrv := va_recv hR.2.2.1 hR.1 hcl2 hwk
            dsimp only at hrv
            rw [hCn] at hrv
            rw [List.map_cons, hen] at hPc
            rw [List.map_cons, hen]
            refine v_callG (va_runV (C := (v_m x.1).2.1.cls) (n := As.length) (b := ρ a) (As := As.map (v_enc ρ)) (rest := rr.map (v_enc ρ)) ⟨hx, hb, hml, hown, hts⟩ (v_met IH k7 h1 hsum k3 k9.2.1 (ws := ws) hXB hca l) (cwV As.length hts ?_ rfl rfl rfl ⟨rfl, k1, k2, ?_⟩ ⟨Nat.le_trans hf1 hfr, Nat.le_trans hf2 hlo⟩) ⟨v_blind G ρ V ws _, hrv, hPc⟩ rfl (by simp) hl.1 ?_ (lv_room hroom) hd hcells) hva hafter
            · intro w hw
              rcases List.mem_append.mp hw with hw | hw
              · have h9 := hw9 w hw
                exact ⟨h9, good_of_word (List.mem_filter.mp h9).2⟩
              · exact v_goodIn hcode w hw
            · rw [k4]
              have h9 : (As.length + 1) = x.2.1 := by simpa using hp2
              rw [if_neg (by decide)]
              congr 1
              omega
            · show (Value.ref (ρ a) :: As.map (v_enc ρ)).reverse ++ rr.map (v_enc ρ) = _
              rw [List.reverse_cons, List.append_assoc]
              rfl
          · simp only [v_okI, Bool.and_eq_true, Bool.or_eq_true, decide_eq_true_eq, beq_iff_eq, List.elem_eq_mem] at ho
            obtain ⟨⟨rfl, hlk⟩, hkd2⟩ := ho
            rcases hkd2 with (⟨⟨⟨h6, -⟩, -⟩, -⟩ | ⟨⟨⟨h789, -⟩, -⟩, -⟩) | ⟨⟨h13, hf1⟩, hf2⟩
            · omega
            · omega
            · have hw9 := v_mlk_in _ hlk
              obtain ⟨k1, k2, k3, k4, -, k7, k9, hcode⟩ := v_cl_facts hlk (by dsimp only; omega)
              have hnl := v_nest_of _ hlk
              dsimp only at k1 k2 k3 k4 k7 k9 hcode hnl
              have hal : as.length = x.2.1 := by rw [List.length_reverse] at hp2; exact hp2
              rw [if_pos h13, Nat.sub_zero, ← hal] at k4
              rcases h13 with h13 | h13
              · simp only [v_mw, h13] at hw9
                refine v_callG (va_runS (n := as.length) (As := as.map (v_enc ρ)) (rest := rr.map (v_enc ρ)) ⟨hx, hb, hml, hown, hts⟩ (v_met IH k7 h1 hsum k3 k9.2.1 (ws := ws) hXB hca l) (va_cwS as.length hts ?_ rfl rfl rfl ⟨k1, k2, k4⟩ ⟨Nat.le_trans hf1 hfr, Nat.le_trans hf2 hlo⟩) ⟨v_blind G ρ V ws _, hPc⟩ rfl (by simp) hl.1 rfl (lv_room hroom) hd hcells) hva hafter
                intro w hw
                rcases List.mem_append.mp hw with hw | hw
                · have h9 := hw9 w hw
                  exact ⟨h9, good_of_word (List.mem_filter.mp h9).2⟩
                · exact v_goodIn hcode w hw
              · simp only [v_mw, h13] at hw9
                exact v_callG (va_runSN (host := "BeeYard") (n := as.length) (As := as.map (v_enc ρ)) (rest := rr.map (v_enc ρ)) ⟨hx, hb, hml, hown, hts⟩ (v_met IH k7 h1 hsum k3 k9.2.1 (ws := ws) hXB hca l) ⟨va_cnB as.length hts (v_goodIn hcode) rfl rfl rfl (hWd.1 _ (hnl (Or.inl h13))) (hts _ (hw9 _ (by simp))) ⟨k1, k2, k4⟩ ⟨Nat.le_trans hf1 hfr, Nat.le_trans hf2 hlo⟩, hts _ (hw9 _ (by simp)), trivial⟩ ⟨v_blind G ρ V ws _, hPc⟩ rfl (by simp) hl.1 rfl (lv_room hroom) hd hcells) hva hafter
          · simp only [v_okI, Bool.and_eq_true, Bool.or_eq_true, decide_eq_true_eq, beq_iff_eq, List.elem_eq_mem] at ho
            obtain ⟨⟨rfl, hlk⟩, hkd2⟩ := ho
            rcases hkd2 with ⟨⟨⟨h5, -⟩, -⟩, -⟩ | ⟨⟨h24, hf1⟩, hf2⟩
            · omega
            · have hw9 := v_mlk_in _ hlk
              obtain ⟨k1, k2, k3, k4, k5, k7, k9, hcode⟩ := v_cl_facts hlk (by dsimp only; omega)
              have hnl := v_nest_of _ hlk
              have hns := v_mlk_ns _ hlk (by dsimp only; omega)
              dsimp only at k1 k2 k3 k4 k5 k7 k9 hcode hnl hns
              obtain ⟨k51, k52⟩ := k5 h24
              rw [hns, Bool.false_or] at hrcv
              obtain ⟨a, As, rfl⟩ : ∃ a As, as = .inr (.inr a) :: As := by
                match as, hrcv with
                | .inr (.inr a) :: As, _ => exact ⟨a, As, rfl⟩
              have hka : v_kind a = v_cidx x.1 := by simpa using hrcv
              obtain ⟨-, hen⟩ := hR.ref (hca _ List.mem_cons_self) (by omega)
              have hwe : v_ws (v_m x.1) = Cond.code (v_m x.1).2.1 (v_m x.1).2.2.1 (v_m x.1).2.2.2.1 none :: v_tbl := by
                unfold v_ws
                rw [k52]
              have hal : As.length + 1 = x.2.1 := by simpa using hp2
              rw [if_neg (by omega), show x.2.1 - 1 = As.length by omega] at k4
              rw [List.map_cons, hen] at hPc
              rw [List.map_cons, hen]
              have hstk : (Value.ref (ρ a) :: As.map (v_enc ρ)).reverse ++ rr.map (v_enc ρ) = (As.map (v_enc ρ)).reverse ++ .ref (ρ a) :: rr.map (v_enc ρ) := by
                rw [List.reverse_cons, List.append_assoc]
                rfl
              rcases h24 with h24 | h24
              · simp only [v_mw, h24] at hw9
                exact v_callG (va_runI (n := As.length) (b := ρ a) (As := As.map (v_enc ρ)) (rest := rr.map (v_enc ρ)) ⟨hx, hb, hml, hown, hts⟩ (v_met IH k7 h1 hsum k3 k9.2.1 (ws := ws) hXB hca l) (cwI As.length hts (v_goodIn hcode) hwe rfl rfl (hts _ (hw9 _ (by simp))) (hts _ (hw9 _ (by simp))) (hts _ (hw9 _ (by simp))) k51 ⟨k1, k2, k4⟩ ⟨Nat.le_trans hf1 hfr, Nat.le_trans hf2 hlo⟩) ⟨v_blind G ρ V ws _, hPc⟩ rfl (by simp) hl.1 hstk (lv_room hroom) hd hcells) hva hafter
              · simp only [v_mw, h24] at hw9
                have g1 : (Cond.initialized (v_m x.1).2.1.cls).before args s = true := hts _ (hw9 _ (by simp))
                have g2 : (Cond.instanceMethod (v_m x.1).2.1).before args s = true := hts _ (hw9 _ (by simp))
                have g0 := hnl (Or.inr h24)
                have g3 := hWd.1 _ g0
                unfold v_nw at g3
                dsimp only at g3
                have cw : va_CN R s args (v_own (v_cidx mi)) idx (v_m x.1).2.1 "BeeYard" (v_m x.1).2.2.1 (v_m x.1).2.2.2.1 none (v_ws (v_m x.1)) (v_rm (v_m x.1) (V1.2.2.2.2.1 - V.2.2.2.2.1) (V1.2.2.2.2.2 - V.2.2.2.2.2)) (V1.2.2.2.2.1 - V.2.2.2.2.1) (V1.2.2.2.2.2 - V.2.2.2.2.2) As.length := va_cnB As.length hts (v_goodIn hcode) hwe rfl rfl g3 g1 ⟨k1, k2, k4⟩ ⟨Nat.le_trans hf1 hfr, Nat.le_trans hf2 hlo⟩
                exact v_callG (va_runIN (host := "BeeYard") (n := As.length) (b := ρ a) (As := As.map (v_enc ρ)) (rest := rr.map (v_enc ρ)) ⟨hx, hb, hml, hown, hts⟩ (v_met IH k7 h1 hsum k3 k9.2.1 (ws := ws) hXB hca l) ⟨cw, k51, g2⟩ ⟨v_blind G ρ V ws _, hPc⟩ rfl (by simp) hl.1 hstk (lv_room hroom) hd hcells) hva hafter
end
section
/-! THE CLAIM OUT OF ONE WALK OF THE LAW'S BODY. Your part is whole_start (and what it stands on); all else here is the same for every law, but numbers. -/
def R_law : String := "BeeYardLaw"
def lw_P (b : Addr) (xs : List Int32) (args : Array Value) (s : State) : Prop := args = #[.ref b] ∧ s.IntsAt b xs ∧ xs.length ≤ 2048 ∧ (Jvm.Cond.and given_1 narrow_1).before args s = true
def lw_Q (_ : Array Value) (s : State) (o : Outcome) (t : State) : Prop := o = .returned (some (.int 1)) ∧ Framed s o t [] 600000 7302250
def lw_Z (below : List Frame) (a : Array Value) (s : State) : State → Prop := fun t => ∃ o, t.status = .running ∧ Ended t below o ∧ lw_Q a s o t
/-- the law's own end, with 1 on the stack, nothing written that was there before, its room as the claim has it -/
theorem lw_ret {p : Program} {l : Launch} {e : Env} {s : State} {m : MethodId} {below : List Frame} {meth : Method} {c : Code} {b : Nat} (hx : p.tables.exec = Jvm.exec) (hb : c.code = code) (hr : meth.sig.returnType = ret) (hlocks : meth.locks = false) {pc : Nat} {H : Heap} {ls : Array Slot} (hdg : decode code pc = .ok (.ireturn, 1)) : W p l e room_1 s m #[Value.ref b] below meth c H [] 600000 7302250 (lw_Z below #[Value.ref b] s) (F0 m pc ls [.int 1]) := by
  intro T hT X
  obtain ⟨fs, hret, hrun, hended, hW, hframe⟩ := X.leave (v := some (.int 1)) (hlocks := hlocks) (fun h => by rw [hr] at h; cases h)
  have hmeth' : T.vm.method? m = some meth := X.method'
  refine ⟨T.setFrames fs, ?_, .returned (some (.int 1)), hrun, hended, rfl, ⟨_, rfl⟩, hW, hframe⟩
  jvm_step X.here [X.here.top, hx, hb, hdg, hmeth', hr, ret, narrow_b1]
  (try refine ⟨rfl, ?_⟩); (try refine ⟨rfl, ?_⟩)
  first | (intro acts; rw [hret _ acts rfl rfl rfl]) | rw [hret _ _ rfl rfl rfl]
  exact Steps.refl _
/-- what holds at the law's entry: the machine, the code, the tables' words (any of lw_tbl by 'hts w (by decide +kernel)'), the script of L ints xs at the cell b, what the Statement gives of the start (any of its parts by flat_of_before) -/
def lw_At (p : Program) (s : State) (m : MethodId) (meth : Method) (c : Code) (b L : Nat) (xs : Nat → Int32) : Prop :=
  p.tables.exec = Jvm.exec ∧ c.code = code ∧ meth.sig.returnType = ret ∧ c.maxLocals = 4 ∧ s.vm.findClass R_law = some m.cls ∧ (∀ w ∈ lw_tbl, w.before #[Value.ref b] s = true) ∧ va_X b L xs s s.heap ∧ b < s.heap.size ∧ meth.locks = false ∧ (Jvm.Cond.and given_1 narrow_1).before #[Value.ref b] s = true
/-- the law in the clean interpreter: its start -/
def v_V0 (L : Nat) (xs : Nat → Int32) : VH := (fun a j => if a = (60, L, 0) then xs j else 0, fun _ _ => (0, 0, 0), fun _ _ => 0, fun _ => false, 0, 0)
def v_Law (L : Nat) (xs : Nat → Int32) : Prop := ∃ (n : Nat) (V' : VH), v_go n 0 (0, [(0, .inr (.inr (60, L, 0)))], [], v_V0 L xs) = some (some (.inl 1), V') ∧ V'.2.2.2.2.1 ≤ 600000 ∧ V'.2.2.2.2.2 ≤ 7302250
set_option maxHeartbeats 4000000 in
theorem whole_of (hlaw : ∀ (L : Nat) (xs : Nat → Int32), L ≤ 2048 → v_Law L xs) {p : Program} {e : Env} {s : State} {m : MethodId} {below : List Frame} {meth : Method} {c : Code} (l : Launch) {b L : Nat} {xs : Nat → Int32} (hL : L ≤ 2048) (C0 : lw_At p s m meth c b L xs) : W p l e room_1 s m #[Value.ref b] below meth c s.heap [] 0 0 (lw_Z below #[Value.ref b] s) (entryFrame m ([Value.ref b] : List Value).toArray 4) := by
  obtain ⟨hx, hb, hr, hml, hown, hts, hX, hbl, hlocks, hgv⟩ := id C0
  obtain ⟨n, V', hgo, hcn, hsn⟩ := hlaw L xs hL
  have htb : ∀ w ∈ v_tbl, w.before #[Value.ref b] s = true := fun w hw => hts w (List.mem_filter.mp hw).1
  obtain ⟨c0, iS0, hKn0⟩ := u_known (C := RX0) (T := TX0) (N := v_nf 0) (n := v_nf 0) htb (fun w h => v_c0_in w (List.mem_append_left _ h)) (htb _ (v_c0_in _ (List.mem_append_right _ (by simp [v_nf, v_nth]))))
  obtain ⟨c1, iS1, hKn1⟩ := u_known (C := RX1) (T := TX1) (N := v_nf 1) (n := v_nf 1) htb (fun w h => v_c1_in w (List.mem_append_left _ h)) (htb _ (v_c1_in _ (List.mem_append_right _ (by simp [v_nf, v_nth]))))
  obtain ⟨c2, iS2, hKn2⟩ := u_known (C := RX2) (T := TX2) (N := v_nf 2) (n := v_nf 2) htb (fun w h => v_c2_in w (List.mem_append_left _ h)) (htb _ (v_c2_in _ (List.mem_append_right _ (by simp [v_nf, v_nth]))))
  obtain ⟨c3, iS3, hKn3⟩ := u_known (C := RX3) (T := TX3) (N := v_nf 3) (n := v_nf 3) htb (fun w h => v_c3_in w (List.mem_append_left _ h)) (htb _ (v_c3_in _ (List.mem_append_right _ (by simp [v_nf, v_nth]))))
  obtain ⟨c4, iS4, hKn4⟩ := u_known (C := RX4) (T := TX4) (N := v_nf 4) (n := v_nf 4) htb (fun w h => v_c4_in w (List.mem_append_left _ h)) (htb _ (v_c4_in _ (List.mem_append_right _ (by simp [v_nf, v_nth]))))
  obtain ⟨c5, iS5, hKn5⟩ := u_known (C := RX5) (T := TX5) (N := v_nf 5) (n := v_nf 5) htb (fun w h => v_c5_in w (List.mem_append_left _ h)) (htb _ (v_c5_in _ (List.mem_append_right _ (by simp [v_nf, v_nth]))))
  obtain ⟨c6, iS6, hKn6⟩ := u_known (C := RX6) (T := TX6) (N := v_nf 6) (n := v_nf 6) htb (fun w h => v_c6_in w (List.mem_append_left _ h)) (htb _ (v_c6_in _ (List.mem_append_right _ (by simp [v_nf, v_nth]))))
  obtain ⟨c7, iS7, hKn7⟩ := u_known (C := RX7) (T := TX7) (N := v_nf 7) (n := v_nf 7) htb (fun w h => v_c7_in w (List.mem_append_left _ h)) (htb _ (v_c7_in _ (List.mem_append_right _ (by simp [v_nf, v_nth]))))
  obtain ⟨c8, iS8, hKn8⟩ := u_known (C := RX8) (T := TX8) (N := v_nf 8) (n := v_nf 8) htb (fun w h => v_c8_in w (List.mem_append_left _ h)) (htb _ (v_c8_in _ (List.mem_append_right _ (by simp [v_nf, v_nth]))))
  obtain ⟨c9, iS9, hKn9⟩ := u_known (C := RX9) (T := TX9) (N := v_nf 9) (n := v_nf 9) htb (fun w h => v_c9_in w (List.mem_append_left _ h)) (htb _ (v_c9_in _ (List.mem_append_right _ (by simp [v_nf, v_nth]))))
  obtain ⟨c10, iS10, hKn10⟩ := u_known (C := RX10) (T := TX10) (N := v_nf 10) (n := v_nf 10) htb (fun w h => v_c10_in w (List.mem_append_left _ h)) (htb _ (v_c10_in _ (List.mem_append_right _ (by simp [v_nf, v_nth]))))
  obtain ⟨dC, dI, hKc⟩ : ∃ (dC : Nat → ClassId) (dI : Nat → Nat → Nat), ∀ (k : Nat) (q : vw_C), vcl[k]? = some q → u_Kn s q.1 q.2.1 q.2.2 (dC k) (dI k) := by
    refine ⟨fun k => if k = 0 then c0 else if k = 1 then c1 else if k = 2 then c2 else if k = 3 then c3 else if k = 4 then c4 else if k = 5 then c5 else if k = 6 then c6 else if k = 7 then c7 else if k = 8 then c8 else if k = 9 then c9 else c10, fun k => if k = 0 then iS0 else if k = 1 then iS1 else if k = 2 then iS2 else if k = 3 then iS3 else if k = 4 then iS4 else if k = 5 then iS5 else if k = 6 then iS6 else if k = 7 then iS7 else if k = 8 then iS8 else if k = 9 then iS9 else iS10, ?_⟩
    intro k q hq
    match k, hq with
    | 0, hq => cases hq; exact hKn0
    | 1, hq => cases hq; exact hKn1
    | 2, hq => cases hq; exact hKn2
    | 3, hq => cases hq; exact hKn3
    | 4, hq => cases hq; exact hKn4
    | 5, hq => cases hq; exact hKn5
    | 6, hq => cases hq; exact hKn6
    | 7, hq => cases hq; exact hKn7
    | 8, hq => cases hq; exact hKn8
    | 9, hq => cases hq; exact hKn9
    | 10, hq => cases hq; exact hKn10
    | k + 11, hq => simp [vcl] at hq
  have hK : va_K (dC, dI) vcl [] s := ⟨hKc, fun k q hq => by simp at hq⟩
  have hWd : v_Wd s := ⟨fun q hq => va_Nw.of rfl (hts _ (v_nest_in q hq)), va_AO.of (hts _ (v_over_in _ (by simp))), va_AO.of (hts _ (v_over_in _ (by simp))), va_AO.of (hts _ (v_over_in _ (by simp)))⟩
  have hl := lv_entry ([Value.ref b]) (n := 4) (Nat.le_of_ble_eq_true rfl)
  rw [lg_entry_eq]
  generalize (lg_sl ([Value.ref b]) ++ List.replicate (4 - (lg_sl ([Value.ref b])).length) Slot.unset).toArray = ls at hl ⊢
  have hl : lv_has ls 4 [(0, .ref b)] := hl
  let G : VC := ((dC, dI), b, L, xs, s.heap.size)
  have hCX : v_CX G (v_cidx 0) (v_m 0) p room_1 s m #[Value.ref b] meth c := ⟨hx, hb, hml, hown, htb, hWd, fun h => absurd h (by decide), by decide, by decide, Nat.le_refl _, hX, hbl, hbl⟩
  have hRl : v_Rl G (fun _ => b) (v_V0 L xs) [] s s.heap := by
    refine ⟨fun k q h => (by simp at h), ⟨fun i j p q h => (by simp at h), fun k q h => (by simp at h)⟩, hK, fun a ha => (by cases ha), fun a a' ha => (by cases ha), fun a j ha => (by cases ha), rfl, fun j hj => ?_⟩
    show (if ((60, L, 0) : VA) = (60, L, 0) then xs j else 0) = xs j
    rw [if_pos rfl]
  have hST : v_ST G (v_m 0) s (fun _ => b) (v_V0 L xs) [] s.heap [] ls [(0, .inr (.inr (60, L, 0)))] [] := ⟨hRl, hl, fun q hq => (by
      rcases List.mem_cons.mp hq with rfl | h
      · exact Or.inr (Or.inl rfl)
      · cases h), fun _ h => (by cases h), va_S.rf⟩
  have key := v_sound n 0 0 [(0, .inr (.inr (60, L, 0)))] [] (v_V0 L xs) (some (.inl 1)) V' (by decide) hgo p l e room_1 s m #[Value.ref b] below meth c (lw_Z below #[Value.ref b] s) G (fun _ => b) [] s.heap [] ls 0 0 hCX hST (Nat.zero_le _) (Nat.zero_le _) (by rw [Nat.sub_zero]; exact hcn) (by rw [Nat.sub_zero]; exact hsn) (by
    intro ρ2 ws2 H2 locs2 ls2 lv2 st2 V2 pc2 i len x hd ho hS2 hi hρ
    obtain ⟨hV, hi2⟩ := v_i_ret hi
    subst hV
    rcases hi2 with ⟨rfl, v, rfl, e2, -⟩ | ⟨-, v, -, e2⟩ | ⟨-, v, -, e2, -⟩ | ⟨-, -, e2⟩
    · cases e2
      have hlen : len = 1 := by
        simp only [v_okI, Bool.and_eq_true, beq_iff_eq] at ho
        exact ho.1
      subst hlen
      refine va_forget (fun q hq => hS2.2.2.2.2.2.2 q hq) ?_
      refine W.widen (k := 600000) (n := 7302250) (by rw [Nat.sub_zero]; exact hcn) (by rw [Nat.sub_zero]; exact hsn) ?_
      exact lw_ret hx hb hr hlocks hd
    · cases e2
    · cases e2
    · cases e2)
  exact key
end
section
/-! ===== fewer locals do as well ===== -/
def v_nd (lv : VL) : Prop := (lv.map (fun q => q.1)).Nodup
def v_sub (a b : VL) : Prop := v_nd a ∧ ∀ i v, v_get a i = some v → v_get b i = some v
theorem v_get_nd {a : VL} (h : v_nd a) {i : Nat} {v : VV} (hm : (i, v) ∈ a) : v_get a i = some v := by
  induction a with
  | nil => cases hm
  | cons q l ih =>
    obtain ⟨j, w⟩ := q
    unfold v_nd at h
    rw [List.map_cons, List.nodup_cons] at h
    unfold v_get
    rcases List.mem_cons.mp hm with e | e
    · cases e
      rw [beq_self_eq_true]
    · have hne : (j == i) = false := by
        rw [beq_eq_false_iff_ne]
        intro e2
        subst e2
        exact h.1 (List.mem_map.mpr ⟨(j, v), e, rfl⟩)
      rw [hne]
      exact ih h.2 e
theorem v_get_filter {a : VL} {p : Nat × VV → Bool} {i : Nat} {v : VV} (h : v_get a i = some v) (hp : p (i, v) = true) : v_get (a.filter p) i = some v := by
  induction a with
  | nil => cases h
  | cons q l ih =>
    obtain ⟨j, w⟩ := q
    unfold v_get at h
    split at h
    · rename_i hj
      cases h
      have e := beq_iff_eq.mp hj
      subst e
      rw [List.filter_cons_of_pos hp]
      unfold v_get
      rw [beq_self_eq_true]
    · rename_i hj
      by_cases hq : p (j, w) = true
      · rw [List.filter_cons_of_pos hq]
        unfold v_get
        rw [hj]
        exact ih h
      · rw [List.filter_cons_of_neg hq]
        exact ih h
theorem v_nd_filter {a : VL} (p : Nat × VV → Bool) (h : v_nd a) : v_nd (a.filter p) := by
  unfold v_nd at h ⊢
  exact List.Sublist.nodup (List.Sublist.map _ List.filter_sublist) h
theorem v_sub_put {a b : VL} {i : Nat} {v : VV} {p : Nat × VV → Bool} (hp : ∀ q, p q = true → q.1 ≠ i) (h : v_sub a b) : v_sub ((i, v) :: a.filter p) ((i, v) :: b.filter p) := by
  refine ⟨?_, fun j w hj => ?_⟩
  · unfold v_nd
    rw [List.map_cons, List.nodup_cons]
    refine ⟨fun hm => ?_, v_nd_filter p h.1⟩
    obtain ⟨q, hq, e⟩ := List.mem_map.mp hm
    exact hp q (List.mem_filter.mp hq).2 e
  · unfold v_get at hj ⊢
    split at hj
    · exact hj
    · rename_i hji
      have hm := v_get_mem hj
      obtain ⟨h1, h2⟩ := List.mem_filter.mp hm
      exact v_get_filter (h.2 j w (v_get_nd h.1 h1)) h2
theorem v_sub_put1 {a b : VL} {i : Nat} {v : VV} (h : v_sub a b) : v_sub (v_put1 a i v) (v_put1 b i v) := v_sub_put (fun q hq => by
  rw [Bool.and_eq_true] at hq
  simpa using hq.1) h
theorem v_sub_put2 {a b : VL} {i : Nat} {v : VV} (h : v_sub a b) : v_sub (v_put2 a i v) (v_put2 b i v) := v_sub_put (fun q hq => by
  rw [Bool.and_eq_true] at hq
  simpa using hq.1) h
/-- the same step, with more locals -/
def v_lo : VO → VO → Prop
  | .inl s, .inl t => s.1 = t.1 ∧ v_sub s.2.1 t.2.1 ∧ s.2.2 = t.2.2
  | .inr (.inl r), .inr (.inl q) => r = q
  | .inr (.inr s), .inr (.inr t) => s.1 = t.1 ∧ s.2.1 = t.2.1 ∧ s.2.2.1 = t.2.2.1 ∧ v_sub s.2.2.2.1 t.2.2.2.1 ∧ s.2.2.2.2 = t.2.2.2.2
  | _, _ => False
theorem v_fresh_sub {a b : VL} (h : v_sub a b) {mode tag : Nat} {j : Int} {n : Int32} {r : VA} (hf : v_fresh a mode tag j n = some r) : v_fresh b mode tag j n = some r := by
  unfold v_fresh at hf ⊢
  split at hf
  · exact hf
  · split at hf
    · rename_i h0
      simp only [h.2 _ _ h0]
      exact hf
    · cases hf
  · split at hf
    · rename_i h0 h1
      simp only [h.2 _ _ h0, h.2 _ _ h1]
      exact hf
    · cases hf
  · exact hf
theorem v_call_sub {a b : VL} (h : v_sub a b) {x : VX} {pc : Nat} {V : VH} {q : Option (List VV × List VV)} {o : VO} (hc : v_call x pc a V q = some o) : ∃ o', v_call x pc b V q = some o' ∧ v_lo o o' := by
  unfold v_call at hc ⊢
  split at hc
  · split at hc <;> (try split at hc) <;> first
      | (cases hc; done)
      | (obtain ⟨h1, hc⟩ := v_okd hc; cases hc; rw [h1]; exact ⟨_, rfl, rfl, h, rfl⟩)
      | (obtain ⟨h1, hc⟩ := v_okd hc; cases hc; rw [h1]; exact ⟨_, rfl, rfl, rfl, rfl, h, rfl⟩)
  · cases hc
theorem v_new_sub {a b : VL} (h : v_sub a b) {q : Option VA} {k n pc len : Nat} {st : List VV} {V : VH} {o : VO} (hc : v_new q k n pc len a st V = some o) : ∃ o', v_new q k n pc len b st V = some o' ∧ v_lo o o' := by
  unfold v_new at hc ⊢
  split at hc
  · obtain ⟨h1, hc⟩ := v_okd hc
    cases hc
    rw [h1]
    exact ⟨_, rfl, rfl, h, rfl⟩
  · cases hc
theorem v_off_sub {a b : VL} (h : v_sub a b) {pc : Nat} {d : Option Int} {st : List VV} {V : VH} {o : VO} (hc : v_off pc d a st V = some o) : ∃ o', v_off pc d b st V = some o' ∧ v_lo o o' := by
  unfold v_off at hc ⊢
  split at hc
  · cases hc
    exact ⟨_, rfl, rfl, h, rfl⟩
  · cases hc
theorem v_i_sub {i : Instr} {a b : VL} (h : v_sub a b) {len : Nat} {x : VX} {pc : Nat} {st : List VV} {V : VH} {o : VO} (hc : v_i i len x pc a st V = some o) : ∃ o', v_i i len x pc b st V = some o' ∧ v_lo o o' := by
  cases i <;> simp only [v_i] at hc ⊢ <;> first
    | (cases hc; done)
    | exact v_call_sub h hc
    | (cases hc; exact ⟨_, rfl, rfl, h, rfl⟩)
    | (split at hc <;> first
        | (cases hc; done)
        | (cases hc; exact ⟨_, rfl, rfl, h, rfl⟩)
        | (cases hc; exact ⟨_, rfl, rfl, v_sub_put1 h, rfl⟩)
        | (cases hc; exact ⟨_, rfl, rfl, v_sub_put2 h, rfl⟩)
        | (cases hc; exact ⟨_, rfl, rfl⟩)
        | exact v_off_sub h hc
        | (rename_i hg; simp only [h.2 _ _ hg]; cases hc; first | exact ⟨_, rfl, rfl, h, rfl⟩ | exact ⟨_, rfl, rfl, v_sub_put1 h, rfl⟩)
        | (obtain ⟨h1, hc⟩ := v_okd hc; cases hc; rw [h1]; first | exact ⟨_, rfl, rfl, h, rfl⟩ | exact ⟨_, rfl, rfl⟩)
        | (split at hc <;> first
            | (cases hc; done)
            | (obtain ⟨h1, hc⟩ := v_okd hc; cases hc; rw [h1]; exact ⟨_, rfl, rfl, h, rfl⟩)
            | (rename_i hf; simp only [v_fresh_sub h hf]; split at hc <;> first | (cases hc; done) | exact v_new_sub h hc)))
    | (cases hf : v_fresh a x.2.1 x.2.2.1 x.2.2.2 0 with
       | none => rw [hf] at hc; simp [v_new] at hc
       | some r => rw [hf] at hc; rw [v_fresh_sub h hf]; exact v_new_sub h hc)
theorem v_go_sub : ∀ {n m pc : Nat} {a b : VL} {st : List VV} {V : VH} {q : Option VV × VH}, v_sub a b → v_go n m (pc, a, st, V) = some q → v_go n m (pc, b, st, V) = some q
  | 0, _, _, _, _, _, _, _, _, h => by cases h
  | n + 1, m, pc, a, b, st, V, q, hs, h => by
    unfold v_go at h ⊢
    have h1 : ∀ o, v_1 (v_code m) (pc, a, st, V) = some o → ∃ o', v_1 (v_code m) (pc, b, st, V) = some o' ∧ v_lo o o' := by
      intro o ho
      unfold v_1 at ho ⊢
      dsimp only at ho ⊢
      split at ho
      · exact v_i_sub hs ho
      · cases ho
    split at h
    · cases h
    · rename_i t ht
      obtain ⟨o', e, hl⟩ := h1 _ ht
      rw [e]
      match o', hl with
      | .inl u, hl =>
        obtain ⟨p1, l1, r1⟩ := t
        obtain ⟨p2, l2, r2⟩ := u
        obtain ⟨e1, e2, e3⟩ := hl
        dsimp only at e1 e2 e3
        subst e1
        subst e3
        exact v_go_sub e2 h
    · rename_i r ht
      obtain ⟨o', e, hl⟩ := h1 _ ht
      rw [e]
      match o', hl with
      | .inr (.inl u), hl =>
        have hl : r = u := hl
        subst hl
        exact h
    · rename_i m2 as t ht
      obtain ⟨o', e, hl⟩ := h1 _ ht
      rw [e]
      match o', hl with
      | .inr (.inr (m3, as3, u)), hl =>
        obtain ⟨p1, l1, s1, V1⟩ := t
        obtain ⟨p2, l2, s2, V2⟩ := u
        obtain ⟨e1, e2, e3, e4, e5⟩ := hl
        dsimp only at e1 e2 e3 e4 e5
        subst e1
        subst e2
        subst e3
        cases e5
        dsimp only at h ⊢
        split at h
        · cases h
        · rename_i hr
          (try rw [hr])
          (try dsimp only)
          split at h
          · cases h
          · rename_i r2 V3 h3
            (try rw [h3])
            exact v_go_sub e4 h
end
section
/-! ===== states of the system, and what a piece of code does to them ===== -/
/-- what changes among the references: the yard that is now, the one before; which hives, frames, things are made; the pairs' length, and which lengths were made -/
abbrev QD : Type := Nat × Nat × (Nat → Nat → Bool) × (Nat → Nat → Bool) × (Nat → Nat → Bool) × Nat × (Nat → Bool)
/-- a state: ints, longs, references, cells, slots -/
abbrev QS : Type := (VA → Nat → Int32) × (VA → Nat → Int64) × QD × Nat × Nat
def q_nth : List Nat → Nat → Nat
  | [], _ => 0
  | x :: _, 0 => x
  | _ :: l, n + 1 => q_nth l n
def q_t (l : List Nat) (k : Nat) (i : Nat × Nat) : VA := match q_nth l k == 0 with
  | true => (0, 0, 0)
  | false => (q_nth l k, i)
def q_o (b : Bool) (a : VA) : VA := match b with
  | true => a
  | false => (0, 0, 0)
def q_g (i j : Nat) (a : VA) : VA := match (i == 0) && (j == 0) with
  | true => a
  | false => (0, 0, 0)
def q_R5 (n i j k : Nat) : VA := match k == 5 with
  | true => q_g i j (30, n, 0)
  | false => q_t [26, 27, 28, 29] k (i, j)
def q_R9 (d : QD) (k : Nat) : VA := match k with
  | 0 => (9, d.1, 0)
  | 1 => (9, d.2.1, 0)
  | 6 => (1, 0, 0)
  | 7 => (5, 0, 0)
  | 8 => (6, 0, 0)
  | 9 => (7, 1, 0)
  | 10 => (7, 2, 0)
  | _ => (0, 0, 0)
def q_R (d : QD) (a : VA) (k : Nat) : VA := match a.1 with
  | 1 => q_t [20] k a.2
  | 2 => q_t [21, 22, 23] k a.2
  | 3 => q_t [24] k a.2
  | 4 => q_t [25] k a.2
  | 5 => q_R5 d.2.2.2.2.2.1 a.2.1 a.2.2 k
  | 6 => match k with
    | 0 => (7, 0, 0)
    | _ => q_t [0, 31, 32, 33, 34] k a.2
  | 7 => q_t [35] k a.2
  | 9 => q_t [36, 37, 38, 39, 2] k a.2
  | 10 => q_g a.2.1 a.2.2 (q_R9 d k)
  | 11 => q_t [40, 41, 0, 0, 42, 0, 0, 43, 0, 44, 0, 45, 0, 46, 47, 48, 49, 50, 51, 52] k a.2
  | 36 => q_o ((a.2.2 == 0) && d.2.2.1 a.2.1 k) (4, a.2.1, k)
  | 37 => q_o ((a.2.2 == 0) && d.2.2.2.1 a.2.1 k) (3, a.2.1, k)
  | 38 => q_o ((a.2.2 == 0) && d.2.2.2.2.1 a.2.1 k) (8, a.2.1, k)
  | _ => (0, 0, 0)
def q_static : List VA := [(10, 0, 0), (9, 0, 0), (9, 1, 0), (36, 0, 0), (36, 1, 0), (37, 0, 0), (37, 1, 0), (38, 0, 0), (38, 1, 0), (39, 0, 0), (39, 1, 0), (2, 0, 0), (2, 1, 0), (21, 0, 0), (21, 1, 0), (22, 0, 0), (22, 1, 0), (23, 0, 0), (23, 1, 0), (1, 0, 0), (20, 0, 0), (5, 0, 0), (26, 0, 0), (27, 0, 0), (28, 0, 0), (29, 0, 0), (6, 0, 0), (31, 0, 0), (32, 0, 0), (33, 0, 0), (34, 0, 0), (7, 0, 0), (7, 1, 0), (7, 2, 0), (35, 0, 0), (35, 1, 0), (35, 2, 0), (11, 0, 0), (40, 0, 0), (41, 0, 0), (42, 0, 0), (43, 0, 0), (44, 0, 0), (45, 0, 0), (46, 0, 0), (47, 0, 0), (48, 0, 0), (49, 0, 0), (50, 0, 0), (51, 0, 0), (52, 0, 0)]
def q_al (d : QD) (a : VA) : Bool := match a.1 with
  | 4 => d.2.2.1 a.2.1 a.2.2
  | 25 => d.2.2.1 a.2.1 a.2.2
  | 3 => d.2.2.2.1 a.2.1 a.2.2
  | 24 => d.2.2.2.1 a.2.1 a.2.2
  | 8 => d.2.2.2.2.1 a.2.1 a.2.2
  | 30 => d.2.2.2.2.2.2 a.2.1 && (a.2.2 == 0)
  | _ => q_static.elem a
def q_V (S : QS) : VH := (S.1, q_R S.2.2.1, S.2.1, q_al S.2.2.1, S.2.2.2.1, S.2.2.2.2)
def q_set (S : QS) (a : VA) (k : Nat) (x : Int32) : QS := (fun b => if b = a then upd (S.1 a) k x else S.1 b, S.2)
def q_row (S : QS) (a : VA) (f : Nat → Int32) : QS := (fun b => if b = a then f else S.1 b, S.2)
def q_setL (S : QS) (a : VA) (k : Nat) (x : Int64) : QS := (S.1, fun b => if b = a then vp_updL (S.2.1 a) k x else S.2.1 b, S.2.2)
def q_let {α β : Type} (x : α) (k : α → β) : β := k x
def q_ck {α : Type} (c : Bool) (e : Option α) : Option α := match c with
  | true => e
  | false => none
def q_bd {α β γ : Type} (e : Option (α × β)) (k : α → β → Option γ) : Option γ := match e with
  | some q => k q.1 q.2
  | none => none
/-- from this point on the code does what e says -/
def q_Sim {T : Type} (m pc : Nat) (lv : VL) (st : List VV) (V : VH) (tv : T → Option VV) (e : Option (T × QS)) : Prop := ∀ r S', e = some (r, S') → ∃ n, v_go n m (pc, lv, st, V) = some (tv r, q_V S')
def q_I : Int32 → Option VV := fun x => some (.inl x)
def q_J : Int64 → Option VV := fun x => some (.inr (.inl x))
def q_A (t : Nat) : Nat × Nat → Option VV := fun q => some (.inr (.inr (t, q.1, q.2)))
def q_U : Unit → Option VV := fun _ => none
theorem v_n_go {m : Nat} {cd : List VE} (hc : v_code m = cd) : ∀ {k n : Nat} {s t : VS} {q : Option VV × VH}, v_n k cd s = some t → v_go n m t = some q → v_go (n + k) m s = some q
  | 0, n, s, t, q, h, g => by
    cases h
    exact g
  | k + 1, n, s, t, q, h, g => by
    unfold v_n at h
    split at h
    · rename_i u hu
      have g2 := v_n_go hc (k := k) h g
      show v_go (n + k + 1) m s = some q
      unfold v_go
      rw [hc, hu]
      exact g2
    · cases h
section QSIM
variable {T T2 : Type} {m pc : Nat} {lv : VL} {st : List VV} {V : VH} {tv : T → Option VV} {tv2 : T2 → Option VV} {e e1 e2 : Option (T × QS)} {cd : List VE}
theorem q_Sim.steps (hc : v_code m = cd) (k : Nat) {pc' : Nat} {lv' : VL} {st' : List VV} {V' : VH} (h : v_n k cd (pc, lv, st, V) = some (pc', lv', st', V')) (g : q_Sim m pc' lv' st' V' tv e) : q_Sim m pc lv st V tv e := by
  intro r S' he
  obtain ⟨n, hn⟩ := g r S' he
  exact ⟨n + k, v_n_go hc h hn⟩
theorem q_Sim.one (hc : v_code m = cd) {s' : VS} (h : v_1 cd (pc, lv, st, V) = some (.inl s')) (g : q_Sim m s'.1 s'.2.1 s'.2.2.1 s'.2.2.2 tv e) : q_Sim m pc lv st V tv e := by
  intro r S' he
  obtain ⟨n, hn⟩ := g r S' he
  refine ⟨n + 1, ?_⟩
  unfold v_go
  rw [hc, h]
  exact hn
theorem q_Sim.br (hc : v_code m = cd) {c : Prop} [Decidable c] {t f : Nat} {lv' : VL} {st' : List VV} {V' : VH} (h : v_1 cd (pc, lv, st, V) = some (.inl (v_br (decide c) t f, lv', st', V'))) (g1 : q_Sim m t lv' st' V' tv e1) (g2 : q_Sim m f lv' st' V' tv e2) : q_Sim m pc lv st V tv (if c then e1 else e2) := by
  refine q_Sim.one hc h ?_
  by_cases hcc : c
  · rw [if_pos hcc, decide_eq_true hcc]
    exact g1
  · rw [if_neg hcc, decide_eq_false hcc]
    exact g2
theorem q_Sim.ck (hc : v_code m = cd) {c : Bool} {pc' : Nat} {lv' : VL} {st' : List VV} {V' : VH} (h : v_1 cd (pc, lv, st, V) = v_ok c (.inl (pc', lv', st', V'))) (g : q_Sim m pc' lv' st' V' tv e) : q_Sim m pc lv st V tv (q_ck c e) := by
  cases c with
  | true => exact q_Sim.one hc h g
  | false => intro r S' he; cases he
theorem q_Sim.okd (hc : v_code m = cd) {c : Bool} {pc' : Nat} {lv' : VL} {st' : List VV} {V' : VH} (h : v_1 cd (pc, lv, st, V) = v_ok c (.inl (pc', lv', st', V'))) (hcc : c = true) (g : q_Sim m pc' lv' st' V' tv e) : q_Sim m pc lv st V tv e := by
  subst hcc
  exact q_Sim.one hc h g
theorem q_Sim.call (hc : v_code m = cd) {m2 : Nat} {as : List VV} {pc' : Nat} {lv' : VL} {st' : List VV} {S : QS} {ec : Option (T2 × QS)} {k : T2 → QS → Option (T × QS)} (h : v_1 cd (pc, lv, st, q_V S) = some (.inr (.inr (m2, as, (pc', lv', st', q_V S))))) (hr : v_rcv m2 as = true) (c : q_Sim m2 0 (v_args 0 as) [] (q_V S) tv2 ec) (g : ∀ r S1, q_Sim m pc' lv' ((tv2 r).toList ++ st') (q_V S1) tv (k r S1)) : q_Sim m pc lv st (q_V S) tv (q_bd ec k) := by
  intro r S' he
  unfold q_bd at he
  split at he
  · rename_i q
    obtain ⟨n1, h1⟩ := c q.1 q.2 rfl
    obtain ⟨n2, h2⟩ := g q.1 q.2 r S' he
    refine ⟨n1 + n2 + 1, ?_⟩
    unfold v_go
    rw [hc, h]
    dsimp only
    rw [hr]
    dsimp only
    rw [v_go_mono n2 h1]
    dsimp only
    have h3 := v_go_mono n1 h2
    rw [Nat.add_comm] at h3
    exact h3
  · cases he
theorem q_Sim.ret (hc : v_code m = cd) {r : T} {S : QS} (h : v_1 cd (pc, lv, st, q_V S) = some (.inr (.inl (tv r, q_V S)))) : q_Sim m pc lv st (q_V S) tv (some (r, S)) := by
  intro r' S' he
  cases he
  refine ⟨1, ?_⟩
  unfold v_go
  rw [hc, h]
theorem q_Sim.retc (hc : v_code m = cd) {r : T} {S : QS} {c : Bool} (h : v_1 cd (pc, lv, st, q_V S) = v_ok c (.inr (.inl (tv r, q_V S)))) : q_Sim m pc lv st (q_V S) tv (q_ck c (some (r, S))) := by
  cases c with
  | true => exact q_Sim.ret hc h
  | false => intro r S' he; cases he
theorem q_Sim.letS {S : QS} {k : QS → Option (T × QS)} (g : ∀ S1 : QS, q_Sim m pc lv st (q_V S1) tv (k S1)) : q_Sim m pc lv st (q_V S) tv (q_let S k) := g S
theorem q_Sim.letI {x : Int32} {k : Int32 → Option (T × QS)} (g : ∀ y : Int32, q_Sim m pc lv (.inl y :: st) V tv (k y)) : q_Sim m pc lv (.inl x :: st) V tv (q_let x k) := g x
theorem q_Sim.letJ {x : Int64} {k : Int64 → Option (T × QS)} (g : ∀ y : Int64, q_Sim m pc lv (.inr (.inl y) :: st) V tv (k y)) : q_Sim m pc lv (.inr (.inl x) :: st) V tv (q_let x k) := g x
theorem q_Sim.ite {c : Prop} [Decidable c] (g1 : c → q_Sim m pc lv st V tv e1) (g2 : ¬ c → q_Sim m pc lv st V tv e2) : q_Sim m pc lv st V tv (if c then e1 else e2) := by
  by_cases hc : c
  · rw [if_pos hc]; exact g1 hc
  · rw [if_neg hc]; exact g2 hc
theorem q_Sim.none : q_Sim m pc lv st V tv none := fun _ _ h => by cases h
def q_has (lv : VL) : VL → Prop
  | [] => True
  | q :: l => v_get lv q.1 = some q.2 ∧ q_has lv l
theorem q_has_sub {lv : VL} : ∀ {l : VL}, q_has lv l → ∀ i v, v_get l i = some v → v_get lv i = some v
  | [], _, _, _, h => by cases h
  | (j, w) :: l, h, i, v, hg => by
    unfold v_get at hg
    split at hg
    · rename_i hj
      cases hg
      have e := beq_iff_eq.mp hj
      subst e
      exact h.1
    · exact q_has_sub h.2 i v hg
theorem q_Sim.sub {lv' : VL} (hn : (lv'.map (fun q => q.1)).Nodup) (h : q_has lv lv') (g : q_Sim m pc lv' st V tv e) : q_Sim m pc lv st V tv e := by
  intro r S' he
  obtain ⟨n, h1⟩ := g r S' he
  exact ⟨n, v_go_sub ⟨hn, q_has_sub h⟩ h1⟩
theorem q_Sim.sw (hc : v_code m = cd) {d lo hi : Int} {offs : List Int} {x c : Int32} {o : Int} {lv' : VL} {st' : List VV} {V' : VH} (h : v_1 cd (pc, lv, st, V) = v_off pc (v_tab d lo hi offs x.toInt) lv' st' V') (hx : x = c) (hv : v_tab d lo hi offs c.toInt = some o) {t : Nat} (ht : ((pc : Int) + o).toNat = t) (g : q_Sim m t lv' st' V' tv e) : q_Sim m pc lv st V tv e := by
  subst hx
  rw [hv] at h
  subst ht
  exact q_Sim.one hc h g
theorem v_tab_out {d lo hi : Int} {offs : List Int} {x : Int} (h : ∀ k, lo ≤ k → k ≤ hi → x ≠ k) : v_tab d lo hi offs x = some d := by
  unfold v_tab
  by_cases h1 : x < lo
  · rw [decide_eq_true h1]; rfl
  · by_cases h2 : hi < x
    · rw [decide_eq_true h2, Bool.or_true]
    · exact absurd rfl (h x (by omega) (by omega))
theorem q_Sim.swd (hc : v_code m = cd) {d lo hi : Int} {offs : List Int} {x : Int32} {lv' : VL} {st' : List VV} {V' : VH} (h : v_1 cd (pc, lv, st, V) = v_off pc (v_tab d lo hi offs x.toInt) lv' st' V') (hv : ∀ k, lo ≤ k → k ≤ hi → x.toInt ≠ k) {t : Nat} (ht : ((pc : Int) + d).toNat = t) (g : q_Sim m t lv' st' V' tv e) : q_Sim m pc lv st V tv e := by
  rw [v_tab_out hv] at h
  subst ht
  exact q_Sim.one hc h g
theorem q_Sim.lk (hc : v_code m = cd) {d o : Int} {ps : List (Int × Int)} {x : Int32} {lv' : VL} {st' : List VV} {V' : VH} (h : v_1 cd (pc, lv, st, V) = v_off pc (some (v_look d x.toInt ps)) lv' st' V') (hv : v_look d x.toInt ps = o) {t : Nat} (ht : ((pc : Int) + o).toNat = t) (g : q_Sim m t lv' st' V' tv e) : q_Sim m pc lv st V tv e := by
  rw [hv] at h
  subst ht
  exact q_Sim.one hc h g
theorem v_look_no {d x a o : Int} {l : List (Int × Int)} (h : x ≠ a) : v_look d x ((a, o) :: l) = v_look d x l := by
  rw [v_look, decide_eq_false h]
theorem q_ne {x c : Int32} {k : Int} (h : ¬ x = c) (hc : c.toInt = k) : x.toInt ≠ k := fun e => h (Int32.toInt_inj.mp (e.trans hc.symm))
end QSIM
end
section
/-! ===== the methods that make cells, by hand ===== -/
/-- the rounds that a loop may take -/
def q_N : Nat := 20000
theorem q_Sim.sub2 {T : Type} {m pc : Nat} {lv lv' : VL} {st : List VV} {V : VH} {tv : T → Option VV} {e : Option (T × QS)} (ks : List Nat) (hk : lv'.map (fun q => q.1) = ks) (hn : ks.Nodup) (h : q_has lv lv') (g : q_Sim m pc lv' st V tv e) : q_Sim m pc lv st V tv e := q_Sim.sub (by rw [hk]; exact hn) h g
def q_mk (S : QS) (a : VA) (n : Nat) : QS := (fun b => if b = a then fun _ => 0 else S.1 b, fun b => if b = a then fun _ => 0 else S.2.1 b, S.2.2.1, S.2.2.2.1 + 1, S.2.2.2.2 + n)
def q_dH (S : QS) (y n : Nat) : QS := (S.1, S.2.1, (S.2.2.1.1, S.2.2.1.2.1, fun a b => if a = y ∧ b = n then true else S.2.2.1.2.2.1 a b, S.2.2.1.2.2.2), S.2.2.2)
def q_dF (S : QS) (y n : Nat) : QS := (S.1, S.2.1, (S.2.2.1.1, S.2.2.1.2.1, S.2.2.1.2.2.1, fun a b => if a = y ∧ b = n then true else S.2.2.1.2.2.2.1 a b, S.2.2.1.2.2.2.2), S.2.2.2)
def q_dT (S : QS) (y n : Nat) : QS := (S.1, S.2.1, (S.2.2.1.1, S.2.2.1.2.1, S.2.2.1.2.2.1, S.2.2.1.2.2.2.1, fun a b => if a = y ∧ b = n then true else S.2.2.1.2.2.2.2.1 a b, S.2.2.1.2.2.2.2.2), S.2.2.2)
def q_dP (S : QS) (n : Nat) : QS := (S.1, S.2.1, (S.2.2.1.1, S.2.2.1.2.1, S.2.2.1.2.2.1, S.2.2.1.2.2.2.1, S.2.2.1.2.2.2.2.1, n, fun a => if a = n then true else S.2.2.1.2.2.2.2.2.2 a), S.2.2.2)
/-- a new hive: its row of places, its numbers -/
def q_newH (S : QS) (y n : Nat) : QS := q_row (q_dH (q_mk (q_mk S (4, y, n) 12) (25, y, n) 96) y n) (4, y, n) (fun k => if k = 5 then -1 else 0)
def q_newF (S : QS) (y n : Nat) : QS := q_dF (q_mk (q_mk S (3, y, n) 2) (24, y, n) 64) y n
def q_newT (S : QS) (y n : Nat) : QS := q_row (q_dT (q_mk S (8, y, n) 9) y n) (8, y, n) (fun k => if k = 2 ∨ k = 3 ∨ k = 6 ∨ k = 8 then -1 else 0)
def f_91 (i0 : Nat) (x1 : Int32) (S : QS) : Option ((Nat × Nat) × QS) := q_ck (v_in x1 40) (if S.2.2.1.2.2.1 i0 x1.toNatClampNeg = true then some ((i0, x1.toNatClampNeg), S) else some ((i0, x1.toNatClampNeg), q_newH S i0 x1.toNatClampNeg))
def f_92 (i0 : Nat) (x1 : Int32) (S : QS) : Option ((Nat × Nat) × QS) := q_ck (v_in x1 200) (if S.2.2.1.2.2.2.1 i0 x1.toNatClampNeg = true then some ((i0, x1.toNatClampNeg), S) else some ((i0, x1.toNatClampNeg), q_newF S i0 x1.toNatClampNeg))
def f_93 (i0 : Nat) (x1 : Int32) (S : QS) : Option ((Nat × Nat) × QS) := q_ck (v_in x1 200) (if S.2.2.1.2.2.2.2.1 i0 x1.toNatClampNeg = true then some ((i0, x1.toNatClampNeg), S) else some ((i0, x1.toNatClampNeg), q_newT S i0 x1.toNatClampNeg))
theorem rc_91 (i0 : Nat) (x1 : Int32) : v_rcv 91 [.inr (.inr (9, i0, 0)), .inl x1] = true := rfl
theorem rc_92 (i0 : Nat) (x1 : Int32) : v_rcv 92 [.inr (.inr (9, i0, 0)), .inl x1] = true := rfl
theorem rc_93 (i0 : Nat) (x1 : Int32) : v_rcv 93 [.inr (.inr (9, i0, 0)), .inl x1] = true := rfl
theorem q_Sim.ckh {T : Type} {m pc : Nat} {lv : VL} {st : List VV} {V : VH} {tv : T → Option VV} {e : Option (T × QS)} {cd : List VE} (hc : v_code m = cd) {c : Bool} {pc' : Nat} {lv' : VL} {st' : List VV} {V' : VH} (h : v_1 cd (pc, lv, st, V) = v_ok c (.inl (pc', lv', st', V'))) (g : c = true → q_Sim m pc' lv' st' V' tv e) : q_Sim m pc lv st V tv (q_ck c e) := by
  cases c with
  | true => exact q_Sim.one hc h (g rfl)
  | false => intro r S' he; cases he
/-- a run, from any heap -/
def q_run (m pc : Nat) (lv : VL) (st : List VV) (V : VH) (r : Option VV) (V1 : VH) : Prop := ∃ n, v_go n m (pc, lv, st, V) = some (r, V1)
theorem q_run.steps {m pc : Nat} {lv : VL} {st : List VV} {V V1 : VH} {r : Option VV} {cd : List VE} (hc : v_code m = cd) (k : Nat) {pc' : Nat} {lv' : VL} {st' : List VV} {V' : VH} (h : v_n k cd (pc, lv, st, V) = some (pc', lv', st', V')) (g : q_run m pc' lv' st' V' r V1) : q_run m pc lv st V r V1 := by
  obtain ⟨n, hn⟩ := g
  exact ⟨n + k, v_n_go hc h hn⟩
theorem q_run.okd {m pc : Nat} {lv : VL} {st : List VV} {V V1 : VH} {r : Option VV} {cd : List VE} (hc : v_code m = cd) {c : Bool} {s' : VS} (h : v_1 cd (pc, lv, st, V) = v_ok c (.inl s')) (hcc : c = true) (g : q_run m s'.1 s'.2.1 s'.2.2.1 s'.2.2.2 r V1) : q_run m pc lv st V r V1 := by
  subst hcc
  obtain ⟨n, hn⟩ := g
  refine ⟨n + 1, ?_⟩
  unfold v_go
  rw [hc, h]
  exact hn
theorem q_run.ret {m pc : Nat} {lv : VL} {st : List VV} {V : VH} {r : Option VV} {cd : List VE} (hc : v_code m = cd) (h : v_1 cd (pc, lv, st, V) = some (.inr (.inl (r, V)))) : q_run m pc lv st V r V := by
  refine ⟨1, ?_⟩
  unfold v_go
  rw [hc, h]
theorem q_Sim.callV {T : Type} {m pc : Nat} {lv : VL} {st : List VV} {V : VH} {tv : T → Option VV} {e : Option (T × QS)} {cd : List VE} (hc : v_code m = cd) {m2 : Nat} {as : List VV} {pc' : Nat} {lv' : VL} {st' : List VV} {r : Option VV} {V1 : VH} (h : v_1 cd (pc, lv, st, V) = some (.inr (.inr (m2, as, (pc', lv', st', V))))) (hr : v_rcv m2 as = true) (c : q_run m2 0 (v_args 0 as) [] V r V1) (g : q_Sim m pc' lv' (r.toList ++ st') V1 tv e) : q_Sim m pc lv st V tv e := by
  intro r' S' he
  obtain ⟨n1, h1⟩ := c
  obtain ⟨n2, h2⟩ := g r' S' he
  refine ⟨n1 + n2 + 1, ?_⟩
  unfold v_go
  rw [hc, h]
  dsimp only
  rw [hr]
  dsimp only
  rw [v_go_mono n2 h1]
  dsimp only
  have h3 := v_go_mono n1 h2
  rw [Nat.add_comm] at h3
  exact h3
theorem q_R_cong {d d' : QD} {t i j k : Nat} (h1 : d.1 = d'.1) (h2 : d.2.1 = d'.2.1) (h3 : d.2.2.2.2.2.1 = d'.2.2.2.2.2.1) (hH : t ≠ 36 ∨ (t = 36 ∧ d.2.2.1 = d'.2.2.1)) (hF : t ≠ 37 ∨ (t = 37 ∧ d.2.2.2.1 = d'.2.2.2.1)) (hT : t ≠ 38 ∨ (t = 38 ∧ d.2.2.2.2.1 = d'.2.2.2.2.1)) : q_R d (t, i, j) k = q_R d' (t, i, j) k := by
  by_cases g10 : t = 10
  · subst g10
    show q_g i j (q_R9 d k) = q_g i j (q_R9 d' k)
    unfold q_R9
    rw [h1, h2]
  by_cases g5 : t = 5
  · subst g5
    show q_R5 d.2.2.2.2.2.1 i j k = q_R5 d'.2.2.2.2.2.1 i j k
    rw [h3]
  by_cases g36 : t = 36
  · subst g36
    rcases hH with h | ⟨-, h⟩
    · exact absurd rfl h
    · show q_o ((j == 0) && d.2.2.1 i k) (4, i, k) = q_o ((j == 0) && d'.2.2.1 i k) (4, i, k)
      rw [h]
  by_cases g37 : t = 37
  · subst g37
    rcases hF with h | ⟨-, h⟩
    · exact absurd rfl h
    · show q_o ((j == 0) && d.2.2.2.1 i k) (3, i, k) = q_o ((j == 0) && d'.2.2.2.1 i k) (3, i, k)
      rw [h]
  by_cases g38 : t = 38
  · subst g38
    rcases hT with h | ⟨-, h⟩
    · exact absurd rfl h
    · show q_o ((j == 0) && d.2.2.2.2.1 i k) (8, i, k) = q_o ((j == 0) && d'.2.2.2.2.1 i k) (8, i, k)
      rw [h]
  unfold q_R
  dsimp only
  split <;> first | rfl | (exfalso; omega) | (split <;> first | rfl | (exfalso; simp_all; done))
theorem q_al_cong {d d' : QD} {t i j : Nat} (hH : (t ≠ 4 ∧ t ≠ 25) ∨ d.2.2.1 i j = d'.2.2.1 i j) (hF : (t ≠ 3 ∧ t ≠ 24) ∨ d.2.2.2.1 i j = d'.2.2.2.1 i j) (hT : t ≠ 8 ∨ d.2.2.2.2.1 i j = d'.2.2.2.2.1 i j) (hP : t ≠ 30 ∨ d.2.2.2.2.2.2 i = d'.2.2.2.2.2.2 i) : q_al d (t, i, j) = q_al d' (t, i, j) := by
  unfold q_al
  dsimp only
  split
  · rcases hH with h | h
    · exact absurd rfl h.1
    · exact h
  · rcases hH with h | h
    · exact absurd rfl h.2
    · exact h
  · rcases hF with h | h
    · exact absurd rfl h.1
    · exact h
  · rcases hF with h | h
    · exact absurd rfl h.2
    · exact h
  · rcases hT with h | h
    · exact absurd rfl h
    · exact h
  · rcases hP with h | h
    · exact absurd rfl h
    · rw [h]
  · rfl
theorem vc_42 : v_code 42 = k_42 := rfl
theorem vc_91 : v_code 91 = k_91 := rfl
def q_c42 (V : VH) (i j : Nat) : VH := v_setI (v_setI (v_setI (v_setI (v_setI (v_setI (v_setI (v_setI (v_setI (v_setI (v_setI (v_setR (v_make V (25, i, j) 96) (4, i, j) 0 (25, i, j)) (4, i, j) 1 0) (4, i, j) 2 0) (4, i, j) 3 0) (4, i, j) 4 0) (4, i, j) 5 (-1)) (4, i, j) 6 0) (4, i, j) 7 0) (4, i, j) 8 0) (4, i, j) 9 0) (4, i, j) 10 0) (4, i, j) 11 0
theorem s_42 (V : VH) (i j : Nat) (h : V.2.2.2.1 (25, i, j) = false) : q_run 42 0 [(0, .inr (.inr (4, i, j)))] [] V none (q_c42 V i j) := by
  refine q_run.steps vc_42 4 (pc' := 7) (lv' := [(0, .inr (.inr (4, i, j)))]) (st' := [.inl 96, .inr (.inr (4, i, j))]) (V' := V) rfl ?_
  refine q_run.okd vc_42 (c := !(V.2.2.2.1 (25, i, j)) && true && true) (s' := (9, [(0, .inr (.inr (4, i, j)))], [.inr (.inr (25, i, j)), .inr (.inr (4, i, j))], v_make V (25, i, j) 96)) rfl (by rw [h]; rfl) ?_
  refine q_run.steps vc_42 34 (pc' := 67) (lv' := [(0, .inr (.inr (4, i, j)))]) (st' := []) (V' := q_c42 V i j) rfl ?_
  exact q_run.ret vc_42 rfl
theorem q_al_H (d : QD) (i j : Nat) : q_al d (4, i, j) = d.2.2.1 i j ∧ q_al d (25, i, j) = d.2.2.1 i j := ⟨rfl, rfl⟩
theorem q_R_dH (S : QS) (y n : Nat) (b : VA) (k : Nat) : q_R (q_dH S y n).2.2.1 b k = if b = (36, y, 0) ∧ k = n then (4, y, n) else q_R S.2.2.1 b k := by
  obtain ⟨t, i, j⟩ := b
  by_cases h36 : t = 36
  · subst h36
    show q_o ((j == 0) && (if i = y ∧ k = n then true else S.2.2.1.2.2.1 i k)) (4, i, k) = if ((36, i, j) : VA) = (36, y, 0) ∧ k = n then (4, y, n) else q_o ((j == 0) && S.2.2.1.2.2.1 i k) (4, i, k)
    by_cases hj : j = 0
    · subst hj
      by_cases hi : i = y ∧ k = n
      · obtain ⟨rfl, rfl⟩ := hi
        simp [q_o]
      · rw [if_neg hi, if_neg (fun h => hi ⟨by simpa using h.1, h.2⟩)]
    · have hb : (j == 0) = false := beq_eq_false_iff_ne.mpr hj
      have hq : ¬ (((36, i, j) : VA) = (36, y, 0) ∧ k = n) := fun h => hj (congrArg (fun q : VA => q.2.2) h.1)
      rw [hb, Bool.false_and, Bool.false_and, if_neg hq]
  · rw [if_neg (fun h => h36 (congrArg (fun q : VA => q.1) h.1))]
    exact q_R_cong rfl rfl rfl (Or.inl h36) (by by_cases h : t = 37 <;> simp [h, q_dH]) (by by_cases h : t = 38 <;> simp [h, q_dH])
theorem q_al_dH (S : QS) (y n : Nat) (b : VA) : q_al (q_dH S y n).2.2.1 b = if b = (25, y, n) then true else if b = (4, y, n) then true else q_al S.2.2.1 b := by
  obtain ⟨t, i, j⟩ := b
  by_cases h4 : t = 4 ∨ t = 25
  · have e : q_al (q_dH S y n).2.2.1 (t, i, j) = (if i = y ∧ j = n then true else q_al S.2.2.1 (t, i, j)) := by
      rcases h4 with rfl | rfl <;> rfl
    rw [e]
    by_cases hi : i = y ∧ j = n
    · obtain ⟨rfl, rfl⟩ := hi
      rcases h4 with rfl | rfl <;> simp
    · rw [if_neg hi, if_neg (fun h => hi (by simpa using congrArg (fun q : VA => q.2) h)), if_neg (fun h => hi (by simpa using congrArg (fun q : VA => q.2) h))]
  · rw [if_neg (fun h => h4 (Or.inr (congrArg (fun q : VA => q.1) h))), if_neg (fun h => h4 (Or.inl (congrArg (fun q : VA => q.1) h)))]
    exact q_al_cong (Or.inl ⟨fun h => h4 (Or.inl h), fun h => h4 (Or.inr h)⟩) (Or.inr rfl) (Or.inr rfl) (Or.inr rfl)
theorem s_91 (i0 : Nat) (x1 : Int32) (S : QS) : q_Sim 91 0 [(0, .inr (.inr (9, i0, 0))), (1, .inl x1)] [] (q_V S) (q_A 4) (f_91 i0 x1 S) := by
  unfold f_91
  refine q_Sim.steps vc_91 3 (pc' := 5) (lv' := [(0, .inr (.inr (9, i0, 0))), (1, .inl x1)]) (st' := [.inl x1, .inr (.inr (36, i0, 0))]) (V' := q_V S) rfl ?_
  refine q_Sim.ckh vc_91 (c := v_in x1 40) (pc' := 6) (lv' := [(0, .inr (.inr (9, i0, 0))), (1, .inl x1)]) (st' := [.inr (.inr (q_R S.2.2.1 (36, i0, 0) x1.toNatClampNeg))]) (V' := q_V S) rfl (fun hin => ?_)
  generalize hn : x1.toNatClampNeg = n
  have last : ∀ S2 : QS, S2.2.2.1.2.2.1 i0 n = true → q_Sim 91 22 [(0, .inr (.inr (9, i0, 0))), (1, .inl x1)] [] (q_V S2) (q_A 4) (some ((i0, n), S2)) := by
    intro S2 h2
    refine q_Sim.steps vc_91 3 (pc' := 27) (lv' := [(0, .inr (.inr (9, i0, 0))), (1, .inl x1)]) (st' := [.inl x1, .inr (.inr (36, i0, 0))]) (V' := q_V S2) rfl ?_
    refine q_Sim.okd vc_91 (c := v_in x1 40) (pc' := 28) (lv' := [(0, .inr (.inr (9, i0, 0))), (1, .inl x1)]) (st' := [.inr (.inr (q_R S2.2.2.1 (36, i0, 0) x1.toNatClampNeg))]) (V' := q_V S2) rfl hin ?_
    have e : q_R S2.2.2.1 (36, i0, 0) x1.toNatClampNeg = (4, i0, n) := by
      show q_o (S2.2.2.1.2.2.1 i0 x1.toNatClampNeg) (4, i0, x1.toNatClampNeg) = _
      rw [hn, h2]
      rfl
    rw [e]
    exact q_Sim.ret vc_91 rfl
  refine q_Sim.ite (fun h => ?_) (fun h => ?_)
  · have e : q_R S.2.2.1 (36, i0, 0) n = (4, i0, n) := by
      show q_o (S.2.2.1.2.2.1 i0 n) (4, i0, n) = _
      rw [h]
      rfl
    rw [e]
    refine q_Sim.steps vc_91 1 (pc' := 22) (lv' := [(0, .inr (.inr (9, i0, 0))), (1, .inl x1)]) (st' := []) (V' := q_V S) rfl ?_
    exact last S h
  · have hf : S.2.2.1.2.2.1 i0 n = false := by simpa using h
    have e : q_R S.2.2.1 (36, i0, 0) n = (0, 0, 0) := by
      show q_o (S.2.2.1.2.2.1 i0 n) (4, i0, n) = _
      rw [hf]
      rfl
    rw [e]
    refine q_Sim.steps vc_91 4 (pc' := 14) (lv' := [(0, .inr (.inr (9, i0, 0))), (1, .inl x1)]) (st' := [.inl x1, .inr (.inr (36, i0, 0))]) (V' := q_V S) rfl ?_
    subst hn
    refine q_Sim.okd vc_91 (c := !(S.2.2.1.2.2.1 i0 x1.toNatClampNeg) && true && true) (pc' := 17) (lv' := [(0, .inr (.inr (9, i0, 0))), (1, .inl x1)]) (st' := [.inr (.inr (4, i0, x1.toNatClampNeg)), .inl x1, .inr (.inr (36, i0, 0))]) (V' := v_make (q_V S) (4, i0, x1.toNatClampNeg) 12) rfl (by rw [hf]; rfl) ?_
    generalize hn : x1.toNatClampNeg = n at *
    refine q_Sim.steps vc_91 1 (pc' := 18) (lv' := [(0, .inr (.inr (9, i0, 0))), (1, .inl x1)]) (st' := [.inr (.inr (4, i0, n)), .inr (.inr (4, i0, n)), .inl x1, .inr (.inr (36, i0, 0))]) (V' := v_make (q_V S) (4, i0, n) 12) rfl ?_
    refine q_Sim.callV vc_91 (m2 := 42) (as := [.inr (.inr (4, i0, n))]) (pc' := 21) (lv' := [(0, .inr (.inr (9, i0, 0))), (1, .inl x1)]) (st' := [.inr (.inr (4, i0, n)), .inl x1, .inr (.inr (36, i0, 0))]) rfl rfl (s_42 _ i0 n ?_) ?_
    · show (if ((25, i0, n) : VA) = (4, i0, n) then true else q_al S.2.2.1 (25, i0, n)) = false
      rw [if_neg (by simp)]
      exact hf
    · refine q_Sim.okd vc_91 (c := v_in x1 40 && true) (pc' := 22) (lv' := [(0, .inr (.inr (9, i0, 0))), (1, .inl x1)]) (st' := []) (V' := v_setR (q_c42 (v_make (q_V S) (4, i0, n) 12) i0 n) (36, i0, 0) x1.toNatClampNeg (4, i0, n)) rfl (by rw [hin]; rfl) ?_
      rw [hn]
      have ev : v_setR (q_c42 (v_make (q_V S) (4, i0, n) 12) i0 n) (36, i0, 0) n (4, i0, n) = q_V (q_newH S i0 n) := by
        refine Prod.ext ?_ (Prod.ext ?_ (Prod.ext ?_ (Prod.ext ?_ (Prod.ext rfl rfl))))
        · funext b
          by_cases h4 : b = (4, i0, n)
          · subst h4
            funext k
            by_cases h5 : k = 5
            · subst h5
              simp [v_setR, v_rowR, q_c42, v_setI, v_rowI, v_make, q_V, q_newH, q_row, q_dH, q_mk, upd]
            · simp [v_setR, v_rowR, q_c42, v_setI, v_rowI, v_make, q_V, q_newH, q_row, q_dH, q_mk, upd, h5]
          · simp [v_setR, v_rowR, q_c42, v_setI, v_rowI, v_make, q_V, q_newH, q_row, q_dH, q_mk, h4]
        · funext b k
          show _ = q_R (q_dH (q_mk (q_mk S (4, i0, n) 12) (25, i0, n) 96) i0 n).2.2.1 b k
          rw [q_R_dH]
          by_cases h36 : b = (36, i0, 0)
          · subst h36
            by_cases hk : k = n
            · subst hk
              simp [v_setR, v_rowR, va_up]
            · simp [v_setR, v_rowR, va_up, hk, q_c42, v_setI, v_rowI, v_make, q_V, q_mk]
          · rw [if_neg (fun h => h36 h.1)]
            by_cases h4 : b = (4, i0, n)
            · subst h4
              by_cases hk : k = 0
              · subst hk
                simp [v_setR, v_rowR, va_up, q_c42, v_setI, v_rowI, v_make, q_V, q_mk]
                rfl
              · have e : q_R S.2.2.1 (4, i0, n) k = (0, 0, 0) := by
                  show q_t [25] k (i0, n) = (0, 0, 0)
                  obtain ⟨j, rfl⟩ : ∃ j, k = j + 1 := ⟨k - 1, by omega⟩
                  rfl
                simp [v_setR, v_rowR, va_up, q_c42, v_setI, v_rowI, v_make, q_V, q_mk, hk, e]
            · by_cases h25 : b = (25, i0, n)
              · subst h25
                have e : q_R S.2.2.1 (25, i0, n) k = (0, 0, 0) := rfl
                simp [v_setR, v_rowR, q_c42, v_setI, v_rowI, v_make, q_V, q_mk, e]
              · simp [v_setR, v_rowR, q_c42, v_setI, v_rowI, v_make, q_V, q_mk, h36, h4, h25]
        · funext b
          by_cases h4 : b = (4, i0, n)
          · subst h4
            simp [v_setR, v_rowR, q_c42, v_setI, v_rowI, v_make, q_V, q_newH, q_row, q_dH, q_mk]
          · simp [v_setR, v_rowR, q_c42, v_setI, v_rowI, v_make, q_V, q_newH, q_row, q_dH, q_mk, h4]
        · funext b
          show _ = q_al (q_dH (q_mk (q_mk S (4, i0, n) 12) (25, i0, n) 96) i0 n).2.2.1 b
          rw [q_al_dH]
          rfl
      rw [ev]
      exact last _ (by show (if i0 = i0 ∧ n = n then true else _) = true; simp)
theorem vc_28 : v_code 28 = k_28 := rfl
theorem vc_92 : v_code 92 = k_92 := rfl
def q_c28 (V : VH) (i j : Nat) : VH := v_setI (v_setR (v_make V (24, i, j) 64) (3, i, j) 0 (24, i, j)) (3, i, j) 1 0
theorem s_28 (V : VH) (i j : Nat) (h : V.2.2.2.1 (24, i, j) = false) : q_run 28 0 [(0, .inr (.inr (3, i, j)))] [] V none (q_c28 V i j) := by
  refine q_run.steps vc_28 4 (pc' := 7) (lv' := [(0, .inr (.inr (3, i, j)))]) (st' := [.inl 64, .inr (.inr (3, i, j))]) (V' := V) rfl ?_
  refine q_run.okd vc_28 (c := !(V.2.2.2.1 (24, i, j)) && true && true) (s' := (9, [(0, .inr (.inr (3, i, j)))], [.inr (.inr (24, i, j)), .inr (.inr (3, i, j))], v_make V (24, i, j) 64)) rfl (by rw [h]; rfl) ?_
  refine q_run.steps vc_28 4 (pc' := 17) (lv' := [(0, .inr (.inr (3, i, j)))]) (st' := []) (V' := q_c28 V i j) rfl ?_
  exact q_run.ret vc_28 rfl
theorem q_al_F (d : QD) (i j : Nat) : q_al d (3, i, j) = d.2.2.2.1 i j ∧ q_al d (24, i, j) = d.2.2.2.1 i j := ⟨rfl, rfl⟩
theorem q_R_dF (S : QS) (y n : Nat) (b : VA) (k : Nat) : q_R (q_dF S y n).2.2.1 b k = if b = (37, y, 0) ∧ k = n then (3, y, n) else q_R S.2.2.1 b k := by
  obtain ⟨t, i, j⟩ := b
  by_cases h37 : t = 37
  · subst h37
    show q_o ((j == 0) && (if i = y ∧ k = n then true else S.2.2.1.2.2.2.1 i k)) (3, i, k) = if ((37, i, j) : VA) = (37, y, 0) ∧ k = n then (3, y, n) else q_o ((j == 0) && S.2.2.1.2.2.2.1 i k) (3, i, k)
    by_cases hj : j = 0
    · subst hj
      by_cases hi : i = y ∧ k = n
      · obtain ⟨rfl, rfl⟩ := hi
        simp [q_o]
      · rw [if_neg hi, if_neg (fun h => hi ⟨by simpa using h.1, h.2⟩)]
    · have hb : (j == 0) = false := beq_eq_false_iff_ne.mpr hj
      have hq : ¬ (((37, i, j) : VA) = (37, y, 0) ∧ k = n) := fun h => hj (congrArg (fun q : VA => q.2.2) h.1)
      rw [hb, Bool.false_and, Bool.false_and, if_neg hq]
  · rw [if_neg (fun h => h37 (congrArg (fun q : VA => q.1) h.1))]
    exact q_R_cong rfl rfl rfl (by by_cases h : t = 36 <;> simp [h, q_dF]) (Or.inl h37) (by by_cases h : t = 38 <;> simp [h, q_dF])
theorem q_al_dF (S : QS) (y n : Nat) (b : VA) : q_al (q_dF S y n).2.2.1 b = if b = (24, y, n) then true else if b = (3, y, n) then true else q_al S.2.2.1 b := by
  obtain ⟨t, i, j⟩ := b
  by_cases h3 : t = 3 ∨ t = 24
  · have e : q_al (q_dF S y n).2.2.1 (t, i, j) = (if i = y ∧ j = n then true else q_al S.2.2.1 (t, i, j)) := by
      rcases h3 with rfl | rfl <;> rfl
    rw [e]
    by_cases hi : i = y ∧ j = n
    · obtain ⟨rfl, rfl⟩ := hi
      rcases h3 with rfl | rfl <;> simp
    · rw [if_neg hi, if_neg (fun h => hi (by simpa using congrArg (fun q : VA => q.2) h)), if_neg (fun h => hi (by simpa using congrArg (fun q : VA => q.2) h))]
  · rw [if_neg (fun h => h3 (Or.inr (congrArg (fun q : VA => q.1) h))), if_neg (fun h => h3 (Or.inl (congrArg (fun q : VA => q.1) h)))]
    exact q_al_cong (Or.inr rfl) (Or.inl ⟨fun h => h3 (Or.inl h), fun h => h3 (Or.inr h)⟩) (Or.inr rfl) (Or.inr rfl)
theorem s_92 (i0 : Nat) (x1 : Int32) (S : QS) : q_Sim 92 0 [(0, .inr (.inr (9, i0, 0))), (1, .inl x1)] [] (q_V S) (q_A 3) (f_92 i0 x1 S) := by
  unfold f_92
  refine q_Sim.steps vc_92 3 (pc' := 5) (lv' := [(0, .inr (.inr (9, i0, 0))), (1, .inl x1)]) (st' := [.inl x1, .inr (.inr (37, i0, 0))]) (V' := q_V S) rfl ?_
  refine q_Sim.ckh vc_92 (c := v_in x1 200) (pc' := 6) (lv' := [(0, .inr (.inr (9, i0, 0))), (1, .inl x1)]) (st' := [.inr (.inr (q_R S.2.2.1 (37, i0, 0) x1.toNatClampNeg))]) (V' := q_V S) rfl (fun hin => ?_)
  generalize hn : x1.toNatClampNeg = n
  have last : ∀ S2 : QS, S2.2.2.1.2.2.2.1 i0 n = true → q_Sim 92 22 [(0, .inr (.inr (9, i0, 0))), (1, .inl x1)] [] (q_V S2) (q_A 3) (some ((i0, n), S2)) := by
    intro S2 h2
    refine q_Sim.steps vc_92 3 (pc' := 27) (lv' := [(0, .inr (.inr (9, i0, 0))), (1, .inl x1)]) (st' := [.inl x1, .inr (.inr (37, i0, 0))]) (V' := q_V S2) rfl ?_
    refine q_Sim.okd vc_92 (c := v_in x1 200) (pc' := 28) (lv' := [(0, .inr (.inr (9, i0, 0))), (1, .inl x1)]) (st' := [.inr (.inr (q_R S2.2.2.1 (37, i0, 0) x1.toNatClampNeg))]) (V' := q_V S2) rfl hin ?_
    have e : q_R S2.2.2.1 (37, i0, 0) x1.toNatClampNeg = (3, i0, n) := by
      show q_o (S2.2.2.1.2.2.2.1 i0 x1.toNatClampNeg) (3, i0, x1.toNatClampNeg) = _
      rw [hn, h2]
      rfl
    rw [e]
    exact q_Sim.ret vc_92 rfl
  refine q_Sim.ite (fun h => ?_) (fun h => ?_)
  · have e : q_R S.2.2.1 (37, i0, 0) n = (3, i0, n) := by
      show q_o (S.2.2.1.2.2.2.1 i0 n) (3, i0, n) = _
      rw [h]
      rfl
    rw [e]
    refine q_Sim.steps vc_92 1 (pc' := 22) (lv' := [(0, .inr (.inr (9, i0, 0))), (1, .inl x1)]) (st' := []) (V' := q_V S) rfl ?_
    exact last S h
  · have hf : S.2.2.1.2.2.2.1 i0 n = false := by simpa using h
    have e : q_R S.2.2.1 (37, i0, 0) n = (0, 0, 0) := by
      show q_o (S.2.2.1.2.2.2.1 i0 n) (3, i0, n) = _
      rw [hf]
      rfl
    rw [e]
    refine q_Sim.steps vc_92 4 (pc' := 14) (lv' := [(0, .inr (.inr (9, i0, 0))), (1, .inl x1)]) (st' := [.inl x1, .inr (.inr (37, i0, 0))]) (V' := q_V S) rfl ?_
    subst hn
    refine q_Sim.okd vc_92 (c := !(S.2.2.1.2.2.2.1 i0 x1.toNatClampNeg) && true && true) (pc' := 17) (lv' := [(0, .inr (.inr (9, i0, 0))), (1, .inl x1)]) (st' := [.inr (.inr (3, i0, x1.toNatClampNeg)), .inl x1, .inr (.inr (37, i0, 0))]) (V' := v_make (q_V S) (3, i0, x1.toNatClampNeg) 2) rfl (by rw [hf]; rfl) ?_
    generalize hn : x1.toNatClampNeg = n at *
    refine q_Sim.steps vc_92 1 (pc' := 18) (lv' := [(0, .inr (.inr (9, i0, 0))), (1, .inl x1)]) (st' := [.inr (.inr (3, i0, n)), .inr (.inr (3, i0, n)), .inl x1, .inr (.inr (37, i0, 0))]) (V' := v_make (q_V S) (3, i0, n) 2) rfl ?_
    refine q_Sim.callV vc_92 (m2 := 28) (as := [.inr (.inr (3, i0, n))]) (pc' := 21) (lv' := [(0, .inr (.inr (9, i0, 0))), (1, .inl x1)]) (st' := [.inr (.inr (3, i0, n)), .inl x1, .inr (.inr (37, i0, 0))]) rfl rfl (s_28 _ i0 n ?_) ?_
    · show (if ((24, i0, n) : VA) = (3, i0, n) then true else q_al S.2.2.1 (24, i0, n)) = false
      rw [if_neg (by simp)]
      exact hf
    · refine q_Sim.okd vc_92 (c := v_in x1 200 && true) (pc' := 22) (lv' := [(0, .inr (.inr (9, i0, 0))), (1, .inl x1)]) (st' := []) (V' := v_setR (q_c28 (v_make (q_V S) (3, i0, n) 2) i0 n) (37, i0, 0) x1.toNatClampNeg (3, i0, n)) rfl (by rw [hin]; rfl) ?_
      rw [hn]
      have ev : v_setR (q_c28 (v_make (q_V S) (3, i0, n) 2) i0 n) (37, i0, 0) n (3, i0, n) = q_V (q_newF S i0 n) := by
        refine Prod.ext ?_ (Prod.ext ?_ (Prod.ext ?_ (Prod.ext ?_ (Prod.ext rfl rfl))))
        · funext b
          by_cases h3 : b = (3, i0, n)
          · subst h3
            funext k
            simp [v_setR, v_rowR, q_c28, v_setI, v_rowI, v_make, q_V, q_newF, q_row, q_dF, q_mk, upd]
          · simp [v_setR, v_rowR, q_c28, v_setI, v_rowI, v_make, q_V, q_newF, q_row, q_dF, q_mk, h3]
        · funext b k
          show _ = q_R (q_dF (q_mk (q_mk S (3, i0, n) 2) (24, i0, n) 64) i0 n).2.2.1 b k
          rw [q_R_dF]
          by_cases h37 : b = (37, i0, 0)
          · subst h37
            by_cases hk : k = n
            · subst hk
              simp [v_setR, v_rowR, va_up]
            · simp [v_setR, v_rowR, va_up, hk, q_c28, v_setI, v_rowI, v_make, q_V, q_mk]
          · rw [if_neg (fun h => h37 h.1)]
            by_cases h3 : b = (3, i0, n)
            · subst h3
              by_cases hk : k = 0
              · subst hk
                simp [v_setR, v_rowR, va_up, q_c28, v_setI, v_rowI, v_make, q_V, q_mk]
                rfl
              · have e : q_R S.2.2.1 (3, i0, n) k = (0, 0, 0) := by
                  show q_t [24] k (i0, n) = (0, 0, 0)
                  obtain ⟨j, rfl⟩ : ∃ j, k = j + 1 := ⟨k - 1, by omega⟩
                  rfl
                simp [v_setR, v_rowR, va_up, q_c28, v_setI, v_rowI, v_make, q_V, q_mk, hk, e]
            · by_cases h24 : b = (24, i0, n)
              · subst h24
                have e : q_R S.2.2.1 (24, i0, n) k = (0, 0, 0) := rfl
                simp [v_setR, v_rowR, q_c28, v_setI, v_rowI, v_make, q_V, q_mk, e]
              · simp [v_setR, v_rowR, q_c28, v_setI, v_rowI, v_make, q_V, q_mk, h37, h3, h24]
        · funext b
          by_cases h3 : b = (3, i0, n)
          · subst h3
            simp [v_setR, v_rowR, q_c28, v_setI, v_rowI, v_make, q_V, q_newF, q_row, q_dF, q_mk]
          · simp [v_setR, v_rowR, q_c28, v_setI, v_rowI, v_make, q_V, q_newF, q_row, q_dF, q_mk, h3]
        · funext b
          show _ = q_al (q_dF (q_mk (q_mk S (3, i0, n) 2) (24, i0, n) 64) i0 n).2.2.1 b
          rw [q_al_dF]
          rfl
      rw [ev]
      exact last _ (by show (if i0 = i0 ∧ n = n then true else _) = true; simp)
theorem vc_82 : v_code 82 = k_82 := rfl
theorem vc_93 : v_code 93 = k_93 := rfl
def q_c82 (V : VH) (i j : Nat) : VH := v_setI (v_setI (v_setI (v_setI (v_setI (v_setI (v_setI (v_setI (v_setI (V) (8, i, j) 0 0) (8, i, j) 1 0) (8, i, j) 2 (-1)) (8, i, j) 3 (-1)) (8, i, j) 4 0) (8, i, j) 5 0) (8, i, j) 6 (-1)) (8, i, j) 7 0) (8, i, j) 8 (-1)
theorem s_82 (V : VH) (i j : Nat) : q_run 82 0 [(0, .inr (.inr (8, i, j)))] [] V none (q_c82 V i j) := by
  refine q_run.steps vc_82 29 (pc' := 49) (lv' := [(0, .inr (.inr (8, i, j)))]) (st' := []) (V' := q_c82 V i j) rfl ?_
  exact q_run.ret vc_82 rfl
theorem q_R_dT (S : QS) (y n : Nat) (b : VA) (k : Nat) : q_R (q_dT S y n).2.2.1 b k = if b = (38, y, 0) ∧ k = n then (8, y, n) else q_R S.2.2.1 b k := by
  obtain ⟨t, i, j⟩ := b
  by_cases h38 : t = 38
  · subst h38
    show q_o ((j == 0) && (if i = y ∧ k = n then true else S.2.2.1.2.2.2.2.1 i k)) (8, i, k) = if ((38, i, j) : VA) = (38, y, 0) ∧ k = n then (8, y, n) else q_o ((j == 0) && S.2.2.1.2.2.2.2.1 i k) (8, i, k)
    by_cases hj : j = 0
    · subst hj
      by_cases hi : i = y ∧ k = n
      · obtain ⟨rfl, rfl⟩ := hi
        simp [q_o]
      · rw [if_neg hi, if_neg (fun h => hi ⟨by simpa using h.1, h.2⟩)]
    · have hb : (j == 0) = false := beq_eq_false_iff_ne.mpr hj
      have hq : ¬ (((38, i, j) : VA) = (38, y, 0) ∧ k = n) := fun h => hj (congrArg (fun q : VA => q.2.2) h.1)
      rw [hb, Bool.false_and, Bool.false_and, if_neg hq]
  · rw [if_neg (fun h => h38 (congrArg (fun q : VA => q.1) h.1))]
    exact q_R_cong rfl rfl rfl (by by_cases h : t = 36 <;> simp [h, q_dT]) (by by_cases h : t = 37 <;> simp [h, q_dT]) (Or.inl h38)
theorem q_al_dT (S : QS) (y n : Nat) (b : VA) : q_al (q_dT S y n).2.2.1 b = if b = (8, y, n) then true else q_al S.2.2.1 b := by
  obtain ⟨t, i, j⟩ := b
  by_cases h4 : t = 8
  · subst h4
    have e : q_al (q_dT S y n).2.2.1 (8, i, j) = (if i = y ∧ j = n then true else q_al S.2.2.1 (8, i, j)) := rfl
    rw [e]
    by_cases hi : i = y ∧ j = n
    · obtain ⟨rfl, rfl⟩ := hi
      simp
    · rw [if_neg hi, if_neg (fun h => hi (by simpa using congrArg (fun q : VA => q.2) h))]
  · rw [if_neg (fun h => h4 (congrArg (fun q : VA => q.1) h))]
    exact q_al_cong (Or.inr rfl) (Or.inr rfl) (Or.inl h4) (Or.inr rfl)
theorem s_93 (i0 : Nat) (x1 : Int32) (S : QS) : q_Sim 93 0 [(0, .inr (.inr (9, i0, 0))), (1, .inl x1)] [] (q_V S) (q_A 8) (f_93 i0 x1 S) := by
  unfold f_93
  refine q_Sim.steps vc_93 3 (pc' := 5) (lv' := [(0, .inr (.inr (9, i0, 0))), (1, .inl x1)]) (st' := [.inl x1, .inr (.inr (38, i0, 0))]) (V' := q_V S) rfl ?_
  refine q_Sim.ckh vc_93 (c := v_in x1 200) (pc' := 6) (lv' := [(0, .inr (.inr (9, i0, 0))), (1, .inl x1)]) (st' := [.inr (.inr (q_R S.2.2.1 (38, i0, 0) x1.toNatClampNeg))]) (V' := q_V S) rfl (fun hin => ?_)
  generalize hn : x1.toNatClampNeg = n
  have last : ∀ S2 : QS, S2.2.2.1.2.2.2.2.1 i0 n = true → q_Sim 93 22 [(0, .inr (.inr (9, i0, 0))), (1, .inl x1)] [] (q_V S2) (q_A 8) (some ((i0, n), S2)) := by
    intro S2 h2
    refine q_Sim.steps vc_93 3 (pc' := 27) (lv' := [(0, .inr (.inr (9, i0, 0))), (1, .inl x1)]) (st' := [.inl x1, .inr (.inr (38, i0, 0))]) (V' := q_V S2) rfl ?_
    refine q_Sim.okd vc_93 (c := v_in x1 200) (pc' := 28) (lv' := [(0, .inr (.inr (9, i0, 0))), (1, .inl x1)]) (st' := [.inr (.inr (q_R S2.2.2.1 (38, i0, 0) x1.toNatClampNeg))]) (V' := q_V S2) rfl hin ?_
    have e : q_R S2.2.2.1 (38, i0, 0) x1.toNatClampNeg = (8, i0, n) := by
      show q_o (S2.2.2.1.2.2.2.2.1 i0 x1.toNatClampNeg) (8, i0, x1.toNatClampNeg) = _
      rw [hn, h2]
      rfl
    rw [e]
    exact q_Sim.ret vc_93 rfl
  refine q_Sim.ite (fun h => ?_) (fun h => ?_)
  · have e : q_R S.2.2.1 (38, i0, 0) n = (8, i0, n) := by
      show q_o (S.2.2.1.2.2.2.2.1 i0 n) (8, i0, n) = _
      rw [h]
      rfl
    rw [e]
    refine q_Sim.steps vc_93 1 (pc' := 22) (lv' := [(0, .inr (.inr (9, i0, 0))), (1, .inl x1)]) (st' := []) (V' := q_V S) rfl ?_
    exact last S h
  · have hf : S.2.2.1.2.2.2.2.1 i0 n = false := by simpa using h
    have e : q_R S.2.2.1 (38, i0, 0) n = (0, 0, 0) := by
      show q_o (S.2.2.1.2.2.2.2.1 i0 n) (8, i0, n) = _
      rw [hf]
      rfl
    rw [e]
    refine q_Sim.steps vc_93 4 (pc' := 14) (lv' := [(0, .inr (.inr (9, i0, 0))), (1, .inl x1)]) (st' := [.inl x1, .inr (.inr (38, i0, 0))]) (V' := q_V S) rfl ?_
    subst hn
    refine q_Sim.okd vc_93 (c := !(S.2.2.1.2.2.2.2.1 i0 x1.toNatClampNeg) && true && true) (pc' := 17) (lv' := [(0, .inr (.inr (9, i0, 0))), (1, .inl x1)]) (st' := [.inr (.inr (8, i0, x1.toNatClampNeg)), .inl x1, .inr (.inr (38, i0, 0))]) (V' := v_make (q_V S) (8, i0, x1.toNatClampNeg) 9) rfl (by rw [hf]; rfl) ?_
    generalize hn : x1.toNatClampNeg = n at *
    refine q_Sim.steps vc_93 1 (pc' := 18) (lv' := [(0, .inr (.inr (9, i0, 0))), (1, .inl x1)]) (st' := [.inr (.inr (8, i0, n)), .inr (.inr (8, i0, n)), .inl x1, .inr (.inr (38, i0, 0))]) (V' := v_make (q_V S) (8, i0, n) 9) rfl ?_
    refine q_Sim.callV vc_93 (m2 := 82) (as := [.inr (.inr (8, i0, n))]) (pc' := 21) (lv' := [(0, .inr (.inr (9, i0, 0))), (1, .inl x1)]) (st' := [.inr (.inr (8, i0, n)), .inl x1, .inr (.inr (38, i0, 0))]) rfl rfl (s_82 _ i0 n) ?_
    · refine q_Sim.okd vc_93 (c := v_in x1 200 && true) (pc' := 22) (lv' := [(0, .inr (.inr (9, i0, 0))), (1, .inl x1)]) (st' := []) (V' := v_setR (q_c82 (v_make (q_V S) (8, i0, n) 9) i0 n) (38, i0, 0) x1.toNatClampNeg (8, i0, n)) rfl (by rw [hin]; rfl) ?_
      rw [hn]
      have ev : v_setR (q_c82 (v_make (q_V S) (8, i0, n) 9) i0 n) (38, i0, 0) n (8, i0, n) = q_V (q_newT S i0 n) := by
        refine Prod.ext ?_ (Prod.ext ?_ (Prod.ext ?_ (Prod.ext ?_ (Prod.ext rfl rfl))))
        · funext b
          by_cases h4 : b = (8, i0, n)
          · subst h4
            funext k
            by_cases hk : k = 2 ∨ k = 3 ∨ k = 6 ∨ k = 8
            · rcases hk with rfl | rfl | rfl | rfl <;> simp [v_setR, v_rowR, q_c82, v_setI, v_rowI, v_make, q_V, q_newT, q_row, q_dT, q_mk, upd]
            · have h2 : ¬ k = 2 := fun h => hk (Or.inl h)
              have h3 : ¬ k = 3 := fun h => hk (Or.inr (Or.inl h))
              have h6 : ¬ k = 6 := fun h => hk (Or.inr (Or.inr (Or.inl h)))
              have h8 : ¬ k = 8 := fun h => hk (Or.inr (Or.inr (Or.inr h)))
              simp [v_setR, v_rowR, q_c82, v_setI, v_rowI, v_make, q_V, q_newT, q_row, q_dT, q_mk, upd, h2, h3, h6, h8]
          · simp [v_setR, v_rowR, q_c82, v_setI, v_rowI, v_make, q_V, q_newT, q_row, q_dT, q_mk, h4]
        · funext b k
          show _ = q_R (q_dT (q_mk S (8, i0, n) 9) i0 n).2.2.1 b k
          rw [q_R_dT]
          by_cases h38 : b = (38, i0, 0)
          · subst h38
            by_cases hk : k = n
            · subst hk
              simp [v_setR, v_rowR, va_up]
            · simp [v_setR, v_rowR, va_up, hk, q_c82, v_setI, v_rowI, v_make, q_V, q_mk]
          · rw [if_neg (fun h => h38 h.1)]
            by_cases h4 : b = (8, i0, n)
            · subst h4
              have e : q_R S.2.2.1 (8, i0, n) k = (0, 0, 0) := rfl
              simp [v_setR, v_rowR, q_c82, v_setI, v_rowI, v_make, q_V, q_mk, e]
            · simp [v_setR, v_rowR, q_c82, v_setI, v_rowI, v_make, q_V, q_mk, h38, h4]
        · funext b
          by_cases h4 : b = (8, i0, n)
          · subst h4
            simp [v_setR, v_rowR, q_c82, v_setI, v_rowI, v_make, q_V, q_newT, q_row, q_dT, q_mk]
          · simp [v_setR, v_rowR, q_c82, v_setI, v_rowI, v_make, q_V, q_newT, q_row, q_dT, q_mk, h4]
        · funext b
          show _ = q_al (q_dT (q_mk S (8, i0, n) 9) i0 n).2.2.1 b
          rw [q_al_dT]
          rfl
      rw [ev]
      exact last _ (by show (if i0 = i0 ∧ n = n then true else _) = true; simp)
/-- the pairs' row, made anew if it is too short -/
def f_69 (S : QS) : Option (Unit × QS) := q_let ((S.1 (5, 0, 0) 4 * (S.1 (5, 0, 0) 4 - 1)) / 2) (fun x => if x ≤ Int32.ofNat S.2.2.1.2.2.2.2.2.1 then some ((), S) else q_ck (decide (¬ x * 2 < 0) && decide ((x * 2).toNatClampNeg ≤ 50000) && !(S.2.2.1.2.2.2.2.2.2 (x * 2).toNatClampNeg)) (some ((), q_dP (q_mk S (30, (x * 2).toNatClampNeg, 0) (x * 2).toNatClampNeg) (x * 2).toNatClampNeg)))
theorem rc_69 : v_rcv 69 [.inr (.inr (5, 0, 0))] = true := rfl
theorem vc_69 : v_code 69 = k_69 := rfl
theorem q_R_dP (S : QS) (n : Nat) (b : VA) (k : Nat) : q_R (q_dP S n).2.2.1 b k = if b = (5, 0, 0) ∧ k = 5 then (30, n, 0) else q_R S.2.2.1 b k := by
  obtain ⟨t, i, j⟩ := b
  by_cases h5 : t = 5
  · subst h5
    show q_R5 n i j k = if ((5, i, j) : VA) = (5, 0, 0) ∧ k = 5 then (30, n, 0) else q_R5 S.2.2.1.2.2.2.2.2.1 i j k
    by_cases hk : k = 5
    · subst hk
      by_cases hi : i = 0 ∧ j = 0
      · obtain ⟨rfl, rfl⟩ := hi
        rw [if_pos ⟨rfl, rfl⟩]
        rfl
      · have hq : ¬ (((5, i, j) : VA) = (5, 0, 0) ∧ 5 = 5) := fun h => hi (by simpa using h.1)
        rw [if_neg hq]
        have e : ((i == 0) && (j == 0)) = false := by
          rw [Bool.and_eq_false_iff]
          by_cases g : i = 0
          · exact Or.inr (beq_eq_false_iff_ne.mpr (fun g2 => hi ⟨g, g2⟩))
          · exact Or.inl (beq_eq_false_iff_ne.mpr g)
        show q_g i j _ = q_g i j _
        unfold q_g
        rw [e]
    · rw [if_neg (fun h => hk h.2)]
      unfold q_R5
      rw [beq_eq_false_iff_ne.mpr hk]
  · rw [if_neg (fun h => h5 (congrArg (fun q : VA => q.1) h.1))]
    by_cases g10 : t = 10
    · subst g10
      rfl
    by_cases g36 : t = 36
    · subst g36
      rfl
    by_cases g37 : t = 37
    · subst g37
      rfl
    by_cases g38 : t = 38
    · subst g38
      rfl
    unfold q_R
    dsimp only
    split <;> first | rfl | (exfalso; omega) | (split <;> first | rfl | (exfalso; simp_all; done))
theorem q_al_dP (S : QS) (n : Nat) (b : VA) : q_al (q_dP S n).2.2.1 b = if b = (30, n, 0) then true else q_al S.2.2.1 b := by
  obtain ⟨t, i, j⟩ := b
  by_cases h4 : t = 30
  · subst h4
    have e : q_al (q_dP S n).2.2.1 (30, i, j) = ((if i = n then true else S.2.2.1.2.2.2.2.2.2 i) && (j == 0)) := rfl
    have e2 : q_al S.2.2.1 (30, i, j) = (S.2.2.1.2.2.2.2.2.2 i && (j == 0)) := rfl
    rw [e, e2]
    by_cases hj : j = 0
    · subst hj
      by_cases hi : i = n
      · subst hi
        simp
      · rw [if_neg hi, if_neg (fun h => hi (congrArg (fun q : VA => q.2.1) h))]
    · have hb : (j == 0) = false := beq_eq_false_iff_ne.mpr hj
      rw [hb, Bool.and_false, Bool.and_false, if_neg (fun h => hj (congrArg (fun q : VA => q.2.2) h))]
  · rw [if_neg (fun h => h4 (congrArg (fun q : VA => q.1) h))]
    exact q_al_cong (Or.inr rfl) (Or.inr rfl) (Or.inr rfl) (Or.inl h4)
theorem s_69 (S : QS) : q_Sim 69 0 [(0, .inr (.inr (5, 0, 0)))] [] (q_V S) q_U (f_69 S) := by
  unfold f_69
  refine q_Sim.steps vc_69 8 (pc' := 12) (lv' := [(0, .inr (.inr (5, 0, 0)))]) (st' := [.inl 2, .inl (S.1 (5, 0, 0) 4 * (S.1 (5, 0, 0) 4 - 1))]) (V' := q_V S) rfl ?_
  refine q_Sim.okd vc_69 (c := decide (¬ (2 : Int32) = 0)) (pc' := 13) (lv' := [(0, .inr (.inr (5, 0, 0)))]) (st' := [.inl ((S.1 (5, 0, 0) 4 * (S.1 (5, 0, 0) 4 - 1)) / 2)]) (V' := q_V S) rfl (by decide) ?_
  refine q_Sim.letI (fun x => ?_)
  refine q_Sim.steps vc_69 5 (pc' := 20) (lv' := [(1, .inl x), (0, .inr (.inr (5, 0, 0)))]) (st' := [.inl x, .inl (Int32.ofNat S.2.2.1.2.2.2.2.2.1)]) (V' := q_V S) rfl ?_
  refine q_Sim.br vc_69 (c := x ≤ Int32.ofNat S.2.2.1.2.2.2.2.2.1) (t := 32) (f := 23) (lv' := [(1, .inl x), (0, .inr (.inr (5, 0, 0)))]) (st' := []) (V' := q_V S) rfl ?_ ?_
  · exact q_Sim.ret vc_69 rfl
  · refine q_Sim.steps vc_69 4 (pc' := 27) (lv' := [(1, .inl x), (0, .inr (.inr (5, 0, 0)))]) (st' := [.inl (x * 2), .inr (.inr (5, 0, 0))]) (V' := q_V S) rfl ?_
    generalize x * 2 = z
    by_cases hC : (decide (¬ z < 0) && decide (z.toNatClampNeg ≤ 50000) && !(S.2.2.1.2.2.2.2.2.2 z.toNatClampNeg)) = true
    · rw [hC]
      simp only [Bool.and_eq_true, decide_eq_true_eq, Bool.not_eq_true'] at hC
      obtain ⟨⟨h1, h2⟩, h3⟩ := hC
      have e : v_1 k_69 (27, [(1, .inl x), (0, .inr (.inr (5, 0, 0)))], [.inl z, .inr (.inr (5, 0, 0))], q_V S) = some (.inl (29, [(1, .inl x), (0, .inr (.inr (5, 0, 0)))], [.inr (.inr (30, z.toNatClampNeg, 0)), .inr (.inr (5, 0, 0))], v_make (q_V S) (30, z.toNatClampNeg, 0) z.toNatClampNeg)) := by
        show (match decide (¬ z < 0) && (z.toNatClampNeg == z.toNatClampNeg) && decide (z.toNatClampNeg ≤ 50000) with
          | true => v_ok (!(S.2.2.1.2.2.2.2.2.2 z.toNatClampNeg && ((0 : Nat) == 0)) && true && true) (Sum.inl (29, [(1, .inl x), (0, .inr (.inr (5, 0, 0)))], [.inr (.inr (30, z.toNatClampNeg, 0)), .inr (.inr (5, 0, 0))], v_make (q_V S) (30, z.toNatClampNeg, 0) z.toNatClampNeg))
          | false => none) = _
        rw [decide_eq_true h1, decide_eq_true h2, beq_self_eq_true, h3]
        rfl
      refine q_Sim.one vc_69 e ?_
      refine q_Sim.steps vc_69 1 (pc' := 32) (lv' := [(1, .inl x), (0, .inr (.inr (5, 0, 0)))]) (st' := []) (V' := v_setR (v_make (q_V S) (30, z.toNatClampNeg, 0) z.toNatClampNeg) (5, 0, 0) 5 (30, z.toNatClampNeg, 0)) rfl ?_
      generalize z.toNatClampNeg = n
      have ev : v_setR (v_make (q_V S) (30, n, 0) n) (5, 0, 0) 5 (30, n, 0) = q_V (q_dP (q_mk S (30, n, 0) n) n) := by
        refine Prod.ext rfl (Prod.ext ?_ (Prod.ext rfl (Prod.ext ?_ (Prod.ext rfl rfl))))
        · funext b k
          show _ = q_R (q_dP (q_mk S (30, n, 0) n) n).2.2.1 b k
          rw [q_R_dP]
          by_cases h5 : b = (5, 0, 0)
          · subst h5
            by_cases hk : k = 5
            · subst hk
              simp [v_setR, v_rowR, va_up]
            · simp [v_setR, v_rowR, va_up, hk, v_make, q_V, q_mk]
          · rw [if_neg (fun h => h5 h.1)]
            by_cases h30 : b = (30, n, 0)
            · subst h30
              have e : q_R S.2.2.1 (30, n, 0) k = (0, 0, 0) := rfl
              simp [v_setR, v_rowR, v_make, q_V, q_mk, e]
            · simp [v_setR, v_rowR, v_make, q_V, q_mk, h5, h30]
        · funext b
          show _ = q_al (q_dP (q_mk S (30, n, 0) n) n).2.2.1 b
          rw [q_al_dP]
          rfl
      rw [ev]
      exact q_Sim.ret vc_69 rfl
    · have hC2 := Bool.eq_false_iff.mpr hC
      rw [hC2]
      exact q_Sim.none
def q_nw (S : QS) (y : Nat) : QS := (S.1, S.2.1, (y, S.2.2.1.2), S.2.2.2)
def q_bf (S : QS) (y : Nat) : QS := (S.1, S.2.1, (S.2.2.1.1, y, S.2.2.1.2.2), S.2.2.2)
theorem q_R_nb {d d' : QD} (h3 : d.2.2 = d'.2.2) {b : VA} {k : Nat} (h : b ≠ (10, 0, 0) ∨ q_R9 d k = q_R9 d' k) : q_R d b k = q_R d' b k := by
  obtain ⟨t, i, j⟩ := b
  by_cases g10 : t = 10
  · subst g10
    show q_g i j (q_R9 d k) = q_g i j (q_R9 d' k)
    rcases h with h | h
    · have e : ((i == 0) && (j == 0)) = false := by
        rw [Bool.and_eq_false_iff]
        by_cases g : i = 0
        · exact Or.inr (beq_eq_false_iff_ne.mpr (fun g2 => h (by rw [g, g2])))
        · exact Or.inl (beq_eq_false_iff_ne.mpr g)
      unfold q_g
      rw [e]
    · rw [h]
  by_cases g5 : t = 5
  · subst g5
    show q_R5 d.2.2.2.2.2.1 i j k = q_R5 d'.2.2.2.2.2.1 i j k
    rw [h3]
  by_cases g36 : t = 36
  · subst g36
    show q_o ((j == 0) && d.2.2.1 i k) (4, i, k) = q_o ((j == 0) && d'.2.2.1 i k) (4, i, k)
    rw [h3]
  by_cases g37 : t = 37
  · subst g37
    show q_o ((j == 0) && d.2.2.2.1 i k) (3, i, k) = q_o ((j == 0) && d'.2.2.2.1 i k) (3, i, k)
    rw [h3]
  by_cases g38 : t = 38
  · subst g38
    show q_o ((j == 0) && d.2.2.2.2.1 i k) (8, i, k) = q_o ((j == 0) && d'.2.2.2.2.1 i k) (8, i, k)
    rw [h3]
  unfold q_R
  dsimp only
  split <;> first | rfl | (exfalso; omega) | (split <;> first | rfl | (exfalso; simp_all; done))
theorem q_R9_c {d d' : QD} {k : Nat} (h0 : k = 0 → d.1 = d'.1) (h1 : k = 1 → d.2.1 = d'.2.1) : q_R9 d k = q_R9 d' k := by
  by_cases g0 : k = 0
  · subst g0
    show ((9, d.1, 0) : VA) = (9, d'.1, 0)
    rw [h0 rfl]
  by_cases g1 : k = 1
  · subst g1
    show ((9, d.2.1, 0) : VA) = (9, d'.2.1, 0)
    rw [h1 rfl]
  unfold q_R9
  split <;> first | rfl | (exfalso; omega) | (split <;> first | rfl | (exfalso; simp_all; done))
theorem q_V_nw (S : QS) (y : Nat) : v_setR (q_V S) (10, 0, 0) 0 (9, y, 0) = q_V (q_nw S y) := by
  refine Prod.ext rfl (Prod.ext ?_ (Prod.ext rfl (Prod.ext rfl (Prod.ext rfl rfl))))
  funext b k
  show (if b = (10, 0, 0) then va_up (q_R S.2.2.1 (10, 0, 0)) 0 (9, y, 0) else q_R S.2.2.1 b) k = q_R (q_nw S y).2.2.1 b k
  by_cases hb : b = (10, 0, 0)
  · subst hb
    rw [if_pos rfl]
    unfold va_up
    by_cases hk : k = 0
    · subst hk
      rfl
    · rw [if_neg hk]
      refine q_R_nb (d := S.2.2.1) (d' := (q_nw S y).2.2.1) rfl (Or.inr ?_)
      exact q_R9_c (fun h => absurd h hk) (fun _ => rfl)
  · rw [if_neg hb]
    exact q_R_nb (d := S.2.2.1) (d' := (q_nw S y).2.2.1) rfl (Or.inl hb)
theorem q_V_bf (S : QS) (y : Nat) : v_setR (q_V S) (10, 0, 0) 1 (9, y, 0) = q_V (q_bf S y) := by
  refine Prod.ext rfl (Prod.ext ?_ (Prod.ext rfl (Prod.ext rfl (Prod.ext rfl rfl))))
  funext b k
  show (if b = (10, 0, 0) then va_up (q_R S.2.2.1 (10, 0, 0)) 1 (9, y, 0) else q_R S.2.2.1 b) k = q_R (q_bf S y).2.2.1 b k
  by_cases hb : b = (10, 0, 0)
  · subst hb
    rw [if_pos rfl]
    unfold va_up
    by_cases hk : k = 1
    · subst hk
      rfl
    · rw [if_neg hk]
      refine q_R_nb (d := S.2.2.1) (d' := (q_bf S y).2.2.1) rfl (Or.inr ?_)
      exact q_R9_c (fun _ => rfl) (fun h => absurd h hk)
  · rw [if_neg hb]
    exact q_R_nb (d := S.2.2.1) (d' := (q_bf S y).2.2.1) rfl (Or.inl hb)
end
