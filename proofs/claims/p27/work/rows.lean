section
-- ===== PART A: goes FIRST, ahead of the names: the tables' words, and 'selects' of the private methods out of them =====
/-- a private method of a class that the tables say can be made, by its rows of tables_1 -/
def lw_okq (q : MethodName × Nat) : Prop := (q.1.cls ≠ "java/lang/invoke/MethodHandle" ∧ q.1.cls ≠ "java/lang/invoke/VarHandle") ∧ Cond.instantiable q.1.cls q.2 ∈ tables_1 ∧ Cond.privateMethod q.1 ∈ tables_1 ∧ Cond.instanceMethod q.1 ∈ tables_1
theorem lw_p0 : lw_okq (⟨"Juryreel", "areSectionsKept", "()Z"⟩, 15) := ⟨⟨by decide +kernel, by decide +kernel⟩, List.mem_of_getElem? (i := 28) (by decide +kernel), List.mem_of_getElem? (i := 500) (by decide +kernel), List.mem_of_getElem? (i := 501) (by decide +kernel)⟩
theorem lw_p1 : lw_okq (⟨"Juryreel", "filmsIn", "(I)I"⟩, 15) := ⟨⟨by decide +kernel, by decide +kernel⟩, List.mem_of_getElem? (i := 28) (by decide +kernel), List.mem_of_getElem? (i := 504) (by decide +kernel), List.mem_of_getElem? (i := 505) (by decide +kernel)⟩
theorem lw_p2 : lw_okq (⟨"Juryreel", "minutesIn", "(I)I"⟩, 15) := ⟨⟨by decide +kernel, by decide +kernel⟩, List.mem_of_getElem? (i := 28) (by decide +kernel), List.mem_of_getElem? (i := 508) (by decide +kernel), List.mem_of_getElem? (i := 509) (by decide +kernel)⟩
theorem lw_p3 : lw_okq (⟨"Juryreel", "areWinnersRight", "()Z"⟩, 15) := ⟨⟨by decide +kernel, by decide +kernel⟩, List.mem_of_getElem? (i := 28) (by decide +kernel), List.mem_of_getElem? (i := 512) (by decide +kernel), List.mem_of_getElem? (i := 513) (by decide +kernel)⟩
theorem lw_p4 : lw_okq (⟨"java/lang/Throwable", "fillInStackTrace", "(I)Ljava/lang/Throwable;"⟩, 6) := ⟨⟨by decide +kernel, by decide +kernel⟩, List.mem_of_getElem? (i := 657) (by decide +kernel), List.mem_of_getElem? (i := 655) (by decide +kernel), List.mem_of_getElem? (i := 656) (by decide +kernel)⟩
theorem lw_p5 : lw_okq (⟨"Juryreel", "checkFilm", "(I)V"⟩, 15) := ⟨⟨by decide +kernel, by decide +kernel⟩, List.mem_of_getElem? (i := 28) (by decide +kernel), List.mem_of_getElem? (i := 752) (by decide +kernel), List.mem_of_getElem? (i := 753) (by decide +kernel)⟩
theorem lw_p6 : lw_okq (⟨"Juryreel", "checkReader", "(I)V"⟩, 15) := ⟨⟨by decide +kernel, by decide +kernel⟩, List.mem_of_getElem? (i := 28) (by decide +kernel), List.mem_of_getElem? (i := 812) (by decide +kernel), List.mem_of_getElem? (i := 813) (by decide +kernel)⟩
theorem lw_p7 : lw_okq (⟨"Juryreel", "checkSection", "(I)V"⟩, 15) := ⟨⟨by decide +kernel, by decide +kernel⟩, List.mem_of_getElem? (i := 28) (by decide +kernel), List.mem_of_getElem? (i := 931) (by decide +kernel), List.mem_of_getElem? (i := 932) (by decide +kernel)⟩
theorem lw_p8 : lw_okq (⟨"Juryreel", "orderByScore", "()I"⟩, 15) := ⟨⟨by decide +kernel, by decide +kernel⟩, List.mem_of_getElem? (i := 28) (by decide +kernel), List.mem_of_getElem? (i := 935) (by decide +kernel), List.mem_of_getElem? (i := 936) (by decide +kernel)⟩
theorem lw_p9 : lw_okq (⟨"Juryreel", "putInOrder", "(III)V"⟩, 15) := ⟨⟨by decide +kernel, by decide +kernel⟩, List.mem_of_getElem? (i := 28) (by decide +kernel), List.mem_of_getElem? (i := 939) (by decide +kernel), List.mem_of_getElem? (i := 940) (by decide +kernel)⟩
theorem lw_p10 : lw_okq (⟨"Juryreel", "canBeChosen", "(III)Z"⟩, 15) := ⟨⟨by decide +kernel, by decide +kernel⟩, List.mem_of_getElem? (i := 28) (by decide +kernel), List.mem_of_getElem? (i := 943) (by decide +kernel), List.mem_of_getElem? (i := 944) (by decide +kernel)⟩
theorem lw_p11 : lw_okq (⟨"Juryreel", "checkHour", "(I)V"⟩, 15) := ⟨⟨by decide +kernel, by decide +kernel⟩, List.mem_of_getElem? (i := 28) (by decide +kernel), List.mem_of_getElem? (i := 1011) (by decide +kernel), List.mem_of_getElem? (i := 1012) (by decide +kernel)⟩
theorem lw_p12 : lw_okq (⟨"Juryreel", "checkScreen", "(I)V"⟩, 15) := ⟨⟨by decide +kernel, by decide +kernel⟩, List.mem_of_getElem? (i := 28) (by decide +kernel), List.mem_of_getElem? (i := 1023) (by decide +kernel), List.mem_of_getElem? (i := 1024) (by decide +kernel)⟩
theorem lw_p13 : lw_okq (⟨"Juryreel", "orderUnsetByMinutes", "(I)I"⟩, 15) := ⟨⟨by decide +kernel, by decide +kernel⟩, List.mem_of_getElem? (i := 28) (by decide +kernel), List.mem_of_getElem? (i := 1090) (by decide +kernel), List.mem_of_getElem? (i := 1091) (by decide +kernel)⟩
theorem lw_p14 : lw_okq (⟨"Juryreel", "checkShow", "(I)V"⟩, 15) := ⟨⟨by decide +kernel, by decide +kernel⟩, List.mem_of_getElem? (i := 28) (by decide +kernel), List.mem_of_getElem? (i := 1113) (by decide +kernel), List.mem_of_getElem? (i := 1114) (by decide +kernel)⟩
theorem lw_p15 : lw_okq (⟨"Juryreel", "checkPass", "(I)V"⟩, 15) := ⟨⟨by decide +kernel, by decide +kernel⟩, List.mem_of_getElem? (i := 28) (by decide +kernel), List.mem_of_getElem? (i := 1225) (by decide +kernel), List.mem_of_getElem? (i := 1226) (by decide +kernel)⟩
def lw_privs_1 : List (MethodName × Nat) := [(⟨"Juryreel", "areSectionsKept", "()Z"⟩, 15), (⟨"Juryreel", "filmsIn", "(I)I"⟩, 15), (⟨"Juryreel", "minutesIn", "(I)I"⟩, 15), (⟨"Juryreel", "areWinnersRight", "()Z"⟩, 15), (⟨"java/lang/Throwable", "fillInStackTrace", "(I)Ljava/lang/Throwable;"⟩, 6), (⟨"Juryreel", "checkFilm", "(I)V"⟩, 15), (⟨"Juryreel", "checkReader", "(I)V"⟩, 15), (⟨"Juryreel", "checkSection", "(I)V"⟩, 15), (⟨"Juryreel", "orderByScore", "()I"⟩, 15), (⟨"Juryreel", "putInOrder", "(III)V"⟩, 15), (⟨"Juryreel", "canBeChosen", "(III)Z"⟩, 15), (⟨"Juryreel", "checkHour", "(I)V"⟩, 15), (⟨"Juryreel", "checkScreen", "(I)V"⟩, 15), (⟨"Juryreel", "orderUnsetByMinutes", "(I)I"⟩, 15), (⟨"Juryreel", "checkShow", "(I)V"⟩, 15), (⟨"Juryreel", "checkPass", "(I)V"⟩, 15)]
theorem lw_r1 : ∀ q ∈ lw_privs_1, lw_okq q := List.forall_mem_cons.mpr ⟨lw_p0, List.forall_mem_cons.mpr ⟨lw_p1, List.forall_mem_cons.mpr ⟨lw_p2, List.forall_mem_cons.mpr ⟨lw_p3, List.forall_mem_cons.mpr ⟨lw_p4, List.forall_mem_cons.mpr ⟨lw_p5, List.forall_mem_cons.mpr ⟨lw_p6, List.forall_mem_cons.mpr ⟨lw_p7, List.forall_mem_cons.mpr ⟨lw_p8, List.forall_mem_cons.mpr ⟨lw_p9, List.forall_mem_cons.mpr ⟨lw_p10, List.forall_mem_cons.mpr ⟨lw_p11, List.forall_mem_cons.mpr ⟨lw_p12, List.forall_mem_cons.mpr ⟨lw_p13, List.forall_mem_cons.mpr ⟨lw_p14, List.forall_mem_cons.mpr ⟨lw_p15, fun _ h => absurd h List.not_mem_nil⟩⟩⟩⟩⟩⟩⟩⟩⟩⟩⟩⟩⟩⟩⟩⟩
theorem lw_p16 : lw_okq (⟨"Juryreel", "checkJuror", "(II)V"⟩, 15) := ⟨⟨by decide +kernel, by decide +kernel⟩, List.mem_of_getElem? (i := 28) (by decide +kernel), List.mem_of_getElem? (i := 1282) (by decide +kernel), List.mem_of_getElem? (i := 1283) (by decide +kernel)⟩
theorem lw_p17 : lw_okq (⟨"Juryreel", "countSeen", "(ILJuryreel$Juror;)I"⟩, 15) := ⟨⟨by decide +kernel, by decide +kernel⟩, List.mem_of_getElem? (i := 28) (by decide +kernel), List.mem_of_getElem? (i := 1295) (by decide +kernel), List.mem_of_getElem? (i := 1296) (by decide +kernel)⟩
theorem lw_p18 : lw_okq (⟨"Juryreel", "isBallotOf", "(ILJuryreel$Juror;)Z"⟩, 15) := ⟨⟨by decide +kernel, by decide +kernel⟩, List.mem_of_getElem? (i := 28) (by decide +kernel), List.mem_of_getElem? (i := 1314) (by decide +kernel), List.mem_of_getElem? (i := 1315) (by decide +kernel)⟩
theorem lw_p19 : lw_okq (⟨"Juryreel", "isTyped", "(I)Z"⟩, 15) := ⟨⟨by decide +kernel, by decide +kernel⟩, List.mem_of_getElem? (i := 28) (by decide +kernel), List.mem_of_getElem? (i := 1318) (by decide +kernel), List.mem_of_getElem? (i := 1319) (by decide +kernel)⟩
theorem lw_p20 : lw_okq (⟨"JuryreelModel", "isThrown", "(ZI)Z"⟩, 56) := ⟨⟨by decide +kernel, by decide +kernel⟩, List.mem_of_getElem? (i := 1430) (by decide +kernel), List.mem_of_getElem? (i := 1622) (by decide +kernel), List.mem_of_getElem? (i := 1623) (by decide +kernel)⟩
theorem lw_p21 : lw_okq (⟨"JuryreelModel", "isNoFilm", "(I)Z"⟩, 56) := ⟨⟨by decide +kernel, by decide +kernel⟩, List.mem_of_getElem? (i := 1430) (by decide +kernel), List.mem_of_getElem? (i := 1634) (by decide +kernel), List.mem_of_getElem? (i := 1635) (by decide +kernel)⟩
theorem lw_p22 : lw_okq (⟨"JuryreelModel", "mayRead", "(II)Z"⟩, 56) := ⟨⟨by decide +kernel, by decide +kernel⟩, List.mem_of_getElem? (i := 1430) (by decide +kernel), List.mem_of_getElem? (i := 1638) (by decide +kernel), List.mem_of_getElem? (i := 1639) (by decide +kernel)⟩
theorem lw_p23 : lw_okq (⟨"JuryreelModel", "isNoReader", "(II)Z"⟩, 56) := ⟨⟨by decide +kernel, by decide +kernel⟩, List.mem_of_getElem? (i := 1430) (by decide +kernel), List.mem_of_getElem? (i := 1646) (by decide +kernel), List.mem_of_getElem? (i := 1647) (by decide +kernel)⟩
theorem lw_p24 : lw_okq (⟨"JuryreelModel", "scoreMany", "(I)I"⟩, 56) := ⟨⟨by decide +kernel, by decide +kernel⟩, List.mem_of_getElem? (i := 1430) (by decide +kernel), List.mem_of_getElem? (i := 1654) (by decide +kernel), List.mem_of_getElem? (i := 1655) (by decide +kernel)⟩
theorem lw_p25 : lw_okq (⟨"JuryreelModel", "evenOf", "(II)I"⟩, 56) := ⟨⟨by decide +kernel, by decide +kernel⟩, List.mem_of_getElem? (i := 1430) (by decide +kernel), List.mem_of_getElem? (i := 1662) (by decide +kernel), List.mem_of_getElem? (i := 1663) (by decide +kernel)⟩
theorem lw_p26 : lw_okq (⟨"JuryreelModel", "scoreOf", "(I)I"⟩, 56) := ⟨⟨by decide +kernel, by decide +kernel⟩, List.mem_of_getElem? (i := 1430) (by decide +kernel), List.mem_of_getElem? (i := 1671) (by decide +kernel), List.mem_of_getElem? (i := 1672) (by decide +kernel)⟩
theorem lw_p27 : lw_okq (⟨"JuryreelModel", "isQuarrel", "(I)Z"⟩, 56) := ⟨⟨by decide +kernel, by decide +kernel⟩, List.mem_of_getElem? (i := 1430) (by decide +kernel), List.mem_of_getElem? (i := 1679) (by decide +kernel), List.mem_of_getElem? (i := 1680) (by decide +kernel)⟩
theorem lw_p28 : lw_okq (⟨"JuryreelModel", "isNoSection", "(I)Z"⟩, 56) := ⟨⟨by decide +kernel, by decide +kernel⟩, List.mem_of_getElem? (i := 1430) (by decide +kernel), List.mem_of_getElem? (i := 1704) (by decide +kernel), List.mem_of_getElem? (i := 1705) (by decide +kernel)⟩
theorem lw_p29 : lw_okq (⟨"JuryreelModel", "mayChoose", "(II)Z"⟩, 56) := ⟨⟨by decide +kernel, by decide +kernel⟩, List.mem_of_getElem? (i := 1430) (by decide +kernel), List.mem_of_getElem? (i := 1708) (by decide +kernel), List.mem_of_getElem? (i := 1709) (by decide +kernel)⟩
theorem lw_p30 : lw_okq (⟨"JuryreelModel", "filmsOf", "(I)I"⟩, 56) := ⟨⟨by decide +kernel, by decide +kernel⟩, List.mem_of_getElem? (i := 1430) (by decide +kernel), List.mem_of_getElem? (i := 1712) (by decide +kernel), List.mem_of_getElem? (i := 1713) (by decide +kernel)⟩
theorem lw_p31 : lw_okq (⟨"JuryreelModel", "minutesOf", "(I)I"⟩, 56) := ⟨⟨by decide +kernel, by decide +kernel⟩, List.mem_of_getElem? (i := 1430) (by decide +kernel), List.mem_of_getElem? (i := 1716) (by decide +kernel), List.mem_of_getElem? (i := 1717) (by decide +kernel)⟩
def lw_privs_2 : List (MethodName × Nat) := [(⟨"Juryreel", "checkJuror", "(II)V"⟩, 15), (⟨"Juryreel", "countSeen", "(ILJuryreel$Juror;)I"⟩, 15), (⟨"Juryreel", "isBallotOf", "(ILJuryreel$Juror;)Z"⟩, 15), (⟨"Juryreel", "isTyped", "(I)Z"⟩, 15), (⟨"JuryreelModel", "isThrown", "(ZI)Z"⟩, 56), (⟨"JuryreelModel", "isNoFilm", "(I)Z"⟩, 56), (⟨"JuryreelModel", "mayRead", "(II)Z"⟩, 56), (⟨"JuryreelModel", "isNoReader", "(II)Z"⟩, 56), (⟨"JuryreelModel", "scoreMany", "(I)I"⟩, 56), (⟨"JuryreelModel", "evenOf", "(II)I"⟩, 56), (⟨"JuryreelModel", "scoreOf", "(I)I"⟩, 56), (⟨"JuryreelModel", "isQuarrel", "(I)Z"⟩, 56), (⟨"JuryreelModel", "isNoSection", "(I)Z"⟩, 56), (⟨"JuryreelModel", "mayChoose", "(II)Z"⟩, 56), (⟨"JuryreelModel", "filmsOf", "(I)I"⟩, 56), (⟨"JuryreelModel", "minutesOf", "(I)I"⟩, 56)]
theorem lw_r2 : ∀ q ∈ lw_privs_2, lw_okq q := List.forall_mem_cons.mpr ⟨lw_p16, List.forall_mem_cons.mpr ⟨lw_p17, List.forall_mem_cons.mpr ⟨lw_p18, List.forall_mem_cons.mpr ⟨lw_p19, List.forall_mem_cons.mpr ⟨lw_p20, List.forall_mem_cons.mpr ⟨lw_p21, List.forall_mem_cons.mpr ⟨lw_p22, List.forall_mem_cons.mpr ⟨lw_p23, List.forall_mem_cons.mpr ⟨lw_p24, List.forall_mem_cons.mpr ⟨lw_p25, List.forall_mem_cons.mpr ⟨lw_p26, List.forall_mem_cons.mpr ⟨lw_p27, List.forall_mem_cons.mpr ⟨lw_p28, List.forall_mem_cons.mpr ⟨lw_p29, List.forall_mem_cons.mpr ⟨lw_p30, List.forall_mem_cons.mpr ⟨lw_p31, fun _ h => absurd h List.not_mem_nil⟩⟩⟩⟩⟩⟩⟩⟩⟩⟩⟩⟩⟩⟩⟩⟩
theorem lw_p32 : lw_okq (⟨"JuryreelModel", "writes", "(CI)V"⟩, 56) := ⟨⟨by decide +kernel, by decide +kernel⟩, List.mem_of_getElem? (i := 1430) (by decide +kernel), List.mem_of_getElem? (i := 1720) (by decide +kernel), List.mem_of_getElem? (i := 1721) (by decide +kernel)⟩
theorem lw_p33 : lw_okq (⟨"JuryreelModel", "isNoScreen", "(I)Z"⟩, 56) := ⟨⟨by decide +kernel, by decide +kernel⟩, List.mem_of_getElem? (i := 1430) (by decide +kernel), List.mem_of_getElem? (i := 1758) (by decide +kernel), List.mem_of_getElem? (i := 1759) (by decide +kernel)⟩
theorem lw_p34 : lw_okq (⟨"JuryreelModel", "canShowNow", "(III)Z"⟩, 56) := ⟨⟨by decide +kernel, by decide +kernel⟩, List.mem_of_getElem? (i := 1430) (by decide +kernel), List.mem_of_getElem? (i := 1766) (by decide +kernel), List.mem_of_getElem? (i := 1767) (by decide +kernel)⟩
theorem lw_p35 : lw_okq (⟨"JuryreelModel", "canSet", "(III)Z"⟩, 56) := ⟨⟨by decide +kernel, by decide +kernel⟩, List.mem_of_getElem? (i := 1430) (by decide +kernel), List.mem_of_getElem? (i := 1774) (by decide +kernel), List.mem_of_getElem? (i := 1775) (by decide +kernel)⟩
theorem lw_p36 : lw_okq (⟨"JuryreelModel", "lengthOf", "(I)I"⟩, 56) := ⟨⟨by decide +kernel, by decide +kernel⟩, List.mem_of_getElem? (i := 1430) (by decide +kernel), List.mem_of_getElem? (i := 1778) (by decide +kernel), List.mem_of_getElem? (i := 1779) (by decide +kernel)⟩
theorem lw_p37 : lw_okq (⟨"JuryreelModel", "hasHour", "(II)Z"⟩, 56) := ⟨⟨by decide +kernel, by decide +kernel⟩, List.mem_of_getElem? (i := 1430) (by decide +kernel), List.mem_of_getElem? (i := 1782) (by decide +kernel), List.mem_of_getElem? (i := 1783) (by decide +kernel)⟩
theorem lw_p38 : lw_okq (⟨"JuryreelModel", "lastOf", "(I)I"⟩, 56) := ⟨⟨by decide +kernel, by decide +kernel⟩, List.mem_of_getElem? (i := 1430) (by decide +kernel), List.mem_of_getElem? (i := 1786) (by decide +kernel), List.mem_of_getElem? (i := 1787) (by decide +kernel)⟩
theorem lw_p39 : lw_okq (⟨"JuryreelModel", "set", "(III)I"⟩, 56) := ⟨⟨by decide +kernel, by decide +kernel⟩, List.mem_of_getElem? (i := 1430) (by decide +kernel), List.mem_of_getElem? (i := 1790) (by decide +kernel), List.mem_of_getElem? (i := 1791) (by decide +kernel)⟩
theorem lw_p40 : lw_okq (⟨"JuryreelModel", "hasToCome", "(I)Z"⟩, 56) := ⟨⟨by decide +kernel, by decide +kernel⟩, List.mem_of_getElem? (i := 1430) (by decide +kernel), List.mem_of_getElem? (i := 1798) (by decide +kernel), List.mem_of_getElem? (i := 1799) (by decide +kernel)⟩
theorem lw_p41 : lw_okq (⟨"JuryreelModel", "stateOf", "(I)C"⟩, 56) := ⟨⟨by decide +kernel, by decide +kernel⟩, List.mem_of_getElem? (i := 1430) (by decide +kernel), List.mem_of_getElem? (i := 1802) (by decide +kernel), List.mem_of_getElem? (i := 1803) (by decide +kernel)⟩
theorem lw_p42 : lw_okq (⟨"JuryreelModel", "setAnywhere", "(I)I"⟩, 56) := ⟨⟨by decide +kernel, by decide +kernel⟩, List.mem_of_getElem? (i := 1430) (by decide +kernel), List.mem_of_getElem? (i := 1806) (by decide +kernel), List.mem_of_getElem? (i := 1807) (by decide +kernel)⟩
theorem lw_p43 : lw_okq (⟨"JuryreelModel", "isNoShow", "(I)Z"⟩, 56) := ⟨⟨by decide +kernel, by decide +kernel⟩, List.mem_of_getElem? (i := 1430) (by decide +kernel), List.mem_of_getElem? (i := 1814) (by decide +kernel), List.mem_of_getElem? (i := 1815) (by decide +kernel)⟩
theorem lw_p44 : lw_okq (⟨"JuryreelModel", "going", "(II)I"⟩, 56) := ⟨⟨by decide +kernel, by decide +kernel⟩, List.mem_of_getElem? (i := 1430) (by decide +kernel), List.mem_of_getElem? (i := 1838) (by decide +kernel), List.mem_of_getElem? (i := 1839) (by decide +kernel)⟩
theorem lw_p45 : lw_okq (⟨"JuryreelModel", "goesBy", "(III)Z"⟩, 56) := ⟨⟨by decide +kernel, by decide +kernel⟩, List.mem_of_getElem? (i := 1430) (by decide +kernel), List.mem_of_getElem? (i := 1842) (by decide +kernel), List.mem_of_getElem? (i := 1843) (by decide +kernel)⟩
theorem lw_p46 : lw_okq (⟨"JuryreelModel", "takes", "(CII)I"⟩, 56) := ⟨⟨by decide +kernel, by decide +kernel⟩, List.mem_of_getElem? (i := 1430) (by decide +kernel), List.mem_of_getElem? (i := 1846) (by decide +kernel), List.mem_of_getElem? (i := 1847) (by decide +kernel)⟩
theorem lw_p47 : lw_okq (⟨"JuryreelModel", "waitsFor", "(II)Z"⟩, 56) := ⟨⟨by decide +kernel, by decide +kernel⟩, List.mem_of_getElem? (i := 1430) (by decide +kernel), List.mem_of_getElem? (i := 1866) (by decide +kernel), List.mem_of_getElem? (i := 1867) (by decide +kernel)⟩
def lw_privs_3 : List (MethodName × Nat) := [(⟨"JuryreelModel", "writes", "(CI)V"⟩, 56), (⟨"JuryreelModel", "isNoScreen", "(I)Z"⟩, 56), (⟨"JuryreelModel", "canShowNow", "(III)Z"⟩, 56), (⟨"JuryreelModel", "canSet", "(III)Z"⟩, 56), (⟨"JuryreelModel", "lengthOf", "(I)I"⟩, 56), (⟨"JuryreelModel", "hasHour", "(II)Z"⟩, 56), (⟨"JuryreelModel", "lastOf", "(I)I"⟩, 56), (⟨"JuryreelModel", "set", "(III)I"⟩, 56), (⟨"JuryreelModel", "hasToCome", "(I)Z"⟩, 56), (⟨"JuryreelModel", "stateOf", "(I)C"⟩, 56), (⟨"JuryreelModel", "setAnywhere", "(I)I"⟩, 56), (⟨"JuryreelModel", "isNoShow", "(I)Z"⟩, 56), (⟨"JuryreelModel", "going", "(II)I"⟩, 56), (⟨"JuryreelModel", "goesBy", "(III)Z"⟩, 56), (⟨"JuryreelModel", "takes", "(CII)I"⟩, 56), (⟨"JuryreelModel", "waitsFor", "(II)Z"⟩, 56)]
theorem lw_r3 : ∀ q ∈ lw_privs_3, lw_okq q := List.forall_mem_cons.mpr ⟨lw_p32, List.forall_mem_cons.mpr ⟨lw_p33, List.forall_mem_cons.mpr ⟨lw_p34, List.forall_mem_cons.mpr ⟨lw_p35, List.forall_mem_cons.mpr ⟨lw_p36, List.forall_mem_cons.mpr ⟨lw_p37, List.forall_mem_cons.mpr ⟨lw_p38, List.forall_mem_cons.mpr ⟨lw_p39, List.forall_mem_cons.mpr ⟨lw_p40, List.forall_mem_cons.mpr ⟨lw_p41, List.forall_mem_cons.mpr ⟨lw_p42, List.forall_mem_cons.mpr ⟨lw_p43, List.forall_mem_cons.mpr ⟨lw_p44, List.forall_mem_cons.mpr ⟨lw_p45, List.forall_mem_cons.mpr ⟨lw_p46, List.forall_mem_cons.mpr ⟨lw_p47, fun _ h => absurd h List.not_mem_nil⟩⟩⟩⟩⟩⟩⟩⟩⟩⟩⟩⟩⟩⟩⟩⟩
theorem lw_p48 : lw_okq (⟨"JuryreelModel", "isElsewhere", "(II)Z"⟩, 56) := ⟨⟨by decide +kernel, by decide +kernel⟩, List.mem_of_getElem? (i := 1430) (by decide +kernel), List.mem_of_getElem? (i := 1874) (by decide +kernel), List.mem_of_getElem? (i := 1875) (by decide +kernel)⟩
theorem lw_p49 : lw_okq (⟨"JuryreelModel", "isNoJuror", "(II)Z"⟩, 56) := ⟨⟨by decide +kernel, by decide +kernel⟩, List.mem_of_getElem? (i := 1430) (by decide +kernel), List.mem_of_getElem? (i := 1894) (by decide +kernel), List.mem_of_getElem? (i := 1895) (by decide +kernel)⟩
theorem lw_p50 : lw_okq (⟨"JuryreelModel", "ballotsOf", "(I)I"⟩, 56) := ⟨⟨by decide +kernel, by decide +kernel⟩, List.mem_of_getElem? (i := 1430) (by decide +kernel), List.mem_of_getElem? (i := 1910) (by decide +kernel), List.mem_of_getElem? (i := 1911) (by decide +kernel)⟩
theorem lw_p51 : lw_okq (⟨"JuryreelModel", "winnerOf", "(I)I"⟩, 56) := ⟨⟨by decide +kernel, by decide +kernel⟩, List.mem_of_getElem? (i := 1430) (by decide +kernel), List.mem_of_getElem? (i := 1918) (by decide +kernel), List.mem_of_getElem? (i := 1919) (by decide +kernel)⟩
theorem lw_p52 : lw_okq (⟨"JuryreelModel", "placeOf", "(III)I"⟩, 56) := ⟨⟨by decide +kernel, by decide +kernel⟩, List.mem_of_getElem? (i := 1430) (by decide +kernel), List.mem_of_getElem? (i := 1922) (by decide +kernel), List.mem_of_getElem? (i := 1923) (by decide +kernel)⟩
theorem lw_p53 : lw_okq (⟨"JuryreelModel", "byDuels", "(I)I"⟩, 56) := ⟨⟨by decide +kernel, by decide +kernel⟩, List.mem_of_getElem? (i := 1430) (by decide +kernel), List.mem_of_getElem? (i := 1926) (by decide +kernel), List.mem_of_getElem? (i := 1927) (by decide +kernel)⟩
theorem lw_p54 : lw_okq (⟨"JuryreelModel", "isAheadOf", "(III)Z"⟩, 56) := ⟨⟨by decide +kernel, by decide +kernel⟩, List.mem_of_getElem? (i := 1430) (by decide +kernel), List.mem_of_getElem? (i := 1930) (by decide +kernel), List.mem_of_getElem? (i := 1931) (by decide +kernel)⟩
theorem lw_p55 : lw_okq (⟨"JuryreelModel", "byCount", "(IZ)I"⟩, 56) := ⟨⟨by decide +kernel, by decide +kernel⟩, List.mem_of_getElem? (i := 1430) (by decide +kernel), List.mem_of_getElem? (i := 1934) (by decide +kernel), List.mem_of_getElem? (i := 1935) (by decide +kernel)⟩
theorem lw_p56 : lw_okq (⟨"JuryreelModel", "points", "(II)I"⟩, 56) := ⟨⟨by decide +kernel, by decide +kernel⟩, List.mem_of_getElem? (i := 1430) (by decide +kernel), List.mem_of_getElem? (i := 1938) (by decide +kernel), List.mem_of_getElem? (i := 1939) (by decide +kernel)⟩
theorem lw_p57 : lw_okq (⟨"JuryreelModel", "firsts", "(II)I"⟩, 56) := ⟨⟨by decide +kernel, by decide +kernel⟩, List.mem_of_getElem? (i := 1430) (by decide +kernel), List.mem_of_getElem? (i := 1942) (by decide +kernel), List.mem_of_getElem? (i := 1943) (by decide +kernel)⟩
theorem lw_p58 : lw_okq (⟨"JuryreelModel", "firstOf", "(II)I"⟩, 56) := ⟨⟨by decide +kernel, by decide +kernel⟩, List.mem_of_getElem? (i := 1430) (by decide +kernel), List.mem_of_getElem? (i := 1946) (by decide +kernel), List.mem_of_getElem? (i := 1947) (by decide +kernel)⟩
theorem lw_p59 : lw_okq (⟨"JuryreelModel", "byRounds", "(I)I"⟩, 56) := ⟨⟨by decide +kernel, by decide +kernel⟩, List.mem_of_getElem? (i := 1430) (by decide +kernel), List.mem_of_getElem? (i := 1950) (by decide +kernel), List.mem_of_getElem? (i := 1951) (by decide +kernel)⟩
def lw_privs_4 : List (MethodName × Nat) := [(⟨"JuryreelModel", "isElsewhere", "(II)Z"⟩, 56), (⟨"JuryreelModel", "isNoJuror", "(II)Z"⟩, 56), (⟨"JuryreelModel", "ballotsOf", "(I)I"⟩, 56), (⟨"JuryreelModel", "winnerOf", "(I)I"⟩, 56), (⟨"JuryreelModel", "placeOf", "(III)I"⟩, 56), (⟨"JuryreelModel", "byDuels", "(I)I"⟩, 56), (⟨"JuryreelModel", "isAheadOf", "(III)Z"⟩, 56), (⟨"JuryreelModel", "byCount", "(IZ)I"⟩, 56), (⟨"JuryreelModel", "points", "(II)I"⟩, 56), (⟨"JuryreelModel", "firsts", "(II)I"⟩, 56), (⟨"JuryreelModel", "firstOf", "(II)I"⟩, 56), (⟨"JuryreelModel", "byRounds", "(I)I"⟩, 56)]
theorem lw_r4 : ∀ q ∈ lw_privs_4, lw_okq q := List.forall_mem_cons.mpr ⟨lw_p48, List.forall_mem_cons.mpr ⟨lw_p49, List.forall_mem_cons.mpr ⟨lw_p50, List.forall_mem_cons.mpr ⟨lw_p51, List.forall_mem_cons.mpr ⟨lw_p52, List.forall_mem_cons.mpr ⟨lw_p53, List.forall_mem_cons.mpr ⟨lw_p54, List.forall_mem_cons.mpr ⟨lw_p55, List.forall_mem_cons.mpr ⟨lw_p56, List.forall_mem_cons.mpr ⟨lw_p57, List.forall_mem_cons.mpr ⟨lw_p58, List.forall_mem_cons.mpr ⟨lw_p59, fun _ h => absurd h List.not_mem_nil⟩⟩⟩⟩⟩⟩⟩⟩⟩⟩⟩⟩
def lw_privs : List (MethodName × Nat) := lw_privs_1 ++ (lw_privs_2 ++ (lw_privs_3 ++ (lw_privs_4)))
def lw_tbl : List Cond := k2_sels lw_privs ++ tables_1
theorem lw_privs_ok : ∀ q ∈ lw_privs, lw_okq q := by
  show ∀ q ∈ lw_privs_1 ++ (lw_privs_2 ++ (lw_privs_3 ++ (lw_privs_4))), lw_okq q
  exact List.forall_mem_append.mpr ⟨lw_r1, List.forall_mem_append.mpr ⟨lw_r2, List.forall_mem_append.mpr ⟨lw_r3, lw_r4⟩⟩⟩
/-- the streams that the claim lets the run draw from -/
abbrev lw_cs : List Choice := [Jvm.Choice.named "NaN.bits"]
theorem lw_bits : nanBits ∈ lw_cs := by first | decide | exact List.mem_cons_self | simp [lw_cs, nanBits]
-- ===== end of PART A; then your names; then what follows =====
end
section
/-! ===== BEGIN words of one list among another's, by their places ===== -/
theorem goodIn_r {big : List Cond} (ws : List Cond) (ps : List Nat) (hp : ws = ps.filterMap (fun i => big[i]?)) (h : ws.all goodWord = true) : GoodIn big ws := by
  intro w hw
  have h1 := List.all_eq_true.mp h w hw
  rw [hp] at hw
  obtain ⟨i, -, hi⟩ := List.mem_filterMap.mp hw
  have hm : w ∈ big := by first | exact List.mem_of_getElem? hi | exact List.getElem?_mem hi
  exact ⟨hm, good_of_word h1⟩
theorem goodIn_app {big a b : List Cond} (ha : GoodIn big a) (hb : GoodIn big b) : GoodIn big (a ++ b) := fun w h => (List.mem_append.mp h).elim (ha w) (hb w)
theorem goodIn_ca {big a b : List Cond} {c : Cond} (ha : GoodIn big (c :: a)) (hb : GoodIn big b) : GoodIn big (c :: (a ++ b)) := fun w h => (List.mem_cons.mp h).elim (fun e => ha w (List.mem_cons.mpr (Or.inl e))) (fun h => (List.mem_append.mp h).elim (fun h => ha w (List.mem_cons.mpr (Or.inr h))) (hb w))
theorem goodIn_sub {big ws : List Cond} (hm : ∀ w ∈ ws, w ∈ big) (h : ws.all goodWord = true) : GoodIn big ws := fun w hw => ⟨hm w hw, good_of_word (List.all_eq_true.mp h w hw)⟩
/-! ===== END ===== -/
/-! ===== BEGIN exceptions that leave a method, and their catching by the caller (launches without stack traces) ===== -/
section VXA
/-! The laws vx_back, vx_callV, vx_callS, vx_callSW, vx_throw0, vx_throwS follow proofs of the library, with one case more: JvmDerived/Free/Laws.lean (Back.of_free), Shelf42/LK1.lean (callV, callS), Shelf/KitTraced.lean (throwNew0V, throwNewS). -/
/-- where a method has thrown q: the class by its name, the cell, what was written, the world -/
def vx_T (XC : String → State → State → Prop) (st : State) (q : Addr) (t : State) (mc ms : Nat) (free : Addr → Prop) : Prop :=
  ∃ (E : String) (ce : Cell) (L : List Loc), XC E st t ∧ t.heap[q]? = some ce ∧ ce.vm = .none ∧ st.vm.findClass E = some ce.cls ∧ st.WarmedH t.vm ∧ st.sameButNew ({ t with vm := st.vm } : State) L mc ms ∧ ∀ z ∈ L, free z.base
def vx_Q (Qc : Array Value → State → Outcome → State → Prop) (XC : String → State → State → Prop) (mc ms : Nat) (free : Addr → Prop) : Array Value → State → Outcome → State → Prop := fun a st o t =>
  (Qc a st o t ∧ ∃ L, FrameEnd st o t L mc ms ∧ ∀ q ∈ L, free q.base) ∨ ∃ q, o = .threw q ∧ vx_T XC st q t mc ms free
/-- a callee that returns or throws -/
def vx_Met (l : Launch) (y : MethodName) (ws : List Cond) (rm : Room) (Pc : Array Value → State → Prop) (Qc : Array Value → State → Outcome → State → Prop) (XC : String → State → State → Prop) (mc ms : Nat) (free : Addr → Prop) : Prop :=
  MetFree l y (headSpec ws rm) Pc (fun _ _ _ _ _ => True) (vx_Q Qc XC mc ms free)
def vx_Post (XC : String → State → State → Prop) (mc ms : Nat) (free : Addr → Prop) : Pt → Array Value → Addr → Pt → Prop := fun A a q B =>
  ∃ (g : JFrame) (mk : MethodId) (t : State) (L : List Loc) (E : String) (ce : Cell), B.U.heap = t.heap ∧ B.U.vm = t.vm ∧ XC E (A.U.calling g mk a) t ∧ t.heap[q]? = some ce ∧ ce.vm = .none ∧ A.U.vm.findClass E = some ce.cls ∧ B.locs = A.locs ++ L ∧ (∀ z ∈ L, free z.base) ∧ B.cells = A.cells + mc ∧ B.slots = A.slots + ms
def vx_Back (l : Launch) (R : Room) (p : Program) (e : Env) (below : List Frame) (s : State) (sargs : Array Value) (y : MethodName) (len W9 : Nat)
    (Pre : Pt → Array Value → Prop) (Post : Pt → Array Value → Option Value → Pt → Prop) (PostX : Pt → Array Value → Addr → Pt → Prop) : Prop :=
  ∀ (m : MethodId) (meth : Method) (c : Code) (A : Pt) (g : JFrame) (ig : Instr) (mk : MethodId) (a : Array Value),
    Stand p l e R s m sargs below meth c A.U A.locs A.cells A.slots → g.method = m → g.locals.size = c.maxLocals → decode c.code g.pc = .ok (ig, len) →
    2 * g.monitorRoom + (g.stack.map fun v => v.category).sum ≤ W9 → A.U.methodNamed? y = some mk → Pre A a →
    (∃ (v : Option Value) (B : Pt), Stand p l e R s m sargs below meth c B.U B.locs B.cells B.slots ∧ Post A a v B ∧
      Steps p.tables e below (doInvoke e (A.U.setTop g) [] mk a).1 (B.U.setTop { g with pc := g.pc + len, stack := v.toList ++ g.stack })) ∨
    (∃ (q : Addr) (B : Pt), Stand p l e R s m sargs below meth c B.U B.locs B.cells B.slots ∧ PostX A a q B ∧
      Steps p.tables e below (doInvoke e (A.U.setTop g) [] mk a).1 ((B.U.setTop g).pushFrame (.throwing q)))
section Payer
variable {l : Launch} {R : Room} {p : Program} {e : Env} {below : List Frame} {s : State} {sargs : Array Value} {y : MethodName} {len W9 : Nat}
theorem vx_back {ws : List Cond} {rm : Room} {Pc : Array Value → State → Prop} {Qc : Array Value → State → Outcome → State → Prop} {XC : String → State → State → Prop} {mc ms : Nat} {free : Addr → Prop} {bytes : ByteArray} {maxL : Nat} {ret : Option FieldType}
    (hM : vx_Met l y ws rm Pc Qc XC mc ms free) (hblind : FrameBlind Pc) (hrc : rm.cells = mc) (hrs : rm.slots = ms)
    (hframes : rm.frames + 1 ≤ R.frames) (hlocals : W9 + (maxL + 11) + rm.locals ≤ R.locals)
    (hws : ∀ w ∈ ws, ∀ a' U, s.WarmedH U.vm → w.before a' U = true) (hcode : Cond.code y bytes maxL ret ∈ ws) (hinit : ∀ a' U, s.WarmedH U.vm → (Cond.initialized y.cls).before a' U = true) :
    vx_Back l R p e below s sargs y len W9 (PreOf R mc ms Pc) (PostOf Qc mc ms free) (vx_Post XC mc ms free) := by
  intro m meth c A g ig mk a X hg hsize hdg hW hn hp
  have h1 : (headSpec ws rm).pre.before a A.U = true := atoms_intro fun w hw => hws w hw _ _ X.warmed
  have h2 : (Cond.code y bytes maxL ret).before a A.U = true := hws _ hcode _ _ X.warmed
  have h3 : (Cond.initialized y.cls).before a A.U = true := hinit _ _ X.warmed
  have h4 : A.cells + (headSpec ws rm).room.cells ≤ R.cells := by rw [show (headSpec ws rm).room.cells = mc from hrc]; exact hp.1
  have h5 : A.slots + (headSpec ws rm).room.slots ≤ R.slots := by rw [show (headSpec ws rm).room.slots = ms from hrs]; exact hp.2.1
  have hPc : Pc a (A.U.calling g mk a) := hblind _ _ _ _ hp.2.2
  obtain ⟨U, Ls, c0, s0⟩ := A
  dsimp only [Pt.U, Pt.locs, Pt.cells, Pt.slots] at h1 h2 h3 h4 h5 X hn hPc ⊢
  obtain ⟨methY, cY, hmY, hcY, -, hlY, -, -, -, -⟩ := Cond.code_spec hn h2
  obtain ⟨kY, hkY, -⟩ := className_of_methodNamed hn
  have hinitY : kY.init = .initialized := Cond.initialized_spec (findClass_of_methodNamed hn) hkY h3
  have h : At U g.method c below := by rw [hg]; exact X.here
  have hlocals9 : W9 + (maxL + 11) + (headSpec ws rm).room.locals ≤ R.locals := hlocals
  have happ : (headSpec ws rm).appliesLoose y e.platform (U.calling g mk a) = true :=
    Spec.appliesLoose_calling (g := g) h hdg hn hkY hinitY
      (X.room_calling (g := g) (R' := (headSpec ws rm).room) hsize hmY hcY hframes (by rw [hlY]; omega) h4 h5) h1
  obtain ⟨mid, hmid⟩ := h.above
  have hfr : (U.setTop g).frames = (.java g :: mid) ++ below := by rw [State.frames_setTop' g h.top, hmid]; rfl
  obtain ⟨o, s₂, hsteps, -, hend, hq⟩ := Steps.callFree hM p X.admits X.cas X.clock (acts := []) hfr happ hPc trivial
  have hq' : vx_Q Qc XC mc ms free a (U.calling g mk a) o s₂ := hq
  rw [State.frames_setTop' g h.top] at hend
  obtain ⟨g₀, hg0⟩ := Option.isSome_iff_exists.mp h.top
  obtain ⟨r, hr⟩ := State.topJava?_eq_some.mp hg0
  have hr' : (({ U with heap := s₂.heap, slotsUsed := s₂.slotsUsed } : State).setVm s₂.vm).frames = .java g₀ :: r := hr
  rcases hq' with ⟨hqc, L, hfe, hL⟩ | ⟨q, rfl, E, ce, L, hx, hce, hcv, hcl, hW₂, hsm, hL⟩
  · obtain ⟨⟨v, rfl⟩, hW₂, e2, q2, q3, q4, q5, q6⟩ := id hfe
    have e3 : s₂ = ({ (U.calling g mk a).setFrames s₂.frames with heap := s₂.heap, slotsUsed := s₂.slotsUsed } : State).setVm s₂.vm := by
      have : s₂ = ({ s₂ with vm := (U.calling g mk a).vm } : State).setVm s₂.vm := rfl
      rw [e2] at this
      exact this
    obtain ⟨c₂, i₂, len₂, hc₂, hd₂, hf₂⟩ := hend
    have hW' : U.WarmedH s₂.vm := hW₂
    have hcc : c₂ = c := by
      have h1 : s₂.code? g.method = U.code? g.method := by
        rw [State.code?_eq, State.code?_eq, hW'.alike.method?]
      exact Option.some.inj (hc₂.symm.trans (h1.trans h.code))
    subst hcc
    have hlen : len₂ = len := by rw [hdg] at hd₂; cases hd₂; rfl
    subst hlen
    have hs₂ : s₂ = (({ U with heap := s₂.heap, slotsUsed := s₂.slotsUsed } : State).setVm s₂.vm).setTop { g with pc := g.pc + len₂, stack := v.toList ++ g.stack } := by
      refine e3.trans ?_
      rw [hf₂, State.calling_eq h.top, State.setFrames_setFrames, State.setTop_of_frames _ hr', hr]
      rfl
    have hsame : U.sameButNew ({ U with heap := s₂.heap, slotsUsed := s₂.slotsUsed } : State) L mc ms := by
      refine ⟨?_, q2, q3, q4, q5, q6⟩
      obtain ⟨t, ht, -⟩ := State.frames_cons hr
      show ({ U with heap := s₂.heap, slotsUsed := s₂.slotsUsed } : State) = { U.setFrames U.frames with heap := s₂.heap, slotsUsed := s₂.slotsUsed }
      rw [State.setFrames_self ht]
    subst hg
    refine Or.inl ⟨v, ⟨(({ U with heap := s₂.heap, slotsUsed := s₂.slotsUsed } : State).setVm s₂.vm), Ls ++ L, c0 + mc, s0 + ms⟩,
      ⟨X.admits, X.cas, X.clock, X.frames, X.room, X.hears, X.method, X.code, (X.here.setHeapUsed s₂.heap s₂.slotsUsed).setVm hW'.alike, X.tail, State.WarmedH.trans X.warmed hW', X.limits, X.bytes, X.same.trans (hsame.setVm s.vm)⟩,
      ⟨g, mk, s₂, L, rfl, rfl, hqc, rfl, hL, rfl, rfl⟩, ?_⟩
    show Steps p.tables e below _ ((({ U with heap := s₂.heap, slotsUsed := s₂.slotsUsed } : State).setVm s₂.vm).setTop { g with pc := g.pc + len₂, stack := v.toList ++ g.stack })
    rw [← hs₂]
    exact hsteps
  · obtain ⟨e2, q2, q3, q4, q5, q6⟩ := id hsm
    have e3 : s₂ = ({ (U.calling g mk a).setFrames s₂.frames with heap := s₂.heap, slotsUsed := s₂.slotsUsed } : State).setVm s₂.vm := by
      have : s₂ = ({ s₂ with vm := (U.calling g mk a).vm } : State).setVm s₂.vm := rfl
      rw [e2] at this
      exact this
    have hf₂ : s₂.frames = .throwing q :: .java g :: U.frames.tail := hend
    have hW' : U.WarmedH s₂.vm := hW₂
    have hs₂ : s₂ = ((({ U with heap := s₂.heap, slotsUsed := s₂.slotsUsed } : State).setVm s₂.vm).setTop g).pushFrame (.throwing q) := by
      refine e3.trans ?_
      rw [hf₂, State.calling_eq h.top, State.setFrames_setFrames, State.pushFrame, State.frames_setTop _ hr', State.setTop_of_frames _ hr', State.setFrames_setFrames, hr]
      rfl
    have hsame : U.sameButNew ({ U with heap := s₂.heap, slotsUsed := s₂.slotsUsed } : State) L mc ms := by
      refine ⟨?_, q2, q3, q4, q5, q6⟩
      obtain ⟨t, ht, -⟩ := State.frames_cons hr
      show ({ U with heap := s₂.heap, slotsUsed := s₂.slotsUsed } : State) = { U.setFrames U.frames with heap := s₂.heap, slotsUsed := s₂.slotsUsed }
      rw [State.setFrames_self ht]
    subst hg
    refine Or.inr ⟨q, ⟨(({ U with heap := s₂.heap, slotsUsed := s₂.slotsUsed } : State).setVm s₂.vm), Ls ++ L, c0 + mc, s0 + ms⟩,
      ⟨X.admits, X.cas, X.clock, X.frames, X.room, X.hears, X.method, X.code, (X.here.setHeapUsed s₂.heap s₂.slotsUsed).setVm hW'.alike, X.tail, State.WarmedH.trans X.warmed hW', X.limits, X.bytes, X.same.trans (hsame.setVm s.vm)⟩,
      ⟨g, mk, s₂, L, E, ce, rfl, rfl, hx, hce, hcv, hcl, rfl, hL, rfl, rfl⟩, ?_⟩
    show Steps p.tables e below _ (((({ U with heap := s₂.heap, slotsUsed := s₂.slotsUsed } : State).setVm s₂.vm).setTop g).pushFrame (.throwing q))
    rw [← hs₂]
    exact hsteps
end Payer
section Calls
variable {p : Program} {l : Launch} {e : Env} {R : Room} {s : State} {m : MethodId} {args : Array Value} {below : List Frame} {meth : Method} {c : Code} {T : State} {locs : List Loc} {cells slots : Nat}
theorem vx_callV (X : Stand p l e R s m args below meth c T locs cells slots) (hexec : p.tables.exec = Jvm.exec) {own C : String} {index : Nat} {y : MethodName} {bytes : ByteArray} {maxL : Nat} {ret : Option FieldType}
    (hown : s.vm.findClass own = some m.cls) (hlink : (Cond.methodLink own index y).before args s = true) (hinst : (Cond.instanceMethod y).before args s = true) (hsel : (Cond.selects C y y).before args s = true)
    (hcode : (Cond.code y bytes maxL ret).before args s = true) (hy : y.cls ≠ "java/lang/invoke/MethodHandle" ∧ y.cls ≠ "java/lang/invoke/VarHandle")
    {W9 : Nat} {Pre : Pt → Array Value → Prop} {Post : Pt → Array Value → Option Value → Pt → Prop} {PostX : Pt → Array Value → Addr → Pt → Prop} (hK : vx_Back l R p e below s args y 3 W9 Pre Post PostX)
    {b : Addr} {cellB : Cell} (hcell : T.heap[b]? = some cellB) (hobj : cellB.vm.isStatics = false) (hcls : s.vm.findClass C = some cellB.cls)
    {g : JFrame} (hg : g.method = m) (hsize : g.locals.size = c.maxLocals) {argsL rest : List Value} (hlen : ∀ sig, parseMethodDescriptor y.desc = some sig → argsL.length = sig.parameters.length)
    (hstack : g.stack = argsL.reverse ++ .ref b :: rest) (hW : 2 * g.monitorRoom + (rest.map fun v => v.category).sum ≤ W9) (hdg : decode c.code g.pc = .ok (.invokevirtual index, 3))
    (hpre : ∀ vm₁, s.WarmedH vm₁ → Pre ⟨T.setVm vm₁, locs, cells, slots⟩ (Value.ref b :: argsL).toArray) :
    (∃ (v : Option Value) (vm₁ : Vm) (B : Pt), s.WarmedH vm₁ ∧ Stand p l e R s m args below meth c B.U B.locs B.cells B.slots ∧ Post ⟨T.setVm vm₁, locs, cells, slots⟩ (Value.ref b :: argsL).toArray v B ∧
      ∀ target, Steps p.tables e below (B.U.setTop { g with pc := g.pc + 3, stack := v.toList ++ rest }) target → Steps p.tables e below (T.setTop g) target) ∨
    (∃ (q : Addr) (vm₁ : Vm) (B : Pt), s.WarmedH vm₁ ∧ Stand p l e R s m args below meth c B.U B.locs B.cells B.slots ∧ PostX ⟨T.setVm vm₁, locs, cells, slots⟩ (Value.ref b :: argsL).toArray q B ∧
      Steps p.tables e below (T.setTop g) ((B.U.setTop { g with stack := rest }).pushFrame (.throwing q))) := by
  obtain ⟨mk, methM, hnamed, hmethM, hstM, habM⟩ := Cond.instanceMethod_spec hinst
  obtain ⟨methM', cM, hmethM', -, -, -, -, -, -, hsigM⟩ := Cond.code_spec hnamed hcode
  cases hmethM.symm.trans hmethM'
  obtain ⟨c2, r2, m2, q1, q2, q3, q4, kP, hkP, hkPi⟩ := Cond.selects_spec hsel
  cases hcls.symm.trans q1
  cases (State.methodFound?_of_named hnamed hy).symm.trans q2
  cases hnamed.symm.trans q3
  have hselP : selectMethod e.platform s.vm cellB.cls mk = .method mk := by rw [Launch.admits_selectMethod X.admits]; exact q4
  obtain ⟨vm₁, X₁, hstep₁⟩ := X.invokevirtual hexec hown hlink hnamed hmethM hstM hkP hkPi hy (a := b) (cell := cellB) hcell
    (fun z h => by rw [h] at hobj; cases hobj) hselP hmethM habM hkP hkPi (g := g) hg (argsL := argsL) (rest := rest) (hlen _ hsigM) hstack hdg
  rcases hK m meth c ⟨T.setVm vm₁, locs, cells, slots⟩ { g with stack := rest } (.invokevirtual index) mk (Value.ref b :: argsL).toArray X₁ hg hsize hdg hW (X₁.named hnamed) (hpre vm₁ X₁.warmed) with ⟨v, B, X', hpost, hsteps⟩ | ⟨q, B, X', hpost, hsteps⟩
  · exact Or.inl ⟨v, vm₁, B, X₁.warmed, X', hpost, fun target h => hstep₁ _ fun acts => by rw [doInvoke_state]; exact hsteps.trans h⟩
  · exact Or.inr ⟨q, vm₁, B, X₁.warmed, X', hpost, hstep₁ _ fun acts => by rw [doInvoke_state]; exact hsteps⟩
theorem vx_callS (X : Stand p l e R s m args below meth c T locs cells slots) (hexec : p.tables.exec = Jvm.exec) {own : String} {index : Nat} {y : MethodName} {bytes : ByteArray} {maxL : Nat} {ret : Option FieldType}
    (hown : s.vm.findClass own = some m.cls) (hlink : (Cond.methodLink own index y).before args s = true) (hstat : (Cond.static y).before args s = true) (hinit : (Cond.initialized y.cls).before args s = true)
    (hcode : (Cond.code y bytes maxL ret).before args s = true) (hy : y.cls ≠ "java/lang/invoke/MethodHandle" ∧ y.cls ≠ "java/lang/invoke/VarHandle")
    {W9 : Nat} {Pre : Pt → Array Value → Prop} {Post : Pt → Array Value → Option Value → Pt → Prop} {PostX : Pt → Array Value → Addr → Pt → Prop} (hK : vx_Back l R p e below s args y 3 W9 Pre Post PostX)
    {g : JFrame} (hg : g.method = m) (hsize : g.locals.size = c.maxLocals) {argsL rest : List Value} (hlen : ∀ sig, parseMethodDescriptor y.desc = some sig → argsL.length = sig.parameters.length)
    (hstack : g.stack = argsL.reverse ++ rest) (hW : 2 * g.monitorRoom + (rest.map fun v => v.category).sum ≤ W9) (hdg : decode c.code g.pc = .ok (.invokestatic index, 3))
    (hpre : ∀ vm₁, s.WarmedH vm₁ → Pre ⟨T.setVm vm₁, locs, cells, slots⟩ argsL.toArray) :
    (∃ (v : Option Value) (vm₁ : Vm) (B : Pt), s.WarmedH vm₁ ∧ Stand p l e R s m args below meth c B.U B.locs B.cells B.slots ∧ Post ⟨T.setVm vm₁, locs, cells, slots⟩ argsL.toArray v B ∧
      ∀ target, Steps p.tables e below (B.U.setTop { g with pc := g.pc + 3, stack := v.toList ++ rest }) target → Steps p.tables e below (T.setTop g) target) ∨
    (∃ (q : Addr) (vm₁ : Vm) (B : Pt), s.WarmedH vm₁ ∧ Stand p l e R s m args below meth c B.U B.locs B.cells B.slots ∧ PostX ⟨T.setVm vm₁, locs, cells, slots⟩ argsL.toArray q B ∧
      Steps p.tables e below (T.setTop g) ((B.U.setTop { g with stack := rest }).pushFrame (.throwing q))) := by
  obtain ⟨mk, hnamed⟩ := Cond.code_named hcode
  obtain ⟨methM, cM, hmethM, -, -, -, -, -, -, hsigM⟩ := Cond.code_spec hnamed hcode
  have hstatic : methM.isStatic = true := Cond.static_spec hnamed hmethM hstat
  obtain ⟨kP, hkP, -⟩ := className_of_methodNamed hnamed
  have hinitP : kP.init = .initialized := Cond.initialized_spec (findClass_of_methodNamed hnamed) hkP hinit
  obtain ⟨vm₁, X₁, hstep₁⟩ := X.invokestatic hexec hown hlink hnamed hmethM hstatic hkP hinitP hy (g := g) hg (argsL := argsL) (rest := rest) (hlen _ hsigM) hstack hdg
  rcases hK m meth c ⟨T.setVm vm₁, locs, cells, slots⟩ { g with stack := rest } (.invokestatic index) mk argsL.toArray X₁ hg hsize hdg hW (X₁.named hnamed) (hpre vm₁ X₁.warmed) with ⟨v, B, X', hpost, hsteps⟩ | ⟨q, B, X', hpost, hsteps⟩
  · exact Or.inl ⟨v, vm₁, B, X₁.warmed, X', hpost, fun target h => hstep₁ _ fun acts => by rw [doInvoke_state]; exact hsteps.trans h⟩
  · exact Or.inr ⟨q, vm₁, B, X₁.warmed, X', hpost, hstep₁ _ fun acts => by rw [doInvoke_state]; exact hsteps⟩
end Calls
theorem vx_cls {s : State} {T : State} {vm₁ : Vm} {E : String} {k : ClassId} (hW : s.WarmedH vm₁) (h : (T.setVm vm₁).vm.findClass E = some k) : s.vm.findClass E = some k := by
  have h1 : vm₁.findClass E = some k := h
  rw [hW.alike.findClass] at h1
  exact h1
/-- the method's frame g, with q thrown over it -/
def vx_W (p : Program) (l : Launch) (e : Env) (R : Room) (s : State) (m : MethodId) (args : Array Value) (below : List Frame) (meth : Method) (c : Code) (H : Heap) (locs : List Loc) (cells slots : Nat) (Q : State → Prop) (g : JFrame) (q : Addr) : Prop :=
  ∀ T : State, T.heap = H → Stand p l e R s m args below meth c T locs cells slots → ∃ t, Steps p.tables e below ((T.setTop g).pushFrame (.throwing q)) t ∧ Q t
def vx_Run (p : Program) (l : Launch) (e : Env) (R : Room) (s : State) (m : MethodId) (args : Array Value) (below : List Frame) (meth : Method) (c : Code) (H : Heap) (locs : List Loc) (cells slots mc ms : Nat) (g : JFrame) (rest : List Value) (Qa : State → Outcome → State → Prop) (XC : String → State → State → Prop) (free : Addr → Prop) : Prop :=
  ∀ T : State, T.heap = H → Stand p l e R s m args below meth c T locs cells slots →
    (∃ (v : Option Value) (st₀ t T' : State) (L : List Loc), st₀.heap = H ∧ Stand p l e R s m args below meth c T' (locs ++ L) (cells + mc) (slots + ms) ∧ (∀ q ∈ L, free q.base) ∧ T'.heap = t.heap ∧ T'.vm = t.vm ∧ Qa st₀ (.returned v) t ∧
      Goes p e below T g T' { g with pc := g.pc + 3, stack := v.toList ++ rest }) ∨
    (∃ (q : Addr) (st₀ t T' : State) (L : List Loc) (E : String) (ce : Cell), st₀.heap = H ∧ Stand p l e R s m args below meth c T' (locs ++ L) (cells + mc) (slots + ms) ∧ (∀ z ∈ L, free z.base) ∧ T'.heap = t.heap ∧ T'.vm = t.vm ∧ XC E st₀ t ∧ t.heap[q]? = some ce ∧ ce.vm = .none ∧ s.vm.findClass E = some ce.cls ∧
      Steps p.tables e below (T.setTop g) ((T'.setTop { g with stack := rest }).pushFrame (.throwing q)))
def vx_X {S : Type} (px : S → Prop) (B : String → S → State → Prop) (A : Nat → Prop) : String → State → State → Prop := fun E st t => ∃ u : S, px u ∧ B E u t ∧ va_F A st t
section Runs
variable {p : Program} {l : Launch} {e : Env} {R : Room} {s : State} {m : MethodId} {args : Array Value} {below : List Frame} {meth : Method} {c : Code} {H : Heap} {locs : List Loc} {cells slots : Nat}
variable {y : MethodName} {bytes cc : ByteArray} {maxL nL mc ms n index : Nat} {ret : Option FieldType} {ws : List Cond} {rm : Room} {Pc : Array Value → State → Prop} {Qc : Array Value → State → Outcome → State → Prop} {XC : String → State → State → Prop} {free : Addr → Prop} {Ts : List Cond} {own C : String} {b : Addr} {As rest : List Value} {g : JFrame}
theorem vx_callBack (cb : CallB R s args own index y bytes maxL ret ws rm mc ms n) (hM : vx_Met l y ws rm Pc Qc XC mc ms free) (hbl : FrameBlind Pc) : vx_Back l R p e below s args y 3 8 (PreOf R mc ms Pc) (PostOf Qc mc ms free) (vx_Post XC mc ms free) := by
  obtain ⟨hrc, hrs, hfr, hlo, hws, hcw, -, hini, -⟩ := cb
  exact vx_back (bytes := bytes) (maxL := maxL) (ret := ret) hM hbl hrc hrs hfr hlo hws hcw (fun a' U hW => word_at hW (Or.inl (by first | rfl | simp [Cond.onTables, Cond.keeps, Cond.steady])) hini)
theorem vx_runV (S : CallFix p m c cc nL s args Ts own) (hM : vx_Met l y ws rm Pc Qc XC mc ms free) (cw : CallW R s args own C index y bytes maxL ret ws rm mc ms n) (hp : PreV s H C b Pc As)
    (hg : g.method = m) (hn : As.length = n) (hsize : g.locals.size = nL) (hstack : g.stack = As.reverse ++ .ref b :: rest) (hW : 2 * g.monitorRoom + (rest.map fun v => v.category).sum ≤ 8) (hdg : decode cc g.pc = .ok (.invokevirtual index, 3)) (hf : cells + mc ≤ R.cells ∧ slots + ms ≤ R.slots) :
    vx_Run p l e R s m args below meth c H locs cells slots mc ms g rest (Qc (Value.ref b :: As).toArray) XC free := by
  have hK : vx_Back l R p e below s args y 3 8 (PreOf R mc ms Pc) (PostOf Qc mc ms free) (vx_Post XC mc ms free) := vx_callBack cw.1 hM hp.1
  obtain ⟨⟨-, -, -, -, -, -, hcode, -, hy, hlen, hl⟩, hin, hse⟩ := cw
  obtain ⟨hx, hb, hml, ho, -⟩ := S
  obtain ⟨-, ⟨cellB, hcB, hoB, hclB⟩, hPc⟩ := hp
  intro T hT X
  rcases vx_callV X hx (C := C) (bytes := bytes) (maxL := maxL) (ret := ret) ho hl hin hse hcode hy hK (by rw [hT]; exact hcB) hoB hclB hg (hsize.trans hml.symm) (argsL := As) (rest := rest) (fun sig h => hn.trans (hlen sig h)) hstack hW (by rw [hb]; exact hdg)
    (fun vm₁ hW₁ => ⟨hf.1, hf.2, hPc (T.setVm vm₁) hT hW₁⟩) with ⟨v, vm₁, ⟨U', l2, c2, s2⟩, hW₁, X', ⟨g', mk, t, L, e1, e2, hq, h1, hL, h2, h3⟩, st⟩ | ⟨q, vm₁, ⟨U', l2, c2, s2⟩, hW₁, X', ⟨g', mk, t, L, E, ce, e1, e2, hq, hce, hcv, hcl, h1, hL, h2, h3⟩, st⟩
  · dsimp only [Pt.U, Pt.locs, Pt.cells, Pt.slots] at X' e1 e2 h1 h2 h3 st
    subst h1; subst h2; subst h3
    exact Or.inl ⟨v, (T.setVm vm₁).calling g' mk (Value.ref b :: As).toArray, t, U', L, hT, X', hL, e1, e2, hq, st⟩
  · dsimp only [Pt.U, Pt.locs, Pt.cells, Pt.slots] at X' e1 e2 h1 h2 h3 st hcl
    subst h1; subst h2; subst h3
    exact Or.inr ⟨q, (T.setVm vm₁).calling g' mk (Value.ref b :: As).toArray, t, U', L, E, ce, hT, X', hL, e1, e2, hq, hce, hcv, vx_cls hW₁ hcl, st⟩
theorem vx_runS (S : CallFix p m c cc nL s args Ts own) (hM : vx_Met l y ws rm Pc Qc XC mc ms free) (cw : CallB R s args own index y bytes maxL ret ws rm mc ms n ∧ (Cond.static y).before args s = true) (hp : PreS s H Pc As)
    (hg : g.method = m) (hn : As.length = n) (hsize : g.locals.size = nL) (hstack : g.stack = As.reverse ++ rest) (hW : 2 * g.monitorRoom + (rest.map fun v => v.category).sum ≤ 8) (hdg : decode cc g.pc = .ok (.invokestatic index, 3)) (hf : cells + mc ≤ R.cells ∧ slots + ms ≤ R.slots) :
    vx_Run p l e R s m args below meth c H locs cells slots mc ms g rest (Qc As.toArray) XC free := by
  have hK : vx_Back l R p e below s args y 3 8 (PreOf R mc ms Pc) (PostOf Qc mc ms free) (vx_Post XC mc ms free) := vx_callBack cw.1 hM hp.1
  obtain ⟨⟨-, -, -, -, -, -, hcode, hini, hy, hlen, hl⟩, hstt⟩ := cw
  obtain ⟨hx, hb, hml, ho, -⟩ := S
  intro T hT X
  rcases vx_callS X hx (bytes := bytes) (maxL := maxL) (ret := ret) ho hl hstt hini hcode hy hK hg (hsize.trans hml.symm) (argsL := As) (rest := rest) (fun sig h => hn.trans (hlen sig h)) hstack hW (by rw [hb]; exact hdg)
    (fun vm₁ hW₁ => ⟨hf.1, hf.2, hp.2 (T.setVm vm₁) hT hW₁⟩) with ⟨v, vm₁, ⟨U', l2, c2, s2⟩, hW₁, X', ⟨g', mk, t, L, e1, e2, hq, h1, hL, h2, h3⟩, st⟩ | ⟨q, vm₁, ⟨U', l2, c2, s2⟩, hW₁, X', ⟨g', mk, t, L, E, ce, e1, e2, hq, hce, hcv, hcl, h1, hL, h2, h3⟩, st⟩
  · dsimp only [Pt.U, Pt.locs, Pt.cells, Pt.slots] at X' e1 e2 h1 h2 h3 st
    subst h1; subst h2; subst h3
    exact Or.inl ⟨v, (T.setVm vm₁).calling g' mk As.toArray, t, U', L, hT, X', hL, e1, e2, hq, st⟩
  · dsimp only [Pt.U, Pt.locs, Pt.cells, Pt.slots] at X' e1 e2 h1 h2 h3 st hcl
    subst h1; subst h2; subst h3
    exact Or.inr ⟨q, (T.setVm vm₁).calling g' mk As.toArray, t, U', L, E, ce, hT, X', hL, e1, e2, hq, hce, hcv, vx_cls hW₁ hcl, st⟩
end Runs
section Rows
variable {p : Program} {l : Launch} {e : Env} {R : Room} {s : State} {m : MethodId} {args : Array Value} {below : List Frame} {meth : Method} {c : Code} {H : Heap} {locs : List Loc} {cells slots : Nat} {Q : State → Prop}
variable {mc ms : Nat} {free : Addr → Prop} {A0 A1 : Nat → Prop} {H0 : Heap} {a : Array Value} {pc : Nat} {ls : Array Slot} {st0 rest : List Value}
theorem vx_keep {st₀ t T' : State} {L : List Loc} (h0 : st₀.heap = H) (e1 : T'.heap = t.heap) (hS : va_S A0 H0 H locs) (hA : ∀ q, q < H.size → A1 q → A0 q) (hf : ∀ q, free q → A0 q) (hL : ∀ q ∈ L, free q.base) (hF : va_F A1 st₀ t) :
    H.size ≤ T'.heap.size ∧ (∀ q : Nat, q < H.size → ¬ A1 q → T'.heap[q]? = H[q]?) ∧ va_S A0 H0 T'.heap (locs ++ L) := by
  obtain ⟨hz, hk⟩ := hF
  rw [h0] at hz hk
  exact ⟨by rw [e1]; exact hz, fun q h1 h2 => by rw [e1]; exact hk q h1 h2,
    ⟨Nat.le_trans hS.1 (by rw [e1]; exact hz), fun q h1 h2 => by rw [e1, hk q (Nat.lt_of_lt_of_le h1 hS.1) (fun z => h2 (hA q (Nat.lt_of_lt_of_le h1 hS.1) z))]; exact hS.2.1 q h1 h2, fun q hq => by
      rcases List.mem_append.mp hq with h | h
      · exact hS.2.2 q h
      · exact hf _ (hL q h)⟩⟩
theorem vx_calli {S SX : Type} {post : Int32 → S → Prop} {px : SX → Prop} {B : S → State → Prop} {BX : String → SX → State → Prop} {AX : Nat → Prop} (hr : vx_Run p l e R s m args below meth c H locs cells slots mc ms (F0 m pc ls st0) rest (va_Qi post B A1 a) (vx_X px BX AX) free) (hS : va_S A0 H0 H locs) (hA : ∀ q, q < H.size → A1 q → A0 q) (hf : ∀ q, free q → A0 q) (hAX : ∀ q, q < H.size → AX q → A0 q)
    (kx : ∀ (E : String) (ce : Cell) (q9 : Addr) (u : SX) (t : State) (H1 : Heap) (locs1 : List Loc), t.heap = H1 → s.vm.Alike t.vm → px u → BX E u t → H.size ≤ H1.size → (∀ q : Nat, q < H.size → ¬ AX q → H1[q]? = H[q]?) → va_S A0 H0 H1 locs1 → H1[q9]? = some ce → ce.vm = .none → s.vm.findClass E = some ce.cls → vx_W p l e R s m args below meth c H1 locs1 (cells + mc) (slots + ms) Q (F0 m pc ls rest) q9)
    (kk : ∀ (r : Int32) (u : S) (t : State) (H1 : Heap) (locs1 : List Loc), t.heap = H1 → s.vm.Alike t.vm → post r u → B u t → H.size ≤ H1.size → (∀ q : Nat, q < H.size → ¬ A1 q → H1[q]? = H[q]?) → va_S A0 H0 H1 locs1 → W p l e R s m args below meth c H1 locs1 (cells + mc) (slots + ms) Q (F0 m (pc + 3) ls (.int r :: rest))) : W p l e R s m args below meth c H locs cells slots Q (F0 m pc ls st0) := by
  intro T hT X
  rcases hr T hT X with ⟨v, st₀, t, T', L, h0, X', hL, e1, e2, ⟨⟨r, u, hv, hp, hb⟩, hF⟩, st⟩ | ⟨q, st₀, t, T', L, E, ce, h0, X', hL, e1, e2, ⟨u, hp, hb, hF⟩, hce, hcv, hcl, st⟩
  · cases hv
    obtain ⟨k1, k2, k3⟩ := vx_keep h0 e1 hS hA hf hL hF
    obtain ⟨t2, a1, b1⟩ := kk r u t T'.heap (locs ++ L) e1.symm (by rw [← e2]; exact X'.warmed.alike) hp hb k1 k2 k3 T' rfl X'
    exact ⟨t2, st t2 a1, b1⟩
  · obtain ⟨k1, k2, k3⟩ := vx_keep h0 e1 hS hAX hf hL hF
    obtain ⟨t2, a1, b1⟩ := kx E ce q u t T'.heap (locs ++ L) e1.symm (by rw [← e2]; exact X'.warmed.alike) hp hb k1 k2 k3 (by rw [e1]; exact hce) hcv hcl T' rfl X'
    exact ⟨t2, st.trans a1, b1⟩
theorem vx_calll {S SX : Type} {post : Int64 → S → Prop} {px : SX → Prop} {B : S → State → Prop} {BX : String → SX → State → Prop} {AX : Nat → Prop} (hr : vx_Run p l e R s m args below meth c H locs cells slots mc ms (F0 m pc ls st0) rest (va_Ql post B A1 a) (vx_X px BX AX) free) (hS : va_S A0 H0 H locs) (hA : ∀ q, q < H.size → A1 q → A0 q) (hf : ∀ q, free q → A0 q) (hAX : ∀ q, q < H.size → AX q → A0 q)
    (kx : ∀ (E : String) (ce : Cell) (q9 : Addr) (u : SX) (t : State) (H1 : Heap) (locs1 : List Loc), t.heap = H1 → s.vm.Alike t.vm → px u → BX E u t → H.size ≤ H1.size → (∀ q : Nat, q < H.size → ¬ AX q → H1[q]? = H[q]?) → va_S A0 H0 H1 locs1 → H1[q9]? = some ce → ce.vm = .none → s.vm.findClass E = some ce.cls → vx_W p l e R s m args below meth c H1 locs1 (cells + mc) (slots + ms) Q (F0 m pc ls rest) q9)
    (kk : ∀ (r : Int64) (u : S) (t : State) (H1 : Heap) (locs1 : List Loc), t.heap = H1 → s.vm.Alike t.vm → post r u → B u t → H.size ≤ H1.size → (∀ q : Nat, q < H.size → ¬ A1 q → H1[q]? = H[q]?) → va_S A0 H0 H1 locs1 → W p l e R s m args below meth c H1 locs1 (cells + mc) (slots + ms) Q (F0 m (pc + 3) ls (.long r :: rest))) : W p l e R s m args below meth c H locs cells slots Q (F0 m pc ls st0) := by
  intro T hT X
  rcases hr T hT X with ⟨v, st₀, t, T', L, h0, X', hL, e1, e2, ⟨⟨r, u, hv, hp, hb⟩, hF⟩, st⟩ | ⟨q, st₀, t, T', L, E, ce, h0, X', hL, e1, e2, ⟨u, hp, hb, hF⟩, hce, hcv, hcl, st⟩
  · cases hv
    obtain ⟨k1, k2, k3⟩ := vx_keep h0 e1 hS hA hf hL hF
    obtain ⟨t2, a1, b1⟩ := kk r u t T'.heap (locs ++ L) e1.symm (by rw [← e2]; exact X'.warmed.alike) hp hb k1 k2 k3 T' rfl X'
    exact ⟨t2, st t2 a1, b1⟩
  · obtain ⟨k1, k2, k3⟩ := vx_keep h0 e1 hS hAX hf hL hF
    obtain ⟨t2, a1, b1⟩ := kx E ce q u t T'.heap (locs ++ L) e1.symm (by rw [← e2]; exact X'.warmed.alike) hp hb k1 k2 k3 (by rw [e1]; exact hce) hcv hcl T' rfl X'
    exact ⟨t2, st.trans a1, b1⟩
theorem vx_callf {S SX : Type} {post : UInt32 → S → Prop} {px : SX → Prop} {B : S → State → Prop} {BX : String → SX → State → Prop} {AX : Nat → Prop} (hr : vx_Run p l e R s m args below meth c H locs cells slots mc ms (F0 m pc ls st0) rest (va_Qf post B A1 a) (vx_X px BX AX) free) (hS : va_S A0 H0 H locs) (hA : ∀ q, q < H.size → A1 q → A0 q) (hf : ∀ q, free q → A0 q) (hAX : ∀ q, q < H.size → AX q → A0 q)
    (kx : ∀ (E : String) (ce : Cell) (q9 : Addr) (u : SX) (t : State) (H1 : Heap) (locs1 : List Loc), t.heap = H1 → s.vm.Alike t.vm → px u → BX E u t → H.size ≤ H1.size → (∀ q : Nat, q < H.size → ¬ AX q → H1[q]? = H[q]?) → va_S A0 H0 H1 locs1 → H1[q9]? = some ce → ce.vm = .none → s.vm.findClass E = some ce.cls → vx_W p l e R s m args below meth c H1 locs1 (cells + mc) (slots + ms) Q (F0 m pc ls rest) q9)
    (kk : ∀ (r : UInt32) (u : S) (t : State) (H1 : Heap) (locs1 : List Loc), t.heap = H1 → s.vm.Alike t.vm → post r u → B u t → H.size ≤ H1.size → (∀ q : Nat, q < H.size → ¬ A1 q → H1[q]? = H[q]?) → va_S A0 H0 H1 locs1 → W p l e R s m args below meth c H1 locs1 (cells + mc) (slots + ms) Q (F0 m (pc + 3) ls (.float r :: rest))) : W p l e R s m args below meth c H locs cells slots Q (F0 m pc ls st0) := by
  intro T hT X
  rcases hr T hT X with ⟨v, st₀, t, T', L, h0, X', hL, e1, e2, ⟨⟨r, u, hv, hp, hb⟩, hF⟩, st⟩ | ⟨q, st₀, t, T', L, E, ce, h0, X', hL, e1, e2, ⟨u, hp, hb, hF⟩, hce, hcv, hcl, st⟩
  · cases hv
    obtain ⟨k1, k2, k3⟩ := vx_keep h0 e1 hS hA hf hL hF
    obtain ⟨t2, a1, b1⟩ := kk r u t T'.heap (locs ++ L) e1.symm (by rw [← e2]; exact X'.warmed.alike) hp hb k1 k2 k3 T' rfl X'
    exact ⟨t2, st t2 a1, b1⟩
  · obtain ⟨k1, k2, k3⟩ := vx_keep h0 e1 hS hAX hf hL hF
    obtain ⟨t2, a1, b1⟩ := kx E ce q u t T'.heap (locs ++ L) e1.symm (by rw [← e2]; exact X'.warmed.alike) hp hb k1 k2 k3 (by rw [e1]; exact hce) hcv hcl T' rfl X'
    exact ⟨t2, st.trans a1, b1⟩
theorem vx_calld {S SX : Type} {post : UInt64 → S → Prop} {px : SX → Prop} {B : S → State → Prop} {BX : String → SX → State → Prop} {AX : Nat → Prop} (hr : vx_Run p l e R s m args below meth c H locs cells slots mc ms (F0 m pc ls st0) rest (va_Qd post B A1 a) (vx_X px BX AX) free) (hS : va_S A0 H0 H locs) (hA : ∀ q, q < H.size → A1 q → A0 q) (hf : ∀ q, free q → A0 q) (hAX : ∀ q, q < H.size → AX q → A0 q)
    (kx : ∀ (E : String) (ce : Cell) (q9 : Addr) (u : SX) (t : State) (H1 : Heap) (locs1 : List Loc), t.heap = H1 → s.vm.Alike t.vm → px u → BX E u t → H.size ≤ H1.size → (∀ q : Nat, q < H.size → ¬ AX q → H1[q]? = H[q]?) → va_S A0 H0 H1 locs1 → H1[q9]? = some ce → ce.vm = .none → s.vm.findClass E = some ce.cls → vx_W p l e R s m args below meth c H1 locs1 (cells + mc) (slots + ms) Q (F0 m pc ls rest) q9)
    (kk : ∀ (r : UInt64) (u : S) (t : State) (H1 : Heap) (locs1 : List Loc), t.heap = H1 → s.vm.Alike t.vm → post r u → B u t → H.size ≤ H1.size → (∀ q : Nat, q < H.size → ¬ A1 q → H1[q]? = H[q]?) → va_S A0 H0 H1 locs1 → W p l e R s m args below meth c H1 locs1 (cells + mc) (slots + ms) Q (F0 m (pc + 3) ls (.double r :: rest))) : W p l e R s m args below meth c H locs cells slots Q (F0 m pc ls st0) := by
  intro T hT X
  rcases hr T hT X with ⟨v, st₀, t, T', L, h0, X', hL, e1, e2, ⟨⟨r, u, hv, hp, hb⟩, hF⟩, st⟩ | ⟨q, st₀, t, T', L, E, ce, h0, X', hL, e1, e2, ⟨u, hp, hb, hF⟩, hce, hcv, hcl, st⟩
  · cases hv
    obtain ⟨k1, k2, k3⟩ := vx_keep h0 e1 hS hA hf hL hF
    obtain ⟨t2, a1, b1⟩ := kk r u t T'.heap (locs ++ L) e1.symm (by rw [← e2]; exact X'.warmed.alike) hp hb k1 k2 k3 T' rfl X'
    exact ⟨t2, st t2 a1, b1⟩
  · obtain ⟨k1, k2, k3⟩ := vx_keep h0 e1 hS hAX hf hL hF
    obtain ⟨t2, a1, b1⟩ := kx E ce q u t T'.heap (locs ++ L) e1.symm (by rw [← e2]; exact X'.warmed.alike) hp hb k1 k2 k3 (by rw [e1]; exact hce) hcv hcl T' rfl X'
    exact ⟨t2, st.trans a1, b1⟩
theorem vx_callv {S SX : Type} {post : S → Prop} {px : SX → Prop} {B : S → State → Prop} {BX : String → SX → State → Prop} {AX : Nat → Prop} (hr : vx_Run p l e R s m args below meth c H locs cells slots mc ms (F0 m pc ls st0) rest (va_Qv post B A1 a) (vx_X px BX AX) free) (hS : va_S A0 H0 H locs) (hA : ∀ q, q < H.size → A1 q → A0 q) (hf : ∀ q, free q → A0 q) (hAX : ∀ q, q < H.size → AX q → A0 q)
    (kx : ∀ (E : String) (ce : Cell) (q9 : Addr) (u : SX) (t : State) (H1 : Heap) (locs1 : List Loc), t.heap = H1 → s.vm.Alike t.vm → px u → BX E u t → H.size ≤ H1.size → (∀ q : Nat, q < H.size → ¬ AX q → H1[q]? = H[q]?) → va_S A0 H0 H1 locs1 → H1[q9]? = some ce → ce.vm = .none → s.vm.findClass E = some ce.cls → vx_W p l e R s m args below meth c H1 locs1 (cells + mc) (slots + ms) Q (F0 m pc ls rest) q9)
    (kk : ∀ (u : S) (t : State) (H1 : Heap) (locs1 : List Loc), t.heap = H1 → s.vm.Alike t.vm → post u → B u t → H.size ≤ H1.size → (∀ q : Nat, q < H.size → ¬ A1 q → H1[q]? = H[q]?) → va_S A0 H0 H1 locs1 → W p l e R s m args below meth c H1 locs1 (cells + mc) (slots + ms) Q (F0 m (pc + 3) ls (rest))) : W p l e R s m args below meth c H locs cells slots Q (F0 m pc ls st0) := by
  intro T hT X
  rcases hr T hT X with ⟨v, st₀, t, T', L, h0, X', hL, e1, e2, ⟨⟨u, hv, hp, hb⟩, hF⟩, st⟩ | ⟨q, st₀, t, T', L, E, ce, h0, X', hL, e1, e2, ⟨u, hp, hb, hF⟩, hce, hcv, hcl, st⟩
  · cases hv
    obtain ⟨k1, k2, k3⟩ := vx_keep h0 e1 hS hA hf hL hF
    obtain ⟨t2, a1, b1⟩ := kk u t T'.heap (locs ++ L) e1.symm (by rw [← e2]; exact X'.warmed.alike) hp hb k1 k2 k3 T' rfl X'
    exact ⟨t2, st t2 a1, b1⟩
  · obtain ⟨k1, k2, k3⟩ := vx_keep h0 e1 hS hAX hf hL hF
    obtain ⟨t2, a1, b1⟩ := kx E ce q u t T'.heap (locs ++ L) e1.symm (by rw [← e2]; exact X'.warmed.alike) hp hb k1 k2 k3 (by rw [e1]; exact hce) hcv hcl T' rfl X'
    exact ⟨t2, st.trans a1, b1⟩
/-- caught by the row x of this method's table; the rows ahead don't take it -/
theorem vx_catch {own name : String} {E : String} {ce : Cell} {q : Addr} (hown : s.vm.findClass own = some m.cls) (pre : List ExceptionTableEntry) (x : ExceptionTableEntry) (suf : List ExceptionTableEntry) (hsplit : c.exceptionTable.toList = pre ++ x :: suf)
    (hpass : ∀ z ∈ pre, covers z pc = false ∨ (z.catchType ≠ 0 ∧ ∃ nm : String, (Cond.classLink own z.catchType nm).before args s = true ∧ va_Nc E nm s)) (hx : covers x pc = true) (h0 : x.catchType ≠ 0)
    (hlink : (Cond.classLink own x.catchType name).before args s = true) (hcast : (Cond.castable E name).before args s = true) (hcell : H[q]? = some ce) (hv : ce.vm = .none) (hcl : s.vm.findClass E = some ce.cls)
    (kk : W p l e R s m args below meth c H locs cells slots Q (F0 m x.handlerPc ls [.ref q])) : vx_W p l e R s m args below meth c H locs cells slots Q (F0 m pc ls rest) q := by
  intro T hT X
  have hpl : e.platform.magicAccessors = ({} : Platform).magicAccessors := by rw [X.admits.platform]
  obtain ⟨c3, c4, hc3, hc4, hasg⟩ := Cond.castable_spec hcast
  cases Option.some.inj (hc3.symm.trans hcl)
  obtain ⟨c5, hc5, hcl5⟩ := Cond.classLink_spec hown hlink e.platform hpl
  cases Option.some.inj (hc4.symm.trans hc5)
  obtain ⟨vm', X', st⟩ := X.thenCaughtThrough q (g := F0 m pc ls rest) rfl (Steps.refl _) (by rw [hT]; exact hcell) (by rw [hv]; rfl) (by obtain ⟨k9, h9, -⟩ := Vm.findClass_spec hcl; exact ⟨k9, h9⟩) pre x suf hsplit
    (fun z hz => by
      rcases hpass z hz with h | ⟨hz0, nm, hl1, hn1⟩
      · exact Or.inl h
      · obtain ⟨c6, hc6, hcl6⟩ := Cond.classLink_spec hown hl1 e.platform hpl
        obtain ⟨a8, b8, h1, h2, h3⟩ := hn1
        cases Option.some.inj (h1.symm.trans hcl)
        cases Option.some.inj (h2.symm.trans hc6)
        exact Or.inr ⟨hz0, _, hcl6, h3⟩) hx (Or.inr ⟨h0, c4, hcl5, hasg⟩)
  obtain ⟨t, a1, b1⟩ := kk (T.setVm vm') hT X'
  exact ⟨t, st.trans a1, b1⟩
end Rows
section Ends
variable {p : Program} {l : Launch} {e : Env} {R : Room} {s : State} {m : MethodId} {args : Array Value} {below : List Frame} {meth : Method} {c : Code} {H : Heap} {locs : List Loc} {cells slots : Nat} {Q : State → Prop}
variable {mc ms : Nat} {free : Addr → Prop} {A0 A1 : Nat → Prop} {H0 : Heap} {a : Array Value} {ls : Array Slot} {st0 rest : List Value}
variable {Qc : Array Value → State → Outcome → State → Prop} {XC : String → State → State → Prop}
/-- what a body that may throw owes at its end -/
def vx_MQ (below : List Frame) (Qc : Array Value → State → Outcome → State → Prop) (XC : String → State → State → Prop) (a : Array Value) (s : State) (mc ms : Nat) (free : Addr → Prop) : State → Prop := fun t =>
  ∃ o, t.status = .running ∧ Ended t below o ∧ vx_Q Qc XC mc ms free a s o t
theorem vx_ret {g : JFrame} {mc ms : Nat} (k : W p l e R s m args below meth c H locs cells slots (MQ below Qc args s mc ms free) g) : W p l e R s m args below meth c H locs cells slots (vx_MQ below Qc XC args s mc ms free) g := by
  intro T hT X
  obtain ⟨t, a1, o, b1, b2, b3, b4⟩ := k T hT X
  exact ⟨t, a1, o, b1, b2, Or.inl ⟨b3, b4⟩⟩
/-- not caught here: it goes on to the caller -/
theorem vx_widen {g : JFrame} {q : Addr} {k n : Nat} (h1 : cells ≤ k) (h2 : slots ≤ n) (kk : vx_W p l e R s m args below meth c H locs k n Q g q) : vx_W p l e R s m args below meth c H locs cells slots Q g q := fun T hT X => kk T hT (stand_widen X h1 h2)
theorem vx_out {pc : Nat} {E : String} {ce : Cell} {q : Addr} {mc ms : Nat} (hout : ∀ x ∈ c.exceptionTable.toList, covers x pc = false) (hlocks : meth.locks = false) (hcell : H[q]? = some ce) (hv : ce.vm = .none) (hcl : s.vm.findClass E = some ce.cls)
    (hx : ∀ t : State, t.heap = H → s.vm.Alike t.vm → XC E s t) (hf : ∀ z ∈ locs, free z.base) (hc : cells ≤ mc) (hs : slots ≤ ms) :
    vx_W p l e R s m args below meth c H locs cells slots (vx_MQ below Qc XC args s mc ms free) (F0 m pc ls rest) q := by
  intro T hT X
  obtain ⟨st1, hrun, hend, hW, hsm⟩ := X.leaveThrown q (g := F0 m pc ls rest) rfl rfl rfl hout hlocks
  have hcell9 : (T.setFrames (.throwing q :: below)).heap[q]? = some ce := by
    show T.heap[q]? = some ce
    rw [hT]; exact hcell
  exact ⟨_, st1, .threw q, hrun, hend, Or.inr ⟨q, rfl, E, ce, locs, hx _ hT hW.alike, hcell9, hv, hcl, hW, hsm.mono hc hs, hf⟩⟩
theorem vx_frame {U : State} {k n : Nat} (h : s.sameButNew ({ U with vm := s.vm } : State) locs k n) : s.heap.size ≤ U.heap.size ∧ ∀ q : Nat, q < s.heap.size → (∀ z ∈ locs, z.base ≠ q) → U.heap[q]? = s.heap[q]? := by
  obtain ⟨-, h2, -, -, -, h6⟩ := h
  refine ⟨h2, fun q hq hz => ?_⟩
  obtain ⟨c9, e1, e2, e3, e4⟩ := h6 q _ (Array.getElem?_eq_getElem hq)
  have hs : c9.slots = (s.heap[q]).slots := Array.ext_getElem? fun i => e4 i fun hm => hz _ hm rfl
  have h9 : c9 = s.heap[q] := by
    rw [hs] at e2
    exact e2
  have e5 : U.heap[q]? = some c9 := e1
  rw [e5, h9, Array.getElem?_eq_getElem hq]
/-- the words of a throw but the four that speak of the heap -/
def vx_no (w : Cond) : Bool := decide (w ≠ .isRef (.static Bundle.tN "UNASSIGNED_STACK" Bundle.steD)) && decide (w ≠ .isRef (.static Bundle.tN "SUPPRESSED_SENTINEL" Bundle.listD)) && decide (w ≠ .laysStatic Bundle.tN "UNASSIGNED_STACK" Bundle.steD) && decide (w ≠ .laysStatic Bundle.tN "SUPPRESSED_SENTINEL" Bundle.listD)
def vx_at0 (own : String) (ic : Nat) (X : String) (names : List String) : List Cond := (Bundle.ownAtoms0 own ic X names).filter vx_no
def vx_atS (own : String) (ic : Nat) (X : String) (names : List String) : List Cond := (Bundle.ownAtoms own ic X names).filter vx_no
/-- a word that the tables alone decide, or a good one -/
def vx_ot (w : Cond) : Bool := w.onTables || goodWord w
theorem vx_ot_at {args a' : Array Value} {s U : State} {w : Cond} (hW : s.WarmedH U.vm) (hvm : s.vm = U.vm) (hg : vx_ot w = true) (h : w.before args s = true) : w.before a' U = true := by
  simp only [vx_ot, Bool.or_eq_true] at hg
  rcases hg with hg | hg
  · exact va_tabs hg hvm h
  · exact word_at hW (good_of_word hg) h
/-- a list's words: the good ones out of the method's own list, the others by premises of their own -/
theorem vx_hat {args : Array Value} {s : State} {L B : List Cond} (h1 : ∀ w ∈ L.filter goodWord, w.before args s = true) (h2 : ∀ w ∈ L.filter (fun w => !goodWord w), w ∈ B) (h3 : ∀ w ∈ B, w.before args s = true) : ∀ w ∈ L, w.before args s = true := by
  intro w hw
  by_cases g : goodWord w = true
  · exact h1 w (List.mem_filter.mpr ⟨hw, g⟩)
  · refine h3 w (h2 w (List.mem_filter.mpr ⟨hw, ?_⟩))
    show (!goodWord w) = true
    cases hgw : goodWord w
    · rfl
    · exact absurd hgw g
theorem vx_c {args : Array Value} {s : State} {w : Cond} {B : List Cond} (h : w.before args s = true) (t : ∀ w ∈ B, w.before args s = true) : ∀ w' ∈ w :: B, w'.before args s = true := fun w' h' => (List.mem_cons.mp h').elim (fun e => by rw [e]; exact h) (t w')
theorem vx_n {args : Array Value} {s : State} : ∀ w ∈ ([] : List Cond), w.before args s = true := fun _ h => nomatch h
theorem vx_own {args : Array Value} {s : State} {L : List Cond} (h1 : ∀ w ∈ L.filter vx_no, w.before args s = true)
    (hU : (Cond.isRef (.static Bundle.tN "UNASSIGNED_STACK" Bundle.steD)).before args s = true) (hN : (Cond.isRef (.static Bundle.tN "SUPPRESSED_SENTINEL" Bundle.listD)).before args s = true)
    (lU : (Cond.laysStatic Bundle.tN "UNASSIGNED_STACK" Bundle.steD).before args s = true) (lN : (Cond.laysStatic Bundle.tN "SUPPRESSED_SENTINEL" Bundle.listD).before args s = true) : ∀ w ∈ L, w.before args s = true := by
  intro w hw
  by_cases e1 : w = .isRef (.static Bundle.tN "UNASSIGNED_STACK" Bundle.steD)
  · rw [e1]; exact hU
  · by_cases e2 : w = .isRef (.static Bundle.tN "SUPPRESSED_SENTINEL" Bundle.listD)
    · rw [e2]; exact hN
    · by_cases e3 : w = .laysStatic Bundle.tN "UNASSIGNED_STACK" Bundle.steD
      · rw [e3]; exact lU
      · by_cases e4 : w = .laysStatic Bundle.tN "SUPPRESSED_SENTINEL" Bundle.listD
        · rw [e4]; exact lN
        · exact h1 w (List.mem_filter.mpr ⟨hw, by unfold vx_no; rw [decide_eq_true e1, decide_eq_true e2, decide_eq_true e3, decide_eq_true e4]; rfl⟩)
/-- where a static field lies, its class's statics cell in H -/
def vx_L (C n d : String) (A : Nat → Prop) (U : State) (H : Heap) : Prop := ∃ (c : ClassId) (k : Class) (i : Nat) (f : Field) (a : Nat) (cell : Cell), U.vm.findClass C = some c ∧ U.fieldFound? C n d = some (c, k, i, f) ∧ f.isStatic = true ∧ k.statics = some a ∧ H[a]? = some cell ∧ cell.vm.isStatics = true ∧ cell.cls = c ∧ f.slot < cell.slots.size ∧ k.staticTypes[f.slot]? = some f.type ∧ ¬ A a
theorem vx_L.moved {C n d : String} {A : Nat → Prop} {u U : State} {H : Heap} (hvm : u.vm.Alike U.vm) (h : vx_L C n d A u H) : vx_L C n d A U H := by
  obtain ⟨c, k, i, f, a, cell, h1, h2, h3, h4, h5, h6, h7, h8, h9, h10⟩ := h
  obtain ⟨k', hi', he⟩ := State.fieldFound?_setVm hvm h2
  exact ⟨c, k', i, f, a, cell, by rw [hvm.findClass]; exact h1, hi', h3, by rw [he]; exact h4, h5, h6, h7, h8, by rw [he]; exact h9, h10⟩
theorem vx_L.kept {C n d : String} {A : Nat → Prop} {U : State} {H H1 : Heap} (h : vx_L C n d A U H) (hq : ∀ a : Nat, a < H.size → ¬ A a → H1[a]? = H[a]?) : vx_L C n d A U H1 := by
  obtain ⟨c, k, i, f, a, cell, h1, h2, h3, h4, h5, h6, h7, h8, h9, h10⟩ := h
  exact ⟨c, k, i, f, a, cell, h1, h2, h3, h4, by rw [hq a (Array.getElem?_eq_some_iff.mp h5).1 h10]; exact h5, h6, h7, h8, h9, h10⟩
theorem vx_L.narrow {C n d : String} {A B : Nat → Prop} {U : State} {H : Heap} (h : vx_L C n d A U H) (hAB : ∀ q, B q → A q) : vx_L C n d B U H := by
  obtain ⟨c, k, i, f, a, cell, h1, h2, h3, h4, h5, h6, h7, h8, h9, h10⟩ := h
  exact ⟨c, k, i, f, a, cell, h1, h2, h3, h4, h5, h6, h7, h8, h9, fun z => h10 (hAB _ z)⟩
theorem vx_L.word {C n d : String} {A : Nat → Prop} {s : State} {args : Array Value} (h : vx_L C n d A s s.heap) : (Cond.laysStatic C n d).before args s = true := by
  obtain ⟨c, k, i, f, a, cell, h1, h2, h3, h4, h5, h6, h7, h8, h9, -⟩ := h
  show (Cond.laysStatic C n d).holds args s none s [] = true
  exact Cond.laysStatic_of h1 h2 h3 h4 h5 h6 h7 h8 h9
/-- .. and what it holds: null or some reference -/
def vx_Zq (C n d : String) (A : Nat → Prop) (U : State) (H : Heap) : Prop := va_Zq C n d A U H ∧ vx_L C n d A U H
theorem vx_Zq.moved {C n d : String} {A : Nat → Prop} {u U : State} {H : Heap} (hvm : u.vm.Alike U.vm) (h : vx_Zq C n d A u H) : vx_Zq C n d A U H := ⟨va_Zq.moved hvm h.1, vx_L.moved hvm h.2⟩
theorem vx_Zq.kept {C n d : String} {A : Nat → Prop} {U : State} {H H1 : Heap} (h : vx_Zq C n d A U H) (hq : ∀ a : Nat, a < H.size → ¬ A a → H1[a]? = H[a]?) : vx_Zq C n d A U H1 := ⟨va_Zq.kept h.1 hq, vx_L.kept h.2 hq⟩
theorem vx_Zq.narrow {C n d : String} {A B : Nat → Prop} {U : State} {H : Heap} (h : vx_Zq C n d A U H) (hAB : ∀ q, B q → A q) : vx_Zq C n d B U H := ⟨va_Zq.narrow h.1 hAB, vx_L.narrow h.2 hAB⟩
theorem vx_Zqof {args : Array Value} {s : State} {C n d : String} {A : Nat → Prop} (hl : (Cond.laysStatic C n d).before args s = true) (hini : (Cond.initialized C).before args s = true) (h : (Cond.isRef (.static C n d)).before args s = true) (hA : ∀ a : Nat, a < s.heap.size → ¬ A a) : vx_Zq C n d A s s.heap := by
  refine ⟨va_Zqof hl hini h hA, ?_⟩
  obtain ⟨c, k, i, f, a, cell, h1, h2, h3, h4, h5, h6, h7, h8, h9⟩ := Cond.laysStatic_spec hl
  exact ⟨c, k, i, f, a, cell, h1, h2, h3, h4, h5, h6, h7, h8, h9, hA a (Array.getElem?_eq_some_iff.mp h5).1⟩
theorem vx_isRef {C n d : String} {v : Value} {A : Nat → Prop} {s : State} {args : Array Value} (h : va_Z C n d v A s s.heap) (hv : v.isRef = true) : (Cond.isRef (.static C n d)).before args s = true := by
  obtain ⟨cf, kf, fi, f, a, cell, h1, h2, h3, h4, h5, h6, h7, -⟩ := h
  have he : (Term.static C n d).eval args s none [] s = some v := by
    simp [Term.eval, State.fieldNamed?, h1, h2, h4, h5, h6, h7]
  simp only [Cond.before, Cond.holds, Cond.value, he]
  cases v <;> simp_all [Value.isRef]
theorem vx_isRefq {C n d : String} {A : Nat → Prop} {s : State} {args : Array Value} (h : va_Zq C n d A s s.heap) : (Cond.isRef (.static C n d)).before args s = true := by
  rcases h with h | ⟨t, h⟩
  · exact vx_isRef h rfl
  · exact vx_isRef h rfl
/-- the same frame, seen from here: as if the method were called anew in this heap -/
theorem vx_rebase {T : State} (X : Stand p l e R s m args below meth c T locs cells slots) {R' : Room} (hf : R'.frames ≤ R.frames) (hl : R'.locals ≤ R.locals) (hc : cells + R'.cells ≤ R.cells) (hs : slots + R'.slots ≤ R.slots) :
    Stand p l e R' ((T.setVm s.vm).setFrames (.invoking m args :: below)) m args below meth c T [] 0 0 := by
  have htop : (T.setVm s.vm).topJava?.isSome := X.here.top
  have hF : ((T.setVm s.vm).setFrames (.invoking m args :: below)).frames = .invoking m args :: below := State.frames_setFrames _ (State.cur_lt_of_top htop)
  obtain ⟨g₀, hg0⟩ := Option.isSome_iff_exists.mp htop
  obtain ⟨r, hr⟩ := State.topJava?_eq_some.mp hg0
  have hl9 : e.platform.stackLimits (T.setVm s.vm).me = e.platform.stackLimits s.me := X.limits
  have hb9 : (T.setVm s.vm).me.stackBytes = s.me.stackBytes := X.bytes
  refine ⟨X.admits, X.cas, X.clock, hF, ?_, X.hears, X.method, X.code, X.here, X.tail, X.warmed, ?_, ?_, ?_⟩
  · have h := X.room
    have hU : ((T.setVm s.vm).setFrames (.invoking m args :: below)).localsInUse = s.localsInUse := by
      rw [State.localsInUse_invoking hF (meth := meth) (c := c) X.method X.code, State.localsInUse_invoking X.frames X.method X.code]
    simp only [State.hasRoom, Bool.and_eq_true, decide_eq_true_eq] at h ⊢
    obtain ⟨⟨⟨⟨h1, h2, h3, h4, h5, h6⟩, h7⟩, h8⟩, h9⟩ := h
    rw [X.frames, List.length_cons] at h2 h3
    have q1 := X.heapSize
    have q2 := X.used
    simp only [hF, hU, List.length_cons, State.stackLimits_setFrames, State.stackBytes_setFrames, hl9, hb9]
    refine ⟨⟨⟨⟨by omega, by omega, by omega, by omega, by omega, h6⟩, ?_⟩, ?_⟩, X.book⟩
    · show T.heap.size + R'.cells ≤ e.platform.maxCells
      omega
    · show T.slotsUsed + R'.slots ≤ e.platform.maxSlots
      omega
  · rw [State.stackLimits_setFrames]; rfl
  · rw [State.stackBytes_setFrames]; rfl
  · refine ⟨?_, Nat.le_refl _, Nat.le_refl _, ?_, ?_, fun a c9 h9 => ⟨c9, h9, rfl, rfl, fun _ _ => rfl⟩⟩
    · obtain ⟨t, ht, -⟩ := State.frames_cons hr
      show T.setVm s.vm = { ((T.setVm s.vm).setFrames (.invoking m args :: below)).setFrames (T.setVm s.vm).frames with heap := T.heap, slotsUsed := T.slotsUsed }
      rw [State.setFrames_setFrames, State.setFrames_self ht]
      rfl
    · show T.slotsUsed = T.slotsUsed + ((T.heap.toList.drop T.heap.size).map (·.slots.size)).sum
      rw [List.drop_eq_nil_of_le (Nat.le_of_eq Array.length_toList)]
      rfl
    · show ((T.heap.toList.drop T.heap.size).map (·.slots.size)).sum ≤ 0
      rw [List.drop_eq_nil_of_le (Nat.le_of_eq Array.length_toList)]
      exact Nat.le_refl _
/-- 'throw new E()': new; dup; invokespecial; athrow -/
theorem vx_throw0 {cc : ByteArray} {pc : Nat} (hexec : p.tables.exec = Jvm.exec) (hb : c.code = cc) (hl : l.stackTraces = false) {own cls : String} {names : List String} {ik ic mc ms : Nat} {A : Nat → Prop}
    (hown : s.vm.findClass own = some m.cls) (hcls : Bundle.fit cls = true) (hnames : ∀ n ∈ names, Bundle.fit n = true)
    (hk : (Cond.classLink own ik cls).before args s = true) (hini : (Cond.initialized cls).before args s = true) (hat : ∀ w ∈ vx_at0 own ic cls names, w.before args s = true)
    (hgood : ∀ w ∈ Cond.classLink own ik cls :: Cond.initialized cls :: vx_at0 own ic cls names, vx_ot w = true)
    (hU : vx_Zq Bundle.tN "UNASSIGNED_STACK" Bundle.steD A s s.heap) (hN : vx_Zq Bundle.tN "SUPPRESSED_SENTINEL" Bundle.listD A s s.heap) (hS : va_S A s.heap H locs) (hsize : ls.size = c.maxLocals)
    (d0 : decode cc pc = .ok (.new ik, 3)) (d3 : decode cc (pc + 3) = .ok (.dup, 1)) (d4 : decode cc (pc + 4) = .ok (.invokespecial ic, 3)) (d7 : decode cc (pc + 7) = .ok (.athrow, 1))
    (hout : ∀ x ∈ c.exceptionTable.toList, covers x (pc + 7) = false)
    (hRframes : names.length + 3 < R.frames) (hRlocals : (rest.map fun v => v.category).sum + (13 * (names.length + 1) + 42) ≤ R.locals) (hRcells : cells + 1 ≤ R.cells) (hRslots : slots + 6 ≤ R.slots) (hlocks : meth.locks = false)
    (hx : ∀ t : State, s.vm.Alike t.vm → H.size ≤ t.heap.size → (∀ q : Nat, q < H.size → t.heap[q]? = H[q]?) → XC cls s t)
    (hf : ∀ z ∈ locs, free z.base) (hc : cells + 1 ≤ mc) (hs : slots + 6 ≤ ms) :
    W p l e R s m args below meth c H locs cells slots (vx_MQ below Qc XC args s mc ms free) (F0 m pc ls rest) := by
  intro T hT X
  have htr : e.platform.stackTraces = false := (show e.platform.stackTraces = l.stackTraces by rw [X.admits.platform]).trans hl
  have Y := vx_rebase X (R' := { frames := R.frames, locals := R.locals, cells := 1, slots := 6 }) (Nat.le_refl _) (Nat.le_refl _) hRcells hRslots
  obtain ⟨s', hA⟩ : ∃ z, z = (T.setVm s.vm).setFrames (.invoking m args :: below) := ⟨_, rfl⟩
  rw [← hA] at Y
  have hvm : s'.vm = s.vm := by rw [hA]; rfl
  have hhp : s'.heap = H := by rw [hA]; exact hT
  have hW0 : s.WarmedH s'.vm := by rw [hvm]; exact State.WarmedH.refl s
  have hat' : ∀ w ∈ vx_at0 own ic cls names, w.before args s' = true := fun w hw => vx_ot_at hW0 hvm.symm (hgood w (List.mem_cons_of_mem _ (List.mem_cons_of_mem _ hw))) (hat w hw)
  have hk' : (Cond.classLink own ik cls).before args s' = true := vx_ot_at hW0 hvm.symm (hgood _ List.mem_cons_self) hk
  have hini' : (Cond.initialized cls).before args s' = true := vx_ot_at hW0 hvm.symm (hgood _ (List.mem_cons_of_mem _ List.mem_cons_self)) hini
  have hU' : vx_Zq Bundle.tN "UNASSIGNED_STACK" Bundle.steD A s' s'.heap := by rw [hhp]; exact vx_Zq.moved hW0.alike (hU.kept hS.2.1)
  have hN' : vx_Zq Bundle.tN "SUPPRESSED_SENTINEL" Bundle.listD A s' s'.heap := by rw [hhp]; exact vx_Zq.moved hW0.alike (hN.kept hS.2.1)
  have h : ∀ w ∈ Bundle.ownAtoms0 own ic cls names, w.before args s' = true := vx_own hat' (vx_isRefq hU'.1) (vx_isRefq hN'.1) hU'.2.word hN'.2.word
  have hown' : s'.vm.findClass own = some m.cls := by rw [hvm]; exact hown
  have hins : (Cond.instantiable cls 6).before args s' = true := h _ (by simp [Bundle.ownAtoms0])
  obtain ⟨vm₁, cX, kX, hfX, hkX, -, -, X₁, st1⟩ := Y.newCold hexec (own := own) (C := cls) (index := ik) (n := 6) hown' hk' hins hini'
    (g := F0 m pc ls rest) rfl (by rw [hb]; exact d0) (Nat.le_refl _) (Nat.le_refl _)
  generalize hT1 : (T.setVm vm₁).pushCell { cls := cX, slots := kX.instanceTypes.map defaultValue, vm := .none } = T1 at X₁ st1
  have hcat : (Value.ref T.heap.size).category = 1 := rfl
  have hcellA : T1.heap[T.heap.size]? = some (freshCell cX kX) := by rw [← hT1]; exact State.heap_pushCell_size _ _
  have d3' : decode c.code (pc + 3) = .ok (.dup, 1) := by rw [hb]; exact d3
  obtain ⟨U, hsteps, hrun, hend, hW, hsame, ce, hce, hO⟩ := X₁.ctorThrow0 hexec htr (own := own) (cls := cls) (names := names) (ic := ic) hown' hcls hnames h (fun x hx => nomatch hx) hfX hkX hcellA (by rw [hhp, hT]; exact Nat.le_refl _)
    (g := { method := m, pc := pc + 4, locals := ls, stack := .ref T.heap.size :: .ref T.heap.size :: rest, locked := none }) rfl hsize rfl rfl (rest := rest) rfl
    (by rw [hb]; exact d4) (by rw [hb]; exact d7) hout hRframes (by simp only [List.map_cons, List.sum_cons, hcat]; omega) hlocks
  obtain ⟨f1, f2⟩ := vx_frame hsame
  rw [hhp] at f1 f2
  have hWs : s.WarmedH U.vm := State.WarmedH.trans hW0 hW
  have hcl : s.vm.findClass cls = some ce.cls := by
    have h9 := hO.cls
    rw [hvm] at h9
    exact h9
  have hall : s.sameButNew ({ U with vm := s.vm } : State) locs mc ms := by
    subst hA
    obtain ⟨e1, e2⟩ := hsame
    rw [State.setFrames_setFrames] at e1
    have h2 : (T.setVm s.vm).sameButNew ({ U with vm := s.vm } : State) [] (0 + 1) (0 + 6) := ⟨e1, e2⟩
    have h3 := X.same.trans h2
    rw [List.append_nil] at h3
    exact h3.mono hc hs
  refine ⟨U, ?_, .threw T.heap.size, hrun, hend, Or.inr ⟨T.heap.size, rfl, cls, ce, locs, hx U hWs.alike f1 (fun q hq => f2 q hq (fun z hz => nomatch hz)), hce, hO.vm, hcl, hWs, hall, hf⟩⟩
  refine st1 _ ?_
  show Steps p.tables e below (T1.setTop { method := m, pc := pc + 3, locals := ls, stack := .ref T.heap.size :: rest, locked := none }) _
  jvm_step X₁.here [X₁.here.top, hexec, d3', Value.category]
  exact hsteps
/-- 'throw new E("text")': new; dup; ldc; invokespecial; athrow -/
theorem vx_throwS {cc : ByteArray} {pc : Nat} (hexec : p.tables.exec = Jvm.exec) (hb : c.code = cc) (hl : l.stackTraces = false) {own cls text : String} {names : List String} {ik is ic mc ms sa : Nat} {A : Nat → Prop}
    (hown : s.vm.findClass own = some m.cls) (hcls : Bundle.fit cls = true) (hnames : ∀ n ∈ names, Bundle.fit n = true)
    (hk : (Cond.classLink own ik cls).before args s = true) (hini : (Cond.initialized cls).before args s = true) (hstr : vk_R own is text sa s) (hat : ∀ w ∈ vx_atS own ic cls names, w.before args s = true)
    (hgood : ∀ w ∈ Cond.classLink own ik cls :: Cond.initialized cls :: vx_atS own ic cls names, vx_ot w = true)
    (hU : vx_Zq Bundle.tN "UNASSIGNED_STACK" Bundle.steD A s s.heap) (hN : vx_Zq Bundle.tN "SUPPRESSED_SENTINEL" Bundle.listD A s s.heap) (hS : va_S A s.heap H locs) (hsize : ls.size = c.maxLocals)
    (d0 : decode cc pc = .ok (.new ik, 3)) (d3 : decode cc (pc + 3) = .ok (.dup, 1)) (d4 : decode cc (pc + 4) = .ok (.ldc is, 2)) (d6 : decode cc (pc + 6) = .ok (.invokespecial ic, 3)) (d9 : decode cc (pc + 9) = .ok (.athrow, 1))
    (hout : ∀ x ∈ c.exceptionTable.toList, covers x (pc + 9) = false)
    (hRframes : names.length + 3 < R.frames) (hRlocals : (rest.map fun v => v.category).sum + (13 * (names.length + 1) + 43) ≤ R.locals) (hRcells : cells + 1 ≤ R.cells) (hRslots : slots + 6 ≤ R.slots) (hlocks : meth.locks = false)
    (hx : ∀ t : State, s.vm.Alike t.vm → H.size ≤ t.heap.size → (∀ q : Nat, q < H.size → t.heap[q]? = H[q]?) → XC cls s t)
    (hf : ∀ z ∈ locs, free z.base) (hc : cells + 1 ≤ mc) (hs : slots + 6 ≤ ms) :
    W p l e R s m args below meth c H locs cells slots (vx_MQ below Qc XC args s mc ms free) (F0 m pc ls rest) := by
  intro T hT X
  have htr : e.platform.stackTraces = false := (show e.platform.stackTraces = l.stackTraces by rw [X.admits.platform]).trans hl
  have Y := vx_rebase X (R' := { frames := R.frames, locals := R.locals, cells := 1, slots := 6 }) (Nat.le_refl _) (Nat.le_refl _) hRcells hRslots
  obtain ⟨s', hA⟩ : ∃ z, z = (T.setVm s.vm).setFrames (.invoking m args :: below) := ⟨_, rfl⟩
  rw [← hA] at Y
  have hvm : s'.vm = s.vm := by rw [hA]; rfl
  have hhp : s'.heap = H := by rw [hA]; exact hT
  have hW0 : s.WarmedH s'.vm := by rw [hvm]; exact State.WarmedH.refl s
  have hat' : ∀ w ∈ vx_atS own ic cls names, w.before args s' = true := fun w hw => vx_ot_at hW0 hvm.symm (hgood w (List.mem_cons_of_mem _ (List.mem_cons_of_mem _ hw))) (hat w hw)
  have hk' : (Cond.classLink own ik cls).before args s' = true := vx_ot_at hW0 hvm.symm (hgood _ List.mem_cons_self) hk
  have hini' : (Cond.initialized cls).before args s' = true := vx_ot_at hW0 hvm.symm (hgood _ (List.mem_cons_of_mem _ List.mem_cons_self)) hini
  have hU' : vx_Zq Bundle.tN "UNASSIGNED_STACK" Bundle.steD A s' s'.heap := by rw [hhp]; exact vx_Zq.moved hW0.alike (hU.kept hS.2.1)
  have hN' : vx_Zq Bundle.tN "SUPPRESSED_SENTINEL" Bundle.listD A s' s'.heap := by rw [hhp]; exact vx_Zq.moved hW0.alike (hN.kept hS.2.1)
  have h : ∀ w ∈ Bundle.ownAtoms own ic cls names, w.before args s' = true := vx_own hat' (vx_isRefq hU'.1) (vx_isRefq hN'.1) hU'.2.word hN'.2.word
  have hown' : s'.vm.findClass own = some m.cls := by rw [hvm]; exact hown
  have hins : (Cond.instantiable cls 6).before args s' = true := h _ (by simp [Bundle.ownAtoms])
  obtain ⟨vm₁, cX, kX, hfX, hkX, -, -, X₁, st1⟩ := Y.newCold hexec (own := own) (C := cls) (index := ik) (n := 6) hown' hk' hins hini'
    (g := F0 m pc ls rest) rfl (by rw [hb]; exact d0) (Nat.le_refl _) (Nat.le_refl _)
  generalize hT1 : (T.setVm vm₁).pushCell { cls := cX, slots := kX.instanceTypes.map defaultValue, vm := .none } = T1 at X₁ st1
  have hcat : (Value.ref T.heap.size).category = 1 := rfl
  have hcellA : T1.heap[T.heap.size]? = some (freshCell cX kX) := by rw [← hT1]; exact State.heap_pushCell_size _ _
  have d3' : decode c.code (pc + 3) = .ok (.dup, 1) := by rw [hb]; exact d3
  have d4' : decode c.code (pc + 4) = .ok (.ldc is, 2) := by rw [hb]; exact d4
  have hstr' : vk_R own is text sa s' := vk_R.warm hW0 hstr
  obtain ⟨U, hsteps, hrun, hend, hW, hsame, ce, hce, hO⟩ := X₁.ctorThrowS hexec htr (own := own) (cls := cls) (names := names) (ic := ic) hown' hcls hnames h (fun x hx => nomatch hx) hfX hkX hcellA (by rw [hhp, hT]; exact Nat.le_refl _) (msg := .ref sa) rfl
    (g := { method := m, pc := pc + 6, locals := ls, stack := .ref sa :: .ref T.heap.size :: .ref T.heap.size :: rest, locked := none }) rfl hsize rfl rfl (rest := rest) rfl
    (by rw [hb]; exact d6) (by rw [hb]; exact d9) hout hRframes (by simp only [List.map_cons, List.sum_cons, hcat]; omega) hlocks
  obtain ⟨f1, f2⟩ := vx_frame hsame
  rw [hhp] at f1 f2
  have hWs : s.WarmedH U.vm := State.WarmedH.trans hW0 hW
  have hcl : s.vm.findClass cls = some ce.cls := by
    have h9 := hO.cls
    rw [hvm] at h9
    exact h9
  have hall : s.sameButNew ({ U with vm := s.vm } : State) locs mc ms := by
    subst hA
    obtain ⟨e1, e2⟩ := hsame
    rw [State.setFrames_setFrames] at e1
    have h2 : (T.setVm s.vm).sameButNew ({ U with vm := s.vm } : State) [] (0 + 1) (0 + 6) := ⟨e1, e2⟩
    have h3 := X.same.trans h2
    rw [List.append_nil] at h3
    exact h3.mono hc hs
  refine ⟨U, ?_, .threw T.heap.size, hrun, hend, Or.inr ⟨T.heap.size, rfl, cls, ce, locs, hx U hWs.alike f1 (fun q hq => f2 q hq (fun z hz => nomatch hz)), hce, hO.vm, hcl, hWs, hall, hf⟩⟩
  refine st1 _ ?_
  show Steps p.tables e below (T1.setTop { method := m, pc := pc + 3, locals := ls, stack := .ref T.heap.size :: rest, locked := none }) _
  jvm_step X₁.here [X₁.here.top, hexec, d3', Value.category]
  exact X₁.ldcString hexec (own := own) (text := text) (index := is) (a := sa) hown' hstr'.1 hstr'.2
    (g := { method := m, pc := pc + 4, locals := ls, stack := .ref T.heap.size :: .ref T.heap.size :: rest, locked := none }) rfl d4' _ hsteps
/-- 'throw new E("text")', the text by a wide index -/
theorem vx_throwSW {cc : ByteArray} {pc : Nat} (hexec : p.tables.exec = Jvm.exec) (hb : c.code = cc) (hl : l.stackTraces = false) {own cls text : String} {names : List String} {ik is ic mc ms sa : Nat} {A : Nat → Prop}
    (hown : s.vm.findClass own = some m.cls) (hcls : Bundle.fit cls = true) (hnames : ∀ n ∈ names, Bundle.fit n = true)
    (hk : (Cond.classLink own ik cls).before args s = true) (hini : (Cond.initialized cls).before args s = true) (hstr : vk_R own is text sa s) (hat : ∀ w ∈ vx_atS own ic cls names, w.before args s = true)
    (hgood : ∀ w ∈ Cond.classLink own ik cls :: Cond.initialized cls :: vx_atS own ic cls names, vx_ot w = true)
    (hU : vx_Zq Bundle.tN "UNASSIGNED_STACK" Bundle.steD A s s.heap) (hN : vx_Zq Bundle.tN "SUPPRESSED_SENTINEL" Bundle.listD A s s.heap) (hS : va_S A s.heap H locs) (hsize : ls.size = c.maxLocals)
    (d0 : decode cc pc = .ok (.new ik, 3)) (d3 : decode cc (pc + 3) = .ok (.dup, 1)) (d4 : decode cc (pc + 4) = .ok (.ldc_w is, 3)) (d7 : decode cc (pc + 7) = .ok (.invokespecial ic, 3)) (d10 : decode cc (pc + 10) = .ok (.athrow, 1))
    (hout : ∀ x ∈ c.exceptionTable.toList, covers x (pc + 10) = false)
    (hRframes : names.length + 3 < R.frames) (hRlocals : (rest.map fun v => v.category).sum + (13 * (names.length + 1) + 43) ≤ R.locals) (hRcells : cells + 1 ≤ R.cells) (hRslots : slots + 6 ≤ R.slots) (hlocks : meth.locks = false)
    (hx : ∀ t : State, s.vm.Alike t.vm → H.size ≤ t.heap.size → (∀ q : Nat, q < H.size → t.heap[q]? = H[q]?) → XC cls s t)
    (hf : ∀ z ∈ locs, free z.base) (hc : cells + 1 ≤ mc) (hs : slots + 6 ≤ ms) :
    W p l e R s m args below meth c H locs cells slots (vx_MQ below Qc XC args s mc ms free) (F0 m pc ls rest) := by
  intro T hT X
  have htr : e.platform.stackTraces = false := (show e.platform.stackTraces = l.stackTraces by rw [X.admits.platform]).trans hl
  have Y := vx_rebase X (R' := { frames := R.frames, locals := R.locals, cells := 1, slots := 6 }) (Nat.le_refl _) (Nat.le_refl _) hRcells hRslots
  obtain ⟨s', hA⟩ : ∃ z, z = (T.setVm s.vm).setFrames (.invoking m args :: below) := ⟨_, rfl⟩
  rw [← hA] at Y
  have hvm : s'.vm = s.vm := by rw [hA]; rfl
  have hhp : s'.heap = H := by rw [hA]; exact hT
  have hW0 : s.WarmedH s'.vm := by rw [hvm]; exact State.WarmedH.refl s
  have hat' : ∀ w ∈ vx_atS own ic cls names, w.before args s' = true := fun w hw => vx_ot_at hW0 hvm.symm (hgood w (List.mem_cons_of_mem _ (List.mem_cons_of_mem _ hw))) (hat w hw)
  have hk' : (Cond.classLink own ik cls).before args s' = true := vx_ot_at hW0 hvm.symm (hgood _ List.mem_cons_self) hk
  have hini' : (Cond.initialized cls).before args s' = true := vx_ot_at hW0 hvm.symm (hgood _ (List.mem_cons_of_mem _ List.mem_cons_self)) hini
  have hU' : vx_Zq Bundle.tN "UNASSIGNED_STACK" Bundle.steD A s' s'.heap := by rw [hhp]; exact vx_Zq.moved hW0.alike (hU.kept hS.2.1)
  have hN' : vx_Zq Bundle.tN "SUPPRESSED_SENTINEL" Bundle.listD A s' s'.heap := by rw [hhp]; exact vx_Zq.moved hW0.alike (hN.kept hS.2.1)
  have h : ∀ w ∈ Bundle.ownAtoms own ic cls names, w.before args s' = true := vx_own hat' (vx_isRefq hU'.1) (vx_isRefq hN'.1) hU'.2.word hN'.2.word
  have hown' : s'.vm.findClass own = some m.cls := by rw [hvm]; exact hown
  have hins : (Cond.instantiable cls 6).before args s' = true := h _ (by simp [Bundle.ownAtoms])
  obtain ⟨vm₁, cX, kX, hfX, hkX, -, -, X₁, st1⟩ := Y.newCold hexec (own := own) (C := cls) (index := ik) (n := 6) hown' hk' hins hini'
    (g := F0 m pc ls rest) rfl (by rw [hb]; exact d0) (Nat.le_refl _) (Nat.le_refl _)
  generalize hT1 : (T.setVm vm₁).pushCell { cls := cX, slots := kX.instanceTypes.map defaultValue, vm := .none } = T1 at X₁ st1
  have hcat : (Value.ref T.heap.size).category = 1 := rfl
  have hcellA : T1.heap[T.heap.size]? = some (freshCell cX kX) := by rw [← hT1]; exact State.heap_pushCell_size _ _
  have d3' : decode c.code (pc + 3) = .ok (.dup, 1) := by rw [hb]; exact d3
  have d4' : decode c.code (pc + 4) = .ok (.ldc_w is, 3) := by rw [hb]; exact d4
  have hstr' : vk_R own is text sa s' := vk_R.warm hW0 hstr
  obtain ⟨U, hsteps, hrun, hend, hW, hsame, ce, hce, hO⟩ := X₁.ctorThrowS hexec htr (own := own) (cls := cls) (names := names) (ic := ic) hown' hcls hnames h (fun x hx => nomatch hx) hfX hkX hcellA (by rw [hhp, hT]; exact Nat.le_refl _) (msg := .ref sa) rfl
    (g := { method := m, pc := pc + 7, locals := ls, stack := .ref sa :: .ref T.heap.size :: .ref T.heap.size :: rest, locked := none }) rfl hsize rfl rfl (rest := rest) rfl
    (by rw [hb]; exact d7) (by rw [hb]; exact d10) hout hRframes (by simp only [List.map_cons, List.sum_cons, hcat]; omega) hlocks
  obtain ⟨f1, f2⟩ := vx_frame hsame
  rw [hhp] at f1 f2
  have hWs : s.WarmedH U.vm := State.WarmedH.trans hW0 hW
  have hcl : s.vm.findClass cls = some ce.cls := by
    have h9 := hO.cls
    rw [hvm] at h9
    exact h9
  have hall : s.sameButNew ({ U with vm := s.vm } : State) locs mc ms := by
    subst hA
    obtain ⟨e1, e2⟩ := hsame
    rw [State.setFrames_setFrames] at e1
    have h2 : (T.setVm s.vm).sameButNew ({ U with vm := s.vm } : State) [] (0 + 1) (0 + 6) := ⟨e1, e2⟩
    have h3 := X.same.trans h2
    rw [List.append_nil] at h3
    exact h3.mono hc hs
  refine ⟨U, ?_, .threw T.heap.size, hrun, hend, Or.inr ⟨T.heap.size, rfl, cls, ce, locs, hx U hWs.alike f1 (fun q hq => f2 q hq (fun z hz => nomatch hz)), hce, hO.vm, hcl, hWs, hall, hf⟩⟩
  refine st1 _ ?_
  show Steps p.tables e below (T1.setTop { method := m, pc := pc + 3, locals := ls, stack := .ref T.heap.size :: rest, locked := none }) _
  jvm_step X₁.here [X₁.here.top, hexec, d3', Value.category]
  exact X₁.ldcStringW hexec (own := own) (text := text) (index := is) (a := sa) hown' hstr'.1 hstr'.2
    (g := { method := m, pc := pc + 4, locals := ls, stack := .ref T.heap.size :: .ref T.heap.size :: rest, locked := none }) rfl d4' _ hsteps
end Ends
section Bodies
variable {l : Launch}
theorem vx_ofW {y : MethodName} {ws ws' : List Cond} {rm : Room} {Pc : Array Value → State → Prop} {Qc : Array Value → State → Outcome → State → Prop} {XC : String → State → State → Prop} {mc ms : Nat} {free : Addr → Prop} {cc : ByteArray} {maxL : Nat} {ret : Option FieldType}
    (hy : plainName y.cls = true) (hw : ws = Cond.code y cc maxL ret :: ws')
    (body : ∀ p e s m args below meth c s₁, BodyLoose p l y (headSpec ws rm) cc maxL ret e s m args below meth c s₁ → c.maxLocals = maxL → (∀ x ∈ c.exceptionTable.toList, False) → Pc args s →
      W p l e (headSpec ws rm).room s m args below meth c s.heap [] 0 0 (vx_MQ below Qc XC args s mc ms free) (entryFrame m args maxL)) : vx_Met l y ws rm Pc Qc XC mc ms free := by
  refine MetFree.of_bodyS (code := cc) (maxLocals := maxL) (ret := ret) hy ?_ ?_
  · intro args s m h hn
    obtain ⟨meth, c, h1, h2, h3, h4, h5, h6, -, -⟩ := Cond.code_spec hn (atoms_spec (ws := ws) h _ (by rw [hw]; exact List.mem_cons_self))
    exact ⟨meth, c, h1, h2, h3, h4, h5, h6⟩
  · intro p e s m args below meth c s₁ B hml hP _
    have hh0 : s₁.heap = s.heap := by rw [B.state]; rfl
    have ht : ∀ x ∈ c.exceptionTable.toList, False := by
      obtain ⟨meth9, c9, h1, h2, -, -, -, -, h7, -⟩ := Cond.code_spec B.named (atoms_spec (ws := ws) B.pre _ (by rw [hw]; exact List.mem_cons_self))
      cases Option.some.inj (h1.symm.trans B.method)
      cases Option.some.inj (h2.symm.trans (Stand.of_body B).code)
      intro x hx
      rw [Array.isEmpty_iff.mp h7] at hx
      cases hx
    obtain ⟨t, a1, o, b1, b2, b3⟩ := body p e s m args below meth c s₁ B hml ht hP s₁ hh0 (Stand.of_body B)
    exact ⟨t, o, a1, b1, b2, b3⟩
/-- the table of a body with handlers -/
theorem vx_table {p : Program} {x y : MethodName} {S : Spec} {cc bytes : ByteArray} {maxL maxL' : Nat} {ret ret' : Option FieldType} {e : Env} {s s₁ : State} {m : MethodId} {args : Array Value} {below : List Frame} {meth : Method} {c : Code} {hh : List (Nat × Nat × Nat × Nat)}
    (B : BodyLoose p l y S cc maxL ret e s m args below meth c s₁) (h : (Cond.codeWith y bytes maxL' ret' hh).before args s = true) : c.exceptionTable.toList = tableOf hh := by
  obtain ⟨m9, meth9, c9, hn9, h1, h2, -, -, h6, -⟩ := Cond.codeWith_spec h
  cases Option.some.inj (hn9.symm.trans B.named)
  cases Option.some.inj (h1.symm.trans B.method)
  cases Option.some.inj (h2.symm.trans (Stand.of_body B).code)
  rw [← h6, table_eq]
end Bodies
end VXA
/-! ===== END ===== -/
/-! ===== BEGIN a static call of a method with an exception table ===== -/
section VXS
variable {p : Program} {l : Launch} {e : Env} {R : Room} {s : State} {m : MethodId} {args : Array Value} {below : List Frame} {meth : Method} {c : Code} {T : State} {H : Heap} {locs : List Loc} {cells slots : Nat}
abbrev vx_CSW (R : Room) (s : State) (args : Array Value) (own : String) (index : Nat) (y : MethodName) (bytes : ByteArray) (maxL : Nat) (ret : Option FieldType) (hh : List (Nat × Nat × Nat × Nat)) (ws : List Cond) (rm : Room) (mc ms n : Nat) : Prop :=
  (rm.cells = mc ∧ rm.slots = ms ∧ rm.frames + 1 ≤ R.frames ∧ 8 + (maxL + 11) + rm.locals ≤ R.locals ∧ (∀ w ∈ ws, ∀ (a' : Array Value) (U : State), s.WarmedH U.vm → w.before a' U = true) ∧ Cond.codeWith y bytes maxL ret hh ∈ ws) ∧
  (Cond.codeWith y bytes maxL ret hh).before args s = true ∧ (Cond.initialized y.cls).before args s = true ∧ (y.cls ≠ "java/lang/invoke/MethodHandle" ∧ y.cls ≠ "java/lang/invoke/VarHandle") ∧
  (∀ sig, parseMethodDescriptor y.desc = some sig → n = sig.parameters.length) ∧ (Cond.methodLink own index y).before args s = true ∧ (Cond.static y).before args s = true
theorem vx_cwSW {own : String} {index maxL mc ms : Nat} {y : MethodName} {bytes : ByteArray} {ret : Option FieldType} {hh : List (Nat × Nat × Nat × Nat)} {Ts ws ws' : List Cond} {rm : Room} (n : Nat) (ht : ∀ w ∈ Ts, w.before args s = true) (hT : GoodIn Ts (va_wsS own index y ws)) (hw : ws = Cond.codeWith y bytes maxL ret hh :: ws') (hrc : rm.cells = mc) (hrs : rm.slots = ms)
    (hd : y.cls ≠ "java/lang/invoke/MethodHandle" ∧ y.cls ≠ "java/lang/invoke/VarHandle" ∧ (parseMethodDescriptor y.desc).map (fun d => d.parameters.length) = some n) (hR : rm.frames + 1 ≤ R.frames ∧ 8 + (maxL + 11) + rm.locals ≤ R.locals) :
    vx_CSW R s args own index y bytes maxL ret hh ws rm mc ms n := by
  have ok : ∀ w ∈ va_wsS own index y ws, w.before args s = true := fun w h => ht w (hT w h).1
  have hG : GoodIn Ts ws := fun w h => hT w (by unfold va_wsS; exact List.mem_append_right _ h)
  have hc : Cond.codeWith y bytes maxL ret hh ∈ ws := by rw [hw]; exact List.mem_cons_self
  refine ⟨⟨hrc, hrs, hR.1, hR.2, pay_in ht hG, hc⟩, ht _ (hG _ hc).1, ok _ (by simp [va_wsS]), ⟨hd.1, hd.2.1⟩, fun sig h => ?_, ok _ (by simp [va_wsS]), ok _ (by simp [va_wsS])⟩
  have h2 := hd.2.2
  rw [h] at h2
  exact (Option.some.inj h2).symm
theorem vx_callSW (X : Stand p l e R s m args below meth c T locs cells slots) (hexec : p.tables.exec = Jvm.exec) {own : String} {index : Nat} {y : MethodName} {bytes : ByteArray} {maxL : Nat} {ret : Option FieldType} {hh : List (Nat × Nat × Nat × Nat)}
    (hown : s.vm.findClass own = some m.cls) (hlink : (Cond.methodLink own index y).before args s = true) (hstat : (Cond.static y).before args s = true) (hinit : (Cond.initialized y.cls).before args s = true)
    (hcode : (Cond.codeWith y bytes maxL ret hh).before args s = true) (hy : y.cls ≠ "java/lang/invoke/MethodHandle" ∧ y.cls ≠ "java/lang/invoke/VarHandle")
    {W9 : Nat} {Pre : Pt → Array Value → Prop} {Post : Pt → Array Value → Option Value → Pt → Prop} (hK : Back l R p e below s args y 3 W9 Pre Post)
    {g : JFrame} (hg : g.method = m) (hsize : g.locals.size = c.maxLocals) {argsL rest : List Value} (hlen : ∀ sig, parseMethodDescriptor y.desc = some sig → argsL.length = sig.parameters.length)
    (hstack : g.stack = argsL.reverse ++ rest) (hW : 2 * g.monitorRoom + (rest.map fun v => v.category).sum ≤ W9) (hdg : decode c.code g.pc = .ok (.invokestatic index, 3))
    (hpre : ∀ vm₁, s.WarmedH vm₁ → Pre ⟨T.setVm vm₁, locs, cells, slots⟩ argsL.toArray) :
    ∃ (v : Option Value) (vm₁ : Vm) (B : Pt), s.WarmedH vm₁ ∧ Stand p l e R s m args below meth c B.U B.locs B.cells B.slots ∧ Post ⟨T.setVm vm₁, locs, cells, slots⟩ argsL.toArray v B ∧
      ∀ target, Steps p.tables e below (B.U.setTop { g with pc := g.pc + 3, stack := v.toList ++ rest }) target → Steps p.tables e below (T.setTop g) target := by
  obtain ⟨mk, methM, cM, hnamed, hmethM, -, -, -, -, -, -, hsigM⟩ := Cond.codeWith_spec hcode
  have hstatic : methM.isStatic = true := Cond.static_spec hnamed hmethM hstat
  obtain ⟨kP, hkP, -⟩ := className_of_methodNamed hnamed
  have hinitP : kP.init = .initialized := Cond.initialized_spec (findClass_of_methodNamed hnamed) hkP hinit
  obtain ⟨vm₁, X₁, hstep₁⟩ := X.invokestatic hexec hown hlink hnamed hmethM hstatic hkP hinitP hy (g := g) hg (argsL := argsL) (rest := rest) (hlen _ hsigM) hstack hdg
  obtain ⟨v, B, X', hpost, hsteps⟩ := hK m meth c ⟨T.setVm vm₁, locs, cells, slots⟩ { g with stack := rest } (.invokestatic index) mk argsL.toArray X₁ hg hsize hdg hW (X₁.named hnamed) (hpre vm₁ X₁.warmed)
  exact ⟨v, vm₁, B, X₁.warmed, X', hpost, fun target h => hstep₁ _ fun acts => by rw [doInvoke_state]; exact hsteps.trans h⟩
theorem vx_runSW {y : MethodName} {bytes cc : ByteArray} {maxL nL mc ms n index : Nat} {ret : Option FieldType} {hh : List (Nat × Nat × Nat × Nat)} {ws : List Cond} {rm : Room} {Pc : Array Value → State → Prop} {Qc : Array Value → State → Outcome → State → Prop} {free : Addr → Prop} {Ts : List Cond} {own : String} {As rest : List Value} {g : JFrame}
    (S : CallFix p m c cc nL s args Ts own) (hM : Met l y ws rm Pc Qc mc ms free) (cw : vx_CSW R s args own index y bytes maxL ret hh ws rm mc ms n) (hp : PreS s H Pc As)
    (hg : g.method = m) (hn : As.length = n) (hsize : g.locals.size = nL) (hstack : g.stack = As.reverse ++ rest) (hW : 2 * g.monitorRoom + (rest.map fun v => v.category).sum ≤ 8) (hdg : decode cc g.pc = .ok (.invokestatic index, 3)) (hf : cells + mc ≤ R.cells ∧ slots + ms ≤ R.slots) :
    va_Run p l e R s m args below meth c H locs cells slots mc ms g rest (Qc As.toArray) (free) := by
  obtain ⟨⟨hrc, hrs, hfr, hlo, hws, hcw⟩, hcode, hini, hy, hlen, hl, hstt⟩ := cw
  have hK : Back l R p e below s args y 3 8 (PreOf R mc ms Pc) (PostOf Qc mc ms free) := va_backW (hh := hh) (bytes := bytes) (maxL := maxL) (ret := ret) hM hp.1 hrc hrs hfr hlo hws hcw (fun a' U hW => word_at hW (Or.inl (by first | rfl | simp [Cond.onTables, Cond.keeps, Cond.steady])) hini)
  obtain ⟨hx, hb, hml, ho, -⟩ := S
  intro T hT X
  obtain ⟨v, vm₁, ⟨U', l2, c2, s2⟩, hW₁, X', ⟨g', mk, t, L, e1, e2, hq, h1, hL, h2, h3⟩, st⟩ := vx_callSW X hx (hh := hh) (bytes := bytes) (maxL := maxL) (ret := ret) ho hl hstt hini hcode hy hK hg (hsize.trans hml.symm) (argsL := As) (rest := rest) (fun sig h => hn.trans (hlen sig h)) hstack hW (by rw [hb]; exact hdg)
    (fun vm₁ hW₁ => ⟨hf.1, hf.2, hp.2 (T.setVm vm₁) hT hW₁⟩)
  dsimp only [Pt.U, Pt.locs, Pt.cells, Pt.slots] at X' e1 e2 h1 h2 h3 st
  subst h1; subst h2; subst h3
  exact ⟨v, (T.setVm vm₁).calling g' mk As.toArray, t, U', L, hT, X', hL, e1, e2, hq, st⟩
/-- not caught here, past rows that name other classes: it goes on to the caller -/
theorem vx_outP {p : Program} {l : Launch} {e : Env} {R : Room} {s : State} {m : MethodId} {args : Array Value} {below : List Frame} {meth : Method} {c : Code} {H : Heap} {locs : List Loc} {cells slots : Nat} {free : Addr → Prop} {ls : Array Slot} {rest : List Value} {Qc : Array Value → State → Outcome → State → Prop} {XC : String → State → State → Prop}
    {pc : Nat} {own E : String} {ce : Cell} {q : Addr} {mc ms : Nat} (hown : s.vm.findClass own = some m.cls) (hlocks : meth.locks = false)
    (hpass : ∀ z ∈ c.exceptionTable.toList, covers z pc = false ∨ (z.catchType ≠ 0 ∧ ∃ nm : String, (Cond.classLink own z.catchType nm).before args s = true ∧ va_Nc E nm s)) (hcell : H[q]? = some ce) (hv : ce.vm = .none) (hcl : s.vm.findClass E = some ce.cls)
    (hx : ∀ t : State, t.heap = H → s.vm.Alike t.vm → XC E s t) (hf : ∀ z ∈ locs, free z.base) (hc : cells ≤ mc) (hs : slots ≤ ms) :
    vx_W p l e R s m args below meth c H locs cells slots (vx_MQ below Qc XC args s mc ms free) (F0 m pc ls rest) q := by
  intro T hT X
  have hpl : e.platform.magicAccessors = ({} : Platform).magicAccessors := by rw [X.admits.platform]
  obtain ⟨vm', hW', X', st⟩ := X.outThrough hlocks q (g := F0 m pc ls rest) rfl rfl rfl (cell := ce) (by rw [hT]; exact hcell) (by rw [hv]; rfl)
    (by obtain ⟨k9, h9, -⟩ := Vm.findClass_spec hcl; exact ⟨k9, h9⟩) (fun z hz => by
      rcases hpass z hz with h | ⟨hz0, nm, hl1, hn1⟩
      · exact Or.inl h
      · obtain ⟨c6, hc6, hcl6⟩ := Cond.classLink_spec hown hl1 e.platform hpl
        obtain ⟨a8, b8, h1, h2, h3⟩ := hn1
        cases Option.some.inj (h1.symm.trans hcl)
        cases Option.some.inj (h2.symm.trans hc6)
        exact Or.inr ⟨hz0, _, hcl6, h3⟩)
  obtain ⟨g₀, hfr⟩ := X'.frames_eq
  have hcell9 : ((T.setVm vm').setFrames (.throwing q :: below)).heap[q]? = some ce := by
    show T.heap[q]? = some ce
    rw [hT]; exact hcell
  have hend : Ended ((T.setVm vm').setFrames (.throwing q :: below)) below (.threw q) := State.frames_setFrames _ (State.cur_lt_of_frames hfr)
  refine ⟨(T.setVm vm').setFrames (.throwing q :: below), ?_, .threw q, X'.here.running, hend, Or.inr ⟨q, rfl, E, ce, locs, hx _ hT (X'.ends _).1.alike, hcell9, hv, hcl, (X'.ends _).1, (X'.ends _).2.mono hc hs, hf⟩⟩
  rw [X.pushThrowing_eq]
  exact st
/-- a thing of a world lies in the heap -/
theorem vx_lt {D : va_G} {cl : List vw_C} {ws : va_W} {H1 : Heap} (h : va_P D cl ws H1) {k : Nat} {q : Nat × va_E} (hk : ws[k]? = some q) : q.1 < H1.size := (h k q hk).lt
end VXS
/-! ===== END ===== -/
/-! ===== BEGIN methods with a table of their own: called by a name, returning or throwing ===== -/
section VXH
/-! vx_backW, vx_callVX, vx_callSX, vx_callVW, vx_runVW, vx_runVX, vx_runSX, vx_ofWH follow the same proofs as their sisters above (Free/Laws.lean, Shelf42/LK1.lean); vx_outP calls Shelf42/NT130.lean (outThrough). -/
section
variable {l : Launch} {R : Room} {p : Program} {e : Env} {below : List Frame} {s : State} {sargs : Array Value} {y : MethodName} {len W9 : Nat}
theorem vx_backW {ws : List Cond} {rm : Room} {Pc : Array Value → State → Prop} {Qc : Array Value → State → Outcome → State → Prop} {XC : String → State → State → Prop} {mc ms : Nat} {free : Addr → Prop} {bytes : ByteArray} {maxL : Nat} {ret : Option FieldType} {hh : List (Nat × Nat × Nat × Nat)}
    (hM : vx_Met l y ws rm Pc Qc XC mc ms free) (hblind : FrameBlind Pc) (hrc : rm.cells = mc) (hrs : rm.slots = ms)
    (hframes : rm.frames + 1 ≤ R.frames) (hlocals : W9 + (maxL + 11) + rm.locals ≤ R.locals)
    (hws : ∀ w ∈ ws, ∀ a' U, s.WarmedH U.vm → w.before a' U = true) (hcode : Cond.codeWith y bytes maxL ret hh ∈ ws) (hinit : ∀ a' U, s.WarmedH U.vm → (Cond.initialized y.cls).before a' U = true) :
    vx_Back l R p e below s sargs y len W9 (PreOf R mc ms Pc) (PostOf Qc mc ms free) (vx_Post XC mc ms free) := by
  intro m meth c A g ig mk a X hg hsize hdg hW hn hp
  have h1 : (headSpec ws rm).pre.before a A.U = true := atoms_intro fun w hw => hws w hw _ _ X.warmed
  have h2 : (Cond.codeWith y bytes maxL ret hh).before a A.U = true := hws _ hcode _ _ X.warmed
  have h3 : (Cond.initialized y.cls).before a A.U = true := hinit _ _ X.warmed
  have h4 : A.cells + (headSpec ws rm).room.cells ≤ R.cells := by rw [show (headSpec ws rm).room.cells = mc from hrc]; exact hp.1
  have h5 : A.slots + (headSpec ws rm).room.slots ≤ R.slots := by rw [show (headSpec ws rm).room.slots = ms from hrs]; exact hp.2.1
  have hPc : Pc a (A.U.calling g mk a) := hblind _ _ _ _ hp.2.2
  obtain ⟨U, Ls, c0, s0⟩ := A
  dsimp only [Pt.U, Pt.locs, Pt.cells, Pt.slots] at h1 h2 h3 h4 h5 X hn hPc ⊢
  obtain ⟨m9, methY, cY, hn9, hmY, hcY, -, hlY, -⟩ := Cond.codeWith_spec h2
  cases Option.some.inj (hn9.symm.trans hn)
  obtain ⟨kY, hkY, -⟩ := className_of_methodNamed hn
  have hinitY : kY.init = .initialized := Cond.initialized_spec (findClass_of_methodNamed hn) hkY h3
  have h : At U g.method c below := by rw [hg]; exact X.here
  have hlocals9 : W9 + (maxL + 11) + (headSpec ws rm).room.locals ≤ R.locals := hlocals
  have happ : (headSpec ws rm).appliesLoose y e.platform (U.calling g mk a) = true :=
    Spec.appliesLoose_calling (g := g) h hdg hn hkY hinitY
      (X.room_calling (g := g) (R' := (headSpec ws rm).room) hsize hmY hcY hframes (by rw [hlY]; omega) h4 h5) h1
  obtain ⟨mid, hmid⟩ := h.above
  have hfr : (U.setTop g).frames = (.java g :: mid) ++ below := by rw [State.frames_setTop' g h.top, hmid]; rfl
  obtain ⟨o, s₂, hsteps, -, hend, hq⟩ := Steps.callFree hM p X.admits X.cas X.clock (acts := []) hfr happ hPc trivial
  have hq' : vx_Q Qc XC mc ms free a (U.calling g mk a) o s₂ := hq
  rw [State.frames_setTop' g h.top] at hend
  obtain ⟨g₀, hg0⟩ := Option.isSome_iff_exists.mp h.top
  obtain ⟨r, hr⟩ := State.topJava?_eq_some.mp hg0
  have hr' : (({ U with heap := s₂.heap, slotsUsed := s₂.slotsUsed } : State).setVm s₂.vm).frames = .java g₀ :: r := hr
  rcases hq' with ⟨hqc, L, hfe, hL⟩ | ⟨q, rfl, E, ce, L, hx, hce, hcv, hcl, hW₂, hsm, hL⟩
  · obtain ⟨⟨v, rfl⟩, hW₂, e2, q2, q3, q4, q5, q6⟩ := id hfe
    have e3 : s₂ = ({ (U.calling g mk a).setFrames s₂.frames with heap := s₂.heap, slotsUsed := s₂.slotsUsed } : State).setVm s₂.vm := by
      have : s₂ = ({ s₂ with vm := (U.calling g mk a).vm } : State).setVm s₂.vm := rfl
      rw [e2] at this
      exact this
    obtain ⟨c₂, i₂, len₂, hc₂, hd₂, hf₂⟩ := hend
    have hW' : U.WarmedH s₂.vm := hW₂
    have hcc : c₂ = c := by
      have h1 : s₂.code? g.method = U.code? g.method := by
        rw [State.code?_eq, State.code?_eq, hW'.alike.method?]
      exact Option.some.inj (hc₂.symm.trans (h1.trans h.code))
    subst hcc
    have hlen : len₂ = len := by rw [hdg] at hd₂; cases hd₂; rfl
    subst hlen
    have hs₂ : s₂ = (({ U with heap := s₂.heap, slotsUsed := s₂.slotsUsed } : State).setVm s₂.vm).setTop { g with pc := g.pc + len₂, stack := v.toList ++ g.stack } := by
      refine e3.trans ?_
      rw [hf₂, State.calling_eq h.top, State.setFrames_setFrames, State.setTop_of_frames _ hr', hr]
      rfl
    have hsame : U.sameButNew ({ U with heap := s₂.heap, slotsUsed := s₂.slotsUsed } : State) L mc ms := by
      refine ⟨?_, q2, q3, q4, q5, q6⟩
      obtain ⟨t, ht, -⟩ := State.frames_cons hr
      show ({ U with heap := s₂.heap, slotsUsed := s₂.slotsUsed } : State) = { U.setFrames U.frames with heap := s₂.heap, slotsUsed := s₂.slotsUsed }
      rw [State.setFrames_self ht]
    subst hg
    refine Or.inl ⟨v, ⟨(({ U with heap := s₂.heap, slotsUsed := s₂.slotsUsed } : State).setVm s₂.vm), Ls ++ L, c0 + mc, s0 + ms⟩,
      ⟨X.admits, X.cas, X.clock, X.frames, X.room, X.hears, X.method, X.code, (X.here.setHeapUsed s₂.heap s₂.slotsUsed).setVm hW'.alike, X.tail, State.WarmedH.trans X.warmed hW', X.limits, X.bytes, X.same.trans (hsame.setVm s.vm)⟩,
      ⟨g, mk, s₂, L, rfl, rfl, hqc, rfl, hL, rfl, rfl⟩, ?_⟩
    show Steps p.tables e below _ ((({ U with heap := s₂.heap, slotsUsed := s₂.slotsUsed } : State).setVm s₂.vm).setTop { g with pc := g.pc + len₂, stack := v.toList ++ g.stack })
    rw [← hs₂]
    exact hsteps
  · obtain ⟨e2, q2, q3, q4, q5, q6⟩ := id hsm
    have e3 : s₂ = ({ (U.calling g mk a).setFrames s₂.frames with heap := s₂.heap, slotsUsed := s₂.slotsUsed } : State).setVm s₂.vm := by
      have : s₂ = ({ s₂ with vm := (U.calling g mk a).vm } : State).setVm s₂.vm := rfl
      rw [e2] at this
      exact this
    have hf₂ : s₂.frames = .throwing q :: .java g :: U.frames.tail := hend
    have hW' : U.WarmedH s₂.vm := hW₂
    have hs₂ : s₂ = ((({ U with heap := s₂.heap, slotsUsed := s₂.slotsUsed } : State).setVm s₂.vm).setTop g).pushFrame (.throwing q) := by
      refine e3.trans ?_
      rw [hf₂, State.calling_eq h.top, State.setFrames_setFrames, State.pushFrame, State.frames_setTop _ hr', State.setTop_of_frames _ hr', State.setFrames_setFrames, hr]
      rfl
    have hsame : U.sameButNew ({ U with heap := s₂.heap, slotsUsed := s₂.slotsUsed } : State) L mc ms := by
      refine ⟨?_, q2, q3, q4, q5, q6⟩
      obtain ⟨t, ht, -⟩ := State.frames_cons hr
      show ({ U with heap := s₂.heap, slotsUsed := s₂.slotsUsed } : State) = { U.setFrames U.frames with heap := s₂.heap, slotsUsed := s₂.slotsUsed }
      rw [State.setFrames_self ht]
    subst hg
    refine Or.inr ⟨q, ⟨(({ U with heap := s₂.heap, slotsUsed := s₂.slotsUsed } : State).setVm s₂.vm), Ls ++ L, c0 + mc, s0 + ms⟩,
      ⟨X.admits, X.cas, X.clock, X.frames, X.room, X.hears, X.method, X.code, (X.here.setHeapUsed s₂.heap s₂.slotsUsed).setVm hW'.alike, X.tail, State.WarmedH.trans X.warmed hW', X.limits, X.bytes, X.same.trans (hsame.setVm s.vm)⟩,
      ⟨g, mk, s₂, L, E, ce, rfl, rfl, hx, hce, hcv, hcl, rfl, hL, rfl, rfl⟩, ?_⟩
    show Steps p.tables e below _ (((({ U with heap := s₂.heap, slotsUsed := s₂.slotsUsed } : State).setVm s₂.vm).setTop g).pushFrame (.throwing q))
    rw [← hs₂]
    exact hsteps
end
variable {p : Program} {l : Launch} {e : Env} {R : Room} {s : State} {m : MethodId} {args : Array Value} {below : List Frame} {meth : Method} {c : Code} {T : State} {H : Heap} {locs : List Loc} {cells slots : Nat}
theorem vx_callVX (X : Stand p l e R s m args below meth c T locs cells slots) (hexec : p.tables.exec = Jvm.exec) {own C : String} {index : Nat} {y : MethodName} {bytes : ByteArray} {maxL : Nat} {ret : Option FieldType} {hh : List (Nat × Nat × Nat × Nat)}
    (hown : s.vm.findClass own = some m.cls) (hlink : (Cond.methodLink own index y).before args s = true) (hinst : (Cond.instanceMethod y).before args s = true) (hsel : (Cond.selects C y y).before args s = true)
    (hcode : (Cond.codeWith y bytes maxL ret hh).before args s = true) (hy : y.cls ≠ "java/lang/invoke/MethodHandle" ∧ y.cls ≠ "java/lang/invoke/VarHandle")
    {W9 : Nat} {Pre : Pt → Array Value → Prop} {Post : Pt → Array Value → Option Value → Pt → Prop} {PostX : Pt → Array Value → Addr → Pt → Prop} (hK : vx_Back l R p e below s args y 3 W9 Pre Post PostX)
    {b : Addr} {cellB : Cell} (hcell : T.heap[b]? = some cellB) (hobj : cellB.vm.isStatics = false) (hcls : s.vm.findClass C = some cellB.cls)
    {g : JFrame} (hg : g.method = m) (hsize : g.locals.size = c.maxLocals) {argsL rest : List Value} (hlen : ∀ sig, parseMethodDescriptor y.desc = some sig → argsL.length = sig.parameters.length)
    (hstack : g.stack = argsL.reverse ++ .ref b :: rest) (hW : 2 * g.monitorRoom + (rest.map fun v => v.category).sum ≤ W9) (hdg : decode c.code g.pc = .ok (.invokevirtual index, 3))
    (hpre : ∀ vm₁, s.WarmedH vm₁ → Pre ⟨T.setVm vm₁, locs, cells, slots⟩ (Value.ref b :: argsL).toArray) :
    (∃ (v : Option Value) (vm₁ : Vm) (B : Pt), s.WarmedH vm₁ ∧ Stand p l e R s m args below meth c B.U B.locs B.cells B.slots ∧ Post ⟨T.setVm vm₁, locs, cells, slots⟩ (Value.ref b :: argsL).toArray v B ∧
      ∀ target, Steps p.tables e below (B.U.setTop { g with pc := g.pc + 3, stack := v.toList ++ rest }) target → Steps p.tables e below (T.setTop g) target) ∨
    (∃ (q : Addr) (vm₁ : Vm) (B : Pt), s.WarmedH vm₁ ∧ Stand p l e R s m args below meth c B.U B.locs B.cells B.slots ∧ PostX ⟨T.setVm vm₁, locs, cells, slots⟩ (Value.ref b :: argsL).toArray q B ∧
      Steps p.tables e below (T.setTop g) ((B.U.setTop { g with stack := rest }).pushFrame (.throwing q))) := by
  obtain ⟨mk, methM, hnamed, hmethM, hstM, habM⟩ := Cond.instanceMethod_spec hinst
  obtain ⟨m8, methM', cM, hn8, hmethM', -, -, -, -, -, -, hsigM⟩ := Cond.codeWith_spec hcode
  cases Option.some.inj (hn8.symm.trans hnamed)
  cases hmethM.symm.trans hmethM'
  obtain ⟨c2, r2, m2, q1, q2, q3, q4, kP, hkP, hkPi⟩ := Cond.selects_spec hsel
  cases hcls.symm.trans q1
  cases (State.methodFound?_of_named hnamed hy).symm.trans q2
  cases hnamed.symm.trans q3
  have hselP : selectMethod e.platform s.vm cellB.cls mk = .method mk := by rw [Launch.admits_selectMethod X.admits]; exact q4
  obtain ⟨vm₁, X₁, hstep₁⟩ := X.invokevirtual hexec hown hlink hnamed hmethM hstM hkP hkPi hy (a := b) (cell := cellB) hcell
    (fun z h => by rw [h] at hobj; cases hobj) hselP hmethM habM hkP hkPi (g := g) hg (argsL := argsL) (rest := rest) (hlen _ hsigM) hstack hdg
  rcases hK m meth c ⟨T.setVm vm₁, locs, cells, slots⟩ { g with stack := rest } (.invokevirtual index) mk (Value.ref b :: argsL).toArray X₁ hg hsize hdg hW (X₁.named hnamed) (hpre vm₁ X₁.warmed) with ⟨v, B, X', hpost, hsteps⟩ | ⟨q, B, X', hpost, hsteps⟩
  · exact Or.inl ⟨v, vm₁, B, X₁.warmed, X', hpost, fun target h => hstep₁ _ fun acts => by rw [doInvoke_state]; exact hsteps.trans h⟩
  · exact Or.inr ⟨q, vm₁, B, X₁.warmed, X', hpost, hstep₁ _ fun acts => by rw [doInvoke_state]; exact hsteps⟩
theorem vx_callSX (X : Stand p l e R s m args below meth c T locs cells slots) (hexec : p.tables.exec = Jvm.exec) {own : String} {index : Nat} {y : MethodName} {bytes : ByteArray} {maxL : Nat} {ret : Option FieldType} {hh : List (Nat × Nat × Nat × Nat)}
    (hown : s.vm.findClass own = some m.cls) (hlink : (Cond.methodLink own index y).before args s = true) (hstat : (Cond.static y).before args s = true) (hinit : (Cond.initialized y.cls).before args s = true)
    (hcode : (Cond.codeWith y bytes maxL ret hh).before args s = true) (hy : y.cls ≠ "java/lang/invoke/MethodHandle" ∧ y.cls ≠ "java/lang/invoke/VarHandle")
    {W9 : Nat} {Pre : Pt → Array Value → Prop} {Post : Pt → Array Value → Option Value → Pt → Prop} {PostX : Pt → Array Value → Addr → Pt → Prop} (hK : vx_Back l R p e below s args y 3 W9 Pre Post PostX)
    {g : JFrame} (hg : g.method = m) (hsize : g.locals.size = c.maxLocals) {argsL rest : List Value} (hlen : ∀ sig, parseMethodDescriptor y.desc = some sig → argsL.length = sig.parameters.length)
    (hstack : g.stack = argsL.reverse ++ rest) (hW : 2 * g.monitorRoom + (rest.map fun v => v.category).sum ≤ W9) (hdg : decode c.code g.pc = .ok (.invokestatic index, 3))
    (hpre : ∀ vm₁, s.WarmedH vm₁ → Pre ⟨T.setVm vm₁, locs, cells, slots⟩ argsL.toArray) :
    (∃ (v : Option Value) (vm₁ : Vm) (B : Pt), s.WarmedH vm₁ ∧ Stand p l e R s m args below meth c B.U B.locs B.cells B.slots ∧ Post ⟨T.setVm vm₁, locs, cells, slots⟩ argsL.toArray v B ∧
      ∀ target, Steps p.tables e below (B.U.setTop { g with pc := g.pc + 3, stack := v.toList ++ rest }) target → Steps p.tables e below (T.setTop g) target) ∨
    (∃ (q : Addr) (vm₁ : Vm) (B : Pt), s.WarmedH vm₁ ∧ Stand p l e R s m args below meth c B.U B.locs B.cells B.slots ∧ PostX ⟨T.setVm vm₁, locs, cells, slots⟩ argsL.toArray q B ∧
      Steps p.tables e below (T.setTop g) ((B.U.setTop { g with stack := rest }).pushFrame (.throwing q))) := by
  obtain ⟨mk, methM, cM, hnamed, hmethM, -, -, -, -, -, -, hsigM⟩ := Cond.codeWith_spec hcode
  have hstatic : methM.isStatic = true := Cond.static_spec hnamed hmethM hstat
  obtain ⟨kP, hkP, -⟩ := className_of_methodNamed hnamed
  have hinitP : kP.init = .initialized := Cond.initialized_spec (findClass_of_methodNamed hnamed) hkP hinit
  obtain ⟨vm₁, X₁, hstep₁⟩ := X.invokestatic hexec hown hlink hnamed hmethM hstatic hkP hinitP hy (g := g) hg (argsL := argsL) (rest := rest) (hlen _ hsigM) hstack hdg
  rcases hK m meth c ⟨T.setVm vm₁, locs, cells, slots⟩ { g with stack := rest } (.invokestatic index) mk argsL.toArray X₁ hg hsize hdg hW (X₁.named hnamed) (hpre vm₁ X₁.warmed) with ⟨v, B, X', hpost, hsteps⟩ | ⟨q, B, X', hpost, hsteps⟩
  · exact Or.inl ⟨v, vm₁, B, X₁.warmed, X', hpost, fun target h => hstep₁ _ fun acts => by rw [doInvoke_state]; exact hsteps.trans h⟩
  · exact Or.inr ⟨q, vm₁, B, X₁.warmed, X', hpost, hstep₁ _ fun acts => by rw [doInvoke_state]; exact hsteps⟩
theorem vx_callVW (X : Stand p l e R s m args below meth c T locs cells slots) (hexec : p.tables.exec = Jvm.exec) {own C : String} {index : Nat} {y : MethodName} {bytes : ByteArray} {maxL : Nat} {ret : Option FieldType} {hh : List (Nat × Nat × Nat × Nat)}
    (hown : s.vm.findClass own = some m.cls) (hlink : (Cond.methodLink own index y).before args s = true) (hinst : (Cond.instanceMethod y).before args s = true) (hsel : (Cond.selects C y y).before args s = true)
    (hcode : (Cond.codeWith y bytes maxL ret hh).before args s = true) (hy : y.cls ≠ "java/lang/invoke/MethodHandle" ∧ y.cls ≠ "java/lang/invoke/VarHandle")
    {W9 : Nat} {Pre : Pt → Array Value → Prop} {Post : Pt → Array Value → Option Value → Pt → Prop} (hK : Back l R p e below s args y 3 W9 Pre Post)
    {b : Addr} {cellB : Cell} (hcell : T.heap[b]? = some cellB) (hobj : cellB.vm.isStatics = false) (hcls : s.vm.findClass C = some cellB.cls)
    {g : JFrame} (hg : g.method = m) (hsize : g.locals.size = c.maxLocals) {argsL rest : List Value} (hlen : ∀ sig, parseMethodDescriptor y.desc = some sig → argsL.length = sig.parameters.length)
    (hstack : g.stack = argsL.reverse ++ .ref b :: rest) (hW : 2 * g.monitorRoom + (rest.map fun v => v.category).sum ≤ W9) (hdg : decode c.code g.pc = .ok (.invokevirtual index, 3))
    (hpre : ∀ vm₁, s.WarmedH vm₁ → Pre ⟨T.setVm vm₁, locs, cells, slots⟩ (Value.ref b :: argsL).toArray) :
    ∃ (v : Option Value) (vm₁ : Vm) (B : Pt), s.WarmedH vm₁ ∧ Stand p l e R s m args below meth c B.U B.locs B.cells B.slots ∧ Post ⟨T.setVm vm₁, locs, cells, slots⟩ (Value.ref b :: argsL).toArray v B ∧
      ∀ target, Steps p.tables e below (B.U.setTop { g with pc := g.pc + 3, stack := v.toList ++ rest }) target → Steps p.tables e below (T.setTop g) target := by
  obtain ⟨mk, methM, hnamed, hmethM, hstM, habM⟩ := Cond.instanceMethod_spec hinst
  obtain ⟨m8, methM', cM, hn8, hmethM', -, -, -, -, -, -, hsigM⟩ := Cond.codeWith_spec hcode
  cases Option.some.inj (hn8.symm.trans hnamed)
  cases hmethM.symm.trans hmethM'
  obtain ⟨c2, r2, m2, q1, q2, q3, q4, kP, hkP, hkPi⟩ := Cond.selects_spec hsel
  cases hcls.symm.trans q1
  cases (State.methodFound?_of_named hnamed hy).symm.trans q2
  cases hnamed.symm.trans q3
  have hselP : selectMethod e.platform s.vm cellB.cls mk = .method mk := by rw [Launch.admits_selectMethod X.admits]; exact q4
  obtain ⟨vm₁, X₁, hstep₁⟩ := X.invokevirtual hexec hown hlink hnamed hmethM hstM hkP hkPi hy (a := b) (cell := cellB) hcell
    (fun z h => by rw [h] at hobj; cases hobj) hselP hmethM habM hkP hkPi (g := g) hg (argsL := argsL) (rest := rest) (hlen _ hsigM) hstack hdg
  obtain ⟨v, B, X', hpost, hsteps⟩ := hK m meth c ⟨T.setVm vm₁, locs, cells, slots⟩ { g with stack := rest } (.invokevirtual index) mk (Value.ref b :: argsL).toArray X₁ hg hsize hdg hW (X₁.named hnamed) (hpre vm₁ X₁.warmed)
  exact ⟨v, vm₁, B, X₁.warmed, X', hpost, fun target h => hstep₁ _ fun acts => by rw [doInvoke_state]; exact hsteps.trans h⟩
abbrev vx_CVW (R : Room) (s : State) (args : Array Value) (own C : String) (index : Nat) (y : MethodName) (bytes : ByteArray) (maxL : Nat) (ret : Option FieldType) (hh : List (Nat × Nat × Nat × Nat)) (ws : List Cond) (rm : Room) (mc ms n : Nat) : Prop :=
  (rm.cells = mc ∧ rm.slots = ms ∧ rm.frames + 1 ≤ R.frames ∧ 8 + (maxL + 11) + rm.locals ≤ R.locals ∧ (∀ w ∈ ws, ∀ (a' : Array Value) (U : State), s.WarmedH U.vm → w.before a' U = true) ∧ Cond.codeWith y bytes maxL ret hh ∈ ws) ∧
  (Cond.codeWith y bytes maxL ret hh).before args s = true ∧ (Cond.initialized y.cls).before args s = true ∧ (y.cls ≠ "java/lang/invoke/MethodHandle" ∧ y.cls ≠ "java/lang/invoke/VarHandle") ∧
  (∀ sig, parseMethodDescriptor y.desc = some sig → n = sig.parameters.length) ∧ (Cond.methodLink own index y).before args s = true ∧ (Cond.instanceMethod y).before args s = true ∧ (Cond.selects C y y).before args s = true
theorem vx_cwVW {own C : String} {index maxL mc ms : Nat} {y : MethodName} {bytes : ByteArray} {ret : Option FieldType} {hh : List (Nat × Nat × Nat × Nat)} {Ts ws ws' : List Cond} {rm : Room} (n : Nat) (ht : ∀ w ∈ Ts, w.before args s = true) (hT : GoodIn Ts (wsV own index C y ws)) (hw : ws = Cond.codeWith y bytes maxL ret hh :: ws') (hrc : rm.cells = mc) (hrs : rm.slots = ms)
    (hd : y.cls = C ∧ y.cls ≠ "java/lang/invoke/MethodHandle" ∧ y.cls ≠ "java/lang/invoke/VarHandle" ∧ (parseMethodDescriptor y.desc).map (fun d => d.parameters.length) = some n) (hR : rm.frames + 1 ≤ R.frames ∧ 8 + (maxL + 11) + rm.locals ≤ R.locals) :
    vx_CVW R s args own C index y bytes maxL ret hh ws rm mc ms n := by
  obtain ⟨hC, hd⟩ := hd
  subst hC
  have ok : ∀ w ∈ wsV own index y.cls y ws, w.before args s = true := fun w h => ht w (hT w h).1
  have hG : GoodIn Ts ws := fun w h => hT w (by unfold wsV; exact List.mem_append_right _ h)
  have hc : Cond.codeWith y bytes maxL ret hh ∈ ws := by rw [hw]; exact List.mem_cons_self
  refine ⟨⟨hrc, hrs, hR.1, hR.2, pay_in ht hG, hc⟩, ht _ (hG _ hc).1, ok _ (by simp [wsV]), ⟨hd.1, hd.2.1⟩, fun sig h => ?_, ok _ (by simp [wsV]), ok _ (by simp [wsV]), ok _ (by simp [wsV])⟩
  have h2 := hd.2.2
  rw [h] at h2
  exact (Option.some.inj h2).symm
theorem vx_runVW {y : MethodName} {bytes cc : ByteArray} {maxL nL mc ms n index : Nat} {ret : Option FieldType} {hh : List (Nat × Nat × Nat × Nat)} {ws : List Cond} {rm : Room} {Pc : Array Value → State → Prop} {Qc : Array Value → State → Outcome → State → Prop} {free : Addr → Prop} {Ts : List Cond} {own C : String} {b : Addr} {As rest : List Value} {g : JFrame}
    (S : CallFix p m c cc nL s args Ts own) (hM : Met l y ws rm Pc Qc mc ms free) (cw : vx_CVW R s args own C index y bytes maxL ret hh ws rm mc ms n) (hp : PreV s H C b Pc As)
    (hg : g.method = m) (hn : As.length = n) (hsize : g.locals.size = nL) (hstack : g.stack = As.reverse ++ .ref b :: rest) (hW : 2 * g.monitorRoom + (rest.map fun v => v.category).sum ≤ 8) (hdg : decode cc g.pc = .ok (.invokevirtual index, 3)) (hf : cells + mc ≤ R.cells ∧ slots + ms ≤ R.slots) :
    va_Run p l e R s m args below meth c H locs cells slots mc ms g rest (Qc (Value.ref b :: As).toArray) free := by
  obtain ⟨⟨hrc, hrs, hfr, hlo, hws, hcw⟩, hcode, hini, hy, hlen, hl, hin, hse⟩ := cw
  have hK : Back l R p e below s args y 3 8 (PreOf R mc ms Pc) (PostOf Qc mc ms free) := va_backW (hh := hh) (bytes := bytes) (maxL := maxL) (ret := ret) hM hp.1 hrc hrs hfr hlo hws hcw (fun a' U hW => word_at hW (Or.inl (by first | rfl | simp [Cond.onTables, Cond.keeps, Cond.steady])) hini)
  obtain ⟨hx, hb, hml, ho, -⟩ := S
  obtain ⟨-, ⟨cellB, hcB, hoB, hclB⟩, hPc⟩ := hp
  intro T hT X
  obtain ⟨v, vm₁, ⟨U', l2, c2, s2⟩, hW₁, X', ⟨g', mk, t, L, e1, e2, hq, h1, hL, h2, h3⟩, st⟩ := vx_callVW X hx (C := C) (hh := hh) (bytes := bytes) (maxL := maxL) (ret := ret) ho hl hin hse hcode hy hK (by rw [hT]; exact hcB) hoB hclB hg (hsize.trans hml.symm) (argsL := As) (rest := rest) (fun sig h => hn.trans (hlen sig h)) hstack hW (by rw [hb]; exact hdg)
    (fun vm₁ hW₁ => ⟨hf.1, hf.2, hPc (T.setVm vm₁) hT hW₁⟩)
  dsimp only [Pt.U, Pt.locs, Pt.cells, Pt.slots] at X' e1 e2 h1 h2 h3 st
  subst h1; subst h2; subst h3
  exact ⟨v, (T.setVm vm₁).calling g' mk (Value.ref b :: As).toArray, t, U', L, hT, X', hL, e1, e2, hq, st⟩
section
variable {y : MethodName} {bytes cc : ByteArray} {maxL nL mc ms n index : Nat} {ret : Option FieldType} {ws : List Cond} {rm : Room} {Pc : Array Value → State → Prop} {Qc : Array Value → State → Outcome → State → Prop} {XC : String → State → State → Prop} {free : Addr → Prop} {Ts : List Cond} {own C : String} {b : Addr} {As rest : List Value} {g : JFrame}
theorem vx_runVX {hh : List (Nat × Nat × Nat × Nat)} (S : CallFix p m c cc nL s args Ts own) (hM : vx_Met l y ws rm Pc Qc XC mc ms free) (cw : vx_CVW R s args own C index y bytes maxL ret hh ws rm mc ms n) (hp : PreV s H C b Pc As)
    (hg : g.method = m) (hn : As.length = n) (hsize : g.locals.size = nL) (hstack : g.stack = As.reverse ++ .ref b :: rest) (hW : 2 * g.monitorRoom + (rest.map fun v => v.category).sum ≤ 8) (hdg : decode cc g.pc = .ok (.invokevirtual index, 3)) (hf : cells + mc ≤ R.cells ∧ slots + ms ≤ R.slots) :
    vx_Run p l e R s m args below meth c H locs cells slots mc ms g rest (Qc (Value.ref b :: As).toArray) XC free := by
  obtain ⟨⟨hrc, hrs, hfr, hlo, hws, hcw⟩, hcode, hini, hy, hlen, hl, hin, hse⟩ := cw
  have hK : vx_Back l R p e below s args y 3 8 (PreOf R mc ms Pc) (PostOf Qc mc ms free) (vx_Post XC mc ms free) := vx_backW (hh := hh) (bytes := bytes) (maxL := maxL) (ret := ret) hM hp.1 hrc hrs hfr hlo hws hcw (fun a' U hW => word_at hW (Or.inl (by first | rfl | simp [Cond.onTables, Cond.keeps, Cond.steady])) hini)
  obtain ⟨hx, hb, hml, ho, -⟩ := S
  obtain ⟨-, ⟨cellB, hcB, hoB, hclB⟩, hPc⟩ := hp
  intro T hT X
  rcases vx_callVX X hx (C := C) (hh := hh) (bytes := bytes) (maxL := maxL) (ret := ret) ho hl hin hse hcode hy hK (by rw [hT]; exact hcB) hoB hclB hg (hsize.trans hml.symm) (argsL := As) (rest := rest) (fun sig h => hn.trans (hlen sig h)) hstack hW (by rw [hb]; exact hdg)
    (fun vm₁ hW₁ => ⟨hf.1, hf.2, hPc (T.setVm vm₁) hT hW₁⟩) with ⟨v, vm₁, ⟨U', l2, c2, s2⟩, hW₁, X', ⟨g', mk, t, L, e1, e2, hq, h1, hL, h2, h3⟩, st⟩ | ⟨q, vm₁, ⟨U', l2, c2, s2⟩, hW₁, X', ⟨g', mk, t, L, E, ce, e1, e2, hq, hce, hcv, hcl, h1, hL, h2, h3⟩, st⟩
  · dsimp only [Pt.U, Pt.locs, Pt.cells, Pt.slots] at X' e1 e2 h1 h2 h3 st
    subst h1; subst h2; subst h3
    exact Or.inl ⟨v, (T.setVm vm₁).calling g' mk (Value.ref b :: As).toArray, t, U', L, hT, X', hL, e1, e2, hq, st⟩
  · dsimp only [Pt.U, Pt.locs, Pt.cells, Pt.slots] at X' e1 e2 h1 h2 h3 st hcl
    subst h1; subst h2; subst h3
    exact Or.inr ⟨q, (T.setVm vm₁).calling g' mk (Value.ref b :: As).toArray, t, U', L, E, ce, hT, X', hL, e1, e2, hq, hce, hcv, vx_cls hW₁ hcl, st⟩
theorem vx_runSX {hh : List (Nat × Nat × Nat × Nat)} (S : CallFix p m c cc nL s args Ts own) (hM : vx_Met l y ws rm Pc Qc XC mc ms free) (cw : vx_CSW R s args own index y bytes maxL ret hh ws rm mc ms n) (hp : PreS s H Pc As)
    (hg : g.method = m) (hn : As.length = n) (hsize : g.locals.size = nL) (hstack : g.stack = As.reverse ++ rest) (hW : 2 * g.monitorRoom + (rest.map fun v => v.category).sum ≤ 8) (hdg : decode cc g.pc = .ok (.invokestatic index, 3)) (hf : cells + mc ≤ R.cells ∧ slots + ms ≤ R.slots) :
    vx_Run p l e R s m args below meth c H locs cells slots mc ms g rest (Qc As.toArray) XC free := by
  obtain ⟨⟨hrc, hrs, hfr, hlo, hws, hcw⟩, hcode, hini, hy, hlen, hl, hstt⟩ := cw
  have hK : vx_Back l R p e below s args y 3 8 (PreOf R mc ms Pc) (PostOf Qc mc ms free) (vx_Post XC mc ms free) := vx_backW (hh := hh) (bytes := bytes) (maxL := maxL) (ret := ret) hM hp.1 hrc hrs hfr hlo hws hcw (fun a' U hW => word_at hW (Or.inl (by first | rfl | simp [Cond.onTables, Cond.keeps, Cond.steady])) hini)
  obtain ⟨hx, hb, hml, ho, -⟩ := S
  intro T hT X
  rcases vx_callSX X hx (hh := hh) (bytes := bytes) (maxL := maxL) (ret := ret) ho hl hstt hini hcode hy hK hg (hsize.trans hml.symm) (argsL := As) (rest := rest) (fun sig h => hn.trans (hlen sig h)) hstack hW (by rw [hb]; exact hdg)
    (fun vm₁ hW₁ => ⟨hf.1, hf.2, hp.2 (T.setVm vm₁) hT hW₁⟩) with ⟨v, vm₁, ⟨U', l2, c2, s2⟩, hW₁, X', ⟨g', mk, t, L, e1, e2, hq, h1, hL, h2, h3⟩, st⟩ | ⟨q, vm₁, ⟨U', l2, c2, s2⟩, hW₁, X', ⟨g', mk, t, L, E, ce, e1, e2, hq, hce, hcv, hcl, h1, hL, h2, h3⟩, st⟩
  · dsimp only [Pt.U, Pt.locs, Pt.cells, Pt.slots] at X' e1 e2 h1 h2 h3 st
    subst h1; subst h2; subst h3
    exact Or.inl ⟨v, (T.setVm vm₁).calling g' mk As.toArray, t, U', L, hT, X', hL, e1, e2, hq, st⟩
  · dsimp only [Pt.U, Pt.locs, Pt.cells, Pt.slots] at X' e1 e2 h1 h2 h3 st hcl
    subst h1; subst h2; subst h3
    exact Or.inr ⟨q, (T.setVm vm₁).calling g' mk As.toArray, t, U', L, E, ce, hT, X', hL, e1, e2, hq, hce, hcv, vx_cls hW₁ hcl, st⟩
end
end VXH
theorem vx_ofWH {l : Launch} {y : MethodName} {ws ws' : List Cond} {rm : Room} {Pc : Array Value → State → Prop} {Qc : Array Value → State → Outcome → State → Prop} {XC : String → State → State → Prop} {mc ms : Nat} {free : Addr → Prop} {cc : ByteArray} {maxL : Nat} {ret : Option FieldType} {hh : List (Nat × Nat × Nat × Nat)}
    (hy : plainName y.cls = true) (hw : ws = Cond.codeWith y cc maxL ret hh :: ws')
    (body : ∀ p e s m args below meth c s₁, BodyLoose p l y (headSpec ws rm) cc maxL ret e s m args below meth c s₁ → c.maxLocals = maxL → Pc args s →
      W p l e (headSpec ws rm).room s m args below meth c s.heap [] 0 0 (vx_MQ below Qc XC args s mc ms free) (entryFrame m args maxL)) : vx_Met l y ws rm Pc Qc XC mc ms free := by
  refine MetFree.of_bodyS (code := cc) (maxLocals := maxL) (ret := ret) hy ?_ ?_
  · intro args s m h hn
    obtain ⟨m9, meth, c, hn9, h1, h2, h3, h4, -, h5, h6, -⟩ := Cond.codeWith_spec (atoms_spec (ws := ws) h _ (by rw [hw]; exact List.mem_cons_self))
    cases hn.symm.trans hn9
    exact ⟨meth, c, h1, h2, h3, h4, h5, h6⟩
  · intro p e s m args below meth c s₁ B hml hP _
    have hh0 : s₁.heap = s.heap := by rw [B.state]; rfl
    obtain ⟨t, a1, o, b1, b2, b3⟩ := body p e s m args below meth c s₁ B hml hP s₁ hh0 (Stand.of_body B)
    exact ⟨t, o, a1, b1, b2, b3⟩
/-! ===== END ===== -/
end
section
/-! The tables of the program, by program (wip/gen.py) out of what TURN printed: classes, fields, methods, what each pool number of a method means, the code as a list. -/
def a_cls : List (String × List (String × String × Bool)) := [
  ("Juryreel$Archive", [("letters", "[C", true), ("filmOf", "[I", true), ("lineCount", "I", false), ("next", "I", false)]),
  ("Juryreel$Count", [("isOut", "[Z", true), ("isOnBallot", "[Z", true), ("tally", "[I", true), ("leads", "[[I", true)]),
  ("Juryreel$Film", [("form", "C", false), ("minutes", "I", false), ("land", "I", false), ("section", "I", false), ("isWithdrawn", "Z", false), ("stillIs", "I", false), ("promise", "I", false), ("kind", "C", false), ("comes", "I", false)]),
  ("Juryreel$Grid", [("films", "[LJuryreel$Film;", true), ("venue", "LJuryreel$Venue;", true), ("archive", "LJuryreel$Archive;", true), ("shows", "[LJuryreel$Show;", true), ("showCount", "I", false), ("hour", "I", false), ("isStormy", "[Z", true), ("found", "[I", true), ("foundCount", "I", false)]),
  ("Juryreel$Juror", [("land", "I", false), ("hasSeen", "[Z", true), ("lastHour", "I", false), ("lastShow", "I", false), ("ballot", "[I", true), ("ballotSize", "I", false)]),
  ("Juryreel$Passes", [("ranks", "[I", true), ("passCount", "I", false)]),
  ("Juryreel$Readings", [("lands", "[I", true), ("dealtFilms", "[I", true), ("toldScores", "[I", true), ("sums", "[I", true), ("marks", "[[I", true), ("readerCount", "I", false)]),
  ("Juryreel$Rights", [("soldFilms", "[I", true), ("lands", "[I", true), ("firstMonths", "[I", true), ("lastMonths", "[I", true), ("buyers", "[I", true), ("dealCount", "I", false)]),
  ("Juryreel$Section", [("quota", "I", false), ("budget", "I", false), ("least", "I", false), ("form", "C", false), ("premiere", "I", false), ("rule", "C", false), ("isAwarded", "Z", false), ("jurors", "[LJuryreel$Juror;", true), ("jurorCount", "I", false)]),
  ("Juryreel$Show", [("film", "I", false), ("screen", "I", false), ("first", "I", false), ("length", "I", false), ("cause", "C", false), ("isOpened", "Z", false), ("queue", "[I", true), ("waiting", "I", false), ("isSeated", "[Z", true)]),
  ("Juryreel$Venue", [("seats", "[I", true), ("hasGear", "[Z", true), ("screenCount", "I", false), ("keyFilms", "[I", true), ("keyScreens", "[I", true), ("keyFrom", "[I", true), ("keyTo", "[I", true), ("keyCount", "I", false)]),
  ("Juryreel", [("grid", "LJuryreel$Grid;", true), ("films", "[LJuryreel$Film;", true), ("venue", "LJuryreel$Venue;", true), ("archive", "LJuryreel$Archive;", true), ("filmCount", "I", false), ("sections", "[LJuryreel$Section;", true), ("sectionCount", "I", false), ("readings", "LJuryreel$Readings;", true), ("passes", "LJuryreel$Passes;", true), ("count", "LJuryreel$Count;", true), ("rights", "LJuryreel$Rights;", true), ("typed", "[I", true), ("typedCount", "I", false), ("order", "[I", true), ("weights", "[I", true)]),
  ("JuryreelModel", [("forms", "[C", true), ("minutes", "[I", true), ("lands", "[I", true), ("still", "[I", true), ("sections", "[I", true), ("promises", "[I", true), ("areWithdrawn", "[Z", true), ("prints", "[C", true), ("printHours", "[I", true), ("readerLands", "[I", true), ("dealtMany", "[I", true), ("areDealt", "[[Z", true), ("scores", "[[I", true), ("quotas", "[I", true), ("budgets", "[I", true), ("leasts", "[I", true), ("sectionForms", "[C", true), ("premieres", "[I", true), ("rules", "[C", true), ("areGiven", "[Z", true), ("seats", "[I", true), ("haveGear", "[Z", true), ("keys", "[[I", true), ("showFilms", "[I", true), ("showScreens", "[I", true), ("showHours", "[I", true), ("gone", "[C", true), ("areOpened", "[Z", true), ("waits", "[[I", true), ("waitMany", "[I", true), ("haveSeats", "[[Z", true), ("storms", "[Z", true), ("ranks", "[I", true), ("jurorMany", "[I", true), ("jurorLands", "[[I", true), ("haveSeen", "[[[Z", true), ("sawAt", "[[[I", true), ("ballotMany", "[[I", true), ("ballots", "[[[I", true), ("typed", "[I", true), ("deals", "[[I", true), ("letters", "[C", true), ("lineFilms", "[I", true), ("areLeft", "[Z", true), ("films", "I", false), ("readers", "I", false), ("sectionMany", "I", false), ("screens", "I", false), ("keyMany", "I", false), ("shows", "I", false), ("passes", "I", false), ("typedMany", "I", false), ("dealMany", "I", false), ("lineMany", "I", false), ("hour", "I", false), ("thrown", "I", false)]),
  ("JuryreelLaw", [])]
-- of each class: (pool number, class, field, word)
def a_fld : List (List (Nat × Nat × Nat × Nat × Nat)) := [
  [(9, 0, 0, (1, 88)), (15, 0, 1, (1, 90)), (19, 0, 2, (1, 92)), (23, 0, 3, (1, 94))],
  [(9, 1, 0, (2, 51)), (15, 1, 1, (2, 52)), (18, 1, 2, (2, 53)), (24, 1, 3, (2, 54)), (31, 8, 5, (2, 138)), (48, 2, 4, (1, 122)), (54, 4, 5, (2, 112)), (60, 4, 4, (2, 110)), (63, 8, 8, (2, 146)), (66, 8, 7, (2, 143))],
  [(9, 2, 0, (1, 112)), (15, 2, 1, (1, 114)), (19, 2, 2, (1, 116)), (22, 2, 3, (1, 118)), (25, 2, 4, (1, 121)), (29, 2, 5, (1, 124)), (32, 2, 6, (1, 126)), (35, 2, 7, (1, 128)), (38, 2, 8, (1, 131))],
  [(11, 3, 0, (1, 204)), (20, 3, 1, (1, 206)), (27, 3, 2, (1, 208)), (33, 3, 3, (1, 210)), (37, 3, 4, (1, 212)), (41, 3, 5, (1, 214)), (44, 3, 6, (1, 216)), (48, 3, 7, (1, 218)), (52, 3, 8, (1, 219)), (57, 9, 4, (1, 171)), (61, 9, 2, (1, 165)), (64, 9, 3, (1, 168)), (67, 2, 7, (1, 129)), (70, 10, 1, (1, 53)), (85, 2, 8, (1, 132)), (94, 2, 3, (1, 119)), (101, 9, 1, (1, 162)), (104, 9, 0, (1, 159)), (115, 10, 2, (1, 55)), (137, 9, 7, (1, 179)), (140, 9, 6, (1, 176)), (146, 9, 8, (1, 183)), (156, 10, 0, (1, 50))],
  [(9, 4, 0, (2, 102)), (15, 4, 1, (2, 105)), (19, 4, 2, (2, 107)), (22, 4, 3, (2, 108)), (25, 4, 4, (2, 109)), (29, 4, 5, (2, 111))],
  [(9, 5, 0, (2, 36)), (15, 5, 1, (2, 37)), (19, 9, 7, (1, 178)), (24, 9, 6, (1, 175)), (33, 9, 8, (1, 182))],
  [(9, 6, 0, (2, 9)), (15, 6, 1, (2, 10)), (18, 6, 2, (2, 11)), (21, 6, 3, (2, 12)), (26, 6, 4, (2, 13)), (29, 6, 5, (2, 15))],
  [(9, 7, 0, (2, 70)), (15, 7, 1, (2, 71)), (18, 7, 2, (2, 72)), (21, 7, 3, (2, 73)), (24, 7, 4, (2, 74)), (27, 7, 5, (2, 75))],
  [(9, 8, 0, (2, 127)), (15, 8, 1, (2, 129)), (18, 8, 2, (2, 131)), (21, 8, 3, (2, 133)), (25, 8, 4, (2, 135)), (28, 8, 5, (2, 137)), (31, 8, 6, (2, 140)), (37, 8, 7, (2, 142)), (41, 8, 8, (2, 145)), (45, 4, 0, (2, 103)), (48, 4, 5, (2, 113))],
  [(9, 9, 0, (1, 158)), (15, 9, 1, (1, 161)), (18, 9, 2, (1, 164)), (21, 9, 3, (1, 167)), (24, 9, 4, (1, 170)), (28, 9, 5, (1, 172)), (32, 9, 6, (1, 174)), (36, 9, 7, (1, 177)), (39, 9, 8, (1, 181))],
  [(9, 10, 0, (1, 49)), (15, 10, 1, (1, 52)), (19, 10, 2, (1, 54)), (23, 10, 3, (1, 57)), (26, 10, 4, (1, 58)), (29, 10, 5, (1, 59)), (32, 10, 6, (1, 60)), (35, 10, 7, (1, 61))],
  [(10, 11, 0, (2, 167)), (16, 3, 0, (1, 205)), (20, 11, 1, (2, 168)), (21, 3, 1, (1, 207)), (25, 11, 2, (2, 169)), (26, 3, 2, (1, 209)), (30, 11, 3, (2, 170)), (31, 11, 4, (2, 171)), (37, 11, 5, (2, 172)), (41, 11, 6, (2, 173)), (47, 11, 7, (2, 174)), (54, 11, 8, (2, 175)), (61, 11, 9, (2, 176)), (68, 11, 10, (2, 177)), (72, 11, 11, (2, 178)), (76, 11, 12, (2, 179)), (79, 11, 13, (2, 180)), (82, 11, 14, (2, 181)), (114, 6, 5, (2, 16)), (129, 2, 2, (1, 117)), (151, 6, 4, (2, 14)), (188, 2, 5, (1, 125)), (218, 8, 4, (2, 136)), (230, 2, 3, (1, 120)), (238, 2, 6, (1, 127)), (249, 10, 2, (1, 56)), (265, 2, 7, (1, 130)), (269, 2, 8, (1, 133)), (277, 10, 7, (1, 62)), (295, 3, 4, (1, 213)), (315, 3, 3, (1, 211)), (319, 9, 0, (1, 160)), (324, 9, 1, (1, 163)), (327, 9, 2, (1, 166)), (330, 9, 3, (1, 169)), (346, 3, 5, (1, 215)), (353, 3, 6, (1, 217)), (375, 2, 4, (1, 123)), (389, 5, 1, (2, 38)), (400, 9, 5, (1, 173)), (412, 9, 7, (1, 180)), (417, 10, 0, (1, 51)), (424, 9, 8, (1, 184)), (427, 8, 8, (2, 147)), (437, 8, 5, (2, 139)), (443, 8, 7, (2, 144)), (483, 8, 6, (2, 141)), (501, 7, 5, (2, 76)), (517, 0, 2, (1, 93)), (525, 0, 1, (1, 91)), (528, 0, 0, (1, 89)), (577, 2, 1, (1, 115)), (580, 8, 3, (2, 134)), (583, 2, 0, (1, 113)), (584, 8, 2, (2, 132)), (590, 8, 0, (2, 128)), (593, 8, 1, (2, 130)), (596, 4, 1, (2, 106)), (599, 4, 0, (2, 104))],
  [(9, 12, 0, (7, 2)), (13, 12, 1, (7, 3)), (17, 12, 2, (7, 4)), (20, 12, 3, (7, 5)), (23, 12, 4, (7, 6)), (26, 12, 5, (7, 7)), (29, 12, 6, (7, 8)), (33, 12, 7, (7, 9)), (36, 12, 8, (7, 10)), (39, 12, 9, (7, 11)), (42, 12, 10, (7, 12)), (47, 12, 11, (7, 13)), (52, 12, 12, (7, 14)), (55, 12, 13, (7, 15)), (58, 12, 14, (7, 16)), (61, 12, 15, (7, 17)), (64, 12, 16, (7, 18)), (67, 12, 17, (7, 19)), (70, 12, 18, (7, 20)), (73, 12, 19, (7, 21)), (76, 12, 20, (7, 22)), (79, 12, 21, (7, 23)), (82, 12, 22, (7, 24)), (85, 12, 23, (7, 25)), (88, 12, 24, (7, 26)), (91, 12, 25, (7, 27)), (94, 12, 26, (7, 28)), (97, 12, 27, (7, 29)), (100, 12, 28, (7, 30)), (103, 12, 29, (7, 31)), (106, 12, 30, (7, 32)), (109, 12, 31, (7, 33)), (112, 12, 32, (7, 34)), (115, 12, 33, (7, 35)), (118, 12, 34, (7, 36)), (123, 12, 35, (7, 37)), (128, 12, 36, (7, 38)), (131, 12, 37, (7, 39)), (134, 12, 38, (7, 40)), (137, 12, 39, (7, 41)), (140, 12, 40, (7, 42)), (143, 12, 41, (7, 43)), (146, 12, 42, (7, 44)), (149, 12, 43, (7, 45)), (152, 12, 55, (7, 57)), (156, 12, 44, (7, 46)), (163, 12, 53, (7, 55)), (180, 12, 45, (7, 47)), (228, 12, 46, (7, 48)), (247, 12, 47, (7, 49)), (256, 12, 48, (7, 50)), (268, 12, 54, (7, 56)), (271, 12, 49, (7, 51)), (306, 12, 50, (7, 52)), (318, 12, 51, (7, 53)), (352, 12, 52, (7, 54))],
  []]
-- (pool number, 0 virtual 1 static 2 special, method, words: link, instance or static, selects, initialized)
def a_inv : List (List (Nat × Nat × Nat × (Nat × Nat) × (Nat × Nat) × (Nat × Nat) × (Nat × Nat))) := [
  [],
  [(27, 0, 5, (3, 39), (3, 40), (3, 41), (1, 9)), (37, 0, 11, (3, 43), (3, 44), (3, 45), (1, 9)), (41, 0, 12, (3, 67), (3, 68), (3, 69), (1, 9)), (45, 0, 15, (3, 79), (3, 80), (3, 81), (1, 9)), (70, 0, 6, (3, 51), (3, 52), (3, 53), (1, 9)), (74, 0, 7, (3, 63), (3, 64), (3, 65), (1, 9)), (78, 0, 8, (3, 47), (3, 48), (3, 49), (1, 9)), (82, 0, 10, (3, 55), (3, 56), (3, 57), (1, 9)), (86, 0, 9, (3, 59), (3, 60), (3, 61), (1, 9)), (89, 0, 13, (3, 71), (3, 72), (3, 73), (1, 9)), (92, 0, 14, (3, 75), (3, 76), (3, 77), (1, 9)), (96, 0, 16, (3, 83), (3, 84), (3, 85), (1, 9)), (99, 0, 22, (3, 91), (3, 92), (3, 93), (1, 9)), (102, 0, 18, (3, 95), (3, 96), (3, 97), (1, 9)), (105, 0, 21, (3, 107), (3, 108), (3, 109), (1, 9)), (109, 0, 20, (3, 103), (3, 104), (3, 105), (1, 9)), (112, 0, 19, (3, 99), (3, 100), (3, 101), (1, 9))],
  [],
  [(19, 3, 85, (1, 45), (1, 46), (1, 46), (1, 3)), (26, 3, 0, (1, 84), (1, 85), (1, 85), (1, 4)), (55, 3, 23, (1, 108), (1, 109), (1, 109), (1, 5)), (56, 3, 79, (1, 154), (1, 155), (1, 155), (1, 6)), (73, 0, 88, (5, 83), (5, 84), (5, 85), (1, 3)), (77, 0, 29, (5, 98), (5, 99), (5, 100), (1, 5)), (81, 0, 32, (5, 106), (5, 80), (5, 81), (1, 2)), (88, 0, 33, (5, 102), (5, 103), (5, 104), (1, 2)), (91, 0, 35, (5, 107), (5, 108), (5, 109), (1, 2)), (97, 0, 81, (2, 239), (3, 0), (3, 1), (1, 6)), (107, 0, 80, (5, 117), (5, 118), (5, 119), (1, 6)), (111, 0, 1, (5, 121), (4, 231), (4, 232), (1, 4)), (118, 0, 34, (5, 143), (5, 95), (5, 96), (1, 2)), (121, 0, 36, (5, 144), (5, 114), (5, 115), (1, 2)), (125, 0, 31, (5, 137), (2, 228), (2, 229), (1, 2)), (129, 0, 44, (5, 198), (5, 199), (5, 200), (1, 2)), (133, 0, 37, (5, 210), (5, 140), (5, 141), (1, 2)), (143, 0, 83, (5, 211), (5, 212), (5, 213), (1, 6)), (149, 0, 49, (3, 3), (3, 4), (3, 5), (1, 2)), (153, 0, 84, (3, 11), (3, 12), (3, 13), (1, 6)), (159, 0, 47, (3, 15), (3, 16), (3, 17), (1, 2))],
  [],
  [(27, 0, 47, (6, 46), (3, 16), (3, 17), (1, 2))],
  [(33, 0, 60, (4, 56), (4, 57), (4, 58), (1, 7)), (37, 0, 66, (4, 152), (4, 137), (4, 138), (1, 7))],
  [(31, 0, 71, (3, 115), (3, 116), (3, 117), (1, 10))],
  [(44, 3, 51, (2, 98), (2, 99), (2, 99), (1, 12))],
  [],
  [],
  [(9, 2, 30, (1, 37), (1, 38), (1, 38), (1, 2)), (46, 2, 58, (2, 3), (2, 4), (2, 4), (1, 7)), (53, 3, 55, (2, 32), (2, 33), (2, 33), (1, 8)), (60, 3, 3, (2, 46), (2, 47), (2, 47), (1, 9)), (67, 3, 69, (2, 66), (2, 67), (2, 67), (1, 10)), (85, 2, 75, (2, 91), (2, 92), (2, 92), (1, 11)), (86, 1, 139, (3, 128), (3, 129), (3, 129), (1, 1)), (90, 1, 138, (3, 131), (3, 132), (3, 132), (1, 1)), (191, 1, 141, (4, 183), (4, 184), (4, 184), (1, 1)), (197, 1, 140, (4, 194), (4, 195), (4, 195), (1, 1)), (566, 1, 142, (4, 35), (4, 36), (4, 36), (1, 1)), (106, 0, 24, (3, 222), (3, 223), (3, 224), (1, 5)), (119, 0, 59, (3, 235), (3, 236), (3, 237), (1, 7)), (123, 0, 143, (4, 31), (4, 33), (0, 5), (1, 1)), (132, 0, 61, (4, 52), (4, 53), (4, 54), (1, 7)), (141, 0, 62, (4, 76), (4, 77), (4, 78), (1, 7)), (145, 0, 63, (4, 80), (4, 81), (4, 82), (1, 7)), (148, 0, 144, (4, 91), (4, 93), (0, 6), (1, 1)), (159, 0, 64, (4, 104), (4, 105), (4, 106), (1, 7)), (163, 0, 65, (4, 108), (4, 109), (4, 110), (1, 7)), (171, 0, 66, (4, 136), (4, 137), (4, 138), (1, 7)), (176, 0, 67, (4, 148), (4, 149), (4, 150), (1, 7)), (179, 0, 68, (4, 160), (4, 161), (4, 162), (1, 7)), (184, 0, 25, (4, 178), (4, 179), (4, 180), (1, 5)), (205, 0, 76, (4, 199), (4, 200), (4, 201), (1, 11)), (208, 0, 145, (4, 210), (4, 212), (0, 7), (1, 1)), (211, 0, 152, (4, 214), (4, 216), (0, 8), (1, 1)), (215, 0, 154, (4, 222), (4, 224), (0, 10), (1, 1)), (221, 0, 26, (4, 226), (4, 227), (4, 228), (1, 5)), (224, 0, 1, (4, 230), (4, 231), (4, 232), (1, 4)), (235, 0, 156, (3, 27), (3, 29), (0, 2), (1, 1)), (243, 0, 28, (5, 25), (5, 26), (5, 27), (1, 5)), (256, 0, 86, (5, 38), (5, 39), (5, 40), (1, 3)), (262, 0, 150, (5, 50), (5, 52), (0, 11), (1, 1)), (272, 0, 147, (5, 62), (5, 64), (0, 12), (1, 1)), (282, 0, 87, (5, 68), (5, 69), (5, 70), (1, 3)), (286, 0, 32, (5, 79), (5, 80), (5, 81), (1, 2)), (290, 0, 34, (5, 94), (5, 95), (5, 96), (1, 2)), (300, 0, 36, (5, 113), (5, 114), (5, 115), (1, 2)), (304, 0, 153, (5, 129), (5, 131), (0, 13), (1, 1)), (309, 0, 37, (5, 139), (5, 140), (5, 141), (1, 2)), (312, 0, 148, (5, 152), (5, 154), (0, 14), (1, 1)), (335, 0, 31, (2, 227), (2, 228), (2, 229), (1, 2)), (339, 0, 38, (5, 171), (5, 172), (5, 173), (1, 2)), (359, 0, 41, (5, 194), (5, 195), (5, 196), (1, 2)), (362, 0, 45, (5, 202), (5, 203), (5, 204), (1, 2)), (365, 0, 46, (5, 206), (5, 207), (5, 208), (1, 2)), (372, 0, 42, (5, 224), (5, 225), (5, 226), (1, 2)), (381, 0, 43, (5, 236), (5, 237), (5, 238), (1, 2)), (384, 0, 27, (6, 0), (6, 1), (6, 2), (1, 5)), (394, 0, 56, (6, 13), (6, 14), (6, 15), (1, 8)), (397, 0, 149, (6, 24), (6, 26), (0, 15), (1, 1)), (403, 0, 82, (6, 28), (6, 29), (6, 30), (1, 6)), (409, 0, 83, (6, 33), (5, 212), (5, 213), (1, 6)), (420, 0, 57, (6, 42), (6, 43), (6, 44), (1, 8)), (432, 0, 77, (6, 62), (6, 63), (6, 64), (1, 11)), (440, 0, 146, (6, 81), (6, 83), (0, 16), (1, 1)), (447, 0, 52, (6, 85), (6, 86), (6, 87), (1, 12)), (455, 0, 53, (6, 90), (6, 91), (6, 92), (1, 12)), (458, 0, 157, (6, 94), (6, 96), (0, 17), (1, 1)), (464, 0, 159, (6, 113), (6, 115), (0, 18), (1, 1)), (470, 0, 54, (6, 122), (6, 123), (6, 124), (1, 12)), (474, 0, 78, (6, 127), (6, 128), (6, 129), (1, 11)), (477, 0, 4, (3, 35), (3, 36), (3, 37), (1, 9)), (496, 0, 72, (6, 158), (6, 159), (6, 160), (1, 10)), (506, 0, 70, (6, 164), (6, 165), (6, 166), (1, 10)), (512, 0, 73, (6, 176), (6, 177), (6, 178), (1, 10)), (522, 0, 2, (6, 189), (6, 190), (6, 191), (1, 4)), (536, 0, 40, (6, 214), (6, 215), (6, 216), (1, 2)), (546, 0, 48, (2, 235), (2, 236), (2, 237), (1, 2)), (549, 0, 50, (3, 7), (3, 8), (3, 9), (1, 2)), (552, 0, 160, (3, 19), (3, 21), (0, 0), (1, 1)), (555, 0, 161, (3, 31), (3, 33), (0, 3), (1, 1)), (558, 0, 74, (3, 111), (3, 112), (3, 113), (1, 10)), (571, 0, 151, (4, 218), (4, 220), (0, 9), (1, 1)), (574, 0, 39, (5, 133), (5, 134), (5, 135), (1, 2)), (587, 0, 155, (3, 23), (3, 25), (0, 1), (1, 1)), (600, 0, 158, (6, 117), (6, 119), (0, 19), (1, 1)), (603, 0, 17, (3, 87), (3, 88), (3, 89), (1, 9))],
  [(159, 1, 164, (7, 178), (7, 179), (7, 179), (1, 13)), (172, 1, 165, (7, 175), (7, 176), (7, 176), (1, 13)), (220, 1, 182, (8, 9), (8, 10), (8, 10), (1, 13)), (224, 1, 183, (8, 16), (8, 17), (8, 17), (1, 13)), (250, 1, 197, (8, 70), (8, 71), (8, 71), (1, 13)), (176, 0, 163, (7, 181), (7, 183), (0, 20), (1, 13)), (183, 0, 166, (7, 193), (7, 195), (0, 21), (1, 13)), (187, 0, 170, (7, 197), (7, 199), (0, 22), (1, 13)), (191, 0, 172, (7, 205), (7, 207), (0, 23), (1, 13)), (194, 0, 174, (7, 213), (7, 215), (0, 24), (1, 13)), (204, 0, 176, (7, 221), (7, 223), (0, 25), (1, 13)), (207, 0, 178, (7, 230), (7, 232), (0, 26), (1, 13)), (217, 0, 180, (7, 238), (8, 0), (0, 27), (1, 13)), (231, 0, 188, (8, 31), (8, 33), (0, 30), (1, 13)), (234, 0, 187, (8, 35), (8, 37), (0, 31), (1, 13)), (237, 0, 186, (8, 23), (8, 25), (0, 28), (1, 13)), (240, 0, 189, (8, 27), (8, 29), (0, 29), (1, 13)), (243, 0, 167, (8, 39), (8, 41), (0, 32), (1, 13)), (253, 0, 196, (8, 77), (8, 79), (0, 33), (1, 13)), (259, 0, 200, (8, 85), (8, 87), (0, 34), (1, 13)), (262, 0, 202, (8, 97), (8, 99), (0, 36), (1, 13)), (265, 0, 203, (8, 105), (8, 107), (0, 38), (1, 13)), (274, 0, 205, (8, 101), (8, 103), (0, 37), (1, 13)), (277, 0, 206, (8, 93), (8, 95), (0, 35), (1, 13)), (280, 0, 207, (8, 109), (8, 111), (0, 39), (1, 13)), (284, 0, 204, (8, 121), (8, 123), (0, 41), (1, 13)), (287, 0, 210, (8, 117), (8, 119), (0, 40), (1, 13)), (290, 0, 208, (8, 125), (8, 127), (0, 42), (1, 13)), (293, 0, 212, (8, 133), (8, 135), (0, 43), (1, 13)), (296, 0, 218, (8, 161), (8, 163), (0, 45), (1, 13)), (299, 0, 220, (8, 157), (8, 159), (0, 44), (1, 13)), (302, 0, 219, (8, 165), (8, 167), (0, 46), (1, 13)), (309, 0, 225, (8, 185), (8, 187), (0, 47), (1, 13)), (312, 0, 227, (8, 193), (8, 195), (0, 48), (1, 13)), (315, 0, 232, (8, 213), (8, 215), (0, 49), (1, 13)), (321, 0, 236, (8, 229), (8, 231), (0, 50), (1, 13)), (324, 0, 238, (9, 25), (9, 27), (0, 58), (1, 13)), (327, 0, 240, (9, 1), (9, 3), (0, 52), (1, 13)), (330, 0, 241, (9, 17), (9, 19), (0, 56), (1, 13)), (333, 0, 239, (9, 21), (9, 23), (0, 57), (1, 13)), (336, 0, 242, (9, 9), (9, 11), (0, 54), (1, 13)), (339, 0, 243, (9, 13), (9, 15), (0, 55), (1, 13)), (343, 0, 244, (9, 5), (9, 7), (0, 53), (1, 13)), (346, 0, 245, (9, 29), (9, 31), (0, 59), (1, 13)), (349, 0, 246, (8, 237), (8, 239), (0, 51), (1, 13))],
  [(170, 2, 89, (1, 29), (1, 30), (1, 30), (1, 1)), (173, 2, 162, (6, 231), (6, 232), (6, 232), (1, 13)), (174, 1, 256, (3, 119), (3, 120), (3, 120), (1, 0)), (180, 1, 257, (3, 226), (3, 227), (3, 227), (1, 0)), (184, 1, 258, (3, 239), (4, 0), (4, 0), (1, 0)), (188, 1, 259, (4, 84), (4, 85), (4, 85), (1, 0)), (191, 1, 260, (4, 95), (4, 96), (4, 96), (1, 0)), (195, 1, 261, (4, 112), (4, 113), (4, 113), (1, 0)), (198, 1, 262, (4, 140), (4, 141), (4, 141), (1, 0)), (201, 1, 263, (4, 153), (4, 154), (4, 154), (1, 0)), (204, 1, 264, (4, 170), (4, 171), (4, 171), (1, 0)), (208, 1, 265, (4, 186), (4, 187), (4, 187), (1, 0)), (212, 1, 266, (4, 203), (4, 204), (4, 204), (1, 0)), (215, 1, 267, (4, 235), (4, 236), (4, 236), (1, 0)), (218, 1, 268, (5, 3), (5, 4), (5, 4), (1, 0)), (221, 1, 269, (5, 10), (5, 11), (5, 11), (1, 0)), (224, 1, 270, (5, 18), (5, 19), (5, 19), (1, 0)), (227, 1, 271, (5, 29), (5, 30), (5, 30), (1, 0)), (231, 1, 272, (5, 42), (5, 43), (5, 43), (1, 0)), (235, 1, 273, (5, 55), (5, 56), (5, 56), (1, 0)), (239, 1, 274, (5, 72), (5, 73), (5, 73), (1, 0)), (242, 1, 275, (5, 87), (5, 88), (5, 88), (1, 0)), (245, 1, 276, (5, 122), (5, 123), (5, 123), (1, 0)), (248, 1, 277, (5, 145), (5, 146), (5, 146), (1, 0)), (251, 1, 278, (5, 157), (5, 158), (5, 158), (1, 0)), (254, 1, 279, (5, 164), (5, 165), (5, 165), (1, 0)), (257, 1, 280, (5, 176), (5, 177), (5, 177), (1, 0)), (265, 1, 281, (5, 185), (5, 186), (5, 186), (1, 0)), (268, 1, 282, (5, 215), (5, 216), (5, 216), (1, 0)), (271, 1, 283, (5, 228), (5, 229), (5, 229), (1, 0)), (274, 1, 284, (6, 4), (6, 5), (6, 5), (1, 0)), (277, 1, 285, (6, 17), (6, 18), (6, 18), (1, 0)), (280, 1, 286, (6, 34), (6, 35), (6, 35), (1, 0)), (283, 1, 287, (6, 47), (6, 48), (6, 48), (1, 0)), (286, 1, 288, (6, 54), (6, 55), (6, 55), (1, 0)), (289, 1, 289, (6, 66), (6, 67), (6, 67), (1, 0)), (292, 1, 290, (6, 74), (6, 75), (6, 75), (1, 0)), (295, 1, 291, (6, 98), (6, 99), (6, 99), (1, 0)), (302, 1, 292, (6, 106), (6, 107), (6, 107), (1, 0)), (305, 1, 293, (6, 131), (6, 132), (6, 132), (1, 0)), (308, 1, 294, (6, 139), (6, 140), (6, 140), (1, 0)), (311, 1, 295, (6, 149), (6, 150), (6, 150), (1, 0)), (315, 1, 296, (6, 168), (6, 169), (6, 169), (1, 0)), (318, 1, 297, (6, 181), (6, 182), (6, 182), (1, 0)), (326, 1, 298, (6, 193), (6, 194), (6, 194), (1, 0)), (330, 1, 299, (6, 221), (6, 222), (6, 222), (1, 0)), (7, 0, 90, (3, 124), (3, 125), (3, 126), (1, 1)), (17, 0, 91, (3, 229), (3, 230), (3, 231), (1, 1)), (21, 0, 92, (4, 27), (4, 28), (4, 29), (1, 1)), (29, 0, 93, (4, 87), (4, 88), (4, 89), (1, 1)), (33, 0, 94, (4, 98), (4, 99), (4, 100), (1, 1)), (37, 0, 95, (4, 116), (4, 117), (4, 118), (1, 1)), (42, 0, 96, (4, 143), (4, 144), (4, 145), (1, 1)), (45, 0, 97, (4, 156), (4, 157), (4, 158), (1, 1)), (49, 0, 98, (4, 173), (4, 174), (4, 175), (1, 1)), (53, 0, 99, (4, 189), (4, 190), (4, 191), (1, 1)), (57, 0, 100, (4, 206), (4, 207), (4, 208), (1, 1)), (60, 0, 101, (4, 238), (4, 239), (5, 0), (1, 1)), (63, 0, 102, (5, 6), (5, 7), (5, 8), (1, 1)), (66, 0, 103, (5, 13), (5, 14), (5, 15), (1, 1)), (70, 0, 104, (5, 21), (5, 22), (5, 23), (1, 1)), (73, 0, 105, (5, 32), (5, 33), (5, 34), (1, 1)), (77, 0, 106, (5, 45), (5, 46), (5, 47), (1, 1)), (81, 0, 107, (5, 58), (5, 59), (5, 60), (1, 1)), (85, 0, 108, (5, 75), (5, 76), (5, 77), (1, 1)), (89, 0, 109, (5, 90), (5, 91), (5, 92), (1, 1)), (92, 0, 110, (5, 125), (5, 126), (5, 127), (1, 1)), (95, 0, 111, (5, 148), (5, 149), (5, 150), (1, 1)), (99, 0, 112, (5, 160), (5, 161), (5, 162), (1, 1)), (102, 0, 113, (5, 167), (5, 168), (5, 169), (1, 1)), (105, 0, 114, (5, 179), (5, 180), (5, 181), (1, 1)), (108, 0, 116, (5, 188), (5, 189), (5, 190), (1, 1)), (111, 0, 117, (5, 218), (5, 219), (5, 220), (1, 1)), (114, 0, 118, (5, 231), (5, 232), (5, 233), (1, 1)), (117, 0, 119, (6, 7), (6, 8), (6, 9), (1, 1)), (120, 0, 120, (6, 20), (6, 21), (6, 22), (1, 1)), (123, 0, 121, (6, 37), (6, 38), (6, 39), (1, 1)), (126, 0, 122, (6, 50), (6, 51), (6, 52), (1, 1)), (129, 0, 123, (6, 57), (6, 58), (6, 59), (1, 1)), (132, 0, 124, (6, 69), (6, 70), (6, 71), (1, 1)), (135, 0, 125, (6, 77), (6, 78), (6, 79), (1, 1)), (138, 0, 126, (6, 101), (6, 102), (6, 103), (1, 1)), (141, 0, 128, (6, 109), (6, 110), (6, 111), (1, 1)), (144, 0, 129, (6, 134), (6, 135), (6, 136), (1, 1)), (147, 0, 130, (6, 142), (6, 143), (6, 144), (1, 1)), (150, 0, 131, (6, 152), (6, 153), (6, 154), (1, 1)), (154, 0, 132, (6, 171), (6, 172), (6, 173), (1, 1)), (157, 0, 133, (6, 184), (6, 185), (6, 186), (1, 1)), (160, 0, 135, (6, 210), (6, 211), (6, 212), (1, 1)), (166, 0, 136, (6, 224), (6, 225), (6, 226), (1, 1)), (179, 0, 168, (7, 171), (7, 172), (7, 173), (1, 13)), (183, 0, 169, (7, 185), (7, 186), (7, 187), (1, 13)), (187, 0, 171, (7, 189), (7, 190), (7, 191), (1, 13)), (190, 0, 173, (7, 201), (7, 202), (7, 203), (1, 13)), (194, 0, 175, (7, 209), (7, 210), (7, 211), (1, 13)), (197, 0, 177, (7, 217), (7, 218), (7, 219), (1, 13)), (200, 0, 179, (7, 226), (7, 227), (7, 228), (1, 13)), (203, 0, 181, (7, 234), (7, 235), (7, 236), (1, 13)), (207, 0, 184, (8, 5), (8, 6), (8, 7), (1, 13)), (211, 0, 185, (8, 12), (8, 13), (8, 14), (1, 13)), (214, 0, 190, (8, 19), (8, 20), (8, 21), (1, 13)), (217, 0, 191, (8, 46), (8, 47), (8, 48), (1, 13)), (220, 0, 192, (8, 50), (8, 51), (8, 52), (1, 13)), (223, 0, 193, (8, 54), (8, 55), (8, 56), (1, 13)), (226, 0, 194, (8, 58), (8, 59), (8, 60), (1, 13)), (230, 0, 195, (8, 62), (8, 63), (8, 64), (1, 13)), (234, 0, 198, (8, 66), (8, 67), (8, 68), (1, 13)), (238, 0, 199, (8, 73), (8, 74), (8, 75), (1, 13)), (241, 0, 201, (8, 81), (8, 82), (8, 83), (1, 13)), (244, 0, 209, (8, 89), (8, 90), (8, 91), (1, 13)), (247, 0, 211, (8, 113), (8, 114), (8, 115), (1, 13)), (250, 0, 213, (8, 129), (8, 130), (8, 131), (1, 13)), (253, 0, 214, (8, 137), (8, 138), (8, 139), (1, 13)), (256, 0, 215, (8, 141), (8, 142), (8, 143), (1, 13)), (259, 0, 216, (8, 145), (8, 146), (8, 147), (1, 13)), (260, 0, 115, (2, 213), (2, 214), (2, 215), (1, 1)), (264, 0, 217, (8, 149), (8, 150), (8, 151), (1, 13)), (267, 0, 221, (8, 153), (8, 154), (8, 155), (1, 13)), (270, 0, 222, (8, 169), (8, 170), (8, 171), (1, 13)), (273, 0, 223, (8, 173), (8, 174), (8, 175), (1, 13)), (276, 0, 224, (8, 177), (8, 178), (8, 179), (1, 13)), (279, 0, 226, (8, 181), (8, 182), (8, 183), (1, 13)), (282, 0, 228, (8, 189), (8, 190), (8, 191), (1, 13)), (285, 0, 229, (8, 197), (8, 198), (8, 199), (1, 13)), (288, 0, 230, (8, 201), (8, 202), (8, 203), (1, 13)), (291, 0, 231, (8, 205), (8, 206), (8, 207), (1, 13)), (294, 0, 233, (8, 209), (8, 210), (8, 211), (1, 13)), (297, 0, 234, (8, 217), (8, 218), (8, 219), (1, 13)), (298, 0, 127, (2, 217), (2, 218), (2, 219), (1, 1)), (301, 0, 235, (8, 221), (8, 222), (8, 223), (1, 13)), (304, 0, 237, (8, 225), (8, 226), (8, 227), (1, 13)), (307, 0, 247, (8, 233), (8, 234), (8, 235), (1, 13)), (310, 0, 248, (9, 33), (9, 34), (9, 35), (1, 13)), (314, 0, 249, (9, 37), (9, 38), (9, 39), (1, 13)), (317, 0, 250, (9, 41), (9, 42), (9, 43), (1, 13)), (320, 0, 251, (9, 45), (9, 46), (9, 47), (1, 13)), (321, 0, 134, (2, 221), (2, 222), (2, 223), (1, 1)), (325, 0, 252, (9, 49), (9, 50), (9, 51), (1, 13)), (329, 0, 253, (9, 55), (9, 56), (9, 57), (1, 13)), (332, 0, 254, (9, 59), (9, 60), (9, 61), (1, 13)), (333, 0, 137, (2, 231), (2, 232), (2, 233), (1, 1)), (337, 0, 255, (9, 63), (9, 64), (9, 65), (1, 13))]]
def a_oin : List (List (Nat × Nat × Nat)) := [
  [(3, (1, 87))],
  [(3, (2, 49))],
  [(3, (1, 111))],
  [(3, (1, 40))],
  [(3, (2, 101))],
  [(3, (2, 35))],
  [(3, (2, 6))],
  [(3, (2, 69))],
  [(3, (2, 94))],
  [(3, (1, 157))],
  [(3, (1, 48))],
  [(1, (1, 32))],
  [(1, (6, 234))],
  []]
def a_mat : List (List (Nat × Bool × Nat × Nat)) := [
  [(26, false, (4, 234))],
  [],
  [(41, false, (4, 182))],
  [],
  [(32, false, (6, 126))],
  [],
  [(41, false, (4, 164)), (46, true, (4, 167))],
  [],
  [],
  [],
  [],
  [],
  [(198, true, (7, 225)), (214, false, (8, 4))],
  []]
def a_cpy : List (List (Nat × Nat × Nat)) := [
  [],
  [],
  [],
  [],
  [],
  [],
  [],
  [],
  [],
  [],
  [],
  [],
  [(166, (8, 43))],
  []]
def a_new : List (List (Nat × Nat × (Nat × Nat) × (Nat × Nat) × (Nat × Nat))) := [
  [],
  [],
  [],
  [(9, 2, (1, 41), (1, 107), (1, 5)), (17, 10, (1, 43), (1, 44), (1, 3)), (24, 0, (1, 82), (1, 83), (1, 4)), (31, 9, (1, 105), (1, 153), (1, 6))],
  [],
  [],
  [],
  [],
  [(35, 4, (2, 95), (2, 97), (1, 12))],
  [],
  [],
  [(7, 3, (1, 35), (1, 36), (1, 2)), (35, 8, (1, 239), (2, 90), (1, 11)), (44, 6, (2, 1), (2, 2), (1, 7)), (51, 5, (2, 30), (2, 31), (1, 8)), (58, 1, (2, 44), (2, 45), (1, 9)), (65, 7, (2, 64), (2, 65), (1, 10))],
  [],
  [(8, 11, (1, 27), (1, 28), (1, 1)), (171, 12, (6, 229), (6, 230), (1, 13))]]
def a_cst : List (List (Nat × Int32 × Nat × Nat)) := [
  [],
  [],
  [],
  [],
  [],
  [],
  [],
  [],
  [],
  [],
  [],
  [],
  [(212, 2147483647, (8, 2)), (213, -2147483648, (8, 3))],
  []]
def a_csl : List (List (Nat × Int64 × Nat × Nat)) := [
  [],
  [],
  [],
  [],
  [],
  [],
  [],
  [],
  [],
  [],
  [],
  [(532, 7, (2, 225)), (534, 31, (2, 226))],
  [(355, 7, (9, 53)), (357, 31, (9, 54))],
  []]
def a_arr : List (List (Nat × String × Nat × Nat)) := [
  [],
  [(22, "[[I", (2, 50))],
  [],
  [(9, "Juryreel$Film", (1, 41)), (31, "Juryreel$Show", (1, 105))],
  [],
  [],
  [(24, "[[I", (2, 7))],
  [],
  [(35, "Juryreel$Juror", (2, 95))],
  [],
  [],
  [(35, "Juryreel$Section", (1, 239))],
  [(45, "[[Z", (6, 235)), (50, "[[I", (6, 237)), (121, "[[[Z", (6, 238)), (126, "[[[I", (7, 0))],
  []]
def a_exc : List String := ["java/lang/IndexOutOfBoundsException", "java/lang/IllegalArgumentException", "java/lang/IllegalStateException", "java/lang/UnsupportedOperationException", "java/util/NoSuchElementException", "java/lang/ArithmeticException"]
-- throw new E("text"): (method, pc, class, pool numbers: class, text; wide text?, constructor, exception, text, words: class, text)
def a_thr : List (Nat × Nat × Nat × Nat × Nat × Bool × Nat × Nat × String × (Nat × Nat) × (Nat × Nat)) := [
  (90, 28, 11, 94, 96, false, 98, 1, "no such form, or a number out of range", (3, 134), (3, 179)),
  (90, 47, 11, 101, 103, false, 105, 2, "there are 20 films", (3, 206), (3, 215)),
  (91, 10, 11, 94, 112, false, 98, 1, "no such land", (3, 134), (3, 233)),
  (91, 32, 11, 101, 117, false, 105, 2, "there are 8 readers", (3, 206), (3, 234)),
  (92, 15, 11, 94, 127, false, 98, 1, "so many readers cannot be asked for", (3, 134), (4, 51)),
  (92, 48, 11, 136, 138, false, 140, 3, "there are not so many readers for the film", (4, 60), (4, 69)),
  (94, 20, 11, 94, 155, false, 98, 1, "no such score", (3, 134), (4, 102)),
  (94, 45, 11, 136, 157, false, 140, 3, "not dealt, or told before", (4, 60), (4, 103)),
  (95, 24, 11, 166, 168, false, 170, 4, "the reader told no score of the film", (4, 120), (4, 129)),
  (96, 16, 11, 166, 174, false, 170, 4, "the film has no score", (4, 120), (4, 147)),
  (98, 23, 11, 94, 182, false, 98, 1, "no such place", (3, 134), (4, 177)),
  (99, 31, 11, 94, 195, false, 98, 1, "a number is out of range", (3, 134), (4, 193)),
  (99, 65, 11, 94, 201, false, 98, 1, "no such form or premiere", (3, 134), (4, 197)),
  (99, 83, 11, 101, 203, false, 105, 2, "there are 5 sections", (3, 206), (4, 198)),
  (101, 18, 11, 166, 233, false, 170, 4, "the film is in no section", (4, 120), (5, 2)),
  (103, 19, 11, 136, 241, false, 140, 3, "there is no promise", (4, 60), (5, 17)),
  (105, 10, 11, 94, 247, false, 98, 1, "so many seats cannot be", (3, 134), (5, 36)),
  (105, 31, 11, 101, 254, false, 105, 2, "there are 4 screens", (3, 206), (5, 37)),
  (106, 17, 11, 94, 260, true, 98, 1, "no such kind", (3, 134), (5, 49)),
  (107, 27, 11, 94, 275, true, 98, 1, "the last hour is before the first one", (3, 134), (5, 66)),
  (107, 50, 11, 101, 280, true, 105, 2, "there are 60 keys", (3, 206), (5, 67)),
  (109, 41, 11, 136, 293, true, 140, 3, "the show cannot be set", (4, 60), (5, 111)),
  (109, 64, 11, 101, 298, true, 105, 2, "there are 60 shows", (3, 206), (5, 112)),
  (110, 25, 11, 101, 307, true, 105, 2, "there would be more than 60 shows", (3, 206), (5, 138)),
  (111, 59, 11, 94, 333, true, 98, 1, "a show has no such thing", (3, 134), (5, 156)),
  (113, 25, 11, 166, 342, true, 170, 4, "no show is there", (4, 120), (5, 175)),
  (114, 10, 11, 94, 344, true, 98, 1, "so many hours cannot go by", (3, 134), (5, 183)),
  (114, 35, 11, 101, 349, true, 105, 2, "that is behind the end", (3, 206), (5, 184)),
  (116, 10, 11, 94, 351, true, 98, 1, "no such day", (3, 134), (5, 192)),
  (116, 33, 11, 136, 357, true, 140, 3, "there was a storm on the day", (4, 60), (5, 193)),
  (116, 67, 11, 101, 307, true, 105, 2, "there would be more than 60 shows", (3, 206), (5, 138)),
  (117, 48, 11, 94, 368, true, 98, 1, "the hour is too great, or not behind the one told before", (3, 134), (5, 222)),
  (117, 63, 11, 136, 370, true, 140, 3, "there is no print", (4, 60), (5, 223)),
  (117, 100, 11, 101, 307, true, 105, 2, "there would be more than 60 shows", (3, 206), (5, 138)),
  (118, 17, 11, 136, 379, true, 140, 3, "the film is withdrawn", (4, 60), (5, 235)),
  (119, 9, 11, 94, 387, true, 98, 1, "no such rank", (3, 134), (6, 11)),
  (119, 32, 11, 101, 392, true, 105, 2, "there are 16 passes", (3, 206), (6, 12)),
  (120, 48, 11, 136, 407, true, 140, 3, "the pass cannot wait for the show", (4, 60), (6, 32)),
  (121, 57, 11, 136, 415, true, 140, 3, "the show cannot be opened", (4, 60), (6, 41)),
  (123, 15, 11, 94, 112, false, 98, 1, "no such land", (3, 134), (3, 233)),
  (123, 38, 11, 101, 430, true, 105, 2, "the section has 5 jurors", (3, 206), (6, 61)),
  (124, 29, 11, 94, 435, true, 98, 1, "no such rule", (3, 134), (6, 73)),
  (125, 87, 11, 136, 453, true, 140, 3, "the juror cannot see the show", (4, 60), (6, 89)),
  (126, 14, 11, 101, 462, true, 105, 2, "there are 9 typed films", (3, 206), (6, 105)),
  (128, 32, 11, 136, 468, true, 140, 3, "the typed films are no ballot of the juror", (4, 60), (6, 121)),
  (129, 28, 11, 166, 481, true, 170, 4, "there is no ballot to count", (4, 120), (6, 138)),
  (130, 17, 11, 136, 486, true, 140, 3, "the prize was given", (4, 60), (6, 146)),
  (130, 51, 11, 166, 488, true, 170, 4, "there is no winner", (4, 120), (6, 147)),
  (130, 74, 11, 136, 490, true, 140, 3, "the promise of the winner is broken", (4, 60), (6, 148)),
  (131, 26, 11, 94, 492, true, 98, 1, "no such land or buyer", (3, 134), (6, 156)),
  (131, 58, 11, 94, 494, true, 98, 1, "no such months", (3, 134), (6, 157)),
  (131, 96, 11, 136, 499, true, 140, 3, "the rights cannot be sold", (4, 60), (6, 162)),
  (131, 119, 11, 101, 504, true, 105, 2, "there are 40 deals", (3, 206), (6, 163)),
  (132, 25, 11, 94, 510, true, 98, 1, "no such land or month", (3, 134), (6, 175)),
  (132, 54, 11, 166, 515, true, 170, 4, "nobody has the rights", (4, 120), (6, 180)),
  (133, 17, 11, 166, 520, true, 170, 4, "no such line", (4, 120), (6, 188)),
  (135, 54, 11, 539, 541, true, 543, 5, "no film is in a section", (6, 218), (6, 219)),
  (136, 49, 11, 539, 544, true, 543, 5, "no film has a score", (6, 218), (6, 228)),
  (142, 11, 11, 561, 563, true, 565, 0, "there is none of that number", (4, 38), (4, 47)),
  (150, 10, 11, 94, 569, true, 98, 1, "no such hour", (3, 134), (5, 54))]
-- methods: class, name, descriptor, locals, result, arguments with this, handlers (from, to, handler, catch, exception, word), word of the code
def a_mth : List (Nat × String × String × Nat × Option FieldType × Nat × List (Nat × Nat × Nat × Nat × Nat × Nat × Nat) × (Nat × Nat)) := [
  (0, "<init>", "()V", 1, none, 1, [], (1, 86)),
  (0, "add", "(CI)V", 3, none, 3, [], (4, 233)),
  (0, "placeOf", "(I)I", 2, (some .int), 2, [], (6, 192)),
  (1, "<init>", "()V", 1, none, 1, [], (2, 48)),
  (1, "findWinner", "([LJuryreel$Film;LJuryreel$Section;)I", 3, (some .int), 3, [], (3, 38)),
  (1, "dropWithdrawn", "([LJuryreel$Film;)V", 3, none, 2, [], (3, 42)),
  (1, "placeOn", "(LJuryreel$Juror;I)I", 4, (some .int), 3, [], (3, 54)),
  (1, "firstOn", "(LJuryreel$Juror;)I", 3, (some .int), 2, [], (3, 66)),
  (1, "isRanked", "(LJuryreel$Section;I)Z", 4, (some .boolean), 3, [], (3, 50)),
  (1, "firstsOf", "(LJuryreel$Section;I)I", 5, (some .int), 3, [], (3, 62)),
  (1, "pointsOf", "(LJuryreel$Section;I)I", 8, (some .int), 3, [], (3, 58)),
  (1, "withMost", "(LJuryreel$Section;Z)I", 7, (some .int), 3, [], (3, 46)),
  (1, "byDuels", "(LJuryreel$Section;)I", 3, (some .int), 2, [], (3, 70)),
  (1, "winsEachDuel", "(LJuryreel$Section;I)Z", 4, (some .boolean), 3, [], (3, 74)),
  (1, "leadOf", "(LJuryreel$Section;II)I", 8, (some .int), 4, [], (3, 78)),
  (1, "byRounds", "(LJuryreel$Section;)I", 5, (some .int), 2, [], (3, 82)),
  (1, "withFewestFirsts", "(LJuryreel$Section;)I", 5, (some .int), 2, [], (3, 86)),
  (1, "recount", "([LJuryreel$Film;LJuryreel$Section;)I", 4, (some .int), 3, [], (3, 90)),
  (1, "tallyBallots", "(LJuryreel$Section;Z)I", 6, (some .int), 3, [], (3, 98)),
  (1, "tallyBallot", "(LJuryreel$Juror;Z)Z", 8, (some .boolean), 3, [], (3, 102)),
  (1, "tallied", "()I", 3, (some .int), 1, [], (3, 106)),
  (1, "recountDuels", "()I", 4, (some .int), 1, [], (3, 110)),
  (1, "recountRounds", "(LJuryreel$Section;)I", 7, (some .int), 2, [], (3, 94)),
  (2, "<init>", "()V", 1, none, 1, [], (1, 110)),
  (2, "begin", "(CII)V", 4, none, 4, [], (3, 225)),
  (2, "showElsewhere", "(C)V", 3, none, 2, [], (4, 181)),
  (2, "enter", "(II)V", 3, none, 3, [], (4, 229)),
  (2, "leave", "()V", 1, none, 1, [], (6, 3)),
  (2, "breaksPromise", "()Z", 1, (some .boolean), 1, [], (5, 28)),
  (2, "hoursLong", "()I", 1, (some .int), 1, [], (5, 101)),
  (3, "<init>", "()V", 2, none, 1, [], (1, 39)),
  (3, "stateOf", "(LJuryreel$Show;)C", 2, (some .char), 2, [], (2, 230)),
  (3, "canRun", "(IIII)Z", 6, (some .boolean), 5, [], (5, 82)),
  (3, "canRunThrough", "(IIII)Z", 7, (some .boolean), 5, [], (5, 105)),
  (3, "canBeSet", "(III)Z", 5, (some .boolean), 4, [], (5, 97)),
  (3, "isFree", "(III)Z", 8, (some .boolean), 4, [], (5, 110)),
  (3, "setShow", "(III)I", 4, (some .int), 4, [], (5, 116)),
  (3, "setAtFirstPlace", "(I)I", 4, (some .int), 2, [], (5, 142)),
  (3, "showOn", "(II)I", 4, (some .int), 3, [], (5, 174)),
  (3, "hasToCome", "(I)Z", 3, (some .boolean), 2, [], (5, 136)),
  (3, "hasStanding", "(I)Z", 3, (some .boolean), 2, [], (6, 217)),
  (3, "findOnDay", "(I)I", 3, (some .int), 2, [], (5, 197)),
  (3, "findWithoutPrint", "(II)I", 5, (some .int), 3, [], (5, 227)),
  (3, "findOfFilm", "(I)I", 3, (some .int), 2, [], (5, 239)),
  (3, "addFound", "(I)V", 2, none, 2, [], (5, 201)),
  (3, "takeFound", "(C)V", 4, none, 2, [], (5, 205)),
  (3, "setFoundAnew", "()V", 5, none, 1, [], (5, 209)),
  (3, "isSeatedElsewhere", "(ILJuryreel$Show;)Z", 5, (some .boolean), 3, [], (3, 18)),
  (3, "keepsApart", "()Z", 3, (some .boolean), 1, [], (2, 238)),
  (3, "areOfOneSection", "(LJuryreel$Show;LJuryreel$Show;)Z", 4, (some .boolean), 3, [], (3, 6)),
  (3, "keepsSeats", "(I)Z", 4, (some .boolean), 2, [], (3, 10)),
  (4, "<init>", "()V", 1, none, 1, [], (2, 100)),
  (4, "sawAnother", "(II)Z", 3, (some .boolean), 3, [], (6, 88)),
  (4, "look", "(III)V", 4, none, 4, [], (6, 93)),
  (4, "vote", "([II)V", 4, none, 3, [], (6, 125)),
  (5, "<init>", "()V", 1, none, 1, [], (2, 34)),
  (5, "addPass", "(I)I", 2, (some .int), 2, [], (6, 16)),
  (5, "giveSeats", "(LJuryreel$Grid;LJuryreel$Show;I)I", 8, (some .int), 4, [], (6, 45)),
  (6, "<init>", "()V", 3, none, 1, [], (2, 5)),
  (6, "addReader", "(I)I", 2, (some .int), 2, [], (3, 238)),
  (6, "isFree", "(III)Z", 4, (some .boolean), 4, [], (4, 59)),
  (6, "countFree", "(II)I", 5, (some .int), 3, [], (4, 55)),
  (6, "dealOnce", "(II)V", 5, none, 3, [], (4, 79)),
  (6, "countDealt", "(I)I", 4, (some .int), 2, [], (4, 83)),
  (6, "tell", "(III)V", 4, none, 4, [], (4, 107)),
  (6, "countTold", "(I)I", 4, (some .int), 2, [], (4, 111)),
  (6, "evenScore", "(II)I", 4, (some .int), 3, [], (4, 139)),
  (6, "meanOfEven", "(I)I", 5, (some .int), 2, [], (4, 151)),
  (6, "spread", "(I)I", 7, (some .int), 2, [], (4, 163)),
  (7, "<init>", "()V", 1, none, 1, [], (2, 68)),
  (7, "addDeal", "(IIIII)I", 6, (some .int), 6, [], (6, 167)),
  (7, "isOver", "(IIIII)Z", 6, (some .boolean), 6, [], (3, 118)),
  (7, "isSoldWithin", "(IIII)Z", 6, (some .boolean), 5, [], (6, 161)),
  (7, "buyerIn", "(III)I", 5, (some .int), 4, [], (6, 179)),
  (7, "keepApart", "()Z", 3, (some .boolean), 1, [], (3, 114)),
  (8, "<init>", "()V", 2, none, 1, [], (2, 93)),
  (8, "begin", "(IIICI)V", 6, none, 6, [], (4, 202)),
  (8, "addJuror", "(I)I", 2, (some .int), 2, [], (6, 65)),
  (8, "countBallots", "()I", 3, (some .int), 1, [], (6, 130)),
  (9, "<init>", "()V", 1, none, 1, [], (1, 156)),
  (9, "begin", "(IIII)V", 5, none, 5, [], (5, 120)),
  (9, "standsIn", "(II)Z", 3, (some .boolean), 3, [], (3, 2)),
  (9, "isAwaitedBy", "(I)Z", 3, (some .boolean), 2, [], (6, 31)),
  (9, "addWaiting", "(I)V", 2, none, 2, [], (5, 214)),
  (9, "countSeats", "()I", 3, (some .int), 1, [], (3, 14)),
  (10, "<init>", "()V", 1, none, 1, [], (1, 47)),
  (10, "addScreen", "(IZ)I", 3, (some .int), 3, [], (5, 41)),
  (10, "addKey", "(IIII)I", 5, (some .int), 5, [], (5, 71)),
  (10, "isOpenedByKey", "(III)Z", 5, (some .boolean), 4, [], (5, 86)),
  (11, "<init>", "()V", 2, none, 1, [], (1, 31)),
  (11, "film", "(CII)I", 4, (some .int), 4, [], (3, 127)),
  (11, "reader", "(I)I", 2, (some .int), 2, [], (3, 232)),
  (11, "deal", "(II)I", 5, (some .int), 3, [], (4, 30)),
  (11, "isDealt", "(II)Z", 3, (some .boolean), 3, [], (4, 90)),
  (11, "read", "(III)I", 4, (some .int), 4, [], (4, 101)),
  (11, "even", "(II)I", 3, (some .int), 3, [], (4, 119)),
  (11, "score", "(I)I", 2, (some .int), 2, [], (4, 146)),
  (11, "isInQuarrel", "(I)Z", 2, (some .boolean), 2, [], (4, 159)),
  (11, "rival", "(IC)C", 3, (some .char), 3, [], (4, 176)),
  (11, "section", "(IIICC)I", 6, (some .int), 6, [], (4, 192)),
  (11, "choose", "(I)I", 6, (some .int), 2, [], (4, 209)),
  (11, "sectionOf", "(I)I", 2, (some .int), 2, [], (5, 1)),
  (11, "minutes", "(I)I", 2, (some .int), 2, [], (5, 9)),
  (11, "giveUp", "(I)C", 3, (some .char), 2, [], (5, 16)),
  (11, "isBroken", "(I)Z", 2, (some .boolean), 2, [], (5, 24)),
  (11, "screen", "(IZ)I", 3, (some .int), 3, [], (5, 35)),
  (11, "print", "(ICI)Z", 5, (some .boolean), 4, [], (5, 48)),
  (11, "key", "(IIII)I", 5, (some .int), 5, [], (5, 61)),
  (11, "canShow", "(III)Z", 4, (some .boolean), 4, [], (5, 78)),
  (11, "show", "(III)I", 4, (some .int), 4, [], (5, 93)),
  (11, "plan", "(I)I", 5, (some .int), 2, [], (5, 128)),
  (11, "of", "(IC)I", 4, (some .int), 3, [], (5, 151)),
  (11, "state", "(I)C", 2, (some .char), 2, [], (5, 163)),
  (11, "at", "(II)I", 4, (some .int), 3, [], (5, 170)),
  (11, "go", "(I)I", 2, (some .int), 2, [], (5, 182)),
  (11, "now", "()I", 1, (some .int), 1, [], (2, 216)),
  (11, "storm", "(I)I", 3, (some .int), 2, [], (5, 191)),
  (11, "late", "(II)I", 5, (some .int), 3, [], (5, 221)),
  (11, "withdraw", "(I)I", 3, (some .int), 2, [], (5, 234)),
  (11, "pass", "(I)I", 2, (some .int), 2, [], (6, 10)),
  (11, "join", "(II)I", 4, (some .int), 3, [], (6, 23)),
  (11, "open", "(I)I", 4, (some .int), 2, [], (6, 40)),
  (11, "hasSeat", "(II)Z", 3, (some .boolean), 3, [], (6, 53)),
  (11, "juror", "(II)I", 3, (some .int), 3, [], (6, 60)),
  (11, "rule", "(IC)C", 4, (some .char), 3, [], (6, 72)),
  (11, "see", "(III)I", 6, (some .int), 4, [], (6, 80)),
  (11, "type", "(I)I", 2, (some .int), 2, [], (6, 104)),
  (11, "wipe", "()I", 2, (some .int), 1, [], (2, 220)),
  (11, "rank", "(II)I", 4, (some .int), 3, [], (6, 112)),
  (11, "winner", "(I)I", 3, (some .int), 2, [], (6, 137)),
  (11, "award", "(I)I", 3, (some .int), 2, [], (6, 145)),
  (11, "sell", "(IIIII)I", 6, (some .int), 6, [], (6, 155)),
  (11, "owner", "(III)I", 5, (some .int), 4, [], (6, 174)),
  (11, "line", "(IZ)I", 4, (some .int), 3, [], (6, 187)),
  (11, "checksum", "()J", 5, (some .long), 1, [], (2, 224)),
  (11, "shownShare", "()F", 4, (some .float), 1, [], (6, 213)),
  (11, "meanScore", "()D", 4, (some .double), 1, [], (6, 227)),
  (11, "isSound", "()Z", 1, (some .boolean), 1, [], (2, 234)),
  (11, "isWithin", "(III)Z", 3, (some .boolean), 3, [], (3, 133)),
  (11, "isForm", "(C)Z", 1, (some .boolean), 1, [], (3, 130)),
  (11, "levelOf", "(C)I", 1, (some .int), 1, [], (4, 196)),
  (11, "premiereOf", "(I)C", 1, (some .char), 1, [], (4, 185)),
  (11, "checkNumber", "(II)V", 2, none, 2, [], (4, 37)),
  (11, "checkFilm", "(I)V", 2, none, 2, [], (4, 34)),
  (11, "checkReader", "(I)V", 2, none, 2, [], (4, 94)),
  (11, "checkSection", "(I)V", 2, none, 2, [], (4, 213)),
  (11, "checkJuror", "(II)V", 3, none, 3, [], (6, 84)),
  (11, "checkScreen", "(I)V", 2, none, 2, [], (5, 65)),
  (11, "checkShow", "(I)V", 2, none, 2, [], (5, 155)),
  (11, "checkPass", "(I)V", 2, none, 2, [], (6, 27)),
  (11, "checkHour", "(I)V", 2, none, 2, [], (5, 53)),
  (11, "putInOrder", "(III)V", 5, none, 4, [], (4, 221)),
  (11, "orderByScore", "()I", 3, (some .int), 1, [], (4, 217)),
  (11, "orderUnsetByMinutes", "(I)I", 4, (some .int), 2, [], (5, 132)),
  (11, "canBeChosen", "(III)Z", 6, (some .boolean), 4, [], (4, 225)),
  (11, "filmsIn", "(I)I", 4, (some .int), 2, [], (3, 26)),
  (11, "minutesIn", "(I)I", 4, (some .int), 2, [], (3, 30)),
  (11, "countSeen", "(ILJuryreel$Juror;)I", 5, (some .int), 3, [], (6, 97)),
  (11, "isTyped", "(I)Z", 3, (some .boolean), 2, [], (6, 120)),
  (11, "isBallotOf", "(ILJuryreel$Juror;)Z", 5, (some .boolean), 3, [], (6, 116)),
  (11, "areSectionsKept", "()Z", 2, (some .boolean), 1, [], (3, 22)),
  (11, "areWinnersRight", "()Z", 2, (some .boolean), 1, [], (3, 34)),
  (12, "<init>", "()V", 1, none, 1, [], (6, 233)),
  (12, "isThrown", "(ZI)Z", 3, (some .boolean), 3, [], (7, 184)),
  (12, "isIn", "(III)Z", 3, (some .boolean), 3, [], (7, 180)),
  (12, "isForm", "(C)Z", 1, (some .boolean), 1, [], (7, 177)),
  (12, "isNoFilm", "(I)Z", 2, (some .boolean), 2, [], (7, 196)),
  (12, "writes", "(CI)V", 3, none, 3, [], (8, 42)),
  (12, "film", "(CII)I", 5, (some .int), 4, [], (7, 174)),
  (12, "reader", "(I)I", 2, (some .int), 2, [], (7, 188)),
  (12, "mayRead", "(II)Z", 3, (some .boolean), 3, [], (7, 200)),
  (12, "deal", "(II)I", 7, (some .int), 3, [], (7, 192)),
  (12, "isNoReader", "(II)Z", 3, (some .boolean), 3, [], (7, 208)),
  (12, "isDealt", "(II)Z", 3, (some .boolean), 3, [], (7, 204)),
  (12, "scoreMany", "(I)I", 4, (some .int), 2, [], (7, 216)),
  (12, "read", "(III)I", 4, (some .int), 4, [], (7, 212)),
  (12, "evenOf", "(II)I", 6, (some .int), 3, [], (7, 224)),
  (12, "even", "(II)I", 3, (some .int), 3, [], (7, 220)),
  (12, "scoreOf", "(I)I", 4, (some .int), 2, [], (7, 233)),
  (12, "score", "(I)I", 2, (some .int), 2, [], (7, 229)),
  (12, "isQuarrel", "(I)Z", 5, (some .boolean), 2, [], (8, 1)),
  (12, "isInQuarrel", "(I)Z", 2, (some .boolean), 2, [], (7, 237)),
  (12, "letterOf", "(I)C", 1, (some .char), 1, [], (8, 11)),
  (12, "premiereOf", "(C)I", 1, (some .int), 1, [], (8, 18)),
  (12, "rival", "(IC)C", 4, (some .char), 3, [], (8, 8)),
  (12, "section", "(IIICC)I", 7, (some .int), 6, [], (8, 15)),
  (12, "isNoSection", "(I)Z", 2, (some .boolean), 2, [], (8, 26)),
  (12, "minutesOf", "(I)I", 4, (some .int), 2, [], (8, 38)),
  (12, "filmsOf", "(I)I", 4, (some .int), 2, [], (8, 34)),
  (12, "mayChoose", "(II)Z", 5, (some .boolean), 3, [], (8, 30)),
  (12, "choose", "(I)I", 5, (some .int), 2, [], (8, 22)),
  (12, "sectionOf", "(I)I", 2, (some .int), 2, [], (8, 49)),
  (12, "minutes", "(I)I", 2, (some .int), 2, [], (8, 53)),
  (12, "giveUp", "(I)C", 3, (some .char), 2, [], (8, 57)),
  (12, "isBroken", "(I)Z", 2, (some .boolean), 2, [], (8, 61)),
  (12, "screen", "(IZ)I", 3, (some .int), 3, [], (8, 65)),
  (12, "isNoScreen", "(I)Z", 2, (some .boolean), 2, [], (8, 80)),
  (12, "isHour", "(I)Z", 1, (some .boolean), 1, [], (8, 72)),
  (12, "print", "(ICI)Z", 5, (some .boolean), 4, [], (8, 69)),
  (12, "key", "(IIII)I", 6, (some .int), 5, [], (8, 76)),
  (12, "canShowNow", "(III)Z", 6, (some .boolean), 4, [], (8, 88)),
  (12, "canShow", "(III)Z", 4, (some .boolean), 4, [], (8, 84)),
  (12, "lengthOf", "(I)I", 2, (some .int), 2, [], (8, 100)),
  (12, "lastOf", "(I)I", 2, (some .int), 2, [], (8, 108)),
  (12, "stateOf", "(I)C", 2, (some .char), 2, [], (8, 124)),
  (12, "hasHour", "(II)Z", 3, (some .boolean), 3, [], (8, 104)),
  (12, "canSet", "(III)Z", 9, (some .boolean), 4, [], (8, 96)),
  (12, "set", "(III)I", 4, (some .int), 4, [], (8, 112)),
  (12, "setAnywhere", "(I)I", 4, (some .int), 2, [], (8, 128)),
  (12, "show", "(III)I", 4, (some .int), 4, [], (8, 92)),
  (12, "hasToCome", "(I)Z", 4, (some .boolean), 2, [], (8, 120)),
  (12, "plan", "(I)I", 7, (some .int), 2, [], (8, 116)),
  (12, "isNoShow", "(I)Z", 2, (some .boolean), 2, [], (8, 136)),
  (12, "of", "(IC)I", 3, (some .int), 3, [], (8, 132)),
  (12, "state", "(I)C", 2, (some .char), 2, [], (8, 140)),
  (12, "at", "(II)I", 5, (some .int), 3, [], (8, 144)),
  (12, "go", "(I)I", 2, (some .int), 2, [], (8, 148)),
  (12, "now", "()I", 1, (some .int), 1, [], (8, 152)),
  (12, "goesBy", "(III)Z", 6, (some .boolean), 4, [], (8, 164)),
  (12, "takes", "(CII)I", 9, (some .int), 4, [], (8, 168)),
  (12, "going", "(II)I", 5, (some .int), 3, [], (8, 160)),
  (12, "storm", "(I)I", 2, (some .int), 2, [], (8, 156)),
  (12, "late", "(II)I", 4, (some .int), 3, [], (8, 172)),
  (12, "withdraw", "(I)I", 4, (some .int), 2, [], (8, 176)),
  (12, "pass", "(I)I", 2, (some .int), 2, [], (8, 180)),
  (12, "waitsFor", "(II)Z", 5, (some .boolean), 3, [], (8, 188)),
  (12, "join", "(II)I", 3, (some .int), 3, [], (8, 184)),
  (12, "isElsewhere", "(II)Z", 6, (some .boolean), 3, [], (8, 196)),
  (12, "open", "(I)I", 6, (some .int), 2, [], (8, 192)),
  (12, "hasSeat", "(II)Z", 3, (some .boolean), 3, [], (8, 200)),
  (12, "juror", "(II)I", 5, (some .int), 3, [], (8, 204)),
  (12, "rule", "(IC)C", 4, (some .char), 3, [], (8, 208)),
  (12, "isNoJuror", "(II)Z", 3, (some .boolean), 3, [], (8, 216)),
  (12, "see", "(III)I", 8, (some .int), 4, [], (8, 212)),
  (12, "type", "(I)I", 2, (some .int), 2, [], (8, 220)),
  (12, "wipe", "()I", 2, (some .int), 1, [], (8, 224)),
  (12, "ballotsOf", "(I)I", 4, (some .int), 2, [], (8, 232)),
  (12, "rank", "(II)I", 7, (some .int), 3, [], (8, 228)),
  (12, "firstOf", "(II)I", 4, (some .int), 3, [], (9, 28)),
  (12, "firsts", "(II)I", 5, (some .int), 3, [], (9, 24)),
  (12, "placeOf", "(III)I", 6, (some .int), 4, [], (9, 4)),
  (12, "points", "(II)I", 7, (some .int), 3, [], (9, 20)),
  (12, "isAheadOf", "(III)Z", 8, (some .boolean), 4, [], (9, 12)),
  (12, "byCount", "(IZ)I", 7, (some .int), 3, [], (9, 16)),
  (12, "byDuels", "(I)I", 5, (some .int), 2, [], (9, 8)),
  (12, "byRounds", "(I)I", 5, (some .int), 2, [], (9, 32)),
  (12, "winnerOf", "(I)I", 5, (some .int), 2, [], (9, 0)),
  (12, "winner", "(I)I", 3, (some .int), 2, [], (8, 236)),
  (12, "award", "(I)I", 3, (some .int), 2, [], (9, 36)),
  (12, "sell", "(IIIII)I", 9, (some .int), 6, [], (9, 40)),
  (12, "owner", "(III)I", 7, (some .int), 4, [], (9, 44)),
  (12, "line", "(IZ)I", 4, (some .int), 3, [], (9, 48)),
  (12, "checksum", "()J", 4, (some .long), 1, [], (9, 52)),
  (12, "shownShare", "()F", 6, (some .float), 1, [], (9, 58)),
  (12, "meanScore", "()D", 4, (some .double), 1, [], (9, 62)),
  (12, "isSound", "()Z", 1, (some .boolean), 1, [], (9, 66)),
  (13, "film", "(LJuryreel;CII[J)I", 6, (some .int), 5, [(0, 12, 15, 13, 1, (3, 122)), (0, 12, 19, 15, 2, (3, 123))], (3, 121)),
  (13, "reader", "(LJuryreel;I[J)I", 4, (some .int), 3, [(0, 9, 12, 13, 1, (3, 122)), (0, 9, 15, 15, 2, (3, 123))], (3, 228)),
  (13, "deal", "(LJuryreel;II[J)I", 5, (some .int), 4, [(0, 10, 13, 25, 0, (4, 2)), (0, 10, 17, 13, 1, (3, 122)), (0, 10, 21, 27, 3, (4, 26))], (4, 1)),
  (13, "isDealt", "(LJuryreel;II[J)I", 5, (some .int), 4, [(0, 17, 20, 25, 0, (4, 2))], (4, 86)),
  (13, "read", "(LJuryreel;III[J)I", 6, (some .int), 5, [(0, 12, 15, 25, 0, (4, 2)), (0, 12, 19, 13, 1, (3, 122)), (0, 12, 23, 27, 3, (4, 26))], (4, 97)),
  (13, "even", "(LJuryreel;II[J)I", 5, (some .int), 4, [(0, 10, 13, 25, 0, (4, 2)), (0, 10, 17, 40, 4, (4, 115))], (4, 114)),
  (13, "score", "(LJuryreel;I[J)I", 4, (some .int), 3, [(0, 9, 12, 25, 0, (4, 2)), (0, 9, 15, 40, 4, (4, 115))], (4, 142)),
  (13, "isInQuarrel", "(LJuryreel;I[J)I", 4, (some .int), 3, [(0, 16, 19, 25, 0, (4, 2))], (4, 155)),
  (13, "rival", "(LJuryreel;IC[J)I", 5, (some .int), 4, [(0, 10, 13, 25, 0, (4, 2)), (0, 10, 17, 13, 1, (3, 122))], (4, 172)),
  (13, "section", "(LJuryreel;IIICC[J)I", 8, (some .int), 7, [(0, 16, 19, 13, 1, (3, 122)), (0, 16, 23, 15, 2, (3, 123))], (4, 188)),
  (13, "choose", "(LJuryreel;I[J)I", 4, (some .int), 3, [(0, 9, 12, 25, 0, (4, 2))], (4, 205)),
  (13, "sectionOf", "(LJuryreel;I[J)I", 4, (some .int), 3, [(0, 9, 12, 25, 0, (4, 2)), (0, 9, 15, 40, 4, (4, 115))], (4, 237)),
  (13, "minutes", "(LJuryreel;I[J)I", 4, (some .int), 3, [(0, 9, 12, 25, 0, (4, 2))], (5, 5)),
  (13, "giveUp", "(LJuryreel;I[J)I", 4, (some .int), 3, [(0, 9, 12, 25, 0, (4, 2)), (0, 9, 15, 27, 3, (4, 26))], (5, 12)),
  (13, "isBroken", "(LJuryreel;I[J)I", 4, (some .int), 3, [(0, 16, 19, 25, 0, (4, 2))], (5, 20)),
  (13, "screen", "(LJuryreel;IZ[J)I", 5, (some .int), 4, [(0, 10, 13, 13, 1, (3, 122)), (0, 10, 17, 15, 2, (3, 123))], (5, 31)),
  (13, "print", "(LJuryreel;ICI[J)I", 6, (some .int), 5, [(0, 19, 22, 25, 0, (4, 2)), (0, 19, 26, 13, 1, (3, 122))], (5, 44)),
  (13, "key", "(LJuryreel;IIII[J)I", 7, (some .int), 6, [(0, 14, 17, 25, 0, (4, 2)), (0, 14, 21, 13, 1, (3, 122)), (0, 14, 25, 15, 2, (3, 123))], (5, 57)),
  (13, "canShow", "(LJuryreel;III[J)I", 6, (some .int), 5, [(0, 19, 22, 25, 0, (4, 2)), (0, 19, 26, 13, 1, (3, 122))], (5, 74)),
  (13, "show", "(LJuryreel;III[J)I", 6, (some .int), 5, [(0, 12, 15, 25, 0, (4, 2)), (0, 12, 19, 13, 1, (3, 122)), (0, 12, 23, 27, 3, (4, 26)), (0, 12, 27, 15, 2, (3, 123))], (5, 89)),
  (13, "plan", "(LJuryreel;I[J)I", 4, (some .int), 3, [(0, 9, 12, 25, 0, (4, 2)), (0, 9, 15, 15, 2, (3, 123))], (5, 124)),
  (13, "of", "(LJuryreel;IC[J)I", 5, (some .int), 4, [(0, 10, 13, 25, 0, (4, 2)), (0, 10, 17, 13, 1, (3, 122))], (5, 147)),
  (13, "state", "(LJuryreel;I[J)I", 4, (some .int), 3, [(0, 9, 12, 25, 0, (4, 2))], (5, 159)),
  (13, "at", "(LJuryreel;II[J)I", 5, (some .int), 4, [(0, 10, 13, 25, 0, (4, 2)), (0, 10, 17, 13, 1, (3, 122)), (0, 10, 21, 40, 4, (4, 115))], (5, 166)),
  (13, "go", "(LJuryreel;I[J)I", 4, (some .int), 3, [(0, 9, 12, 13, 1, (3, 122)), (0, 9, 15, 15, 2, (3, 123))], (5, 178)),
  (13, "storm", "(LJuryreel;I[J)I", 4, (some .int), 3, [(0, 9, 12, 13, 1, (3, 122)), (0, 9, 15, 27, 3, (4, 26)), (0, 9, 18, 15, 2, (3, 123))], (5, 187)),
  (13, "late", "(LJuryreel;II[J)I", 5, (some .int), 4, [(0, 10, 13, 25, 0, (4, 2)), (0, 10, 17, 13, 1, (3, 122)), (0, 10, 21, 27, 3, (4, 26)), (0, 10, 25, 15, 2, (3, 123))], (5, 217)),
  (13, "withdraw", "(LJuryreel;I[J)I", 4, (some .int), 3, [(0, 9, 12, 25, 0, (4, 2)), (0, 9, 15, 27, 3, (4, 26))], (5, 230)),
  (13, "pass", "(LJuryreel;I[J)I", 4, (some .int), 3, [(0, 9, 12, 13, 1, (3, 122)), (0, 9, 15, 15, 2, (3, 123))], (6, 6)),
  (13, "join", "(LJuryreel;II[J)I", 5, (some .int), 4, [(0, 10, 13, 25, 0, (4, 2)), (0, 10, 17, 27, 3, (4, 26))], (6, 19)),
  (13, "open", "(LJuryreel;I[J)I", 4, (some .int), 3, [(0, 9, 12, 25, 0, (4, 2)), (0, 9, 15, 27, 3, (4, 26))], (6, 36)),
  (13, "hasSeat", "(LJuryreel;II[J)I", 5, (some .int), 4, [(0, 17, 20, 25, 0, (4, 2))], (6, 49)),
  (13, "juror", "(LJuryreel;II[J)I", 5, (some .int), 4, [(0, 10, 13, 25, 0, (4, 2)), (0, 10, 17, 13, 1, (3, 122)), (0, 10, 21, 15, 2, (3, 123))], (6, 56)),
  (13, "rule", "(LJuryreel;IC[J)I", 5, (some .int), 4, [(0, 10, 13, 25, 0, (4, 2)), (0, 10, 17, 13, 1, (3, 122))], (6, 68)),
  (13, "see", "(LJuryreel;III[J)I", 6, (some .int), 5, [(0, 12, 15, 25, 0, (4, 2)), (0, 12, 19, 27, 3, (4, 26))], (6, 76)),
  (13, "type", "(LJuryreel;I[J)I", 4, (some .int), 3, [(0, 9, 12, 25, 0, (4, 2)), (0, 9, 15, 15, 2, (3, 123))], (6, 100)),
  (13, "rank", "(LJuryreel;II[J)I", 5, (some .int), 4, [(0, 10, 13, 25, 0, (4, 2)), (0, 10, 17, 27, 3, (4, 26))], (6, 108)),
  (13, "winner", "(LJuryreel;I[J)I", 4, (some .int), 3, [(0, 9, 12, 25, 0, (4, 2)), (0, 9, 15, 40, 4, (4, 115))], (6, 133)),
  (13, "award", "(LJuryreel;I[J)I", 4, (some .int), 3, [(0, 9, 12, 25, 0, (4, 2)), (0, 9, 15, 27, 3, (4, 26)), (0, 9, 18, 40, 4, (4, 115))], (6, 141)),
  (13, "sell", "(LJuryreel;IIIII[J)I", 8, (some .int), 7, [(0, 16, 19, 25, 0, (4, 2)), (0, 16, 23, 13, 1, (3, 122)), (0, 16, 27, 27, 3, (4, 26)), (0, 16, 31, 15, 2, (3, 123))], (6, 151)),
  (13, "owner", "(LJuryreel;III[J)I", 6, (some .int), 5, [(0, 12, 15, 25, 0, (4, 2)), (0, 12, 19, 13, 1, (3, 122)), (0, 12, 23, 40, 4, (4, 115))], (6, 170)),
  (13, "line", "(LJuryreel;IZ[J)I", 5, (some .int), 4, [(0, 10, 13, 40, 4, (4, 115))], (6, 183)),
  (13, "shownShare", "(LJuryreel;[D)I", 3, (some .int), 2, [(0, 8, 11, 164, 5, (6, 196))], (6, 195)),
  (13, "meanScore", "(LJuryreel;[D)I", 3, (some .int), 2, [(0, 7, 10, 164, 5, (6, 196))], (6, 223)),
  (13, "law", "([I)Z", 9, (some .boolean), 1, [], (0, 0))]
noncomputable def a_prog_0 : List (ByteArray × List (Nat × Instr × Nat)) := [
  (prog_2_method_1_code, [(0, .aload_n 0, 1), (1, .invokespecial 3, 3), (4, .aload_n 0, 1), (5, .sipush 400, 3), (8, .newarray .char, 2), (10, .putfield 9, 3), (13, .aload_n 0, 1), (14, .sipush 400, 3), (17, .newarray .int, 2), (19, .putfield 15, 3), (22, .aload_n 0, 1), (23, .iconst 0, 1), (24, .putfield 19, 3), (27, .aload_n 0, 1), (28, .iconst 0, 1), (29, .putfield 23, 3), (32, .return_, 1)]),
  (prog_2_method_2_code, [(0, .aload_n 0, 1), (1, .getfield 9, 3), (4, .aload_n 0, 1), (5, .getfield 23, 3), (8, .iload_n 1, 1), (9, .castore, 1), (10, .aload_n 0, 1), (11, .getfield 15, 3), (14, .aload_n 0, 1), (15, .getfield 23, 3), (18, .iload_n 2, 1), (19, .iastore, 1), (20, .aload_n 0, 1), (21, .aload_n 0, 1), (22, .getfield 23, 3), (25, .iconst 1, 1), (26, .iadd, 1), (27, .sipush 400, 3), (30, .irem, 1), (31, .putfield 23, 3), (34, .aload_n 0, 1), (35, .aload_n 0, 1), (36, .getfield 19, 3), (39, .iconst 1, 1), (40, .iadd, 1), (41, .sipush 400, 3), (44, .invokestatic 26, 3), (47, .putfield 19, 3), (50, .return_, 1)]),
  (prog_2_method_3_code, [(0, .aload_n 0, 1), (1, .getfield 23, 3), (4, .iconst 1, 1), (5, .isub, 1), (6, .iload_n 1, 1), (7, .isub, 1), (8, .sipush 800, 3), (11, .iadd, 1), (12, .sipush 400, 3), (15, .irem, 1), (16, .ireturn, 1)]),
  (prog_3_method_1_code, [(0, .aload_n 0, 1), (1, .invokespecial 3, 3), (4, .aload_n 0, 1), (5, .bipush 20, 2), (7, .newarray .boolean, 2), (9, .putfield 9, 3), (12, .aload_n 0, 1), (13, .bipush 20, 2), (15, .newarray .boolean, 2), (17, .putfield 15, 3), (20, .aload_n 0, 1), (21, .bipush 20, 2), (23, .newarray .int, 2), (25, .putfield 18, 3), (28, .aload_n 0, 1), (29, .bipush 20, 2), (31, .bipush 20, 2), (33, .multianewarray 22 2, 4), (37, .putfield 24, 3), (40, .return_, 1)]),
  (prog_3_method_2_code, [(0, .aload_n 0, 1), (1, .aload_n 1, 1), (2, .invokevirtual 27, 3), (5, .aload_n 2, 1), (6, .getfield 31, 3), (9, .bipush 98, 2), (11, .if_icmp .ne 10, 3), (14, .aload_n 0, 1), (15, .aload_n 2, 1), (16, .iconst 1, 1), (17, .invokevirtual 37, 3), (20, .ireturn, 1), (21, .aload_n 2, 1), (22, .getfield 31, 3), (25, .bipush 99, 2), (27, .if_icmp .ne 9, 3), (30, .aload_n 0, 1), (31, .aload_n 2, 1), (32, .invokevirtual 41, 3), (35, .ireturn, 1), (36, .aload_n 2, 1), (37, .getfield 31, 3), (40, .bipush 114, 2), (42, .if_icmp .ne 11, 3), (45, .aload_n 0, 1), (46, .aload_n 2, 1), (47, .invokevirtual 45, 3), (50, .goto 9, 3), (53, .aload_n 0, 1), (54, .aload_n 2, 1), (55, .iconst 0, 1), (56, .invokevirtual 37, 3), (59, .ireturn, 1)]),
  (prog_3_method_3_code, [(0, .iconst 0, 1), (1, .istore_n 2, 1), (2, .iload_n 2, 1), (3, .bipush 20, 2), (5, .if_icmp .ge 27, 3), (8, .iload_n 2, 1), (9, .aload_n 1, 1), (10, .arraylength, 1), (11, .if_icmp .ge 21, 3), (14, .aload_n 0, 1), (15, .getfield 9, 3), (18, .iload_n 2, 1), (19, .aload_n 1, 1), (20, .iload_n 2, 1), (21, .aaload, 1), (22, .getfield 48, 3), (25, .bastore, 1), (26, .iinc 2 1, 3), (29, .goto (-27), 3), (32, .return_, 1)]),
  (prog_3_method_4_code, [(0, .iconst 0, 1), (1, .istore_n 3, 1), (2, .iload_n 3, 1), (3, .aload_n 1, 1), (4, .getfield 54, 3), (7, .if_icmp .ge 21, 3), (10, .aload_n 1, 1), (11, .getfield 60, 3), (14, .iload_n 3, 1), (15, .iaload, 1), (16, .iload_n 2, 1), (17, .if_icmp .ne 5, 3), (20, .iload_n 3, 1), (21, .ireturn, 1), (22, .iinc 3 1, 3), (25, .goto (-23), 3), (28, .iconst (-1), 1), (29, .ireturn, 1)]),
  (prog_3_method_5_code, [(0, .iconst 0, 1), (1, .istore_n 2, 1), (2, .iload_n 2, 1), (3, .aload_n 1, 1), (4, .getfield 54, 3), (7, .if_icmp .ge 30, 3), (10, .aload_n 0, 1), (11, .getfield 9, 3), (14, .aload_n 1, 1), (15, .getfield 60, 3), (18, .iload_n 2, 1), (19, .iaload, 1), (20, .baload, 1), (21, .ifCond .ne 10, 3), (24, .aload_n 1, 1), (25, .getfield 60, 3), (28, .iload_n 2, 1), (29, .iaload, 1), (30, .ireturn, 1), (31, .iinc 2 1, 3), (34, .goto (-32), 3), (37, .iconst (-1), 1), (38, .ireturn, 1)]),
  (prog_3_method_6_code, [(0, .iconst 0, 1), (1, .istore_n 3, 1), (2, .iload_n 3, 1), (3, .aload_n 1, 1), (4, .getfield 63, 3), (7, .if_icmp .ge 35, 3), (10, .aload_n 0, 1), (11, .getfield 9, 3), (14, .iload_n 2, 1), (15, .baload, 1), (16, .ifCond .ne 20, 3), (19, .aload_n 0, 1), (20, .aload_n 1, 1), (21, .getfield 66, 3), (24, .iload_n 3, 1), (25, .aaload, 1), (26, .iload_n 2, 1), (27, .invokevirtual 70, 3), (30, .iconst (-1), 1), (31, .if_icmp .eq 5, 3), (34, .iconst 1, 1), (35, .ireturn, 1), (36, .iinc 3 1, 3), (39, .goto (-37), 3), (42, .iconst 0, 1), (43, .ireturn, 1)]),
  (prog_3_method_7_code, [(0, .iconst 0, 1), (1, .istore_n 3, 1), (2, .iconst 0, 1), (3, .istore 4, 2), (5, .iload 4, 2), (7, .aload_n 1, 1), (8, .getfield 63, 3), (11, .if_icmp .ge 27, 3), (14, .aload_n 0, 1), (15, .aload_n 1, 1), (16, .getfield 66, 3), (19, .iload 4, 2), (21, .aaload, 1), (22, .invokevirtual 74, 3), (25, .iload_n 2, 1), (26, .if_icmp .ne 6, 3), (29, .iinc 3 1, 3), (32, .iinc 4 1, 3), (35, .goto (-30), 3), (38, .iload_n 3, 1), (39, .ireturn, 1)]),
  (prog_3_method_8_code, [(0, .iconst 0, 1), (1, .istore_n 3, 1), (2, .iconst 0, 1), (3, .istore 4, 2), (5, .iload 4, 2), (7, .aload_n 1, 1), (8, .getfield 63, 3), (11, .if_icmp .ge 74, 3), (14, .aload_n 1, 1), (15, .getfield 66, 3), (18, .iload 4, 2), (20, .aaload, 1), (21, .astore 5, 2), (23, .aload_n 0, 1), (24, .aload 5, 2), (26, .iload_n 2, 1), (27, .invokevirtual 70, 3), (30, .istore 6, 2), (32, .iload 6, 2), (34, .iconst 1, 1), (35, .iadd, 1), (36, .istore 7, 2), (38, .iload 6, 2), (40, .iconst (-1), 1), (41, .if_icmp .eq 38, 3), (44, .iload 7, 2), (46, .aload 5, 2), (48, .getfield 54, 3), (51, .if_icmp .ge 28, 3), (54, .aload_n 0, 1), (55, .getfield 9, 3), (58, .aload 5, 2), (60, .getfield 60, 3), (63, .iload 7, 2), (65, .iaload, 1), (66, .baload, 1), (67, .ifCond .ne 6, 3), (70, .iinc 3 1, 3), (73, .iinc 7 1, 3), (76, .goto (-38), 3), (79, .iinc 4 1, 3), (82, .goto (-77), 3), (85, .iload_n 3, 1), (86, .ireturn, 1)]),
  (prog_3_method_9_code, [(0, .iconst (-1), 1), (1, .istore_n 3, 1), (2, .iconst (-1), 1), (3, .istore 4, 2), (5, .iconst 0, 1), (6, .istore 5, 2), (8, .iload 5, 2), (10, .bipush 20, 2), (12, .if_icmp .ge 56, 3), (15, .aload_n 0, 1), (16, .aload_n 1, 1), (17, .iload 5, 2), (19, .invokevirtual 78, 3), (22, .ifCond .eq 40, 3), (25, .iload_n 2, 1), (26, .ifCond .eq 13, 3), (29, .aload_n 0, 1), (30, .aload_n 1, 1), (31, .iload 5, 2), (33, .invokevirtual 82, 3), (36, .goto 10, 3), (39, .aload_n 0, 1), (40, .aload_n 1, 1), (41, .iload 5, 2), (43, .invokevirtual 86, 3), (46, .istore 6, 2), (48, .iload 6, 2), (50, .iload 4, 2), (52, .if_icmp .le 10, 3), (55, .iload 5, 2), (57, .istore_n 3, 1), (58, .iload 6, 2), (60, .istore 4, 2), (62, .iinc 5 1, 3), (65, .goto (-57), 3), (68, .iload_n 3, 1), (69, .ireturn, 1)]),
  (prog_3_method_10_code, [(0, .iconst 0, 1), (1, .istore_n 2, 1), (2, .iload_n 2, 1), (3, .bipush 20, 2), (5, .if_icmp .ge 29, 3), (8, .aload_n 0, 1), (9, .aload_n 1, 1), (10, .iload_n 2, 1), (11, .invokevirtual 78, 3), (14, .ifCond .eq 14, 3), (17, .aload_n 0, 1), (18, .aload_n 1, 1), (19, .iload_n 2, 1), (20, .invokevirtual 89, 3), (23, .ifCond .eq 5, 3), (26, .iload_n 2, 1), (27, .ireturn, 1), (28, .iinc 2 1, 3), (31, .goto (-29), 3), (34, .aload_n 0, 1), (35, .aload_n 1, 1), (36, .iconst 1, 1), (37, .invokevirtual 37, 3), (40, .ireturn, 1)]),
  (prog_3_method_11_code, [(0, .iconst 0, 1), (1, .istore_n 3, 1), (2, .iload_n 3, 1), (3, .bipush 20, 2), (5, .if_icmp .ge 35, 3), (8, .iload_n 3, 1), (9, .iload_n 2, 1), (10, .if_icmp .eq 24, 3), (13, .aload_n 0, 1), (14, .aload_n 1, 1), (15, .iload_n 3, 1), (16, .invokevirtual 78, 3), (19, .ifCond .eq 15, 3), (22, .aload_n 0, 1), (23, .aload_n 1, 1), (24, .iload_n 2, 1), (25, .iload_n 3, 1), (26, .invokevirtual 92, 3), (29, .ifCond .gt 5, 3), (32, .iconst 0, 1), (33, .ireturn, 1), (34, .iinc 3 1, 3), (37, .goto (-35), 3), (40, .iconst 1, 1), (41, .ireturn, 1)]),
  (prog_3_method_12_code, [(0, .iconst 0, 1), (1, .istore 4, 2), (3, .iconst 0, 1), (4, .istore 5, 2), (6, .iload 5, 2), (8, .aload_n 1, 1), (9, .getfield 63, 3), (12, .if_icmp .ge 66, 3), (15, .aload_n 0, 1), (16, .aload_n 1, 1), (17, .getfield 66, 3), (20, .iload 5, 2), (22, .aaload, 1), (23, .iload_n 2, 1), (24, .invokevirtual 70, 3), (27, .istore 6, 2), (29, .aload_n 0, 1), (30, .aload_n 1, 1), (31, .getfield 66, 3), (34, .iload 5, 2), (36, .aaload, 1), (37, .iload_n 3, 1), (38, .invokevirtual 70, 3), (41, .istore 7, 2), (43, .iload 6, 2), (45, .iconst (-1), 1), (46, .if_icmp .eq 26, 3), (49, .iload 7, 2), (51, .iconst (-1), 1), (52, .if_icmp .eq 20, 3), (55, .iload 4, 2), (57, .iload 6, 2), (59, .iload 7, 2), (61, .if_icmp .ge 7, 3), (64, .iconst 1, 1), (65, .goto 4, 3), (68, .iconst (-1), 1), (69, .iadd, 1), (70, .istore 4, 2), (72, .iinc 5 1, 3), (75, .goto (-69), 3), (78, .iload 4, 2), (80, .ireturn, 1)]),
  (prog_3_method_13_code, [(0, .iconst 0, 1), (1, .istore_n 2, 1), (2, .iload_n 2, 1), (3, .bipush 20, 2), (5, .if_icmp .ge 88, 3), (8, .iconst 0, 1), (9, .istore_n 3, 1), (10, .iconst 0, 1), (11, .istore 4, 2), (13, .iload 4, 2), (15, .aload_n 1, 1), (16, .getfield 63, 3), (19, .if_icmp .ge 27, 3), (22, .aload_n 0, 1), (23, .aload_n 1, 1), (24, .getfield 66, 3), (27, .iload 4, 2), (29, .aaload, 1), (30, .invokevirtual 74, 3), (33, .iconst (-1), 1), (34, .if_icmp .eq 6, 3), (37, .iinc 3 1, 3), (40, .iinc 4 1, 3), (43, .goto (-30), 3), (46, .aload_n 0, 1), (47, .aload_n 1, 1), (48, .iconst 0, 1), (49, .invokevirtual 37, 3), (52, .istore 4, 2), (54, .iload 4, 2), (56, .iconst (-1), 1), (57, .if_icmp .eq 16, 3), (60, .iconst 2, 1), (61, .aload_n 0, 1), (62, .aload_n 1, 1), (63, .iload 4, 2), (65, .invokevirtual 86, 3), (68, .imul, 1), (69, .iload_n 3, 1), (70, .if_icmp .le 6, 3), (73, .iload 4, 2), (75, .ireturn, 1), (76, .aload_n 0, 1), (77, .getfield 9, 3), (80, .aload_n 0, 1), (81, .aload_n 1, 1), (82, .invokevirtual 96, 3), (85, .iconst 1, 1), (86, .bastore, 1), (87, .iinc 2 1, 3), (90, .goto (-88), 3), (93, .iconst (-1), 1), (94, .ireturn, 1)]),
  (prog_3_method_14_code, [(0, .iconst 0, 1), (1, .istore_n 2, 1), (2, .bipush 6, 2), (4, .istore_n 3, 1), (5, .iconst 0, 1), (6, .istore 4, 2), (8, .iload 4, 2), (10, .bipush 20, 2), (12, .if_icmp .ge 41, 3), (15, .aload_n 0, 1), (16, .aload_n 1, 1), (17, .iload 4, 2), (19, .invokevirtual 78, 3), (22, .ifCond .eq 25, 3), (25, .aload_n 0, 1), (26, .aload_n 1, 1), (27, .iload 4, 2), (29, .invokevirtual 86, 3), (32, .iload_n 3, 1), (33, .if_icmp .gt 14, 3), (36, .iload 4, 2), (38, .istore_n 2, 1), (39, .aload_n 0, 1), (40, .aload_n 1, 1), (41, .iload 4, 2), (43, .invokevirtual 86, 3), (46, .istore_n 3, 1), (47, .iinc 4 1, 3), (50, .goto (-42), 3), (53, .iload_n 2, 1), (54, .ireturn, 1)]),
  (prog_3_method_15_code, [(0, .aload_n 0, 1), (1, .aload_n 1, 1), (2, .invokevirtual 27, 3), (5, .aload_n 2, 1), (6, .getfield 31, 3), (9, .bipush 114, 2), (11, .if_icmp .ne 9, 3), (14, .aload_n 0, 1), (15, .aload_n 2, 1), (16, .invokevirtual 99, 3), (19, .ireturn, 1), (20, .aload_n 0, 1), (21, .aload_n 2, 1), (22, .aload_n 2, 1), (23, .getfield 31, 3), (26, .bipush 109, 2), (28, .if_icmp .eq 7, 3), (31, .iconst 1, 1), (32, .goto 4, 3), (35, .iconst 0, 1), (36, .invokevirtual 102, 3), (39, .pop, 1), (40, .aload_n 2, 1), (41, .getfield 31, 3), (44, .bipush 99, 2), (46, .if_icmp .ne 22, 3), (49, .aload_n 0, 1), (50, .invokevirtual 105, 3), (53, .istore_n 3, 1), (54, .iload_n 3, 1), (55, .iconst (-1), 1), (56, .if_icmp .ne 10, 3), (59, .aload_n 0, 1), (60, .invokevirtual 109, 3), (63, .goto 4, 3), (66, .iload_n 3, 1), (67, .ireturn, 1), (68, .aload_n 0, 1), (69, .invokevirtual 109, 3), (72, .ireturn, 1)]),
  (prog_3_method_16_code, [(0, .iconst 0, 1), (1, .istore_n 3, 1), (2, .iconst 0, 1), (3, .istore 4, 2), (5, .iload 4, 2), (7, .bipush 20, 2), (9, .if_icmp .ge 52, 3), (12, .aload_n 0, 1), (13, .getfield 18, 3), (16, .iload 4, 2), (18, .iconst 0, 1), (19, .iastore, 1), (20, .aload_n 0, 1), (21, .getfield 15, 3), (24, .iload 4, 2), (26, .iconst 0, 1), (27, .bastore, 1), (28, .iconst 0, 1), (29, .istore 5, 2), (31, .iload 5, 2), (33, .bipush 20, 2), (35, .if_icmp .ge 20, 3), (38, .aload_n 0, 1), (39, .getfield 24, 3), (42, .iload 4, 2), (44, .aaload, 1), (45, .iload 5, 2), (47, .iconst 0, 1), (48, .iastore, 1), (49, .iinc 5 1, 3), (52, .goto (-21), 3), (55, .iinc 4 1, 3), (58, .goto (-53), 3), (61, .iconst 0, 1), (62, .istore 4, 2), (64, .iload 4, 2), (66, .aload_n 1, 1), (67, .getfield 63, 3), (70, .if_icmp .ge 27, 3), (73, .aload_n 0, 1), (74, .aload_n 1, 1), (75, .getfield 66, 3), (78, .iload 4, 2), (80, .aaload, 1), (81, .iload_n 2, 1), (82, .invokevirtual 112, 3), (85, .ifCond .eq 6, 3), (88, .iinc 3 1, 3), (91, .iinc 4 1, 3), (94, .goto (-30), 3), (97, .iload_n 3, 1), (98, .ireturn, 1)]),
  (prog_3_method_17_code, [(0, .iconst 0, 1), (1, .istore_n 3, 1), (2, .iconst (-1), 1), (3, .istore 4, 2), (5, .aload_n 1, 1), (6, .getfield 54, 3), (9, .iconst 1, 1), (10, .isub, 1), (11, .istore 5, 2), (13, .iload 5, 2), (15, .ifCond .lt 116, 3), (18, .aload_n 1, 1), (19, .getfield 60, 3), (22, .iload 5, 2), (24, .iaload, 1), (25, .istore 6, 2), (27, .aload_n 0, 1), (28, .getfield 9, 3), (31, .iload 6, 2), (33, .baload, 1), (34, .ifCond .ne 91, 3), (37, .aload_n 0, 1), (38, .getfield 15, 3), (41, .iload 6, 2), (43, .iconst 1, 1), (44, .bastore, 1), (45, .iload 6, 2), (47, .istore 4, 2), (49, .aload_n 0, 1), (50, .getfield 18, 3), (53, .iload 6, 2), (55, .dup2, 1), (56, .iaload, 1), (57, .iload_n 2, 1), (58, .ifCond .eq 7, 3), (61, .iload_n 3, 1), (62, .goto 4, 3), (65, .iconst 0, 1), (66, .iadd, 1), (67, .iastore, 1), (68, .iinc 3 1, 3), (71, .iconst 0, 1), (72, .istore 7, 2), (74, .iload 7, 2), (76, .iload 5, 2), (78, .if_icmp .ge 47, 3), (81, .aload_n 0, 1), (82, .getfield 24, 3), (85, .aload_n 1, 1), (86, .getfield 60, 3), (89, .iload 7, 2), (91, .iaload, 1), (92, .aaload, 1), (93, .iload 6, 2), (95, .dup2, 1), (96, .iaload, 1), (97, .iconst 1, 1), (98, .iadd, 1), (99, .iastore, 1), (100, .aload_n 0, 1), (101, .getfield 24, 3), (104, .iload 6, 2), (106, .aaload, 1), (107, .aload_n 1, 1), (108, .getfield 60, 3), (111, .iload 7, 2), (113, .iaload, 1), (114, .dup2, 1), (115, .iaload, 1), (116, .iconst 1, 1), (117, .isub, 1), (118, .iastore, 1), (119, .iinc 7 1, 3), (122, .goto (-48), 3), (125, .iinc 5 (-1), 3), (128, .goto (-115), 3), (131, .iload 4, 2), (133, .iconst (-1), 1), (134, .if_icmp .eq 18, 3), (137, .iload_n 2, 1), (138, .ifCond .ne 14, 3), (141, .aload_n 0, 1), (142, .getfield 18, 3), (145, .iload 4, 2), (147, .dup2, 1), (148, .iaload, 1), (149, .iconst 1, 1), (150, .iadd, 1), (151, .iastore, 1), (152, .iload 4, 2), (154, .iconst (-1), 1), (155, .if_icmp .eq 7, 3), (158, .iconst 1, 1), (159, .goto 4, 3), (162, .iconst 0, 1), (163, .ireturn, 1)])]
noncomputable def a_prog_1 : List (ByteArray × List (Nat × Instr × Nat)) := [
  (prog_3_method_18_code, [(0, .iconst (-1), 1), (1, .istore_n 1, 1), (2, .bipush 19, 2), (4, .istore_n 2, 1), (5, .iload_n 2, 1), (6, .ifCond .lt 40, 3), (9, .aload_n 0, 1), (10, .getfield 15, 3), (13, .iload_n 2, 1), (14, .baload, 1), (15, .ifCond .eq 25, 3), (18, .iload_n 1, 1), (19, .iconst (-1), 1), (20, .if_icmp .eq 18, 3), (23, .aload_n 0, 1), (24, .getfield 18, 3), (27, .iload_n 2, 1), (28, .iaload, 1), (29, .aload_n 0, 1), (30, .getfield 18, 3), (33, .iload_n 1, 1), (34, .iaload, 1), (35, .if_icmp .lt 5, 3), (38, .iload_n 2, 1), (39, .istore_n 1, 1), (40, .iinc 2 (-1), 3), (43, .goto (-38), 3), (46, .iload_n 1, 1), (47, .ireturn, 1)]),
  (prog_3_method_19_code, [(0, .iconst 0, 1), (1, .istore_n 1, 1), (2, .iload_n 1, 1), (3, .bipush 20, 2), (5, .if_icmp .ge 63, 3), (8, .aload_n 0, 1), (9, .getfield 15, 3), (12, .iload_n 1, 1), (13, .baload, 1), (14, .istore_n 2, 1), (15, .iconst 0, 1), (16, .istore_n 3, 1), (17, .iload_n 3, 1), (18, .bipush 20, 2), (20, .if_icmp .ge 36, 3), (23, .iload_n 3, 1), (24, .iload_n 1, 1), (25, .if_icmp .eq 25, 3), (28, .aload_n 0, 1), (29, .getfield 15, 3), (32, .iload_n 3, 1), (33, .baload, 1), (34, .ifCond .eq 16, 3), (37, .aload_n 0, 1), (38, .getfield 24, 3), (41, .iload_n 1, 1), (42, .aaload, 1), (43, .iload_n 3, 1), (44, .iaload, 1), (45, .ifCond .gt 5, 3), (48, .iconst 0, 1), (49, .istore_n 2, 1), (50, .iinc 3 1, 3), (53, .goto (-36), 3), (56, .iload_n 2, 1), (57, .ifCond .eq 5, 3), (60, .iload_n 1, 1), (61, .ireturn, 1), (62, .iinc 1 1, 3), (65, .goto (-63), 3), (68, .iconst (-1), 1), (69, .ireturn, 1)]),
  (prog_3_method_20_code, [(0, .iconst 0, 1), (1, .istore_n 2, 1), (2, .iload_n 2, 1), (3, .bipush 20, 2), (5, .if_icmp .ge 127, 3), (8, .aload_n 0, 1), (9, .aload_n 1, 1), (10, .iconst 0, 1), (11, .invokevirtual 102, 3), (14, .istore_n 3, 1), (15, .aload_n 0, 1), (16, .invokevirtual 109, 3), (19, .istore 4, 2), (21, .iload 4, 2), (23, .iconst (-1), 1), (24, .if_icmp .eq 16, 3), (27, .iconst 2, 1), (28, .aload_n 0, 1), (29, .getfield 18, 3), (32, .iload 4, 2), (34, .iaload, 1), (35, .imul, 1), (36, .iload_n 3, 1), (37, .if_icmp .le 6, 3), (40, .iload 4, 2), (42, .ireturn, 1), (43, .iload 4, 2), (45, .istore 5, 2), (47, .iconst 0, 1), (48, .istore 6, 2), (50, .iload 6, 2), (52, .bipush 20, 2), (54, .if_icmp .ge 64, 3), (57, .aload_n 0, 1), (58, .getfield 15, 3), (61, .iload 6, 2), (63, .baload, 1), (64, .ifCond .eq 48, 3), (67, .aload_n 0, 1), (68, .getfield 18, 3), (71, .iload 6, 2), (73, .iaload, 1), (74, .aload_n 0, 1), (75, .getfield 18, 3), (78, .iload 5, 2), (80, .iaload, 1), (81, .if_icmp .lt 27, 3), (84, .aload_n 0, 1), (85, .getfield 18, 3), (88, .iload 6, 2), (90, .iaload, 1), (91, .aload_n 0, 1), (92, .getfield 18, 3), (95, .iload 5, 2), (97, .iaload, 1), (98, .if_icmp .ne 14, 3), (101, .iload 6, 2), (103, .iload 5, 2), (105, .if_icmp .le 7, 3), (108, .iload 6, 2), (110, .istore 5, 2), (112, .iinc 6 1, 3), (115, .goto (-65), 3), (118, .aload_n 0, 1), (119, .getfield 9, 3), (122, .iload 5, 2), (124, .iconst 1, 1), (125, .bastore, 1), (126, .iinc 2 1, 3), (129, .goto (-127), 3), (132, .iconst (-1), 1), (133, .ireturn, 1)]),
  (prog_4_method_1_code, [(0, .aload_n 0, 1), (1, .invokespecial 3, 3), (4, .aload_n 0, 1), (5, .bipush 45, 2), (7, .putfield 9, 3), (10, .aload_n 0, 1), (11, .iconst 0, 1), (12, .putfield 15, 3), (15, .aload_n 0, 1), (16, .iconst 0, 1), (17, .putfield 19, 3), (20, .aload_n 0, 1), (21, .iconst (-1), 1), (22, .putfield 22, 3), (25, .aload_n 0, 1), (26, .iconst 0, 1), (27, .putfield 25, 3), (30, .aload_n 0, 1), (31, .iconst 3, 1), (32, .putfield 29, 3), (35, .aload_n 0, 1), (36, .iconst 0, 1), (37, .putfield 32, 3), (40, .aload_n 0, 1), (41, .bipush 45, 2), (43, .putfield 35, 3), (46, .aload_n 0, 1), (47, .iconst 0, 1), (48, .putfield 38, 3), (51, .return_, 1)]),
  (prog_4_method_2_code, [(0, .aload_n 0, 1), (1, .iload_n 1, 1), (2, .putfield 9, 3), (5, .aload_n 0, 1), (6, .iload_n 2, 1), (7, .putfield 15, 3), (10, .aload_n 0, 1), (11, .iload_n 3, 1), (12, .putfield 19, 3), (15, .return_, 1)]),
  (prog_4_method_3_code, [(0, .iconst 0, 1), (1, .istore_n 2, 1), (2, .iload_n 1, 1), (3, .bipush 97, 2), (5, .if_icmp .ne 8, 3), (8, .iconst 2, 1), (9, .istore_n 2, 1), (10, .goto 11, 3), (13, .iload_n 1, 1), (14, .bipush 108, 2), (16, .if_icmp .ne 5, 3), (19, .iconst 1, 1), (20, .istore_n 2, 1), (21, .aload_n 0, 1), (22, .aload_n 0, 1), (23, .getfield 29, 3), (26, .iload_n 2, 1), (27, .invokestatic 41, 3), (30, .putfield 29, 3), (33, .return_, 1)]),
  (prog_4_method_4_code, [(0, .aload_n 0, 1), (1, .iload_n 1, 1), (2, .putfield 22, 3), (5, .aload_n 0, 1), (6, .iload_n 2, 1), (7, .putfield 32, 3), (10, .return_, 1)]),
  (prog_4_method_5_code, [(0, .aload_n 0, 1), (1, .iconst 1, 1), (2, .putfield 25, 3), (5, .aload_n 0, 1), (6, .iconst (-1), 1), (7, .putfield 22, 3), (10, .aload_n 0, 1), (11, .iconst 0, 1), (12, .putfield 32, 3), (15, .return_, 1)]),
  (prog_4_method_6_code, [(0, .aload_n 0, 1), (1, .getfield 29, 3), (4, .aload_n 0, 1), (5, .getfield 32, 3), (8, .if_icmp .ge 7, 3), (11, .iconst 1, 1), (12, .goto 4, 3), (15, .iconst 0, 1), (16, .ireturn, 1)]),
  (prog_4_method_7_code, [(0, .aload_n 0, 1), (1, .getfield 15, 3), (4, .sipush 150, 3), (7, .if_icmp .gt 7, 3), (10, .iconst 1, 1), (11, .goto 4, 3), (14, .iconst 2, 1), (15, .ireturn, 1)]),
  (prog_5_method_1_code, [(0, .aload_n 0, 1), (1, .invokespecial 3, 3), (4, .aload_n 0, 1), (5, .bipush 20, 2), (7, .anewarray 9, 3), (10, .putfield 11, 3), (13, .aload_n 0, 1), (14, .new 17, 3), (17, .dup, 1), (18, .invokespecial 19, 3), (21, .putfield 20, 3), (24, .aload_n 0, 1), (25, .new 24, 3), (28, .dup, 1), (29, .invokespecial 26, 3), (32, .putfield 27, 3), (35, .aload_n 0, 1), (36, .bipush 60, 2), (38, .anewarray 31, 3), (41, .putfield 33, 3), (44, .aload_n 0, 1), (45, .iconst 0, 1), (46, .putfield 37, 3), (49, .aload_n 0, 1), (50, .iconst 0, 1), (51, .putfield 41, 3), (54, .aload_n 0, 1), (55, .bipush 10, 2), (57, .newarray .boolean, 2), (59, .putfield 44, 3), (62, .aload_n 0, 1), (63, .bipush 60, 2), (65, .newarray .int, 2), (67, .putfield 48, 3), (70, .aload_n 0, 1), (71, .iconst 0, 1), (72, .putfield 52, 3), (75, .iconst 0, 1), (76, .istore_n 1, 1), (77, .iload_n 1, 1), (78, .bipush 20, 2), (80, .if_icmp .ge 22, 3), (83, .aload_n 0, 1), (84, .getfield 11, 3), (87, .iload_n 1, 1), (88, .new 9, 3), (91, .dup, 1), (92, .invokespecial 55, 3), (95, .aastore, 1), (96, .iinc 1 1, 3), (99, .goto (-22), 3), (102, .iconst 0, 1), (103, .istore_n 1, 1), (104, .iload_n 1, 1), (105, .bipush 60, 2), (107, .if_icmp .ge 22, 3), (110, .aload_n 0, 1), (111, .getfield 33, 3), (114, .iload_n 1, 1), (115, .new 31, 3), (118, .dup, 1), (119, .invokespecial 56, 3), (122, .aastore, 1), (123, .iinc 1 1, 3), (126, .goto (-22), 3), (129, .return_, 1)]),
  (prog_5_method_2_code, [(0, .aload_n 1, 1), (1, .getfield 57, 3), (4, .bipush 45, 2), (6, .if_icmp .eq 8, 3), (9, .aload_n 1, 1), (10, .getfield 57, 3), (13, .ireturn, 1), (14, .aload_n 0, 1), (15, .getfield 41, 3), (18, .aload_n 1, 1), (19, .getfield 61, 3), (22, .if_icmp .ge 6, 3), (25, .bipush 116, 2), (27, .ireturn, 1), (28, .aload_n 0, 1), (29, .getfield 41, 3), (32, .aload_n 1, 1), (33, .getfield 61, 3), (36, .aload_n 1, 1), (37, .getfield 64, 3), (40, .iadd, 1), (41, .if_icmp .ge 8, 3), (44, .bipush 110, 2), (46, .goto 5, 3), (49, .bipush 111, 2), (51, .ireturn, 1)]),
  (prog_5_method_3_code, [(0, .aload_n 0, 1), (1, .getfield 11, 3), (4, .iload_n 1, 1), (5, .aaload, 1), (6, .getfield 67, 3), (9, .istore 5, 2), (11, .iload 5, 2), (13, .bipush 45, 2), (15, .if_icmp .eq 9, 3), (18, .iload_n 3, 1), (19, .iload 4, 2), (21, .if_icmp .ge 5, 3), (24, .iconst 0, 1), (25, .ireturn, 1), (26, .iload 5, 2), (28, .bipush 114, 2), (30, .if_icmp .ne 15, 3), (33, .aload_n 0, 1), (34, .getfield 20, 3), (37, .getfield 70, 3), (40, .iload_n 2, 1), (41, .baload, 1), (42, .goto 13, 3), (45, .aload_n 0, 1), (46, .getfield 20, 3), (49, .iload_n 1, 1), (50, .iload_n 2, 1), (51, .iload_n 3, 1), (52, .invokevirtual 73, 3), (55, .ireturn, 1)]),
  (prog_5_method_4_code, [(0, .iload_n 3, 1), (1, .aload_n 0, 1), (2, .getfield 11, 3), (5, .iload_n 1, 1), (6, .aaload, 1), (7, .invokevirtual 77, 3), (10, .iadd, 1), (11, .istore 5, 2), (13, .iload_n 3, 1), (14, .istore 6, 2), (16, .iload 6, 2), (18, .iload 5, 2), (20, .if_icmp .ge 24, 3), (23, .aload_n 0, 1), (24, .iload_n 1, 1), (25, .iload_n 2, 1), (26, .iload 6, 2), (28, .iload 4, 2), (30, .invokevirtual 81, 3), (33, .ifCond .ne 5, 3), (36, .iconst 0, 1), (37, .ireturn, 1), (38, .iinc 6 1, 3), (41, .goto (-25), 3), (44, .iconst 1, 1), (45, .ireturn, 1)]),
  (prog_5_method_5_code, [(0, .aload_n 0, 1), (1, .getfield 11, 3), (4, .iload_n 1, 1), (5, .aaload, 1), (6, .invokevirtual 77, 3), (9, .istore 4, 2), (11, .iload_n 3, 1), (12, .aload_n 0, 1), (13, .getfield 41, 3), (16, .if_icmp .lt 19, 3), (19, .iload_n 3, 1), (20, .bipush 50, 2), (22, .if_icmp .ge 13, 3), (25, .iload_n 3, 1), (26, .iconst 5, 1), (27, .irem, 1), (28, .iload 4, 2), (30, .iadd, 1), (31, .iconst 5, 1), (32, .if_icmp .le 5, 3), (35, .iconst 0, 1), (36, .ireturn, 1), (37, .aload_n 0, 1), (38, .getfield 44, 3), (41, .iload_n 3, 1), (42, .iconst 5, 1), (43, .idiv, 1), (44, .baload, 1), (45, .ifCond .eq 5, 3), (48, .iconst 0, 1), (49, .ireturn, 1), (50, .aload_n 0, 1), (51, .iload_n 1, 1), (52, .iload_n 2, 1), (53, .iload_n 3, 1), (54, .aload_n 0, 1), (55, .getfield 11, 3), (58, .iload_n 1, 1), (59, .aaload, 1), (60, .getfield 85, 3), (63, .invokevirtual 88, 3), (66, .ifCond .eq 17, 3), (69, .aload_n 0, 1), (70, .iload_n 1, 1), (71, .iload_n 2, 1), (72, .iload_n 3, 1), (73, .invokevirtual 91, 3), (76, .ifCond .eq 7, 3), (79, .iconst 1, 1), (80, .goto 4, 3), (83, .iconst 0, 1), (84, .ireturn, 1)]),
  (prog_5_method_6_code, [(0, .aload_n 0, 1), (1, .getfield 11, 3), (4, .iload_n 1, 1), (5, .aaload, 1), (6, .invokevirtual 77, 3), (9, .istore 4, 2), (11, .aload_n 0, 1), (12, .getfield 11, 3), (15, .iload_n 1, 1), (16, .aaload, 1), (17, .getfield 94, 3), (20, .istore 5, 2), (22, .iconst 0, 1), (23, .istore 6, 2), (25, .iload 6, 2), (27, .aload_n 0, 1), (28, .getfield 37, 3), (31, .if_icmp .ge 67, 3), (34, .aload_n 0, 1), (35, .getfield 33, 3), (38, .iload 6, 2), (40, .aaload, 1), (41, .astore 7, 2), (43, .aload 7, 2), (45, .iload_n 3, 1), (46, .iload 4, 2), (48, .invokevirtual 97, 3), (51, .ifCond .eq 41, 3), (54, .aload 7, 2), (56, .getfield 101, 3), (59, .iload_n 2, 1), (60, .if_icmp .eq 30, 3), (63, .aload 7, 2), (65, .getfield 104, 3), (68, .iload_n 1, 1), (69, .if_icmp .eq 21, 3), (72, .aload_n 0, 1), (73, .getfield 11, 3), (76, .aload 7, 2), (78, .getfield 104, 3), (81, .aaload, 1), (82, .getfield 94, 3), (85, .iload 5, 2), (87, .if_icmp .ne 5, 3), (90, .iconst 0, 1), (91, .ireturn, 1), (92, .iinc 6 1, 3), (95, .goto (-70), 3), (98, .iconst 1, 1), (99, .ireturn, 1)]),
  (prog_5_method_7_code, [(0, .aload_n 0, 1), (1, .getfield 37, 3), (4, .bipush 60, 2), (6, .if_icmp .lt 5, 3), (9, .iconst (-1), 1), (10, .ireturn, 1), (11, .aload_n 0, 1), (12, .getfield 33, 3), (15, .aload_n 0, 1), (16, .getfield 37, 3), (19, .aaload, 1), (20, .iload_n 1, 1), (21, .iload_n 2, 1), (22, .iload_n 3, 1), (23, .aload_n 0, 1), (24, .getfield 11, 3), (27, .iload_n 1, 1), (28, .aaload, 1), (29, .invokevirtual 77, 3), (32, .invokevirtual 107, 3), (35, .aload_n 0, 1), (36, .dup, 1), (37, .getfield 37, 3), (40, .iconst 1, 1), (41, .iadd, 1), (42, .putfield 37, 3), (45, .aload_n 0, 1), (46, .getfield 27, 3), (49, .bipush 115, 2), (51, .iload_n 1, 1), (52, .invokevirtual 111, 3), (55, .aload_n 0, 1), (56, .getfield 37, 3), (59, .iconst 1, 1), (60, .isub, 1), (61, .ireturn, 1)]),
  (prog_5_method_8_code, [(0, .aload_n 0, 1), (1, .getfield 41, 3), (4, .istore_n 2, 1), (5, .iload_n 2, 1), (6, .bipush 50, 2), (8, .if_icmp .ge 46, 3), (11, .iconst 0, 1), (12, .istore_n 3, 1), (13, .iload_n 3, 1), (14, .aload_n 0, 1), (15, .getfield 20, 3), (18, .getfield 115, 3), (21, .if_icmp .ge 27, 3), (24, .aload_n 0, 1), (25, .iload_n 1, 1), (26, .iload_n 3, 1), (27, .iload_n 2, 1), (28, .invokevirtual 118, 3), (31, .ifCond .eq 11, 3), (34, .aload_n 0, 1), (35, .iload_n 1, 1), (36, .iload_n 3, 1), (37, .iload_n 2, 1), (38, .invokevirtual 121, 3), (41, .ireturn, 1), (42, .iinc 3 1, 3), (45, .goto (-32), 3), (48, .iinc 2 1, 3), (51, .goto (-46), 3), (54, .iconst (-1), 1), (55, .ireturn, 1)]),
  (prog_5_method_9_code, [(0, .iconst 0, 1), (1, .istore_n 3, 1), (2, .iload_n 3, 1), (3, .aload_n 0, 1), (4, .getfield 37, 3), (7, .if_icmp .ge 38, 3), (10, .aload_n 0, 1), (11, .getfield 33, 3), (14, .iload_n 3, 1), (15, .aaload, 1), (16, .getfield 101, 3), (19, .iload_n 1, 1), (20, .if_icmp .ne 19, 3), (23, .aload_n 0, 1), (24, .getfield 33, 3), (27, .iload_n 3, 1), (28, .aaload, 1), (29, .iload_n 2, 1), (30, .iconst 1, 1), (31, .invokevirtual 97, 3), (34, .ifCond .eq 5, 3), (37, .iload_n 3, 1), (38, .ireturn, 1), (39, .iinc 3 1, 3), (42, .goto (-40), 3), (45, .iconst (-1), 1), (46, .ireturn, 1)]),
  (prog_5_method_10_code, [(0, .iconst 0, 1), (1, .istore_n 2, 1), (2, .iload_n 2, 1), (3, .aload_n 0, 1), (4, .getfield 37, 3), (7, .if_icmp .ge 39, 3), (10, .aload_n 0, 1), (11, .getfield 33, 3), (14, .iload_n 2, 1), (15, .aaload, 1), (16, .getfield 104, 3), (19, .iload_n 1, 1), (20, .if_icmp .ne 20, 3), (23, .aload_n 0, 1), (24, .aload_n 0, 1), (25, .getfield 33, 3), (28, .iload_n 2, 1), (29, .aaload, 1), (30, .invokevirtual 125, 3), (33, .bipush 116, 2), (35, .if_icmp .ne 5, 3), (38, .iconst 1, 1), (39, .ireturn, 1), (40, .iinc 2 1, 3), (43, .goto (-41), 3), (46, .iconst 0, 1), (47, .ireturn, 1)])]
noncomputable def a_prog_2 : List (ByteArray × List (Nat × Instr × Nat)) := [
  (prog_5_method_11_code, [(0, .iconst 0, 1), (1, .istore_n 2, 1), (2, .iload_n 2, 1), (3, .aload_n 0, 1), (4, .getfield 37, 3), (7, .if_icmp .ge 38, 3), (10, .aload_n 0, 1), (11, .getfield 33, 3), (14, .iload_n 2, 1), (15, .aaload, 1), (16, .getfield 104, 3), (19, .iload_n 1, 1), (20, .if_icmp .ne 19, 3), (23, .aload_n 0, 1), (24, .getfield 33, 3), (27, .iload_n 2, 1), (28, .aaload, 1), (29, .getfield 57, 3), (32, .bipush 45, 2), (34, .if_icmp .ne 5, 3), (37, .iconst 1, 1), (38, .ireturn, 1), (39, .iinc 2 1, 3), (42, .goto (-40), 3), (45, .iconst 0, 1), (46, .ireturn, 1)]),
  (prog_5_method_12_code, [(0, .aload_n 0, 1), (1, .iconst 0, 1), (2, .putfield 52, 3), (5, .iconst 0, 1), (6, .istore_n 2, 1), (7, .iload_n 2, 1), (8, .aload_n 0, 1), (9, .getfield 37, 3), (12, .if_icmp .ge 44, 3), (15, .aload_n 0, 1), (16, .aload_n 0, 1), (17, .getfield 33, 3), (20, .iload_n 2, 1), (21, .aaload, 1), (22, .invokevirtual 125, 3), (25, .bipush 116, 2), (27, .if_icmp .ne 23, 3), (30, .aload_n 0, 1), (31, .getfield 33, 3), (34, .iload_n 2, 1), (35, .aaload, 1), (36, .getfield 61, 3), (39, .iconst 5, 1), (40, .idiv, 1), (41, .iload_n 1, 1), (42, .if_icmp .ne 8, 3), (45, .aload_n 0, 1), (46, .iload_n 2, 1), (47, .invokevirtual 129, 3), (50, .iinc 2 1, 3), (53, .goto (-46), 3), (56, .aload_n 0, 1), (57, .getfield 52, 3), (60, .ireturn, 1)]),
  (prog_5_method_13_code, [(0, .aload_n 0, 1), (1, .iconst 0, 1), (2, .putfield 52, 3), (5, .iconst 0, 1), (6, .istore_n 3, 1), (7, .iload_n 3, 1), (8, .aload_n 0, 1), (9, .getfield 37, 3), (12, .if_icmp .ge 61, 3), (15, .aload_n 0, 1), (16, .getfield 33, 3), (19, .iload_n 3, 1), (20, .aaload, 1), (21, .astore 4, 2), (23, .aload 4, 2), (25, .getfield 104, 3), (28, .iload_n 1, 1), (29, .if_icmp .ne 38, 3), (32, .aload_n 0, 1), (33, .aload 4, 2), (35, .invokevirtual 125, 3), (38, .bipush 116, 2), (40, .if_icmp .ne 27, 3), (43, .aload_n 0, 1), (44, .iload_n 1, 1), (45, .aload 4, 2), (47, .getfield 101, 3), (50, .aload 4, 2), (52, .getfield 61, 3), (55, .iload_n 2, 1), (56, .invokevirtual 88, 3), (59, .ifCond .ne 8, 3), (62, .aload_n 0, 1), (63, .iload_n 3, 1), (64, .invokevirtual 129, 3), (67, .iinc 3 1, 3), (70, .goto (-63), 3), (73, .aload_n 0, 1), (74, .getfield 52, 3), (77, .ireturn, 1)]),
  (prog_5_method_14_code, [(0, .aload_n 0, 1), (1, .iconst 0, 1), (2, .putfield 52, 3), (5, .iconst 0, 1), (6, .istore_n 2, 1), (7, .iload_n 2, 1), (8, .aload_n 0, 1), (9, .getfield 37, 3), (12, .if_icmp .ge 42, 3), (15, .aload_n 0, 1), (16, .getfield 33, 3), (19, .iload_n 2, 1), (20, .aaload, 1), (21, .getfield 104, 3), (24, .iload_n 1, 1), (25, .if_icmp .ne 23, 3), (28, .aload_n 0, 1), (29, .aload_n 0, 1), (30, .getfield 33, 3), (33, .iload_n 2, 1), (34, .aaload, 1), (35, .invokevirtual 125, 3), (38, .bipush 116, 2), (40, .if_icmp .ne 8, 3), (43, .aload_n 0, 1), (44, .iload_n 2, 1), (45, .invokevirtual 129, 3), (48, .iinc 2 1, 3), (51, .goto (-44), 3), (54, .aload_n 0, 1), (55, .getfield 52, 3), (58, .ireturn, 1)]),
  (prog_5_method_15_code, [(0, .aload_n 0, 1), (1, .getfield 52, 3), (4, .bipush 60, 2), (6, .if_icmp .ge 23, 3), (9, .aload_n 0, 1), (10, .getfield 48, 3), (13, .aload_n 0, 1), (14, .getfield 52, 3), (17, .iload_n 1, 1), (18, .iastore, 1), (19, .aload_n 0, 1), (20, .dup, 1), (21, .getfield 52, 3), (24, .iconst 1, 1), (25, .iadd, 1), (26, .putfield 52, 3), (29, .return_, 1)]),
  (prog_5_method_16_code, [(0, .iconst 0, 1), (1, .istore_n 2, 1), (2, .iload_n 2, 1), (3, .aload_n 0, 1), (4, .getfield 52, 3), (7, .if_icmp .ge 39, 3), (10, .aload_n 0, 1), (11, .getfield 33, 3), (14, .aload_n 0, 1), (15, .getfield 48, 3), (18, .iload_n 2, 1), (19, .iaload, 1), (20, .aaload, 1), (21, .astore_n 3, 1), (22, .aload_n 3, 1), (23, .iload_n 1, 1), (24, .putfield 57, 3), (27, .aload_n 0, 1), (28, .getfield 27, 3), (31, .bipush 120, 2), (33, .aload_n 3, 1), (34, .getfield 104, 3), (37, .invokevirtual 111, 3), (40, .iinc 2 1, 3), (43, .goto (-41), 3), (46, .return_, 1)]),
  (prog_5_method_17_code, [(0, .iconst 0, 1), (1, .istore_n 1, 1), (2, .iload_n 1, 1), (3, .aload_n 0, 1), (4, .getfield 52, 3), (7, .if_icmp .ge 69, 3), (10, .aload_n 0, 1), (11, .getfield 33, 3), (14, .aload_n 0, 1), (15, .getfield 48, 3), (18, .iload_n 1, 1), (19, .iaload, 1), (20, .aaload, 1), (21, .astore_n 2, 1), (22, .aload_n 0, 1), (23, .aload_n 2, 1), (24, .getfield 104, 3), (27, .invokevirtual 133, 3), (30, .istore_n 3, 1), (31, .iload_n 3, 1), (32, .iconst (-1), 1), (33, .if_icmp .eq 37, 3), (36, .iconst 0, 1), (37, .istore 4, 2), (39, .iload 4, 2), (41, .aload_n 2, 1), (42, .getfield 137, 3), (45, .if_icmp .ge 25, 3), (48, .aload_n 0, 1), (49, .getfield 33, 3), (52, .iload_n 3, 1), (53, .aaload, 1), (54, .aload_n 2, 1), (55, .getfield 140, 3), (58, .iload 4, 2), (60, .iaload, 1), (61, .invokevirtual 143, 3), (64, .iinc 4 1, 3), (67, .goto (-28), 3), (70, .iinc 1 1, 3), (73, .goto (-71), 3), (76, .return_, 1)]),
  (prog_5_method_18_code, [(0, .iconst 0, 1), (1, .istore_n 3, 1), (2, .iload_n 3, 1), (3, .aload_n 0, 1), (4, .getfield 37, 3), (7, .if_icmp .ge 51, 3), (10, .aload_n 0, 1), (11, .getfield 33, 3), (14, .iload_n 3, 1), (15, .aaload, 1), (16, .astore 4, 2), (18, .aload 4, 2), (20, .aload_n 2, 1), (21, .if_acmp .eq 31, 3), (24, .aload 4, 2), (26, .getfield 146, 3), (29, .iload_n 1, 1), (30, .baload, 1), (31, .ifCond .eq 21, 3), (34, .aload 4, 2), (36, .aload_n 2, 1), (37, .getfield 61, 3), (40, .aload_n 2, 1), (41, .getfield 64, 3), (44, .invokevirtual 97, 3), (47, .ifCond .eq 5, 3), (50, .iconst 1, 1), (51, .ireturn, 1), (52, .iinc 3 1, 3), (55, .goto (-53), 3), (58, .iconst 0, 1), (59, .ireturn, 1)]),
  (prog_5_method_19_code, [(0, .iconst 0, 1), (1, .istore_n 1, 1), (2, .iload_n 1, 1), (3, .aload_n 0, 1), (4, .getfield 37, 3), (7, .if_icmp .ge 108, 3), (10, .iconst 0, 1), (11, .istore_n 2, 1), (12, .iload_n 2, 1), (13, .iload_n 1, 1), (14, .if_icmp .ge 95, 3), (17, .aload_n 0, 1), (18, .getfield 33, 3), (21, .iload_n 1, 1), (22, .aaload, 1), (23, .getfield 57, 3), (26, .bipush 45, 2), (28, .if_icmp .ne 75, 3), (31, .aload_n 0, 1), (32, .getfield 33, 3), (35, .iload_n 2, 1), (36, .aaload, 1), (37, .aload_n 0, 1), (38, .getfield 33, 3), (41, .iload_n 1, 1), (42, .aaload, 1), (43, .getfield 61, 3), (46, .aload_n 0, 1), (47, .getfield 33, 3), (50, .iload_n 1, 1), (51, .aaload, 1), (52, .getfield 64, 3), (55, .invokevirtual 97, 3), (58, .ifCond .eq 45, 3), (61, .aload_n 0, 1), (62, .getfield 33, 3), (65, .iload_n 1, 1), (66, .aaload, 1), (67, .getfield 101, 3), (70, .aload_n 0, 1), (71, .getfield 33, 3), (74, .iload_n 2, 1), (75, .aaload, 1), (76, .getfield 101, 3), (79, .if_icmp .eq 22, 3), (82, .aload_n 0, 1), (83, .aload_n 0, 1), (84, .getfield 33, 3), (87, .iload_n 1, 1), (88, .aaload, 1), (89, .aload_n 0, 1), (90, .getfield 33, 3), (93, .iload_n 2, 1), (94, .aaload, 1), (95, .invokevirtual 149, 3), (98, .ifCond .eq 5, 3), (101, .iconst 0, 1), (102, .ireturn, 1), (103, .iinc 2 1, 3), (106, .goto (-94), 3), (109, .iinc 1 1, 3), (112, .goto (-110), 3), (115, .iconst 1, 1), (116, .ireturn, 1)]),
  (prog_5_method_20_code, [(0, .aload_n 0, 1), (1, .getfield 11, 3), (4, .aload_n 1, 1), (5, .getfield 104, 3), (8, .aaload, 1), (9, .getfield 94, 3), (12, .istore_n 3, 1), (13, .iload_n 3, 1), (14, .iconst (-1), 1), (15, .if_icmp .eq 23, 3), (18, .aload_n 0, 1), (19, .getfield 11, 3), (22, .aload_n 2, 1), (23, .getfield 104, 3), (26, .aaload, 1), (27, .getfield 94, 3), (30, .iload_n 3, 1), (31, .if_icmp .ne 7, 3), (34, .iconst 1, 1), (35, .goto 4, 3), (38, .iconst 0, 1), (39, .ireturn, 1)]),
  (prog_5_method_21_code, [(0, .iconst 0, 1), (1, .istore_n 2, 1), (2, .iload_n 2, 1), (3, .aload_n 0, 1), (4, .getfield 37, 3), (7, .if_icmp .ge 97, 3), (10, .aload_n 0, 1), (11, .getfield 33, 3), (14, .iload_n 2, 1), (15, .aaload, 1), (16, .invokevirtual 153, 3), (19, .aload_n 0, 1), (20, .getfield 20, 3), (23, .getfield 156, 3), (26, .aload_n 0, 1), (27, .getfield 33, 3), (30, .iload_n 2, 1), (31, .aaload, 1), (32, .getfield 101, 3), (35, .iaload, 1), (36, .if_icmp .le 5, 3), (39, .iconst 0, 1), (40, .ireturn, 1), (41, .iconst 0, 1), (42, .istore_n 3, 1), (43, .iload_n 3, 1), (44, .iload_n 1, 1), (45, .if_icmp .ge 53, 3), (48, .aload_n 0, 1), (49, .getfield 33, 3), (52, .iload_n 2, 1), (53, .aaload, 1), (54, .getfield 57, 3), (57, .bipush 45, 2), (59, .if_icmp .ne 33, 3), (62, .aload_n 0, 1), (63, .getfield 33, 3), (66, .iload_n 2, 1), (67, .aaload, 1), (68, .getfield 146, 3), (71, .iload_n 3, 1), (72, .baload, 1), (73, .ifCond .eq 19, 3), (76, .aload_n 0, 1), (77, .iload_n 3, 1), (78, .aload_n 0, 1), (79, .getfield 33, 3), (82, .iload_n 2, 1), (83, .aaload, 1), (84, .invokevirtual 159, 3), (87, .ifCond .eq 5, 3), (90, .iconst 0, 1), (91, .ireturn, 1), (92, .iinc 3 1, 3), (95, .goto (-52), 3), (98, .iinc 2 1, 3), (101, .goto (-99), 3), (104, .iconst 1, 1), (105, .ireturn, 1)]),
  (prog_6_method_1_code, [(0, .aload_n 0, 1), (1, .invokespecial 3, 3), (4, .aload_n 0, 1), (5, .iconst 0, 1), (6, .putfield 9, 3), (9, .aload_n 0, 1), (10, .bipush 20, 2), (12, .newarray .boolean, 2), (14, .putfield 15, 3), (17, .aload_n 0, 1), (18, .iconst (-1), 1), (19, .putfield 19, 3), (22, .aload_n 0, 1), (23, .iconst (-1), 1), (24, .putfield 22, 3), (27, .aload_n 0, 1), (28, .bipush 9, 2), (30, .newarray .int, 2), (32, .putfield 25, 3), (35, .aload_n 0, 1), (36, .iconst 0, 1), (37, .putfield 29, 3), (40, .return_, 1)]),
  (prog_6_method_2_code, [(0, .aload_n 0, 1), (1, .getfield 19, 3), (4, .iload_n 2, 1), (5, .if_icmp .ne 15, 3), (8, .aload_n 0, 1), (9, .getfield 22, 3), (12, .iload_n 1, 1), (13, .if_icmp .eq 7, 3), (16, .iconst 1, 1), (17, .goto 4, 3), (20, .iconst 0, 1), (21, .ireturn, 1)]),
  (prog_6_method_3_code, [(0, .aload_n 0, 1), (1, .iload_n 3, 1), (2, .putfield 19, 3), (5, .aload_n 0, 1), (6, .iload_n 1, 1), (7, .putfield 22, 3), (10, .aload_n 0, 1), (11, .getfield 15, 3), (14, .iload_n 2, 1), (15, .iconst 1, 1), (16, .bastore, 1), (17, .return_, 1)]),
  (prog_6_method_4_code, [(0, .aload_n 0, 1), (1, .iload_n 2, 1), (2, .aload_n 1, 1), (3, .arraylength, 1), (4, .bipush 9, 2), (6, .invokestatic 32, 3), (9, .invokestatic 32, 3), (12, .putfield 29, 3), (15, .iconst 0, 1), (16, .istore_n 3, 1), (17, .iload_n 3, 1), (18, .aload_n 0, 1), (19, .getfield 29, 3), (22, .if_icmp .ge 18, 3), (25, .aload_n 0, 1), (26, .getfield 25, 3), (29, .iload_n 3, 1), (30, .aload_n 1, 1), (31, .iload_n 3, 1), (32, .iaload, 1), (33, .iastore, 1), (34, .iinc 3 1, 3), (37, .goto (-20), 3), (40, .return_, 1)]),
  (prog_7_method_1_code, [(0, .aload_n 0, 1), (1, .invokespecial 3, 3), (4, .aload_n 0, 1), (5, .bipush 16, 2), (7, .newarray .int, 2), (9, .putfield 9, 3), (12, .aload_n 0, 1), (13, .iconst 0, 1), (14, .putfield 15, 3), (17, .return_, 1)]),
  (prog_7_method_2_code, [(0, .aload_n 0, 1), (1, .getfield 9, 3), (4, .aload_n 0, 1), (5, .getfield 15, 3), (8, .iload_n 1, 1), (9, .iastore, 1), (10, .aload_n 0, 1), (11, .dup, 1), (12, .getfield 15, 3), (15, .iconst 1, 1), (16, .iadd, 1), (17, .putfield 15, 3), (20, .aload_n 0, 1), (21, .getfield 15, 3), (24, .iconst 1, 1), (25, .isub, 1), (26, .ireturn, 1)]),
  (prog_7_method_3_code, [(0, .iconst 0, 1), (1, .istore 4, 2), (3, .iconst 0, 1), (4, .istore 5, 2), (6, .iload 5, 2), (8, .iconst 3, 1), (9, .if_icmp .gt 75, 3), (12, .iconst 0, 1), (13, .istore 6, 2), (15, .iload 6, 2), (17, .aload_n 2, 1), (18, .getfield 19, 3), (21, .if_icmp .ge 57, 3), (24, .aload_n 2, 1), (25, .getfield 24, 3), (28, .iload 6, 2), (30, .iaload, 1), (31, .istore 7, 2), (33, .iload 4, 2), (35, .iload_n 3, 1), (36, .if_icmp .ge 36, 3), (39, .aload_n 0, 1), (40, .getfield 9, 3), (43, .iload 7, 2), (45, .iaload, 1), (46, .iload 5, 2), (48, .if_icmp .ne 24, 3), (51, .aload_n 1, 1), (52, .iload 7, 2), (54, .aload_n 2, 1), (55, .invokevirtual 27, 3), (58, .ifCond .ne 14, 3), (61, .aload_n 2, 1), (62, .getfield 33, 3), (65, .iload 7, 2), (67, .iconst 1, 1), (68, .bastore, 1), (69, .iinc 4 1, 3), (72, .iinc 6 1, 3), (75, .goto (-60), 3), (78, .iinc 5 1, 3), (81, .goto (-75), 3), (84, .iload 4, 2), (86, .ireturn, 1)]),
  (prog_8_method_1_code, [(0, .aload_n 0, 1), (1, .invokespecial 3, 3), (4, .aload_n 0, 1), (5, .bipush 8, 2), (7, .newarray .int, 2), (9, .putfield 9, 3), (12, .aload_n 0, 1), (13, .bipush 8, 2), (15, .newarray .int, 2), (17, .putfield 15, 3), (20, .aload_n 0, 1), (21, .bipush 8, 2), (23, .newarray .int, 2), (25, .putfield 18, 3), (28, .aload_n 0, 1), (29, .bipush 8, 2), (31, .newarray .int, 2), (33, .putfield 21, 3), (36, .aload_n 0, 1), (37, .bipush 20, 2), (39, .bipush 8, 2), (41, .multianewarray 24 2, 4), (45, .putfield 26, 3), (48, .aload_n 0, 1), (49, .iconst 0, 1), (50, .putfield 29, 3), (53, .iconst 0, 1), (54, .istore_n 1, 1), (55, .iload_n 1, 1), (56, .bipush 20, 2), (58, .if_icmp .ge 33, 3), (61, .iconst 0, 1), (62, .istore_n 2, 1), (63, .iload_n 2, 1), (64, .bipush 8, 2), (66, .if_icmp .ge 19, 3), (69, .aload_n 0, 1), (70, .getfield 26, 3), (73, .iload_n 1, 1), (74, .aaload, 1), (75, .iload_n 2, 1), (76, .bipush (-2), 2), (78, .iastore, 1), (79, .iinc 2 1, 3), (82, .goto (-19), 3), (85, .iinc 1 1, 3), (88, .goto (-33), 3), (91, .return_, 1)]),
  (prog_8_method_2_code, [(0, .aload_n 0, 1), (1, .getfield 9, 3), (4, .aload_n 0, 1), (5, .getfield 29, 3), (8, .iload_n 1, 1), (9, .iastore, 1), (10, .aload_n 0, 1), (11, .dup, 1), (12, .getfield 29, 3), (15, .iconst 1, 1), (16, .iadd, 1), (17, .putfield 29, 3), (20, .aload_n 0, 1), (21, .getfield 29, 3), (24, .iconst 1, 1), (25, .isub, 1), (26, .ireturn, 1)])]
noncomputable def a_prog_3 : List (ByteArray × List (Nat × Instr × Nat)) := [
  (prog_8_method_3_code, [(0, .aload_n 0, 1), (1, .getfield 9, 3), (4, .iload_n 3, 1), (5, .iaload, 1), (6, .iload_n 2, 1), (7, .if_icmp .eq 20, 3), (10, .aload_n 0, 1), (11, .getfield 26, 3), (14, .iload_n 1, 1), (15, .aaload, 1), (16, .iload_n 3, 1), (17, .iaload, 1), (18, .bipush (-2), 2), (20, .if_icmp .ne 7, 3), (23, .iconst 1, 1), (24, .goto 4, 3), (27, .iconst 0, 1), (28, .ireturn, 1)]),
  (prog_8_method_4_code, [(0, .iconst 0, 1), (1, .istore_n 3, 1), (2, .iconst 0, 1), (3, .istore 4, 2), (5, .iload 4, 2), (7, .aload_n 0, 1), (8, .getfield 29, 3), (11, .if_icmp .ge 23, 3), (14, .aload_n 0, 1), (15, .iload_n 1, 1), (16, .iload_n 2, 1), (17, .iload 4, 2), (19, .invokevirtual 33, 3), (22, .ifCond .eq 6, 3), (25, .iinc 3 1, 3), (28, .iinc 4 1, 3), (31, .goto (-26), 3), (34, .iload_n 3, 1), (35, .ireturn, 1)]),
  (prog_8_method_5_code, [(0, .iconst (-1), 1), (1, .istore_n 3, 1), (2, .iconst 0, 1), (3, .istore 4, 2), (5, .iload 4, 2), (7, .aload_n 0, 1), (8, .getfield 29, 3), (11, .if_icmp .ge 44, 3), (14, .aload_n 0, 1), (15, .iload_n 1, 1), (16, .iload_n 2, 1), (17, .iload 4, 2), (19, .invokevirtual 33, 3), (22, .ifCond .eq 27, 3), (25, .iload_n 3, 1), (26, .iconst (-1), 1), (27, .if_icmp .eq 19, 3), (30, .aload_n 0, 1), (31, .getfield 15, 3), (34, .iload 4, 2), (36, .iaload, 1), (37, .aload_n 0, 1), (38, .getfield 15, 3), (41, .iload_n 3, 1), (42, .iaload, 1), (43, .if_icmp .ge 6, 3), (46, .iload 4, 2), (48, .istore_n 3, 1), (49, .iinc 4 1, 3), (52, .goto (-47), 3), (55, .iload_n 3, 1), (56, .iconst (-1), 1), (57, .if_icmp .eq 22, 3), (60, .aload_n 0, 1), (61, .getfield 26, 3), (64, .iload_n 1, 1), (65, .aaload, 1), (66, .iload_n 3, 1), (67, .iconst (-1), 1), (68, .iastore, 1), (69, .aload_n 0, 1), (70, .getfield 15, 3), (73, .iload_n 3, 1), (74, .dup2, 1), (75, .iaload, 1), (76, .iconst 1, 1), (77, .iadd, 1), (78, .iastore, 1), (79, .return_, 1)]),
  (prog_8_method_6_code, [(0, .iconst 0, 1), (1, .istore_n 2, 1), (2, .iconst 0, 1), (3, .istore_n 3, 1), (4, .iload_n 3, 1), (5, .aload_n 0, 1), (6, .getfield 29, 3), (9, .if_icmp .ge 25, 3), (12, .aload_n 0, 1), (13, .getfield 26, 3), (16, .iload_n 1, 1), (17, .aaload, 1), (18, .iload_n 3, 1), (19, .iaload, 1), (20, .bipush (-2), 2), (22, .if_icmp .eq 6, 3), (25, .iinc 2 1, 3), (28, .iinc 3 1, 3), (31, .goto (-27), 3), (34, .iload_n 2, 1), (35, .ireturn, 1)]),
  (prog_8_method_7_code, [(0, .aload_n 0, 1), (1, .getfield 26, 3), (4, .iload_n 1, 1), (5, .aaload, 1), (6, .iload_n 2, 1), (7, .iload_n 3, 1), (8, .iastore, 1), (9, .aload_n 0, 1), (10, .getfield 18, 3), (13, .iload_n 2, 1), (14, .dup2, 1), (15, .iaload, 1), (16, .iconst 1, 1), (17, .iadd, 1), (18, .iastore, 1), (19, .aload_n 0, 1), (20, .getfield 21, 3), (23, .iload_n 2, 1), (24, .dup2, 1), (25, .iaload, 1), (26, .iload_n 3, 1), (27, .iadd, 1), (28, .iastore, 1), (29, .return_, 1)]),
  (prog_8_method_8_code, [(0, .iconst 0, 1), (1, .istore_n 2, 1), (2, .iconst 0, 1), (3, .istore_n 3, 1), (4, .iload_n 3, 1), (5, .aload_n 0, 1), (6, .getfield 29, 3), (9, .if_icmp .ge 23, 3), (12, .aload_n 0, 1), (13, .getfield 26, 3), (16, .iload_n 1, 1), (17, .aaload, 1), (18, .iload_n 3, 1), (19, .iaload, 1), (20, .ifCond .lt 6, 3), (23, .iinc 2 1, 3), (26, .iinc 3 1, 3), (29, .goto (-25), 3), (32, .iload_n 2, 1), (33, .ireturn, 1)]),
  (prog_8_method_9_code, [(0, .aload_n 0, 1), (1, .getfield 18, 3), (4, .iload_n 2, 1), (5, .iaload, 1), (6, .ifCond .ne 7, 3), (9, .iconst 0, 1), (10, .goto 16, 3), (13, .aload_n 0, 1), (14, .getfield 21, 3), (17, .iload_n 2, 1), (18, .iaload, 1), (19, .aload_n 0, 1), (20, .getfield 18, 3), (23, .iload_n 2, 1), (24, .iaload, 1), (25, .idiv, 1), (26, .istore_n 3, 1), (27, .aload_n 0, 1), (28, .getfield 26, 3), (31, .iload_n 1, 1), (32, .aaload, 1), (33, .iload_n 2, 1), (34, .iaload, 1), (35, .iload_n 3, 1), (36, .isub, 1), (37, .bipush 50, 2), (39, .iadd, 1), (40, .ireturn, 1)]),
  (prog_8_method_10_code, [(0, .iconst 0, 1), (1, .istore_n 2, 1), (2, .iconst 0, 1), (3, .istore_n 3, 1), (4, .iconst 0, 1), (5, .istore 4, 2), (7, .iload 4, 2), (9, .aload_n 0, 1), (10, .getfield 29, 3), (13, .if_icmp .ge 34, 3), (16, .aload_n 0, 1), (17, .getfield 26, 3), (20, .iload_n 1, 1), (21, .aaload, 1), (22, .iload 4, 2), (24, .iaload, 1), (25, .ifCond .lt 16, 3), (28, .iload_n 2, 1), (29, .aload_n 0, 1), (30, .iload_n 1, 1), (31, .iload 4, 2), (33, .invokevirtual 37, 3), (36, .iadd, 1), (37, .istore_n 2, 1), (38, .iinc 3 1, 3), (41, .iinc 4 1, 3), (44, .goto (-37), 3), (47, .iload_n 3, 1), (48, .ifCond .ne 7, 3), (51, .iconst 0, 1), (52, .goto 6, 3), (55, .iload_n 2, 1), (56, .iload_n 3, 1), (57, .idiv, 1), (58, .ireturn, 1)]),
  (prog_8_method_11_code, [(0, .iconst 0, 1), (1, .istore_n 2, 1), (2, .iconst 0, 1), (3, .istore_n 3, 1), (4, .iconst 0, 1), (5, .istore 4, 2), (7, .iconst 0, 1), (8, .istore 5, 2), (10, .iload 5, 2), (12, .aload_n 0, 1), (13, .getfield 29, 3), (16, .if_icmp .ge 67, 3), (19, .aload_n 0, 1), (20, .getfield 26, 3), (23, .iload_n 1, 1), (24, .aaload, 1), (25, .iload 5, 2), (27, .iaload, 1), (28, .ifCond .lt 49, 3), (31, .aload_n 0, 1), (32, .iload_n 1, 1), (33, .iload 5, 2), (35, .invokevirtual 37, 3), (38, .istore 6, 2), (40, .iload 4, 2), (42, .ifCond .eq 12, 3), (45, .iload_n 2, 1), (46, .iload 6, 2), (48, .invokestatic 41, 3), (51, .goto 5, 3), (54, .iload 6, 2), (56, .istore_n 2, 1), (57, .iload 4, 2), (59, .ifCond .eq 12, 3), (62, .iload_n 3, 1), (63, .iload 6, 2), (65, .invokestatic 46, 3), (68, .goto 5, 3), (71, .iload 6, 2), (73, .istore_n 3, 1), (74, .iconst 1, 1), (75, .istore 4, 2), (77, .iinc 5 1, 3), (80, .goto (-70), 3), (83, .iload_n 3, 1), (84, .iload_n 2, 1), (85, .isub, 1), (86, .ireturn, 1)]),
  (prog_9_method_1_code, [(0, .aload_n 0, 1), (1, .invokespecial 3, 3), (4, .aload_n 0, 1), (5, .bipush 40, 2), (7, .newarray .int, 2), (9, .putfield 9, 3), (12, .aload_n 0, 1), (13, .bipush 40, 2), (15, .newarray .int, 2), (17, .putfield 15, 3), (20, .aload_n 0, 1), (21, .bipush 40, 2), (23, .newarray .int, 2), (25, .putfield 18, 3), (28, .aload_n 0, 1), (29, .bipush 40, 2), (31, .newarray .int, 2), (33, .putfield 21, 3), (36, .aload_n 0, 1), (37, .bipush 40, 2), (39, .newarray .int, 2), (41, .putfield 24, 3), (44, .aload_n 0, 1), (45, .iconst 0, 1), (46, .putfield 27, 3), (49, .return_, 1)]),
  (prog_9_method_2_code, [(0, .aload_n 0, 1), (1, .getfield 9, 3), (4, .aload_n 0, 1), (5, .getfield 27, 3), (8, .iload_n 1, 1), (9, .iastore, 1), (10, .aload_n 0, 1), (11, .getfield 15, 3), (14, .aload_n 0, 1), (15, .getfield 27, 3), (18, .iload_n 2, 1), (19, .iastore, 1), (20, .aload_n 0, 1), (21, .getfield 18, 3), (24, .aload_n 0, 1), (25, .getfield 27, 3), (28, .iload_n 3, 1), (29, .iastore, 1), (30, .aload_n 0, 1), (31, .getfield 21, 3), (34, .aload_n 0, 1), (35, .getfield 27, 3), (38, .iload 4, 2), (40, .iastore, 1), (41, .aload_n 0, 1), (42, .getfield 24, 3), (45, .aload_n 0, 1), (46, .getfield 27, 3), (49, .iload 5, 2), (51, .iastore, 1), (52, .aload_n 0, 1), (53, .dup, 1), (54, .getfield 27, 3), (57, .iconst 1, 1), (58, .iadd, 1), (59, .putfield 27, 3), (62, .aload_n 0, 1), (63, .getfield 27, 3), (66, .ireturn, 1)]),
  (prog_9_method_3_code, [(0, .aload_n 0, 1), (1, .getfield 9, 3), (4, .iload_n 1, 1), (5, .iaload, 1), (6, .iload_n 2, 1), (7, .if_icmp .ne 39, 3), (10, .aload_n 0, 1), (11, .getfield 15, 3), (14, .iload_n 1, 1), (15, .iaload, 1), (16, .iload_n 3, 1), (17, .if_icmp .ne 29, 3), (20, .aload_n 0, 1), (21, .getfield 18, 3), (24, .iload_n 1, 1), (25, .iaload, 1), (26, .iload 5, 2), (28, .if_icmp .gt 18, 3), (31, .iload 4, 2), (33, .aload_n 0, 1), (34, .getfield 21, 3), (37, .iload_n 1, 1), (38, .iaload, 1), (39, .if_icmp .gt 7, 3), (42, .iconst 1, 1), (43, .goto 4, 3), (46, .iconst 0, 1), (47, .ireturn, 1)]),
  (prog_9_method_4_code, [(0, .iconst 0, 1), (1, .istore 5, 2), (3, .iload 5, 2), (5, .aload_n 0, 1), (6, .getfield 27, 3), (9, .if_icmp .ge 25, 3), (12, .aload_n 0, 1), (13, .iload 5, 2), (15, .iload_n 1, 1), (16, .iload_n 2, 1), (17, .iload_n 3, 1), (18, .iload 4, 2), (20, .invokevirtual 31, 3), (23, .ifCond .eq 5, 3), (26, .iconst 1, 1), (27, .ireturn, 1), (28, .iinc 5 1, 3), (31, .goto (-28), 3), (34, .iconst 0, 1), (35, .ireturn, 1)]),
  (prog_9_method_5_code, [(0, .iconst 0, 1), (1, .istore 4, 2), (3, .iload 4, 2), (5, .aload_n 0, 1), (6, .getfield 27, 3), (9, .if_icmp .ge 30, 3), (12, .aload_n 0, 1), (13, .iload 4, 2), (15, .iload_n 1, 1), (16, .iload_n 2, 1), (17, .iload_n 3, 1), (18, .iload_n 3, 1), (19, .invokevirtual 31, 3), (22, .ifCond .eq 11, 3), (25, .aload_n 0, 1), (26, .getfield 24, 3), (29, .iload 4, 2), (31, .iaload, 1), (32, .ireturn, 1), (33, .iinc 4 1, 3), (36, .goto (-33), 3), (39, .iconst (-1), 1), (40, .ireturn, 1)]),
  (prog_9_method_6_code, [(0, .iconst 0, 1), (1, .istore_n 1, 1), (2, .iload_n 1, 1), (3, .aload_n 0, 1), (4, .getfield 27, 3), (7, .if_icmp .ge 56, 3), (10, .iconst 0, 1), (11, .istore_n 2, 1), (12, .iload_n 2, 1), (13, .iload_n 1, 1), (14, .if_icmp .ge 43, 3), (17, .aload_n 0, 1), (18, .iload_n 2, 1), (19, .aload_n 0, 1), (20, .getfield 9, 3), (23, .iload_n 1, 1), (24, .iaload, 1), (25, .aload_n 0, 1), (26, .getfield 15, 3), (29, .iload_n 1, 1), (30, .iaload, 1), (31, .aload_n 0, 1), (32, .getfield 18, 3), (35, .iload_n 1, 1), (36, .iaload, 1), (37, .aload_n 0, 1), (38, .getfield 21, 3), (41, .iload_n 1, 1), (42, .iaload, 1), (43, .invokevirtual 31, 3), (46, .ifCond .eq 5, 3), (49, .iconst 0, 1), (50, .ireturn, 1), (51, .iinc 2 1, 3), (54, .goto (-42), 3), (57, .iinc 1 1, 3), (60, .goto (-58), 3), (63, .iconst 1, 1), (64, .ireturn, 1)]),
  (prog_10_method_1_code, [(0, .aload_n 0, 1), (1, .invokespecial 3, 3), (4, .aload_n 0, 1), (5, .iconst 0, 1), (6, .putfield 9, 3), (9, .aload_n 0, 1), (10, .iconst 0, 1), (11, .putfield 15, 3), (14, .aload_n 0, 1), (15, .iconst 0, 1), (16, .putfield 18, 3), (19, .aload_n 0, 1), (20, .bipush 45, 2), (22, .putfield 21, 3), (25, .aload_n 0, 1), (26, .iconst 0, 1), (27, .putfield 25, 3), (30, .aload_n 0, 1), (31, .bipush 109, 2), (33, .putfield 28, 3), (36, .aload_n 0, 1), (37, .iconst 0, 1), (38, .putfield 31, 3), (41, .aload_n 0, 1), (42, .iconst 5, 1), (43, .anewarray 35, 3), (46, .putfield 37, 3), (49, .aload_n 0, 1), (50, .iconst 0, 1), (51, .putfield 41, 3), (54, .iconst 0, 1), (55, .istore_n 1, 1), (56, .iload_n 1, 1), (57, .iconst 5, 1), (58, .if_icmp .ge 22, 3), (61, .aload_n 0, 1), (62, .getfield 37, 3), (65, .iload_n 1, 1), (66, .new 35, 3), (69, .dup, 1), (70, .invokespecial 44, 3), (73, .aastore, 1), (74, .iinc 1 1, 3), (77, .goto (-21), 3), (80, .return_, 1)]),
  (prog_10_method_2_code, [(0, .aload_n 0, 1), (1, .iload_n 1, 1), (2, .putfield 9, 3), (5, .aload_n 0, 1), (6, .iload_n 2, 1), (7, .putfield 15, 3), (10, .aload_n 0, 1), (11, .iload_n 3, 1), (12, .putfield 18, 3), (15, .aload_n 0, 1), (16, .iload 4, 2), (18, .putfield 21, 3), (21, .aload_n 0, 1), (22, .iload 5, 2), (24, .putfield 25, 3), (27, .return_, 1)]),
  (prog_10_method_3_code, [(0, .aload_n 0, 1), (1, .getfield 37, 3), (4, .aload_n 0, 1), (5, .getfield 41, 3), (8, .aaload, 1), (9, .iload_n 1, 1), (10, .putfield 45, 3), (13, .aload_n 0, 1), (14, .dup, 1), (15, .getfield 41, 3), (18, .iconst 1, 1), (19, .iadd, 1), (20, .putfield 41, 3), (23, .aload_n 0, 1), (24, .getfield 41, 3), (27, .iconst 1, 1), (28, .isub, 1), (29, .ireturn, 1)]),
  (prog_10_method_4_code, [(0, .iconst 0, 1), (1, .istore_n 1, 1), (2, .iconst 0, 1), (3, .istore_n 2, 1), (4, .iload_n 2, 1), (5, .aload_n 0, 1), (6, .getfield 41, 3), (9, .if_icmp .ge 24, 3), (12, .aload_n 0, 1), (13, .getfield 37, 3), (16, .iload_n 2, 1), (17, .aaload, 1), (18, .getfield 48, 3), (21, .ifCond .le 6, 3), (24, .iinc 1 1, 3), (27, .iinc 2 1, 3), (30, .goto (-26), 3), (33, .iload_n 1, 1), (34, .ireturn, 1)]),
  (prog_11_method_1_code, [(0, .aload_n 0, 1), (1, .invokespecial 3, 3), (4, .aload_n 0, 1), (5, .iconst 0, 1), (6, .putfield 9, 3), (9, .aload_n 0, 1), (10, .iconst 0, 1), (11, .putfield 15, 3), (14, .aload_n 0, 1), (15, .iconst 0, 1), (16, .putfield 18, 3), (19, .aload_n 0, 1), (20, .iconst 0, 1), (21, .putfield 21, 3), (24, .aload_n 0, 1), (25, .bipush 45, 2), (27, .putfield 24, 3), (30, .aload_n 0, 1), (31, .iconst 0, 1), (32, .putfield 28, 3), (35, .aload_n 0, 1), (36, .bipush 16, 2), (38, .newarray .int, 2), (40, .putfield 32, 3), (43, .aload_n 0, 1), (44, .iconst 0, 1), (45, .putfield 36, 3), (48, .aload_n 0, 1), (49, .bipush 16, 2), (51, .newarray .boolean, 2), (53, .putfield 39, 3), (56, .return_, 1)])]
noncomputable def a_prog_4 : List (ByteArray × List (Nat × Instr × Nat)) := [
  (prog_11_method_2_code, [(0, .aload_n 0, 1), (1, .iload_n 1, 1), (2, .putfield 9, 3), (5, .aload_n 0, 1), (6, .iload_n 2, 1), (7, .putfield 15, 3), (10, .aload_n 0, 1), (11, .iload_n 3, 1), (12, .putfield 18, 3), (15, .aload_n 0, 1), (16, .iload 4, 2), (18, .putfield 21, 3), (21, .return_, 1)]),
  (prog_11_method_3_code, [(0, .aload_n 0, 1), (1, .getfield 24, 3), (4, .bipush 45, 2), (6, .if_icmp .ne 30, 3), (9, .aload_n 0, 1), (10, .getfield 18, 3), (13, .iload_n 1, 1), (14, .iload_n 2, 1), (15, .iadd, 1), (16, .if_icmp .ge 20, 3), (19, .iload_n 1, 1), (20, .aload_n 0, 1), (21, .getfield 18, 3), (24, .aload_n 0, 1), (25, .getfield 21, 3), (28, .iadd, 1), (29, .if_icmp .ge 7, 3), (32, .iconst 1, 1), (33, .goto 4, 3), (36, .iconst 0, 1), (37, .ireturn, 1)]),
  (prog_11_method_4_code, [(0, .iconst 0, 1), (1, .istore_n 2, 1), (2, .iload_n 2, 1), (3, .aload_n 0, 1), (4, .getfield 36, 3), (7, .if_icmp .ge 21, 3), (10, .aload_n 0, 1), (11, .getfield 32, 3), (14, .iload_n 2, 1), (15, .iaload, 1), (16, .iload_n 1, 1), (17, .if_icmp .ne 5, 3), (20, .iconst 1, 1), (21, .ireturn, 1), (22, .iinc 2 1, 3), (25, .goto (-23), 3), (28, .iconst 0, 1), (29, .ireturn, 1)]),
  (prog_11_method_5_code, [(0, .aload_n 0, 1), (1, .getfield 36, 3), (4, .bipush 16, 2), (6, .if_icmp .ge 23, 3), (9, .aload_n 0, 1), (10, .getfield 32, 3), (13, .aload_n 0, 1), (14, .getfield 36, 3), (17, .iload_n 1, 1), (18, .iastore, 1), (19, .aload_n 0, 1), (20, .dup, 1), (21, .getfield 36, 3), (24, .iconst 1, 1), (25, .iadd, 1), (26, .putfield 36, 3), (29, .return_, 1)]),
  (prog_11_method_6_code, [(0, .iconst 0, 1), (1, .istore_n 1, 1), (2, .iconst 0, 1), (3, .istore_n 2, 1), (4, .iload_n 2, 1), (5, .bipush 16, 2), (7, .if_icmp .ge 21, 3), (10, .aload_n 0, 1), (11, .getfield 39, 3), (14, .iload_n 2, 1), (15, .baload, 1), (16, .ifCond .eq 6, 3), (19, .iinc 1 1, 3), (22, .iinc 2 1, 3), (25, .goto (-21), 3), (28, .iload_n 1, 1), (29, .ireturn, 1)]),
  (prog_12_method_1_code, [(0, .aload_n 0, 1), (1, .invokespecial 3, 3), (4, .aload_n 0, 1), (5, .iconst 4, 1), (6, .newarray .int, 2), (8, .putfield 9, 3), (11, .aload_n 0, 1), (12, .iconst 4, 1), (13, .newarray .boolean, 2), (15, .putfield 15, 3), (18, .aload_n 0, 1), (19, .iconst 0, 1), (20, .putfield 19, 3), (23, .aload_n 0, 1), (24, .bipush 60, 2), (26, .newarray .int, 2), (28, .putfield 23, 3), (31, .aload_n 0, 1), (32, .bipush 60, 2), (34, .newarray .int, 2), (36, .putfield 26, 3), (39, .aload_n 0, 1), (40, .bipush 60, 2), (42, .newarray .int, 2), (44, .putfield 29, 3), (47, .aload_n 0, 1), (48, .bipush 60, 2), (50, .newarray .int, 2), (52, .putfield 32, 3), (55, .aload_n 0, 1), (56, .iconst 0, 1), (57, .putfield 35, 3), (60, .return_, 1)]),
  (prog_12_method_2_code, [(0, .aload_n 0, 1), (1, .getfield 9, 3), (4, .aload_n 0, 1), (5, .getfield 19, 3), (8, .iload_n 1, 1), (9, .iastore, 1), (10, .aload_n 0, 1), (11, .getfield 15, 3), (14, .aload_n 0, 1), (15, .getfield 19, 3), (18, .iload_n 2, 1), (19, .bastore, 1), (20, .aload_n 0, 1), (21, .dup, 1), (22, .getfield 19, 3), (25, .iconst 1, 1), (26, .iadd, 1), (27, .putfield 19, 3), (30, .aload_n 0, 1), (31, .getfield 19, 3), (34, .iconst 1, 1), (35, .isub, 1), (36, .ireturn, 1)]),
  (prog_12_method_3_code, [(0, .aload_n 0, 1), (1, .getfield 23, 3), (4, .aload_n 0, 1), (5, .getfield 35, 3), (8, .iload_n 1, 1), (9, .iastore, 1), (10, .aload_n 0, 1), (11, .getfield 26, 3), (14, .aload_n 0, 1), (15, .getfield 35, 3), (18, .iload_n 2, 1), (19, .iastore, 1), (20, .aload_n 0, 1), (21, .getfield 29, 3), (24, .aload_n 0, 1), (25, .getfield 35, 3), (28, .iload_n 3, 1), (29, .iastore, 1), (30, .aload_n 0, 1), (31, .getfield 32, 3), (34, .aload_n 0, 1), (35, .getfield 35, 3), (38, .iload 4, 2), (40, .iastore, 1), (41, .aload_n 0, 1), (42, .dup, 1), (43, .getfield 35, 3), (46, .iconst 1, 1), (47, .iadd, 1), (48, .putfield 35, 3), (51, .aload_n 0, 1), (52, .getfield 35, 3), (55, .ireturn, 1)]),
  (prog_12_method_4_code, [(0, .iconst 0, 1), (1, .istore 4, 2), (3, .iload 4, 2), (5, .aload_n 0, 1), (6, .getfield 35, 3), (9, .if_icmp .ge 55, 3), (12, .aload_n 0, 1), (13, .getfield 23, 3), (16, .iload 4, 2), (18, .iaload, 1), (19, .iload_n 1, 1), (20, .if_icmp .ne 38, 3), (23, .aload_n 0, 1), (24, .getfield 26, 3), (27, .iload 4, 2), (29, .iaload, 1), (30, .iload_n 2, 1), (31, .if_icmp .ne 27, 3), (34, .iload_n 3, 1), (35, .aload_n 0, 1), (36, .getfield 29, 3), (39, .iload 4, 2), (41, .iaload, 1), (42, .if_icmp .lt 16, 3), (45, .iload_n 3, 1), (46, .aload_n 0, 1), (47, .getfield 32, 3), (50, .iload 4, 2), (52, .iaload, 1), (53, .if_icmp .gt 5, 3), (56, .iconst 1, 1), (57, .ireturn, 1), (58, .iinc 4 1, 3), (61, .goto (-58), 3), (64, .iconst 0, 1), (65, .ireturn, 1)]),
  (prog_1_method_1_code, [(0, .aload_n 0, 1), (1, .invokespecial 1, 3), (4, .aload_n 0, 1), (5, .new 7, 3), (8, .dup, 1), (9, .invokespecial 9, 3), (12, .putfield 10, 3), (15, .aload_n 0, 1), (16, .aload_n 0, 1), (17, .getfield 10, 3), (20, .getfield 16, 3), (23, .putfield 20, 3), (26, .aload_n 0, 1), (27, .aload_n 0, 1), (28, .getfield 10, 3), (31, .getfield 21, 3), (34, .putfield 25, 3), (37, .aload_n 0, 1), (38, .aload_n 0, 1), (39, .getfield 10, 3), (42, .getfield 26, 3), (45, .putfield 30, 3), (48, .aload_n 0, 1), (49, .iconst 0, 1), (50, .putfield 31, 3), (53, .aload_n 0, 1), (54, .iconst 5, 1), (55, .anewarray 35, 3), (58, .putfield 37, 3), (61, .aload_n 0, 1), (62, .iconst 0, 1), (63, .putfield 41, 3), (66, .aload_n 0, 1), (67, .new 44, 3), (70, .dup, 1), (71, .invokespecial 46, 3), (74, .putfield 47, 3), (77, .aload_n 0, 1), (78, .new 51, 3), (81, .dup, 1), (82, .invokespecial 53, 3), (85, .putfield 54, 3), (88, .aload_n 0, 1), (89, .new 58, 3), (92, .dup, 1), (93, .invokespecial 60, 3), (96, .putfield 61, 3), (99, .aload_n 0, 1), (100, .new 65, 3), (103, .dup, 1), (104, .invokespecial 67, 3), (107, .putfield 68, 3), (110, .aload_n 0, 1), (111, .bipush 9, 2), (113, .newarray .int, 2), (115, .putfield 72, 3), (118, .aload_n 0, 1), (119, .iconst 0, 1), (120, .putfield 76, 3), (123, .aload_n 0, 1), (124, .bipush 20, 2), (126, .newarray .int, 2), (128, .putfield 79, 3), (131, .aload_n 0, 1), (132, .bipush 20, 2), (134, .newarray .int, 2), (136, .putfield 82, 3), (139, .iconst 0, 1), (140, .istore_n 1, 1), (141, .iload_n 1, 1), (142, .iconst 5, 1), (143, .if_icmp .ge 22, 3), (146, .aload_n 0, 1), (147, .getfield 37, 3), (150, .iload_n 1, 1), (151, .new 35, 3), (154, .dup, 1), (155, .invokespecial 85, 3), (158, .aastore, 1), (159, .iinc 1 1, 3), (162, .goto (-21), 3), (165, .return_, 1)]),
  (prog_1_method_2_code, [(0, .iload_n 1, 1), (1, .invokestatic 86, 3), (4, .ifCond .eq 24, 3), (7, .iload_n 2, 1), (8, .iconst 1, 1), (9, .sipush 300, 3), (12, .invokestatic 90, 3), (15, .ifCond .eq 13, 3), (18, .iload_n 3, 1), (19, .iconst 0, 1), (20, .bipush 9, 2), (22, .invokestatic 90, 3), (25, .ifCond .ne 13, 3), (28, .new 94, 3), (31, .dup, 1), (32, .ldc 96, 2), (34, .invokespecial 98, 3), (37, .athrow, 1), (38, .aload_n 0, 1), (39, .getfield 31, 3), (42, .bipush 20, 2), (44, .if_icmp .lt 13, 3), (47, .new 101, 3), (50, .dup, 1), (51, .ldc 103, 2), (53, .invokespecial 105, 3), (56, .athrow, 1), (57, .aload_n 0, 1), (58, .getfield 20, 3), (61, .aload_n 0, 1), (62, .getfield 31, 3), (65, .aaload, 1), (66, .iload_n 1, 1), (67, .iload_n 2, 1), (68, .iload_n 3, 1), (69, .invokevirtual 106, 3), (72, .aload_n 0, 1), (73, .dup, 1), (74, .getfield 31, 3), (77, .iconst 1, 1), (78, .iadd, 1), (79, .putfield 31, 3), (82, .aload_n 0, 1), (83, .getfield 31, 3), (86, .iconst 1, 1), (87, .isub, 1), (88, .ireturn, 1)]),
  (prog_1_method_3_code, [(0, .iload_n 1, 1), (1, .iconst 0, 1), (2, .bipush 9, 2), (4, .invokestatic 90, 3), (7, .ifCond .ne 13, 3), (10, .new 94, 3), (13, .dup, 1), (14, .ldc 112, 2), (16, .invokespecial 98, 3), (19, .athrow, 1), (20, .aload_n 0, 1), (21, .getfield 47, 3), (24, .getfield 114, 3), (27, .bipush 8, 2), (29, .if_icmp .lt 13, 3), (32, .new 101, 3), (35, .dup, 1), (36, .ldc 117, 2), (38, .invokespecial 105, 3), (41, .athrow, 1), (42, .aload_n 0, 1), (43, .getfield 47, 3), (46, .iload_n 1, 1), (47, .invokevirtual 119, 3), (50, .ireturn, 1)]),
  (prog_1_method_4_code, [(0, .aload_n 0, 1), (1, .iload_n 1, 1), (2, .invokevirtual 123, 3), (5, .iload_n 2, 1), (6, .iconst 1, 1), (7, .bipush 8, 2), (9, .invokestatic 90, 3), (12, .ifCond .ne 13, 3), (15, .new 94, 3), (18, .dup, 1), (19, .ldc 127, 2), (21, .invokespecial 98, 3), (24, .athrow, 1), (25, .aload_n 0, 1), (26, .getfield 20, 3), (29, .iload_n 1, 1), (30, .aaload, 1), (31, .getfield 129, 3), (34, .istore_n 3, 1), (35, .aload_n 0, 1), (36, .getfield 47, 3), (39, .iload_n 1, 1), (40, .iload_n 3, 1), (41, .invokevirtual 132, 3), (44, .iload_n 2, 1), (45, .if_icmp .ge 13, 3), (48, .new 136, 3), (51, .dup, 1), (52, .ldc 138, 2), (54, .invokespecial 140, 3), (57, .athrow, 1), (58, .iconst 0, 1), (59, .istore 4, 2), (61, .iload 4, 2), (63, .iload_n 2, 1), (64, .if_icmp .ge 18, 3), (67, .aload_n 0, 1), (68, .getfield 47, 3), (71, .iload_n 1, 1), (72, .iload_n 3, 1), (73, .invokevirtual 141, 3), (76, .iinc 4 1, 3), (79, .goto (-18), 3), (82, .aload_n 0, 1), (83, .getfield 47, 3), (86, .iload_n 1, 1), (87, .invokevirtual 145, 3), (90, .ireturn, 1)]),
  (prog_1_method_5_code, [(0, .aload_n 0, 1), (1, .iload_n 1, 1), (2, .invokevirtual 123, 3), (5, .aload_n 0, 1), (6, .iload_n 2, 1), (7, .invokevirtual 148, 3), (10, .aload_n 0, 1), (11, .getfield 47, 3), (14, .getfield 151, 3), (17, .iload_n 1, 1), (18, .aaload, 1), (19, .iload_n 2, 1), (20, .iaload, 1), (21, .bipush (-2), 2), (23, .if_icmp .eq 7, 3), (26, .iconst 1, 1), (27, .goto 4, 3), (30, .iconst 0, 1), (31, .ireturn, 1)]),
  (prog_1_method_6_code, [(0, .aload_n 0, 1), (1, .iload_n 1, 1), (2, .invokevirtual 123, 3), (5, .aload_n 0, 1), (6, .iload_n 2, 1), (7, .invokevirtual 148, 3), (10, .iload_n 3, 1), (11, .iconst 0, 1), (12, .bipush 100, 2), (14, .invokestatic 90, 3), (17, .ifCond .ne 13, 3), (20, .new 94, 3), (23, .dup, 1), (24, .ldc 155, 2), (26, .invokespecial 98, 3), (29, .athrow, 1), (30, .aload_n 0, 1), (31, .getfield 47, 3), (34, .getfield 151, 3), (37, .iload_n 1, 1), (38, .aaload, 1), (39, .iload_n 2, 1), (40, .iaload, 1), (41, .iconst (-1), 1), (42, .if_icmp .eq 13, 3), (45, .new 136, 3), (48, .dup, 1), (49, .ldc 157, 2), (51, .invokespecial 140, 3), (54, .athrow, 1), (55, .aload_n 0, 1), (56, .getfield 47, 3), (59, .iload_n 1, 1), (60, .iload_n 2, 1), (61, .iload_n 3, 1), (62, .invokevirtual 159, 3), (65, .aload_n 0, 1), (66, .getfield 47, 3), (69, .iload_n 1, 1), (70, .invokevirtual 163, 3), (73, .ireturn, 1)]),
  (prog_1_method_7_code, [(0, .aload_n 0, 1), (1, .iload_n 1, 1), (2, .invokevirtual 123, 3), (5, .aload_n 0, 1), (6, .iload_n 2, 1), (7, .invokevirtual 148, 3), (10, .aload_n 0, 1), (11, .getfield 47, 3), (14, .getfield 151, 3), (17, .iload_n 1, 1), (18, .aaload, 1), (19, .iload_n 2, 1), (20, .iaload, 1), (21, .ifCond .ge 13, 3), (24, .new 166, 3), (27, .dup, 1), (28, .ldc 168, 2), (30, .invokespecial 170, 3), (33, .athrow, 1), (34, .aload_n 0, 1), (35, .getfield 47, 3), (38, .iload_n 1, 1), (39, .iload_n 2, 1), (40, .invokevirtual 171, 3), (43, .ireturn, 1)]),
  (prog_1_method_8_code, [(0, .aload_n 0, 1), (1, .iload_n 1, 1), (2, .invokevirtual 123, 3), (5, .aload_n 0, 1), (6, .getfield 47, 3), (9, .iload_n 1, 1), (10, .invokevirtual 163, 3), (13, .ifCond .ne 13, 3), (16, .new 166, 3), (19, .dup, 1), (20, .ldc 174, 2), (22, .invokespecial 170, 3), (25, .athrow, 1), (26, .aload_n 0, 1), (27, .getfield 47, 3), (30, .iload_n 1, 1), (31, .invokevirtual 176, 3), (34, .ireturn, 1)]),
  (prog_1_method_9_code, [(0, .aload_n 0, 1), (1, .iload_n 1, 1), (2, .invokevirtual 123, 3), (5, .aload_n 0, 1), (6, .getfield 47, 3), (9, .iload_n 1, 1), (10, .invokevirtual 179, 3), (13, .bipush 30, 2), (15, .if_icmp .le 7, 3), (18, .iconst 1, 1), (19, .goto 4, 3), (22, .iconst 0, 1), (23, .ireturn, 1)]),
  (prog_1_method_10_code, [(0, .aload_n 0, 1), (1, .iload_n 1, 1), (2, .invokevirtual 123, 3), (5, .iload_n 2, 1), (6, .bipush 97, 2), (8, .if_icmp .eq 25, 3), (11, .iload_n 2, 1), (12, .bipush 108, 2), (14, .if_icmp .eq 19, 3), (17, .iload_n 2, 1), (18, .bipush 116, 2), (20, .if_icmp .eq 13, 3), (23, .new 94, 3), (26, .dup, 1), (27, .ldc 182, 2), (29, .invokespecial 98, 3), (32, .athrow, 1), (33, .aload_n 0, 1), (34, .getfield 20, 3), (37, .iload_n 1, 1), (38, .aaload, 1), (39, .iload_n 2, 1), (40, .invokevirtual 184, 3), (43, .aload_n 0, 1), (44, .getfield 20, 3), (47, .iload_n 1, 1), (48, .aaload, 1), (49, .getfield 188, 3), (52, .invokestatic 191, 3), (55, .ireturn, 1)]),
  (prog_1_method_11_code, [(0, .iload_n 1, 1), (1, .iconst 1, 1), (2, .bipush 9, 2), (4, .invokestatic 90, 3), (7, .ifCond .eq 24, 3), (10, .iload_n 2, 1), (11, .iconst 1, 1), (12, .sipush 2000, 3), (15, .invokestatic 90, 3), (18, .ifCond .eq 13, 3), (21, .iload_n 3, 1), (22, .iconst 0, 1), (23, .bipush 100, 2), (25, .invokestatic 90, 3), (28, .ifCond .ne 13, 3), (31, .new 94, 3), (34, .dup, 1), (35, .ldc 195, 2), (37, .invokespecial 98, 3), (40, .athrow, 1), (41, .iload 4, 2), (43, .bipush 45, 2), (45, .if_icmp .eq 11, 3), (48, .iload 4, 2), (50, .invokestatic 86, 3), (53, .ifCond .eq 12, 3), (56, .iload 5, 2), (58, .invokestatic 197, 3), (61, .iconst (-1), 1), (62, .if_icmp .ne 13, 3), (65, .new 94, 3), (68, .dup, 1), (69, .ldc 201, 2), (71, .invokespecial 98, 3), (74, .athrow, 1), (75, .aload_n 0, 1), (76, .getfield 41, 3), (79, .iconst 5, 1), (80, .if_icmp .lt 13, 3), (83, .new 101, 3), (86, .dup, 1), (87, .ldc 203, 2), (89, .invokespecial 105, 3), (92, .athrow, 1), (93, .aload_n 0, 1), (94, .getfield 37, 3), (97, .aload_n 0, 1), (98, .getfield 41, 3), (101, .aaload, 1), (102, .iload_n 1, 1), (103, .iload_n 2, 1), (104, .iload_n 3, 1), (105, .iload 4, 2), (107, .iload 5, 2), (109, .invokestatic 197, 3), (112, .invokevirtual 205, 3), (115, .aload_n 0, 1), (116, .dup, 1), (117, .getfield 41, 3), (120, .iconst 1, 1), (121, .iadd, 1), (122, .putfield 41, 3), (125, .aload_n 0, 1), (126, .getfield 41, 3), (129, .iconst 1, 1), (130, .isub, 1), (131, .ireturn, 1)])]
noncomputable def a_prog_5 : List (ByteArray × List (Nat × Instr × Nat)) := [
  (prog_1_method_12_code, [(0, .aload_n 0, 1), (1, .iload_n 1, 1), (2, .invokevirtual 208, 3), (5, .aload_n 0, 1), (6, .invokevirtual 211, 3), (9, .istore_n 2, 1), (10, .iconst 0, 1), (11, .istore_n 3, 1), (12, .iconst 0, 1), (13, .istore 4, 2), (15, .iload 4, 2), (17, .iload_n 2, 1), (18, .if_icmp .ge 69, 3), (21, .aload_n 0, 1), (22, .getfield 79, 3), (25, .iload 4, 2), (27, .iaload, 1), (28, .istore 5, 2), (30, .aload_n 0, 1), (31, .iload 5, 2), (33, .aload_n 0, 1), (34, .getfield 82, 3), (37, .iload 4, 2), (39, .iaload, 1), (40, .iload_n 1, 1), (41, .invokevirtual 215, 3), (44, .ifCond .eq 37, 3), (47, .aload_n 0, 1), (48, .getfield 20, 3), (51, .iload 5, 2), (53, .aaload, 1), (54, .iload_n 1, 1), (55, .aload_n 0, 1), (56, .getfield 37, 3), (59, .iload_n 1, 1), (60, .aaload, 1), (61, .getfield 218, 3), (64, .invokevirtual 221, 3), (67, .aload_n 0, 1), (68, .getfield 30, 3), (71, .bipush 99, 2), (73, .iload 5, 2), (75, .invokevirtual 224, 3), (78, .iinc 3 1, 3), (81, .iinc 4 1, 3), (84, .goto (-69), 3), (87, .iload_n 3, 1), (88, .ireturn, 1)]),
  (prog_1_method_13_code, [(0, .aload_n 0, 1), (1, .iload_n 1, 1), (2, .invokevirtual 123, 3), (5, .aload_n 0, 1), (6, .getfield 20, 3), (9, .iload_n 1, 1), (10, .aaload, 1), (11, .getfield 230, 3), (14, .iconst (-1), 1), (15, .if_icmp .ne 13, 3), (18, .new 166, 3), (21, .dup, 1), (22, .ldc 233, 2), (24, .invokespecial 170, 3), (27, .athrow, 1), (28, .aload_n 0, 1), (29, .getfield 20, 3), (32, .iload_n 1, 1), (33, .aaload, 1), (34, .getfield 230, 3), (37, .ireturn, 1)]),
  (prog_1_method_14_code, [(0, .aload_n 0, 1), (1, .iload_n 1, 1), (2, .invokevirtual 208, 3), (5, .aload_n 0, 1), (6, .iload_n 1, 1), (7, .invokevirtual 235, 3), (10, .ireturn, 1)]),
  (prog_1_method_15_code, [(0, .aload_n 0, 1), (1, .iload_n 1, 1), (2, .invokevirtual 123, 3), (5, .aload_n 0, 1), (6, .getfield 20, 3), (9, .iload_n 1, 1), (10, .aaload, 1), (11, .getfield 238, 3), (14, .istore_n 2, 1), (15, .iload_n 2, 1), (16, .ifCond .ne 13, 3), (19, .new 136, 3), (22, .dup, 1), (23, .ldc 241, 2), (25, .invokespecial 140, 3), (28, .athrow, 1), (29, .aload_n 0, 1), (30, .getfield 20, 3), (33, .iload_n 1, 1), (34, .aaload, 1), (35, .iconst 0, 1), (36, .putfield 238, 3), (39, .aload_n 0, 1), (40, .getfield 30, 3), (43, .bipush 103, 2), (45, .iload_n 1, 1), (46, .invokevirtual 224, 3), (49, .iload_n 2, 1), (50, .invokestatic 191, 3), (53, .ireturn, 1)]),
  (prog_1_method_16_code, [(0, .aload_n 0, 1), (1, .iload_n 1, 1), (2, .invokevirtual 123, 3), (5, .aload_n 0, 1), (6, .getfield 20, 3), (9, .iload_n 1, 1), (10, .aaload, 1), (11, .invokevirtual 243, 3), (14, .ireturn, 1)]),
  (prog_1_method_17_code, [(0, .iload_n 1, 1), (1, .iconst 1, 1), (2, .bipush 9, 2), (4, .invokestatic 90, 3), (7, .ifCond .ne 13, 3), (10, .new 94, 3), (13, .dup, 1), (14, .ldc 247, 2), (16, .invokespecial 98, 3), (19, .athrow, 1), (20, .aload_n 0, 1), (21, .getfield 25, 3), (24, .getfield 249, 3), (27, .iconst 4, 1), (28, .if_icmp .lt 13, 3), (31, .new 101, 3), (34, .dup, 1), (35, .ldc 254, 2), (37, .invokespecial 105, 3), (40, .athrow, 1), (41, .aload_n 0, 1), (42, .getfield 25, 3), (45, .iload_n 1, 1), (46, .iload_n 2, 1), (47, .invokevirtual 256, 3), (50, .ireturn, 1)]),
  (prog_1_method_18_code, [(0, .aload_n 0, 1), (1, .iload_n 1, 1), (2, .invokevirtual 123, 3), (5, .iload_n 2, 1), (6, .bipush 114, 2), (8, .if_icmp .eq 20, 3), (11, .iload_n 2, 1), (12, .bipush 100, 2), (14, .if_icmp .eq 14, 3), (17, .new 94, 3), (20, .dup, 1), (21, .ldc_w 260, 3), (24, .invokespecial 98, 3), (27, .athrow, 1), (28, .aload_n 0, 1), (29, .iload_n 3, 1), (30, .invokevirtual 262, 3), (33, .aload_n 0, 1), (34, .getfield 20, 3), (37, .iload_n 1, 1), (38, .aaload, 1), (39, .getfield 265, 3), (42, .bipush 45, 2), (44, .if_icmp .eq 7, 3), (47, .iconst 1, 1), (48, .goto 4, 3), (51, .iconst 0, 1), (52, .istore 4, 2), (54, .aload_n 0, 1), (55, .getfield 20, 3), (58, .iload_n 1, 1), (59, .aaload, 1), (60, .iload_n 2, 1), (61, .putfield 265, 3), (64, .aload_n 0, 1), (65, .getfield 20, 3), (68, .iload_n 1, 1), (69, .aaload, 1), (70, .iload_n 3, 1), (71, .putfield 269, 3), (74, .iload 4, 2), (76, .ireturn, 1)]),
  (prog_1_method_19_code, [(0, .aload_n 0, 1), (1, .iload_n 1, 1), (2, .invokevirtual 123, 3), (5, .aload_n 0, 1), (6, .iload_n 2, 1), (7, .invokevirtual 272, 3), (10, .aload_n 0, 1), (11, .iload_n 3, 1), (12, .invokevirtual 262, 3), (15, .aload_n 0, 1), (16, .iload 4, 2), (18, .invokevirtual 262, 3), (21, .iload 4, 2), (23, .iload_n 3, 1), (24, .if_icmp .ge 14, 3), (27, .new 94, 3), (30, .dup, 1), (31, .ldc_w 275, 3), (34, .invokespecial 98, 3), (37, .athrow, 1), (38, .aload_n 0, 1), (39, .getfield 25, 3), (42, .getfield 277, 3), (45, .bipush 60, 2), (47, .if_icmp .lt 14, 3), (50, .new 101, 3), (53, .dup, 1), (54, .ldc_w 280, 3), (57, .invokespecial 105, 3), (60, .athrow, 1), (61, .aload_n 0, 1), (62, .getfield 25, 3), (65, .iload_n 1, 1), (66, .iload_n 2, 1), (67, .iload_n 3, 1), (68, .iload 4, 2), (70, .invokevirtual 282, 3), (73, .ireturn, 1)]),
  (prog_1_method_20_code, [(0, .aload_n 0, 1), (1, .iload_n 1, 1), (2, .invokevirtual 123, 3), (5, .aload_n 0, 1), (6, .iload_n 2, 1), (7, .invokevirtual 272, 3), (10, .aload_n 0, 1), (11, .iload_n 3, 1), (12, .invokevirtual 262, 3), (15, .aload_n 0, 1), (16, .getfield 10, 3), (19, .iload_n 1, 1), (20, .iload_n 2, 1), (21, .iload_n 3, 1), (22, .aload_n 0, 1), (23, .getfield 20, 3), (26, .iload_n 1, 1), (27, .aaload, 1), (28, .getfield 269, 3), (31, .invokevirtual 286, 3), (34, .ireturn, 1)]),
  (prog_1_method_21_code, [(0, .aload_n 0, 1), (1, .iload_n 1, 1), (2, .invokevirtual 123, 3), (5, .aload_n 0, 1), (6, .iload_n 2, 1), (7, .invokevirtual 272, 3), (10, .aload_n 0, 1), (11, .iload_n 3, 1), (12, .invokevirtual 262, 3), (15, .aload_n 0, 1), (16, .getfield 20, 3), (19, .iload_n 1, 1), (20, .aaload, 1), (21, .getfield 230, 3), (24, .iconst (-1), 1), (25, .if_icmp .eq 16, 3), (28, .aload_n 0, 1), (29, .getfield 10, 3), (32, .iload_n 1, 1), (33, .iload_n 2, 1), (34, .iload_n 3, 1), (35, .invokevirtual 290, 3), (38, .ifCond .ne 14, 3), (41, .new 136, 3), (44, .dup, 1), (45, .ldc_w 293, 3), (48, .invokespecial 140, 3), (51, .athrow, 1), (52, .aload_n 0, 1), (53, .getfield 10, 3), (56, .getfield 295, 3), (59, .bipush 60, 2), (61, .if_icmp .lt 14, 3), (64, .new 101, 3), (67, .dup, 1), (68, .ldc_w 298, 3), (71, .invokespecial 105, 3), (74, .athrow, 1), (75, .aload_n 0, 1), (76, .getfield 10, 3), (79, .iload_n 1, 1), (80, .iload_n 2, 1), (81, .iload_n 3, 1), (82, .invokevirtual 300, 3), (85, .ireturn, 1)]),
  (prog_1_method_22_code, [(0, .aload_n 0, 1), (1, .iload_n 1, 1), (2, .invokevirtual 208, 3), (5, .aload_n 0, 1), (6, .iload_n 1, 1), (7, .invokevirtual 304, 3), (10, .istore_n 2, 1), (11, .aload_n 0, 1), (12, .getfield 10, 3), (15, .getfield 295, 3), (18, .iload_n 2, 1), (19, .iadd, 1), (20, .bipush 60, 2), (22, .if_icmp .le 14, 3), (25, .new 101, 3), (28, .dup, 1), (29, .ldc_w 307, 3), (32, .invokespecial 105, 3), (35, .athrow, 1), (36, .iconst 0, 1), (37, .istore_n 3, 1), (38, .iconst 0, 1), (39, .istore 4, 2), (41, .iload 4, 2), (43, .iload_n 2, 1), (44, .if_icmp .ge 30, 3), (47, .aload_n 0, 1), (48, .getfield 10, 3), (51, .aload_n 0, 1), (52, .getfield 79, 3), (55, .iload 4, 2), (57, .iaload, 1), (58, .invokevirtual 309, 3), (61, .iconst (-1), 1), (62, .if_icmp .eq 6, 3), (65, .iinc 3 1, 3), (68, .iinc 4 1, 3), (71, .goto (-30), 3), (74, .iload_n 3, 1), (75, .ireturn, 1)]),
  (prog_1_method_23_code, [(0, .aload_n 0, 1), (1, .iload_n 1, 1), (2, .invokevirtual 312, 3), (5, .aload_n 0, 1), (6, .getfield 10, 3), (9, .getfield 315, 3), (12, .iload_n 1, 1), (13, .aaload, 1), (14, .astore_n 3, 1), (15, .iload_n 2, 1), (16, .bipush 102, 2), (18, .if_icmp .ne 8, 3), (21, .aload_n 3, 1), (22, .getfield 319, 3), (25, .ireturn, 1), (26, .iload_n 2, 1), (27, .bipush 115, 2), (29, .if_icmp .ne 8, 3), (32, .aload_n 3, 1), (33, .getfield 324, 3), (36, .ireturn, 1), (37, .iload_n 2, 1), (38, .bipush 104, 2), (40, .if_icmp .ne 8, 3), (43, .aload_n 3, 1), (44, .getfield 327, 3), (47, .ireturn, 1), (48, .iload_n 2, 1), (49, .bipush 108, 2), (51, .if_icmp .ne 8, 3), (54, .aload_n 3, 1), (55, .getfield 330, 3), (58, .ireturn, 1), (59, .new 94, 3), (62, .dup, 1), (63, .ldc_w 333, 3), (66, .invokespecial 98, 3), (69, .athrow, 1)]),
  (prog_1_method_24_code, [(0, .aload_n 0, 1), (1, .iload_n 1, 1), (2, .invokevirtual 312, 3), (5, .aload_n 0, 1), (6, .getfield 10, 3), (9, .aload_n 0, 1), (10, .getfield 10, 3), (13, .getfield 315, 3), (16, .iload_n 1, 1), (17, .aaload, 1), (18, .invokevirtual 335, 3), (21, .ireturn, 1)]),
  (prog_1_method_25_code, [(0, .aload_n 0, 1), (1, .iload_n 1, 1), (2, .invokevirtual 272, 3), (5, .aload_n 0, 1), (6, .iload_n 2, 1), (7, .invokevirtual 262, 3), (10, .aload_n 0, 1), (11, .getfield 10, 3), (14, .iload_n 1, 1), (15, .iload_n 2, 1), (16, .invokevirtual 339, 3), (19, .istore_n 3, 1), (20, .iload_n 3, 1), (21, .iconst (-1), 1), (22, .if_icmp .ne 14, 3), (25, .new 166, 3), (28, .dup, 1), (29, .ldc_w 342, 3), (32, .invokespecial 170, 3), (35, .athrow, 1), (36, .iload_n 3, 1), (37, .ireturn, 1)]),
  (prog_1_method_26_code, [(0, .iload_n 1, 1), (1, .iconst 1, 1), (2, .bipush 50, 2), (4, .invokestatic 90, 3), (7, .ifCond .ne 14, 3), (10, .new 94, 3), (13, .dup, 1), (14, .ldc_w 344, 3), (17, .invokespecial 98, 3), (20, .athrow, 1), (21, .aload_n 0, 1), (22, .getfield 10, 3), (25, .getfield 346, 3), (28, .iload_n 1, 1), (29, .iadd, 1), (30, .bipush 50, 2), (32, .if_icmp .le 14, 3), (35, .new 101, 3), (38, .dup, 1), (39, .ldc_w 349, 3), (42, .invokespecial 105, 3), (45, .athrow, 1), (46, .aload_n 0, 1), (47, .getfield 10, 3), (50, .dup, 1), (51, .getfield 346, 3), (54, .iload_n 1, 1), (55, .iadd, 1), (56, .putfield 346, 3), (59, .aload_n 0, 1), (60, .getfield 10, 3), (63, .getfield 346, 3), (66, .ireturn, 1)]),
  (prog_1_method_27_code, [(0, .aload_n 0, 1), (1, .getfield 10, 3), (4, .getfield 346, 3), (7, .ireturn, 1)]),
  (prog_1_method_28_code, [(0, .iload_n 1, 1), (1, .iconst 0, 1), (2, .bipush 9, 2), (4, .invokestatic 90, 3), (7, .ifCond .ne 14, 3), (10, .new 94, 3), (13, .dup, 1), (14, .ldc_w 351, 3), (17, .invokespecial 98, 3), (20, .athrow, 1), (21, .aload_n 0, 1), (22, .getfield 10, 3), (25, .getfield 353, 3), (28, .iload_n 1, 1), (29, .baload, 1), (30, .ifCond .eq 14, 3), (33, .new 136, 3), (36, .dup, 1), (37, .ldc_w 357, 3), (40, .invokespecial 140, 3), (43, .athrow, 1), (44, .aload_n 0, 1), (45, .getfield 10, 3), (48, .iload_n 1, 1), (49, .invokevirtual 359, 3), (52, .istore_n 2, 1), (53, .aload_n 0, 1), (54, .getfield 10, 3), (57, .getfield 295, 3), (60, .iload_n 2, 1), (61, .iadd, 1), (62, .bipush 60, 2), (64, .if_icmp .le 14, 3), (67, .new 101, 3), (70, .dup, 1), (71, .ldc_w 307, 3), (74, .invokespecial 105, 3), (77, .athrow, 1), (78, .aload_n 0, 1), (79, .getfield 10, 3), (82, .getfield 353, 3), (85, .iload_n 1, 1), (86, .iconst 1, 1), (87, .bastore, 1), (88, .aload_n 0, 1), (89, .getfield 10, 3), (92, .bipush 115, 2), (94, .invokevirtual 362, 3), (97, .aload_n 0, 1), (98, .getfield 10, 3), (101, .invokevirtual 365, 3), (104, .iload_n 2, 1), (105, .ireturn, 1)]),
  (prog_1_method_29_code, [(0, .aload_n 0, 1), (1, .iload_n 1, 1), (2, .invokevirtual 123, 3), (5, .aload_n 0, 1), (6, .getfield 20, 3), (9, .iload_n 1, 1), (10, .aaload, 1), (11, .getfield 265, 3), (14, .bipush 45, 2), (16, .if_icmp .eq 7, 3), (19, .iconst 1, 1), (20, .goto 4, 3), (23, .iconst 0, 1), (24, .istore_n 3, 1), (25, .iload_n 2, 1), (26, .bipush 50, 2), (28, .if_icmp .ge 20, 3), (31, .iload_n 3, 1), (32, .ifCond .eq 27, 3), (35, .iload_n 2, 1), (36, .aload_n 0, 1), (37, .getfield 20, 3), (40, .iload_n 1, 1), (41, .aaload, 1), (42, .getfield 269, 3), (45, .if_icmp .gt 14, 3), (48, .new 94, 3), (51, .dup, 1), (52, .ldc_w 368, 3), (55, .invokespecial 98, 3), (58, .athrow, 1), (59, .iload_n 3, 1), (60, .ifCond .ne 14, 3), (63, .new 136, 3), (66, .dup, 1), (67, .ldc_w 370, 3), (70, .invokespecial 140, 3), (73, .athrow, 1), (74, .aload_n 0, 1), (75, .getfield 10, 3), (78, .iload_n 1, 1), (79, .iload_n 2, 1), (80, .invokevirtual 372, 3), (83, .istore 4, 2), (85, .aload_n 0, 1), (86, .getfield 10, 3), (89, .getfield 295, 3), (92, .iload 4, 2), (94, .iadd, 1), (95, .bipush 60, 2), (97, .if_icmp .le 14, 3), (100, .new 101, 3), (103, .dup, 1), (104, .ldc_w 307, 3), (107, .invokespecial 105, 3), (110, .athrow, 1), (111, .aload_n 0, 1), (112, .getfield 20, 3), (115, .iload_n 1, 1), (116, .aaload, 1), (117, .iload_n 2, 1), (118, .putfield 269, 3), (121, .aload_n 0, 1), (122, .getfield 10, 3), (125, .bipush 108, 2), (127, .invokevirtual 362, 3), (130, .aload_n 0, 1), (131, .getfield 10, 3), (134, .invokevirtual 365, 3), (137, .iload 4, 2), (139, .ireturn, 1)]),
  (prog_1_method_30_code, [(0, .aload_n 0, 1), (1, .iload_n 1, 1), (2, .invokevirtual 123, 3), (5, .aload_n 0, 1), (6, .getfield 20, 3), (9, .iload_n 1, 1), (10, .aaload, 1), (11, .getfield 375, 3), (14, .ifCond .eq 14, 3), (17, .new 136, 3), (20, .dup, 1), (21, .ldc_w 379, 3), (24, .invokespecial 140, 3), (27, .athrow, 1), (28, .aload_n 0, 1), (29, .getfield 10, 3), (32, .iload_n 1, 1), (33, .invokevirtual 381, 3), (36, .istore_n 2, 1), (37, .aload_n 0, 1), (38, .getfield 10, 3), (41, .bipush 119, 2), (43, .invokevirtual 362, 3), (46, .aload_n 0, 1), (47, .getfield 20, 3), (50, .iload_n 1, 1), (51, .aaload, 1), (52, .invokevirtual 384, 3), (55, .iload_n 2, 1), (56, .ireturn, 1)]),
  (prog_1_method_31_code, [(0, .iload_n 1, 1), (1, .iconst 0, 1), (2, .iconst 3, 1), (3, .invokestatic 90, 3), (6, .ifCond .ne 14, 3), (9, .new 94, 3), (12, .dup, 1), (13, .ldc_w 387, 3), (16, .invokespecial 98, 3), (19, .athrow, 1), (20, .aload_n 0, 1), (21, .getfield 54, 3), (24, .getfield 389, 3), (27, .bipush 16, 2), (29, .if_icmp .lt 14, 3), (32, .new 101, 3), (35, .dup, 1), (36, .ldc_w 392, 3), (39, .invokespecial 105, 3), (42, .athrow, 1), (43, .aload_n 0, 1), (44, .getfield 54, 3), (47, .iload_n 1, 1), (48, .invokevirtual 394, 3), (51, .ireturn, 1)])]
noncomputable def a_prog_6 : List (ByteArray × List (Nat × Instr × Nat)) := [
  (prog_1_method_32_code, [(0, .aload_n 0, 1), (1, .iload_n 1, 1), (2, .invokevirtual 397, 3), (5, .aload_n 0, 1), (6, .iload_n 2, 1), (7, .invokevirtual 312, 3), (10, .aload_n 0, 1), (11, .getfield 10, 3), (14, .getfield 315, 3), (17, .iload_n 2, 1), (18, .aaload, 1), (19, .astore_n 3, 1), (20, .aload_n 0, 1), (21, .getfield 10, 3), (24, .aload_n 3, 1), (25, .invokevirtual 335, 3), (28, .bipush 116, 2), (30, .if_icmp .ne 18, 3), (33, .aload_n 3, 1), (34, .getfield 400, 3), (37, .ifCond .ne 11, 3), (40, .aload_n 3, 1), (41, .iload_n 1, 1), (42, .invokevirtual 403, 3), (45, .ifCond .eq 14, 3), (48, .new 136, 3), (51, .dup, 1), (52, .ldc_w 407, 3), (55, .invokespecial 140, 3), (58, .athrow, 1), (59, .aload_n 3, 1), (60, .iload_n 1, 1), (61, .invokevirtual 409, 3), (64, .aload_n 3, 1), (65, .getfield 412, 3), (68, .ireturn, 1)]),
  (prog_1_method_33_code, [(0, .aload_n 0, 1), (1, .iload_n 1, 1), (2, .invokevirtual 312, 3), (5, .aload_n 0, 1), (6, .getfield 10, 3), (9, .getfield 315, 3), (12, .iload_n 1, 1), (13, .aaload, 1), (14, .astore_n 2, 1), (15, .aload_n 0, 1), (16, .getfield 10, 3), (19, .aload_n 2, 1), (20, .invokevirtual 335, 3), (23, .istore_n 3, 1), (24, .iload_n 3, 1), (25, .bipush 116, 2), (27, .if_icmp .eq 9, 3), (30, .iload_n 3, 1), (31, .bipush 110, 2), (33, .if_icmp .ne 24, 3), (36, .aload_n 2, 1), (37, .getfield 400, 3), (40, .ifCond .ne 17, 3), (43, .aload_n 2, 1), (44, .getfield 327, 3), (47, .aload_n 0, 1), (48, .getfield 10, 3), (51, .getfield 346, 3), (54, .if_icmp .ge 14, 3), (57, .new 136, 3), (60, .dup, 1), (61, .ldc_w 415, 3), (64, .invokespecial 140, 3), (67, .athrow, 1), (68, .aload_n 2, 1), (69, .iconst 1, 1), (70, .putfield 400, 3), (73, .aload_n 0, 1), (74, .getfield 30, 3), (77, .bipush 111, 2), (79, .aload_n 2, 1), (80, .getfield 319, 3), (83, .invokevirtual 224, 3), (86, .aload_n 0, 1), (87, .getfield 54, 3), (90, .aload_n 0, 1), (91, .getfield 10, 3), (94, .aload_n 2, 1), (95, .aload_n 0, 1), (96, .getfield 25, 3), (99, .getfield 417, 3), (102, .aload_n 2, 1), (103, .getfield 324, 3), (106, .iaload, 1), (107, .invokevirtual 420, 3), (110, .ireturn, 1)]),
  (prog_1_method_34_code, [(0, .aload_n 0, 1), (1, .iload_n 1, 1), (2, .invokevirtual 397, 3), (5, .aload_n 0, 1), (6, .iload_n 2, 1), (7, .invokevirtual 312, 3), (10, .aload_n 0, 1), (11, .getfield 10, 3), (14, .getfield 315, 3), (17, .iload_n 2, 1), (18, .aaload, 1), (19, .getfield 424, 3), (22, .iload_n 1, 1), (23, .baload, 1), (24, .ireturn, 1)]),
  (prog_1_method_35_code, [(0, .aload_n 0, 1), (1, .iload_n 1, 1), (2, .invokevirtual 208, 3), (5, .iload_n 2, 1), (6, .iconst 0, 1), (7, .bipush 9, 2), (9, .invokestatic 90, 3), (12, .ifCond .ne 13, 3), (15, .new 94, 3), (18, .dup, 1), (19, .ldc 112, 2), (21, .invokespecial 98, 3), (24, .athrow, 1), (25, .aload_n 0, 1), (26, .getfield 37, 3), (29, .iload_n 1, 1), (30, .aaload, 1), (31, .getfield 427, 3), (34, .iconst 5, 1), (35, .if_icmp .lt 14, 3), (38, .new 101, 3), (41, .dup, 1), (42, .ldc_w 430, 3), (45, .invokespecial 105, 3), (48, .athrow, 1), (49, .aload_n 0, 1), (50, .getfield 37, 3), (53, .iload_n 1, 1), (54, .aaload, 1), (55, .iload_n 2, 1), (56, .invokevirtual 432, 3), (59, .ireturn, 1)]),
  (prog_1_method_36_code, [(0, .aload_n 0, 1), (1, .iload_n 1, 1), (2, .invokevirtual 208, 3), (5, .iload_n 2, 1), (6, .bipush 109, 2), (8, .if_icmp .eq 32, 3), (11, .iload_n 2, 1), (12, .bipush 98, 2), (14, .if_icmp .eq 26, 3), (17, .iload_n 2, 1), (18, .bipush 99, 2), (20, .if_icmp .eq 20, 3), (23, .iload_n 2, 1), (24, .bipush 114, 2), (26, .if_icmp .eq 14, 3), (29, .new 94, 3), (32, .dup, 1), (33, .ldc_w 435, 3), (36, .invokespecial 98, 3), (39, .athrow, 1), (40, .aload_n 0, 1), (41, .getfield 37, 3), (44, .iload_n 1, 1), (45, .aaload, 1), (46, .getfield 437, 3), (49, .istore_n 3, 1), (50, .aload_n 0, 1), (51, .getfield 37, 3), (54, .iload_n 1, 1), (55, .aaload, 1), (56, .iload_n 2, 1), (57, .putfield 437, 3), (60, .iload_n 3, 1), (61, .ireturn, 1)]),
  (prog_1_method_37_code, [(0, .aload_n 0, 1), (1, .iload_n 1, 1), (2, .invokevirtual 208, 3), (5, .aload_n 0, 1), (6, .iload_n 1, 1), (7, .iload_n 2, 1), (8, .invokevirtual 440, 3), (11, .aload_n 0, 1), (12, .iload_n 3, 1), (13, .invokevirtual 312, 3), (16, .aload_n 0, 1), (17, .getfield 10, 3), (20, .getfield 315, 3), (23, .iload_n 3, 1), (24, .aaload, 1), (25, .astore 4, 2), (27, .aload_n 0, 1), (28, .getfield 37, 3), (31, .iload_n 1, 1), (32, .aaload, 1), (33, .getfield 443, 3), (36, .iload_n 2, 1), (37, .aaload, 1), (38, .astore 5, 2), (40, .aload_n 0, 1), (41, .getfield 10, 3), (44, .aload 4, 2), (46, .invokevirtual 335, 3), (49, .bipush 110, 2), (51, .if_icmp .ne 36, 3), (54, .aload_n 0, 1), (55, .getfield 20, 3), (58, .aload 4, 2), (60, .getfield 319, 3), (63, .aaload, 1), (64, .getfield 230, 3), (67, .iload_n 1, 1), (68, .if_icmp .ne 19, 3), (71, .aload 5, 2), (73, .iload_n 3, 1), (74, .aload_n 0, 1), (75, .getfield 10, 3), (78, .getfield 346, 3), (81, .invokevirtual 447, 3), (84, .ifCond .eq 14, 3), (87, .new 136, 3), (90, .dup, 1), (91, .ldc_w 453, 3), (94, .invokespecial 140, 3), (97, .athrow, 1), (98, .aload 5, 2), (100, .iload_n 3, 1), (101, .aload 4, 2), (103, .getfield 319, 3), (106, .aload_n 0, 1), (107, .getfield 10, 3), (110, .getfield 346, 3), (113, .invokevirtual 455, 3), (116, .aload_n 0, 1), (117, .iload_n 1, 1), (118, .aload 5, 2), (120, .invokevirtual 458, 3), (123, .ireturn, 1)]),
  (prog_1_method_38_code, [(0, .aload_n 0, 1), (1, .iload_n 1, 1), (2, .invokevirtual 123, 3), (5, .aload_n 0, 1), (6, .getfield 76, 3), (9, .bipush 9, 2), (11, .if_icmp .lt 14, 3), (14, .new 101, 3), (17, .dup, 1), (18, .ldc_w 462, 3), (21, .invokespecial 105, 3), (24, .athrow, 1), (25, .aload_n 0, 1), (26, .getfield 72, 3), (29, .aload_n 0, 1), (30, .getfield 76, 3), (33, .iload_n 1, 1), (34, .iastore, 1), (35, .aload_n 0, 1), (36, .dup, 1), (37, .getfield 76, 3), (40, .iconst 1, 1), (41, .iadd, 1), (42, .putfield 76, 3), (45, .aload_n 0, 1), (46, .getfield 76, 3), (49, .ireturn, 1)]),
  (prog_1_method_39_code, [(0, .aload_n 0, 1), (1, .getfield 76, 3), (4, .istore_n 1, 1), (5, .aload_n 0, 1), (6, .iconst 0, 1), (7, .putfield 76, 3), (10, .iload_n 1, 1), (11, .ireturn, 1)]),
  (prog_1_method_40_code, [(0, .aload_n 0, 1), (1, .iload_n 1, 1), (2, .invokevirtual 208, 3), (5, .aload_n 0, 1), (6, .iload_n 1, 1), (7, .iload_n 2, 1), (8, .invokevirtual 440, 3), (11, .aload_n 0, 1), (12, .getfield 37, 3), (15, .iload_n 1, 1), (16, .aaload, 1), (17, .getfield 443, 3), (20, .iload_n 2, 1), (21, .aaload, 1), (22, .astore_n 3, 1), (23, .aload_n 0, 1), (24, .iload_n 1, 1), (25, .aload_n 3, 1), (26, .invokevirtual 464, 3), (29, .ifCond .ne 14, 3), (32, .new 136, 3), (35, .dup, 1), (36, .ldc_w 468, 3), (39, .invokespecial 140, 3), (42, .athrow, 1), (43, .aload_n 3, 1), (44, .aload_n 0, 1), (45, .getfield 72, 3), (48, .aload_n 0, 1), (49, .getfield 76, 3), (52, .invokevirtual 470, 3), (55, .aload_n 0, 1), (56, .iconst 0, 1), (57, .putfield 76, 3), (60, .aload_n 0, 1), (61, .getfield 37, 3), (64, .iload_n 1, 1), (65, .aaload, 1), (66, .invokevirtual 474, 3), (69, .ireturn, 1)]),
  (prog_1_method_41_code, [(0, .aload_n 0, 1), (1, .iload_n 1, 1), (2, .invokevirtual 208, 3), (5, .aload_n 0, 1), (6, .getfield 61, 3), (9, .aload_n 0, 1), (10, .getfield 20, 3), (13, .aload_n 0, 1), (14, .getfield 37, 3), (17, .iload_n 1, 1), (18, .aaload, 1), (19, .invokevirtual 477, 3), (22, .istore_n 2, 1), (23, .iload_n 2, 1), (24, .iconst (-1), 1), (25, .if_icmp .ne 14, 3), (28, .new 166, 3), (31, .dup, 1), (32, .ldc_w 481, 3), (35, .invokespecial 170, 3), (38, .athrow, 1), (39, .iload_n 2, 1), (40, .ireturn, 1)]),
  (prog_1_method_42_code, [(0, .aload_n 0, 1), (1, .iload_n 1, 1), (2, .invokevirtual 208, 3), (5, .aload_n 0, 1), (6, .getfield 37, 3), (9, .iload_n 1, 1), (10, .aaload, 1), (11, .getfield 483, 3), (14, .ifCond .eq 14, 3), (17, .new 136, 3), (20, .dup, 1), (21, .ldc_w 486, 3), (24, .invokespecial 140, 3), (27, .athrow, 1), (28, .aload_n 0, 1), (29, .getfield 61, 3), (32, .aload_n 0, 1), (33, .getfield 20, 3), (36, .aload_n 0, 1), (37, .getfield 37, 3), (40, .iload_n 1, 1), (41, .aaload, 1), (42, .invokevirtual 477, 3), (45, .istore_n 2, 1), (46, .iload_n 2, 1), (47, .iconst (-1), 1), (48, .if_icmp .ne 14, 3), (51, .new 166, 3), (54, .dup, 1), (55, .ldc_w 488, 3), (58, .invokespecial 170, 3), (61, .athrow, 1), (62, .aload_n 0, 1), (63, .getfield 20, 3), (66, .iload_n 2, 1), (67, .aaload, 1), (68, .invokevirtual 243, 3), (71, .ifCond .eq 14, 3), (74, .new 136, 3), (77, .dup, 1), (78, .ldc_w 490, 3), (81, .invokespecial 140, 3), (84, .athrow, 1), (85, .aload_n 0, 1), (86, .getfield 37, 3), (89, .iload_n 1, 1), (90, .aaload, 1), (91, .iconst 1, 1), (92, .putfield 483, 3), (95, .aload_n 0, 1), (96, .getfield 30, 3), (99, .bipush 112, 2), (101, .iload_n 2, 1), (102, .invokevirtual 224, 3), (105, .iload_n 2, 1), (106, .ireturn, 1)]),
  (prog_1_method_43_code, [(0, .aload_n 0, 1), (1, .iload_n 1, 1), (2, .invokevirtual 123, 3), (5, .iload_n 2, 1), (6, .iconst 0, 1), (7, .bipush 9, 2), (9, .invokestatic 90, 3), (12, .ifCond .eq 14, 3), (15, .iload 5, 2), (17, .iconst 0, 1), (18, .bipush 9, 2), (20, .invokestatic 90, 3), (23, .ifCond .ne 14, 3), (26, .new 94, 3), (29, .dup, 1), (30, .ldc_w 492, 3), (33, .invokespecial 98, 3), (36, .athrow, 1), (37, .iload_n 3, 1), (38, .iconst 0, 1), (39, .bipush 99, 2), (41, .invokestatic 90, 3), (44, .ifCond .eq 14, 3), (47, .iload 4, 2), (49, .iload_n 3, 1), (50, .bipush 99, 2), (52, .invokestatic 90, 3), (55, .ifCond .ne 14, 3), (58, .new 94, 3), (61, .dup, 1), (62, .ldc_w 494, 3), (65, .invokespecial 98, 3), (68, .athrow, 1), (69, .aload_n 0, 1), (70, .getfield 20, 3), (73, .iload_n 1, 1), (74, .aaload, 1), (75, .getfield 375, 3), (78, .ifCond .ne 18, 3), (81, .aload_n 0, 1), (82, .getfield 68, 3), (85, .iload_n 1, 1), (86, .iload_n 2, 1), (87, .iload_n 3, 1), (88, .iload 4, 2), (90, .invokevirtual 496, 3), (93, .ifCond .eq 14, 3), (96, .new 136, 3), (99, .dup, 1), (100, .ldc_w 499, 3), (103, .invokespecial 140, 3), (106, .athrow, 1), (107, .aload_n 0, 1), (108, .getfield 68, 3), (111, .getfield 501, 3), (114, .bipush 40, 2), (116, .if_icmp .lt 14, 3), (119, .new 101, 3), (122, .dup, 1), (123, .ldc_w 504, 3), (126, .invokespecial 105, 3), (129, .athrow, 1), (130, .aload_n 0, 1), (131, .getfield 30, 3), (134, .bipush 100, 2), (136, .iload_n 1, 1), (137, .invokevirtual 224, 3), (140, .aload_n 0, 1), (141, .getfield 68, 3), (144, .iload_n 1, 1), (145, .iload_n 2, 1), (146, .iload_n 3, 1), (147, .iload 4, 2), (149, .iload 5, 2), (151, .invokevirtual 506, 3), (154, .ireturn, 1)]),
  (prog_1_method_44_code, [(0, .aload_n 0, 1), (1, .iload_n 1, 1), (2, .invokevirtual 123, 3), (5, .iload_n 2, 1), (6, .iconst 0, 1), (7, .bipush 9, 2), (9, .invokestatic 90, 3), (12, .ifCond .eq 13, 3), (15, .iload_n 3, 1), (16, .iconst 0, 1), (17, .bipush 99, 2), (19, .invokestatic 90, 3), (22, .ifCond .ne 14, 3), (25, .new 94, 3), (28, .dup, 1), (29, .ldc_w 510, 3), (32, .invokespecial 98, 3), (35, .athrow, 1), (36, .aload_n 0, 1), (37, .getfield 68, 3), (40, .iload_n 1, 1), (41, .iload_n 2, 1), (42, .iload_n 3, 1), (43, .invokevirtual 512, 3), (46, .istore 4, 2), (48, .iload 4, 2), (50, .iconst (-1), 1), (51, .if_icmp .ne 14, 3), (54, .new 166, 3), (57, .dup, 1), (58, .ldc_w 515, 3), (61, .invokespecial 170, 3), (64, .athrow, 1), (65, .iload 4, 2), (67, .ireturn, 1)]),
  (prog_1_method_45_code, [(0, .iload_n 1, 1), (1, .iconst 0, 1), (2, .aload_n 0, 1), (3, .getfield 30, 3), (6, .getfield 517, 3), (9, .iconst 1, 1), (10, .isub, 1), (11, .invokestatic 90, 3), (14, .ifCond .ne 14, 3), (17, .new 166, 3), (20, .dup, 1), (21, .ldc_w 520, 3), (24, .invokespecial 170, 3), (27, .athrow, 1), (28, .aload_n 0, 1), (29, .getfield 30, 3), (32, .iload_n 1, 1), (33, .invokevirtual 522, 3), (36, .istore_n 3, 1), (37, .iload_n 2, 1), (38, .ifCond .eq 15, 3), (41, .aload_n 0, 1), (42, .getfield 30, 3), (45, .getfield 525, 3), (48, .iload_n 3, 1), (49, .iaload, 1), (50, .goto 12, 3), (53, .aload_n 0, 1), (54, .getfield 30, 3), (57, .getfield 528, 3), (60, .iload_n 3, 1), (61, .caload, 1), (62, .ireturn, 1)]),
  (prog_1_method_46_code, [(0, .ldc2_w 532, 3), (3, .lstore_n 1, 1), (4, .iconst 0, 1), (5, .istore_n 3, 1), (6, .iload_n 3, 1), (7, .aload_n 0, 1), (8, .getfield 10, 3), (11, .getfield 295, 3), (14, .if_icmp .ge 73, 3), (17, .aload_n 0, 1), (18, .getfield 10, 3), (21, .getfield 315, 3), (24, .iload_n 3, 1), (25, .aaload, 1), (26, .astore 4, 2), (28, .ldc2_w 534, 3), (31, .lload_n 1, 1), (32, .lmul, 1), (33, .aload 4, 2), (35, .getfield 319, 3), (38, .i2l, 1), (39, .ladd, 1), (40, .lstore_n 1, 1), (41, .ldc2_w 534, 3), (44, .lload_n 1, 1), (45, .lmul, 1), (46, .aload 4, 2), (48, .getfield 324, 3), (51, .i2l, 1), (52, .ladd, 1), (53, .bipush 10, 2), (55, .aload 4, 2), (57, .getfield 327, 3), (60, .imul, 1), (61, .i2l, 1), (62, .ladd, 1), (63, .lstore_n 1, 1), (64, .ldc2_w 534, 3), (67, .lload_n 1, 1), (68, .lmul, 1), (69, .aload_n 0, 1), (70, .getfield 10, 3), (73, .aload 4, 2), (75, .invokevirtual 335, 3), (78, .i2l, 1), (79, .ladd, 1), (80, .lstore_n 1, 1), (81, .iinc 3 1, 3), (84, .goto (-78), 3), (87, .lload_n 1, 1), (88, .lreturn, 1)]),
  (prog_1_method_47_code, [(0, .iconst 0, 1), (1, .istore_n 1, 1), (2, .iconst 0, 1), (3, .istore_n 2, 1), (4, .iconst 0, 1), (5, .istore_n 3, 1), (6, .iload_n 3, 1), (7, .aload_n 0, 1), (8, .getfield 31, 3), (11, .if_icmp .ge 39, 3), (14, .aload_n 0, 1), (15, .getfield 20, 3), (18, .iload_n 3, 1), (19, .aaload, 1), (20, .getfield 230, 3), (23, .iconst (-1), 1), (24, .if_icmp .eq 20, 3), (27, .iinc 1 1, 3), (30, .aload_n 0, 1), (31, .getfield 10, 3), (34, .iload_n 3, 1), (35, .invokevirtual 536, 3), (38, .ifCond .eq 6, 3), (41, .iinc 2 1, 3), (44, .iinc 3 1, 3), (47, .goto (-41), 3), (50, .iload_n 1, 1), (51, .ifCond .ne 14, 3), (54, .new 539, 3), (57, .dup, 1), (58, .ldc_w 541, 3), (61, .invokespecial 543, 3), (64, .athrow, 1), (65, .iload_n 2, 1), (66, .i2f, 1), (67, .iload_n 1, 1), (68, .i2f, 1), (69, .fdiv, 1), (70, .freturn, 1)]),
  (prog_1_method_48_code, [(0, .iconst 0, 1), (1, .istore_n 1, 1), (2, .iconst 0, 1), (3, .istore_n 2, 1), (4, .iconst 0, 1), (5, .istore_n 3, 1), (6, .iload_n 3, 1), (7, .aload_n 0, 1), (8, .getfield 31, 3), (11, .if_icmp .ge 34, 3), (14, .aload_n 0, 1), (15, .getfield 47, 3), (18, .iload_n 3, 1), (19, .invokevirtual 163, 3), (22, .ifCond .le 17, 3), (25, .iinc 1 1, 3), (28, .iload_n 2, 1), (29, .aload_n 0, 1), (30, .getfield 47, 3), (33, .iload_n 3, 1), (34, .invokevirtual 176, 3), (37, .iadd, 1), (38, .istore_n 2, 1), (39, .iinc 3 1, 3), (42, .goto (-36), 3), (45, .iload_n 1, 1), (46, .ifCond .ne 14, 3), (49, .new 539, 3), (52, .dup, 1), (53, .ldc_w 544, 3), (56, .invokespecial 543, 3), (59, .athrow, 1), (60, .iload_n 2, 1), (61, .i2d, 1), (62, .iload_n 1, 1), (63, .i2d, 1), (64, .ddiv, 1), (65, .dreturn, 1)]),
  (prog_1_method_49_code, [(0, .aload_n 0, 1), (1, .getfield 10, 3), (4, .invokevirtual 546, 3), (7, .ifCond .eq 48, 3), (10, .aload_n 0, 1), (11, .getfield 10, 3), (14, .aload_n 0, 1), (15, .getfield 54, 3), (18, .getfield 389, 3), (21, .invokevirtual 549, 3), (24, .ifCond .eq 31, 3), (27, .aload_n 0, 1), (28, .invokevirtual 552, 3), (31, .ifCond .eq 24, 3), (34, .aload_n 0, 1), (35, .invokevirtual 555, 3), (38, .ifCond .eq 17, 3), (41, .aload_n 0, 1), (42, .getfield 68, 3), (45, .invokevirtual 558, 3), (48, .ifCond .eq 7, 3), (51, .iconst 1, 1), (52, .goto 4, 3), (55, .iconst 0, 1), (56, .ireturn, 1)]),
  (prog_1_method_50_code, [(0, .iload_n 0, 1), (1, .iload_n 1, 1), (2, .if_icmp .lt 12, 3), (5, .iload_n 0, 1), (6, .iload_n 2, 1), (7, .if_icmp .gt 7, 3), (10, .iconst 1, 1), (11, .goto 4, 3), (14, .iconst 0, 1), (15, .ireturn, 1)]),
  (prog_1_method_51_code, [(0, .iload_n 0, 1), (1, .bipush 102, 2), (3, .if_icmp .eq 15, 3), (6, .iload_n 0, 1), (7, .bipush 115, 2), (9, .if_icmp .eq 9, 3), (12, .iload_n 0, 1), (13, .bipush 100, 2), (15, .if_icmp .ne 7, 3), (18, .iconst 1, 1), (19, .goto 4, 3), (22, .iconst 0, 1), (23, .ireturn, 1)])]
noncomputable def a_prog_7 : List (ByteArray × List (Nat × Instr × Nat)) := [
  (prog_1_method_52_code, [(0, .iload_n 0, 1), (1, .bipush 119, 2), (3, .if_icmp .ne 5, 3), (6, .iconst 3, 1), (7, .ireturn, 1), (8, .iload_n 0, 1), (9, .bipush 108, 2), (11, .if_icmp .ne 5, 3), (14, .iconst 2, 1), (15, .ireturn, 1), (16, .iload_n 0, 1), (17, .bipush 116, 2), (19, .if_icmp .ne 5, 3), (22, .iconst 1, 1), (23, .ireturn, 1), (24, .iload_n 0, 1), (25, .bipush 45, 2), (27, .if_icmp .ne 7, 3), (30, .iconst 0, 1), (31, .goto 4, 3), (34, .iconst (-1), 1), (35, .ireturn, 1)]),
  (prog_1_method_53_code, [(0, .iload_n 0, 1), (1, .iconst 3, 1), (2, .if_icmp .ne 6, 3), (5, .bipush 119, 2), (7, .ireturn, 1), (8, .iload_n 0, 1), (9, .iconst 2, 1), (10, .if_icmp .ne 6, 3), (13, .bipush 108, 2), (15, .ireturn, 1), (16, .iload_n 0, 1), (17, .iconst 1, 1), (18, .if_icmp .ne 8, 3), (21, .bipush 116, 2), (23, .goto 5, 3), (26, .bipush 45, 2), (28, .ireturn, 1)]),
  (prog_1_method_54_code, [(0, .iload_n 0, 1), (1, .iconst 0, 1), (2, .iload_n 1, 1), (3, .iconst 1, 1), (4, .isub, 1), (5, .invokestatic 90, 3), (8, .ifCond .ne 14, 3), (11, .new 561, 3), (14, .dup, 1), (15, .ldc_w 563, 3), (18, .invokespecial 565, 3), (21, .athrow, 1), (22, .return_, 1)]),
  (prog_1_method_55_code, [(0, .iload_n 1, 1), (1, .aload_n 0, 1), (2, .getfield 31, 3), (5, .invokestatic 566, 3), (8, .return_, 1)]),
  (prog_1_method_56_code, [(0, .iload_n 1, 1), (1, .aload_n 0, 1), (2, .getfield 47, 3), (5, .getfield 114, 3), (8, .invokestatic 566, 3), (11, .return_, 1)]),
  (prog_1_method_57_code, [(0, .iload_n 1, 1), (1, .aload_n 0, 1), (2, .getfield 41, 3), (5, .invokestatic 566, 3), (8, .return_, 1)]),
  (prog_1_method_58_code, [(0, .iload_n 2, 1), (1, .aload_n 0, 1), (2, .getfield 37, 3), (5, .iload_n 1, 1), (6, .aaload, 1), (7, .getfield 427, 3), (10, .invokestatic 566, 3), (13, .return_, 1)]),
  (prog_1_method_59_code, [(0, .iload_n 1, 1), (1, .aload_n 0, 1), (2, .getfield 25, 3), (5, .getfield 249, 3), (8, .invokestatic 566, 3), (11, .return_, 1)]),
  (prog_1_method_60_code, [(0, .iload_n 1, 1), (1, .aload_n 0, 1), (2, .getfield 10, 3), (5, .getfield 295, 3), (8, .invokestatic 566, 3), (11, .return_, 1)]),
  (prog_1_method_61_code, [(0, .iload_n 1, 1), (1, .aload_n 0, 1), (2, .getfield 54, 3), (5, .getfield 389, 3), (8, .invokestatic 566, 3), (11, .return_, 1)]),
  (prog_1_method_62_code, [(0, .iload_n 1, 1), (1, .iconst 0, 1), (2, .bipush 49, 2), (4, .invokestatic 90, 3), (7, .ifCond .ne 14, 3), (10, .new 94, 3), (13, .dup, 1), (14, .ldc_w 569, 3), (17, .invokespecial 98, 3), (20, .athrow, 1), (21, .return_, 1)]),
  (prog_1_method_63_code, [(0, .iload_n 1, 1), (1, .istore 4, 2), (3, .iload 4, 2), (5, .ifCond .le 54, 3), (8, .aload_n 0, 1), (9, .getfield 82, 3), (12, .iload 4, 2), (14, .iconst 1, 1), (15, .isub, 1), (16, .iaload, 1), (17, .iload_n 3, 1), (18, .if_icmp .ge 41, 3), (21, .aload_n 0, 1), (22, .getfield 79, 3), (25, .iload 4, 2), (27, .aload_n 0, 1), (28, .getfield 79, 3), (31, .iload 4, 2), (33, .iconst 1, 1), (34, .isub, 1), (35, .iaload, 1), (36, .iastore, 1), (37, .aload_n 0, 1), (38, .getfield 82, 3), (41, .iload 4, 2), (43, .aload_n 0, 1), (44, .getfield 82, 3), (47, .iload 4, 2), (49, .iconst 1, 1), (50, .isub, 1), (51, .iaload, 1), (52, .iastore, 1), (53, .iinc 4 (-1), 3), (56, .goto (-53), 3), (59, .aload_n 0, 1), (60, .getfield 79, 3), (63, .iload 4, 2), (65, .iload_n 2, 1), (66, .iastore, 1), (67, .aload_n 0, 1), (68, .getfield 82, 3), (71, .iload 4, 2), (73, .iload_n 3, 1), (74, .iastore, 1), (75, .return_, 1)]),
  (prog_1_method_64_code, [(0, .iconst 0, 1), (1, .istore_n 1, 1), (2, .iconst 0, 1), (3, .istore_n 2, 1), (4, .iload_n 2, 1), (5, .aload_n 0, 1), (6, .getfield 31, 3), (9, .if_icmp .ge 37, 3), (12, .aload_n 0, 1), (13, .getfield 47, 3), (16, .iload_n 2, 1), (17, .invokevirtual 163, 3), (20, .ifCond .le 20, 3), (23, .aload_n 0, 1), (24, .iload_n 1, 1), (25, .iload_n 2, 1), (26, .aload_n 0, 1), (27, .getfield 47, 3), (30, .iload_n 2, 1), (31, .invokevirtual 176, 3), (34, .invokevirtual 571, 3), (37, .iinc 1 1, 3), (40, .iinc 2 1, 3), (43, .goto (-39), 3), (46, .iload_n 1, 1), (47, .ireturn, 1)]),
  (prog_1_method_65_code, [(0, .iconst 0, 1), (1, .istore_n 2, 1), (2, .iconst 0, 1), (3, .istore_n 3, 1), (4, .iload_n 3, 1), (5, .aload_n 0, 1), (6, .getfield 31, 3), (9, .if_icmp .ge 51, 3), (12, .aload_n 0, 1), (13, .getfield 20, 3), (16, .iload_n 3, 1), (17, .aaload, 1), (18, .getfield 230, 3), (21, .iload_n 1, 1), (22, .if_icmp .ne 32, 3), (25, .aload_n 0, 1), (26, .getfield 10, 3), (29, .iload_n 3, 1), (30, .invokevirtual 574, 3), (33, .ifCond .ne 21, 3), (36, .aload_n 0, 1), (37, .iload_n 2, 1), (38, .iload_n 3, 1), (39, .aload_n 0, 1), (40, .getfield 20, 3), (43, .iload_n 3, 1), (44, .aaload, 1), (45, .getfield 577, 3), (48, .invokevirtual 571, 3), (51, .iinc 2 1, 3), (54, .iinc 3 1, 3), (57, .goto (-53), 3), (60, .iload_n 2, 1), (61, .ireturn, 1)]),
  (prog_1_method_66_code, [(0, .aload_n 0, 1), (1, .getfield 20, 3), (4, .iload_n 1, 1), (5, .aaload, 1), (6, .astore 4, 2), (8, .aload_n 0, 1), (9, .getfield 37, 3), (12, .iload_n 3, 1), (13, .aaload, 1), (14, .astore 5, 2), (16, .aload 4, 2), (18, .getfield 230, 3), (21, .iconst (-1), 1), (22, .if_icmp .ne 105, 3), (25, .aload 4, 2), (27, .getfield 375, 3), (30, .ifCond .ne 97, 3), (33, .aload_n 0, 1), (34, .getfield 47, 3), (37, .iload_n 1, 1), (38, .invokevirtual 179, 3), (41, .bipush 30, 2), (43, .if_icmp .gt 84, 3), (46, .aload 5, 2), (48, .getfield 580, 3), (51, .bipush 45, 2), (53, .if_icmp .eq 16, 3), (56, .aload 5, 2), (58, .getfield 580, 3), (61, .aload 4, 2), (63, .getfield 583, 3), (66, .if_icmp .ne 61, 3), (69, .iload_n 2, 1), (70, .aload 5, 2), (72, .getfield 584, 3), (75, .if_icmp .lt 52, 3), (78, .aload 4, 2), (80, .getfield 188, 3), (83, .aload 5, 2), (85, .getfield 218, 3), (88, .if_icmp .lt 39, 3), (91, .aload_n 0, 1), (92, .iload_n 3, 1), (93, .invokevirtual 587, 3), (96, .aload 5, 2), (98, .getfield 590, 3), (101, .if_icmp .ge 26, 3), (104, .aload_n 0, 1), (105, .iload_n 3, 1), (106, .invokevirtual 235, 3), (109, .aload 4, 2), (111, .getfield 577, 3), (114, .iadd, 1), (115, .aload 5, 2), (117, .getfield 593, 3), (120, .if_icmp .gt 7, 3), (123, .iconst 1, 1), (124, .goto 4, 3), (127, .iconst 0, 1), (128, .ireturn, 1)]),
  (prog_1_method_67_code, [(0, .iconst 0, 1), (1, .istore_n 2, 1), (2, .iconst 0, 1), (3, .istore_n 3, 1), (4, .iload_n 3, 1), (5, .aload_n 0, 1), (6, .getfield 31, 3), (9, .if_icmp .ge 25, 3), (12, .aload_n 0, 1), (13, .getfield 20, 3), (16, .iload_n 3, 1), (17, .aaload, 1), (18, .getfield 230, 3), (21, .iload_n 1, 1), (22, .if_icmp .ne 6, 3), (25, .iinc 2 1, 3), (28, .iinc 3 1, 3), (31, .goto (-27), 3), (34, .iload_n 2, 1), (35, .ireturn, 1)]),
  (prog_1_method_68_code, [(0, .iconst 0, 1), (1, .istore_n 2, 1), (2, .iconst 0, 1), (3, .istore_n 3, 1), (4, .iload_n 3, 1), (5, .aload_n 0, 1), (6, .getfield 31, 3), (9, .if_icmp .ge 34, 3), (12, .aload_n 0, 1), (13, .getfield 20, 3), (16, .iload_n 3, 1), (17, .aaload, 1), (18, .getfield 230, 3), (21, .iload_n 1, 1), (22, .if_icmp .ne 15, 3), (25, .iload_n 2, 1), (26, .aload_n 0, 1), (27, .getfield 20, 3), (30, .iload_n 3, 1), (31, .aaload, 1), (32, .getfield 577, 3), (35, .iadd, 1), (36, .istore_n 2, 1), (37, .iinc 3 1, 3), (40, .goto (-36), 3), (43, .iload_n 2, 1), (44, .ireturn, 1)]),
  (prog_1_method_69_code, [(0, .iconst 0, 1), (1, .istore_n 3, 1), (2, .iconst 0, 1), (3, .istore 4, 2), (5, .iload 4, 2), (7, .aload_n 0, 1), (8, .getfield 31, 3), (11, .if_icmp .ge 36, 3), (14, .aload_n 0, 1), (15, .getfield 20, 3), (18, .iload 4, 2), (20, .aaload, 1), (21, .getfield 230, 3), (24, .iload_n 1, 1), (25, .if_icmp .ne 16, 3), (28, .aload_n 2, 1), (29, .getfield 596, 3), (32, .iload 4, 2), (34, .baload, 1), (35, .ifCond .eq 6, 3), (38, .iinc 3 1, 3), (41, .iinc 4 1, 3), (44, .goto (-39), 3), (47, .iload_n 3, 1), (48, .ireturn, 1)]),
  (prog_1_method_70_code, [(0, .iconst 0, 1), (1, .istore_n 2, 1), (2, .iload_n 2, 1), (3, .aload_n 0, 1), (4, .getfield 76, 3), (7, .if_icmp .ge 21, 3), (10, .aload_n 0, 1), (11, .getfield 72, 3), (14, .iload_n 2, 1), (15, .iaload, 1), (16, .iload_n 1, 1), (17, .if_icmp .ne 5, 3), (20, .iconst 1, 1), (21, .ireturn, 1), (22, .iinc 2 1, 3), (25, .goto (-23), 3), (28, .iconst 0, 1), (29, .ireturn, 1)]),
  (prog_1_method_71_code, [(0, .iconst 0, 1), (1, .istore_n 3, 1), (2, .iconst 0, 1), (3, .istore 4, 2), (5, .iload 4, 2), (7, .aload_n 0, 1), (8, .getfield 31, 3), (11, .if_icmp .ge 64, 3), (14, .aload_n 0, 1), (15, .getfield 20, 3), (18, .iload 4, 2), (20, .aaload, 1), (21, .getfield 230, 3), (24, .iload_n 1, 1), (25, .if_icmp .ne 44, 3), (28, .aload_n 0, 1), (29, .getfield 20, 3), (32, .iload 4, 2), (34, .aaload, 1), (35, .getfield 129, 3), (38, .aload_n 2, 1), (39, .getfield 599, 3), (42, .if_icmp .eq 27, 3), (45, .iinc 3 1, 3), (48, .aload_n 2, 1), (49, .getfield 596, 3), (52, .iload 4, 2), (54, .baload, 1), (55, .ifCond .eq 12, 3), (58, .aload_n 0, 1), (59, .iload 4, 2), (61, .invokevirtual 600, 3), (64, .ifCond .ne 5, 3), (67, .iconst 0, 1), (68, .ireturn, 1), (69, .iinc 4 1, 3), (72, .goto (-67), 3), (75, .iload_n 3, 1), (76, .ifCond .le 15, 3), (79, .iload_n 3, 1), (80, .aload_n 0, 1), (81, .getfield 76, 3), (84, .if_icmp .ne 7, 3), (87, .iconst 1, 1), (88, .goto 4, 3), (91, .iconst 0, 1), (92, .ireturn, 1)])]
noncomputable def a_prog_8 : List (ByteArray × List (Nat × Instr × Nat)) := [
  (prog_1_method_72_code, [(0, .iconst 0, 1), (1, .istore_n 1, 1), (2, .iload_n 1, 1), (3, .aload_n 0, 1), (4, .getfield 41, 3), (7, .if_icmp .ge 45, 3), (10, .aload_n 0, 1), (11, .iload_n 1, 1), (12, .invokevirtual 587, 3), (15, .aload_n 0, 1), (16, .getfield 37, 3), (19, .iload_n 1, 1), (20, .aaload, 1), (21, .getfield 590, 3), (24, .if_icmp .gt 20, 3), (27, .aload_n 0, 1), (28, .iload_n 1, 1), (29, .invokevirtual 235, 3), (32, .aload_n 0, 1), (33, .getfield 37, 3), (36, .iload_n 1, 1), (37, .aaload, 1), (38, .getfield 593, 3), (41, .if_icmp .le 5, 3), (44, .iconst 0, 1), (45, .ireturn, 1), (46, .iinc 1 1, 3), (49, .goto (-47), 3), (52, .iconst 1, 1), (53, .ireturn, 1)]),
  (prog_1_method_73_code, [(0, .iconst 0, 1), (1, .istore_n 1, 1), (2, .iload_n 1, 1), (3, .aload_n 0, 1), (4, .getfield 41, 3), (7, .if_icmp .ge 48, 3), (10, .aload_n 0, 1), (11, .getfield 61, 3), (14, .aload_n 0, 1), (15, .getfield 20, 3), (18, .aload_n 0, 1), (19, .getfield 37, 3), (22, .iload_n 1, 1), (23, .aaload, 1), (24, .invokevirtual 477, 3), (27, .aload_n 0, 1), (28, .getfield 61, 3), (31, .aload_n 0, 1), (32, .getfield 20, 3), (35, .aload_n 0, 1), (36, .getfield 37, 3), (39, .iload_n 1, 1), (40, .aaload, 1), (41, .invokevirtual 603, 3), (44, .if_icmp .eq 5, 3), (47, .iconst 0, 1), (48, .ireturn, 1), (49, .iinc 1 1, 3), (52, .goto (-50), 3), (55, .iconst 1, 1), (56, .ireturn, 1)]),
  (prog_14_method_1_code, [(0, .aload_n 0, 1), (1, .invokespecial 1, 3), (4, .aload_n 0, 1), (5, .bipush 20, 2), (7, .newarray .char, 2), (9, .putfield 9, 3), (12, .aload_n 0, 1), (13, .bipush 20, 2), (15, .newarray .int, 2), (17, .putfield 13, 3), (20, .aload_n 0, 1), (21, .bipush 20, 2), (23, .newarray .int, 2), (25, .putfield 17, 3), (28, .aload_n 0, 1), (29, .bipush 20, 2), (31, .newarray .int, 2), (33, .putfield 20, 3), (36, .aload_n 0, 1), (37, .bipush 20, 2), (39, .newarray .int, 2), (41, .putfield 23, 3), (44, .aload_n 0, 1), (45, .bipush 20, 2), (47, .newarray .int, 2), (49, .putfield 26, 3), (52, .aload_n 0, 1), (53, .bipush 20, 2), (55, .newarray .boolean, 2), (57, .putfield 29, 3), (60, .aload_n 0, 1), (61, .bipush 20, 2), (63, .newarray .char, 2), (65, .putfield 33, 3), (68, .aload_n 0, 1), (69, .bipush 20, 2), (71, .newarray .int, 2), (73, .putfield 36, 3), (76, .aload_n 0, 1), (77, .bipush 8, 2), (79, .newarray .int, 2), (81, .putfield 39, 3), (84, .aload_n 0, 1), (85, .bipush 8, 2), (87, .newarray .int, 2), (89, .putfield 42, 3), (92, .aload_n 0, 1), (93, .bipush 20, 2), (95, .bipush 8, 2), (97, .multianewarray 45 2, 4), (101, .putfield 47, 3), (104, .aload_n 0, 1), (105, .bipush 20, 2), (107, .bipush 8, 2), (109, .multianewarray 50 2, 4), (113, .putfield 52, 3), (116, .aload_n 0, 1), (117, .iconst 5, 1), (118, .newarray .int, 2), (120, .putfield 55, 3), (123, .aload_n 0, 1), (124, .iconst 5, 1), (125, .newarray .int, 2), (127, .putfield 58, 3), (130, .aload_n 0, 1), (131, .iconst 5, 1), (132, .newarray .int, 2), (134, .putfield 61, 3), (137, .aload_n 0, 1), (138, .iconst 5, 1), (139, .newarray .char, 2), (141, .putfield 64, 3), (144, .aload_n 0, 1), (145, .iconst 5, 1), (146, .newarray .int, 2), (148, .putfield 67, 3), (151, .aload_n 0, 1), (152, .iconst 5, 1), (153, .newarray .char, 2), (155, .putfield 70, 3), (158, .aload_n 0, 1), (159, .iconst 5, 1), (160, .newarray .boolean, 2), (162, .putfield 73, 3), (165, .aload_n 0, 1), (166, .iconst 4, 1), (167, .newarray .int, 2), (169, .putfield 76, 3), (172, .aload_n 0, 1), (173, .iconst 4, 1), (174, .newarray .boolean, 2), (176, .putfield 79, 3), (179, .aload_n 0, 1), (180, .bipush 60, 2), (182, .iconst 4, 1), (183, .multianewarray 50 2, 4), (187, .putfield 82, 3), (190, .aload_n 0, 1), (191, .bipush 60, 2), (193, .newarray .int, 2), (195, .putfield 85, 3), (198, .aload_n 0, 1), (199, .bipush 60, 2), (201, .newarray .int, 2), (203, .putfield 88, 3), (206, .aload_n 0, 1), (207, .bipush 60, 2), (209, .newarray .int, 2), (211, .putfield 91, 3), (214, .aload_n 0, 1), (215, .bipush 60, 2), (217, .newarray .char, 2), (219, .putfield 94, 3), (222, .aload_n 0, 1), (223, .bipush 60, 2), (225, .newarray .boolean, 2), (227, .putfield 97, 3), (230, .aload_n 0, 1), (231, .bipush 60, 2), (233, .bipush 16, 2), (235, .multianewarray 50 2, 4), (239, .putfield 100, 3), (242, .aload_n 0, 1), (243, .bipush 60, 2), (245, .newarray .int, 2), (247, .putfield 103, 3), (250, .aload_n 0, 1), (251, .bipush 60, 2), (253, .bipush 16, 2), (255, .multianewarray 45 2, 4), (259, .putfield 106, 3), (262, .aload_n 0, 1), (263, .bipush 10, 2), (265, .newarray .boolean, 2), (267, .putfield 109, 3), (270, .aload_n 0, 1), (271, .bipush 16, 2), (273, .newarray .int, 2), (275, .putfield 112, 3), (278, .aload_n 0, 1), (279, .iconst 5, 1), (280, .newarray .int, 2), (282, .putfield 115, 3), (285, .aload_n 0, 1), (286, .iconst 5, 1), (287, .iconst 5, 1), (288, .multianewarray 50 2, 4), (292, .putfield 118, 3), (295, .aload_n 0, 1), (296, .iconst 5, 1), (297, .iconst 5, 1), (298, .bipush 20, 2), (300, .multianewarray 121 3, 4), (304, .putfield 123, 3), (307, .aload_n 0, 1), (308, .iconst 5, 1), (309, .iconst 5, 1), (310, .bipush 51, 2), (312, .multianewarray 126 3, 4), (316, .putfield 128, 3), (319, .aload_n 0, 1), (320, .iconst 5, 1), (321, .iconst 5, 1), (322, .multianewarray 50 2, 4), (326, .putfield 131, 3), (329, .aload_n 0, 1), (330, .iconst 5, 1), (331, .iconst 5, 1), (332, .bipush 9, 2), (334, .multianewarray 126 3, 4), (338, .putfield 134, 3), (341, .aload_n 0, 1), (342, .bipush 9, 2), (344, .newarray .int, 2), (346, .putfield 137, 3), (349, .aload_n 0, 1), (350, .bipush 40, 2), (352, .iconst 5, 1), (353, .multianewarray 50 2, 4), (357, .putfield 140, 3), (360, .aload_n 0, 1), (361, .sipush 400, 3), (364, .newarray .char, 2), (366, .putfield 143, 3), (369, .aload_n 0, 1), (370, .sipush 400, 3), (373, .newarray .int, 2), (375, .putfield 146, 3), (378, .aload_n 0, 1), (379, .bipush 20, 2), (381, .newarray .boolean, 2), (383, .putfield 149, 3), (386, .return_, 1)]),
  (prog_14_method_3_code, [(0, .aload_n 0, 1), (1, .iload_n 1, 1), (2, .ifCond .eq 7, 3), (5, .iload_n 2, 1), (6, .goto 4, 3), (9, .iconst 0, 1), (10, .putfield 152, 3), (13, .iload_n 1, 1), (14, .ireturn, 1)]),
  (prog_14_method_4_code, [(0, .iload_n 0, 1), (1, .iload_n 1, 1), (2, .if_icmp .lt 12, 3), (5, .iload_n 0, 1), (6, .iload_n 2, 1), (7, .if_icmp .gt 7, 3), (10, .iconst 1, 1), (11, .goto 4, 3), (14, .iconst 0, 1), (15, .ireturn, 1)]),
  (prog_14_method_5_code, [(0, .iload_n 0, 1), (1, .bipush 102, 2), (3, .if_icmp .eq 15, 3), (6, .iload_n 0, 1), (7, .bipush 115, 2), (9, .if_icmp .eq 9, 3), (12, .iload_n 0, 1), (13, .bipush 100, 2), (15, .if_icmp .ne 7, 3), (18, .iconst 1, 1), (19, .goto 4, 3), (22, .iconst 0, 1), (23, .ireturn, 1)]),
  (prog_14_method_6_code, [(0, .iload_n 1, 1), (1, .iconst 0, 1), (2, .aload_n 0, 1), (3, .getfield 156, 3), (6, .iconst 1, 1), (7, .isub, 1), (8, .invokestatic 159, 3), (11, .ifCond .ne 7, 3), (14, .iconst 1, 1), (15, .goto 4, 3), (18, .iconst 0, 1), (19, .ireturn, 1)]),
  (prog_14_method_7_code, [(0, .aload_n 0, 1), (1, .getfield 163, 3), (4, .sipush 400, 3), (7, .if_icmp .ne 45, 3), (10, .aload_n 0, 1), (11, .getfield 143, 3), (14, .iconst 1, 1), (15, .aload_n 0, 1), (16, .getfield 143, 3), (19, .iconst 0, 1), (20, .sipush 399, 3), (23, .invokestatic 166, 3), (26, .aload_n 0, 1), (27, .getfield 146, 3), (30, .iconst 1, 1), (31, .aload_n 0, 1), (32, .getfield 146, 3), (35, .iconst 0, 1), (36, .sipush 399, 3), (39, .invokestatic 166, 3), (42, .aload_n 0, 1), (43, .dup, 1), (44, .getfield 163, 3), (47, .iconst 1, 1), (48, .isub, 1), (49, .putfield 163, 3), (52, .aload_n 0, 1), (53, .getfield 143, 3), (56, .aload_n 0, 1), (57, .getfield 163, 3), (60, .iload_n 1, 1), (61, .castore, 1), (62, .aload_n 0, 1), (63, .getfield 146, 3), (66, .aload_n 0, 1), (67, .getfield 163, 3), (70, .iload_n 2, 1), (71, .iastore, 1), (72, .aload_n 0, 1), (73, .dup, 1), (74, .getfield 163, 3), (77, .iconst 1, 1), (78, .iadd, 1), (79, .putfield 163, 3), (82, .return_, 1)]),
  (prog_14_method_8_code, [(0, .aload_n 0, 1), (1, .iload_n 1, 1), (2, .invokestatic 172, 3), (5, .ifCond .eq 24, 3), (8, .iload_n 2, 1), (9, .iconst 1, 1), (10, .sipush 300, 3), (13, .invokestatic 159, 3), (16, .ifCond .eq 13, 3), (19, .iload_n 3, 1), (20, .iconst 0, 1), (21, .bipush 9, 2), (23, .invokestatic 159, 3), (26, .ifCond .ne 7, 3), (29, .iconst 1, 1), (30, .goto 4, 3), (33, .iconst 0, 1), (34, .iconst 1, 1), (35, .invokevirtual 176, 3), (38, .ifCond .ne 25, 3), (41, .aload_n 0, 1), (42, .aload_n 0, 1), (43, .getfield 156, 3), (46, .bipush 20, 2), (48, .if_icmp .ne 7, 3), (51, .iconst 1, 1), (52, .goto 4, 3), (55, .iconst 0, 1), (56, .iconst 2, 1), (57, .invokevirtual 176, 3), (60, .ifCond .eq 5, 3), (63, .iconst 0, 1), (64, .ireturn, 1), (65, .aload_n 0, 1), (66, .getfield 9, 3), (69, .aload_n 0, 1), (70, .getfield 156, 3), (73, .iload_n 1, 1), (74, .castore, 1), (75, .aload_n 0, 1), (76, .getfield 13, 3), (79, .aload_n 0, 1), (80, .getfield 156, 3), (83, .iload_n 2, 1), (84, .iastore, 1), (85, .aload_n 0, 1), (86, .getfield 17, 3), (89, .aload_n 0, 1), (90, .getfield 156, 3), (93, .iload_n 3, 1), (94, .iastore, 1), (95, .aload_n 0, 1), (96, .getfield 20, 3), (99, .aload_n 0, 1), (100, .getfield 156, 3), (103, .iconst 3, 1), (104, .iastore, 1), (105, .aload_n 0, 1), (106, .getfield 23, 3), (109, .aload_n 0, 1), (110, .getfield 156, 3), (113, .iconst (-1), 1), (114, .iastore, 1), (115, .iconst 0, 1), (116, .istore 4, 2), (118, .iload 4, 2), (120, .bipush 8, 2), (122, .if_icmp .ge 22, 3), (125, .aload_n 0, 1), (126, .getfield 52, 3), (129, .aload_n 0, 1), (130, .getfield 156, 3), (133, .aaload, 1), (134, .iload 4, 2), (136, .iconst (-1), 1), (137, .iastore, 1), (138, .iinc 4 1, 3), (141, .goto (-23), 3), (144, .aload_n 0, 1), (145, .dup, 1), (146, .getfield 156, 3), (149, .iconst 1, 1), (150, .iadd, 1), (151, .putfield 156, 3), (154, .aload_n 0, 1), (155, .getfield 156, 3), (158, .iconst 1, 1), (159, .isub, 1), (160, .ireturn, 1)]),
  (prog_14_method_9_code, [(0, .aload_n 0, 1), (1, .iload_n 1, 1), (2, .iconst 0, 1), (3, .bipush 9, 2), (5, .invokestatic 159, 3), (8, .ifCond .ne 7, 3), (11, .iconst 1, 1), (12, .goto 4, 3), (15, .iconst 0, 1), (16, .iconst 1, 1), (17, .invokevirtual 176, 3), (20, .ifCond .ne 25, 3), (23, .aload_n 0, 1), (24, .aload_n 0, 1), (25, .getfield 180, 3), (28, .bipush 8, 2), (30, .if_icmp .ne 7, 3), (33, .iconst 1, 1), (34, .goto 4, 3), (37, .iconst 0, 1), (38, .iconst 2, 1), (39, .invokevirtual 176, 3), (42, .ifCond .eq 5, 3), (45, .iconst 0, 1), (46, .ireturn, 1), (47, .aload_n 0, 1), (48, .getfield 39, 3), (51, .aload_n 0, 1), (52, .getfield 180, 3), (55, .iload_n 1, 1), (56, .iastore, 1), (57, .aload_n 0, 1), (58, .dup, 1), (59, .getfield 180, 3), (62, .iconst 1, 1), (63, .iadd, 1), (64, .putfield 180, 3), (67, .aload_n 0, 1), (68, .getfield 180, 3), (71, .iconst 1, 1), (72, .isub, 1), (73, .ireturn, 1)]),
  (prog_14_method_10_code, [(0, .aload_n 0, 1), (1, .getfield 39, 3), (4, .iload_n 2, 1), (5, .iaload, 1), (6, .aload_n 0, 1), (7, .getfield 17, 3), (10, .iload_n 1, 1), (11, .iaload, 1), (12, .if_icmp .eq 18, 3), (15, .aload_n 0, 1), (16, .getfield 47, 3), (19, .iload_n 1, 1), (20, .aaload, 1), (21, .iload_n 2, 1), (22, .baload, 1), (23, .ifCond .ne 7, 3), (26, .iconst 1, 1), (27, .goto 4, 3), (30, .iconst 0, 1), (31, .ireturn, 1)]),
  (prog_14_method_11_code, [(0, .aload_n 0, 1), (1, .aload_n 0, 1), (2, .iload_n 1, 1), (3, .invokevirtual 183, 3), (6, .iconst 1, 1), (7, .invokevirtual 176, 3), (10, .ifCond .ne 26, 3), (13, .aload_n 0, 1), (14, .iload_n 2, 1), (15, .iconst 1, 1), (16, .bipush 8, 2), (18, .invokestatic 159, 3), (21, .ifCond .ne 7, 3), (24, .iconst 1, 1), (25, .goto 4, 3), (28, .iconst 0, 1), (29, .iconst 2, 1), (30, .invokevirtual 176, 3), (33, .ifCond .eq 5, 3), (36, .iconst 0, 1), (37, .ireturn, 1), (38, .iconst 0, 1), (39, .istore_n 3, 1), (40, .iconst 0, 1), (41, .istore 4, 2), (43, .iload 4, 2), (45, .aload_n 0, 1), (46, .getfield 180, 3), (49, .if_icmp .ge 27, 3), (52, .iload_n 3, 1), (53, .aload_n 0, 1), (54, .iload_n 1, 1), (55, .iload 4, 2), (57, .invokevirtual 187, 3), (60, .ifCond .eq 7, 3), (63, .iconst 1, 1), (64, .goto 4, 3), (67, .iconst 0, 1), (68, .iadd, 1), (69, .istore_n 3, 1), (70, .iinc 4 1, 3), (73, .goto (-30), 3), (76, .aload_n 0, 1), (77, .iload_n 3, 1), (78, .iload_n 2, 1), (79, .if_icmp .ge 7, 3), (82, .iconst 1, 1), (83, .goto 4, 3), (86, .iconst 0, 1), (87, .iconst 3, 1), (88, .invokevirtual 176, 3), (91, .ifCond .eq 5, 3), (94, .iconst 0, 1), (95, .ireturn, 1), (96, .iconst 0, 1), (97, .istore 4, 2), (99, .iload 4, 2), (101, .iload_n 2, 1), (102, .if_icmp .ge 92, 3), (105, .iconst (-1), 1), (106, .istore 5, 2), (108, .iconst 0, 1), (109, .istore 6, 2), (111, .iload 6, 2), (113, .aload_n 0, 1), (114, .getfield 180, 3), (117, .if_icmp .ge 50, 3), (120, .aload_n 0, 1), (121, .iload_n 1, 1), (122, .iload 6, 2), (124, .invokevirtual 187, 3), (127, .ifCond .eq 30, 3), (130, .iload 5, 2), (132, .ifCond .lt 20, 3), (135, .aload_n 0, 1), (136, .getfield 42, 3), (139, .iload 6, 2), (141, .iaload, 1), (142, .aload_n 0, 1), (143, .getfield 42, 3), (146, .iload 5, 2), (148, .iaload, 1), (149, .if_icmp .ge 8, 3), (152, .iload 6, 2), (154, .goto 5, 3), (157, .iload 5, 2), (159, .istore 5, 2), (161, .iinc 6 1, 3), (164, .goto (-53), 3), (167, .aload_n 0, 1), (168, .getfield 47, 3), (171, .iload_n 1, 1), (172, .aaload, 1), (173, .iload 5, 2), (175, .iconst 1, 1), (176, .bastore, 1), (177, .aload_n 0, 1), (178, .getfield 42, 3), (181, .iload 5, 2), (183, .dup2, 1), (184, .iaload, 1), (185, .iconst 1, 1), (186, .iadd, 1), (187, .iastore, 1), (188, .iinc 4 1, 3), (191, .goto (-92), 3), (194, .iconst 0, 1), (195, .istore 4, 2), (197, .iconst 0, 1), (198, .istore 5, 2), (200, .iload 5, 2), (202, .aload_n 0, 1), (203, .getfield 180, 3), (206, .if_icmp .ge 31, 3), (209, .iload 4, 2), (211, .aload_n 0, 1), (212, .getfield 47, 3), (215, .iload_n 1, 1), (216, .aaload, 1), (217, .iload 5, 2), (219, .baload, 1), (220, .ifCond .eq 7, 3), (223, .iconst 1, 1), (224, .goto 4, 3), (227, .iconst 0, 1), (228, .iadd, 1), (229, .istore 4, 2), (231, .iinc 5 1, 3), (234, .goto (-34), 3), (237, .iload 4, 2), (239, .ireturn, 1)]),
  (prog_14_method_12_code, [(0, .aload_n 0, 1), (1, .aload_n 0, 1), (2, .iload_n 1, 1), (3, .invokevirtual 183, 3), (6, .ifCond .ne 17, 3), (9, .iload_n 2, 1), (10, .iconst 0, 1), (11, .aload_n 0, 1), (12, .getfield 180, 3), (15, .iconst 1, 1), (16, .isub, 1), (17, .invokestatic 159, 3), (20, .ifCond .ne 7, 3), (23, .iconst 1, 1), (24, .goto 4, 3), (27, .iconst 0, 1), (28, .iconst 1, 1), (29, .invokevirtual 176, 3), (32, .ireturn, 1)]),
  (prog_14_method_13_code, [(0, .aload_n 0, 1), (1, .iload_n 1, 1), (2, .iload_n 2, 1), (3, .invokevirtual 191, 3), (6, .ifCond .ne 18, 3), (9, .aload_n 0, 1), (10, .getfield 47, 3), (13, .iload_n 1, 1), (14, .aaload, 1), (15, .iload_n 2, 1), (16, .baload, 1), (17, .ifCond .eq 7, 3), (20, .iconst 1, 1), (21, .goto 4, 3), (24, .iconst 0, 1), (25, .ireturn, 1)]),
  (prog_14_method_14_code, [(0, .iconst 0, 1), (1, .istore_n 2, 1), (2, .iconst 0, 1), (3, .istore_n 3, 1), (4, .iload_n 3, 1), (5, .aload_n 0, 1), (6, .getfield 180, 3), (9, .if_icmp .ge 28, 3), (12, .iload_n 2, 1), (13, .aload_n 0, 1), (14, .getfield 52, 3), (17, .iload_n 1, 1), (18, .aaload, 1), (19, .iload_n 3, 1), (20, .iaload, 1), (21, .ifCond .lt 7, 3), (24, .iconst 1, 1), (25, .goto 4, 3), (28, .iconst 0, 1), (29, .iadd, 1), (30, .istore_n 2, 1), (31, .iinc 3 1, 3), (34, .goto (-30), 3), (37, .iload_n 2, 1), (38, .ireturn, 1)]),
  (prog_14_method_15_code, [(0, .aload_n 0, 1), (1, .iload_n 1, 1), (2, .iload_n 2, 1), (3, .invokevirtual 191, 3), (6, .ifCond .ne 61, 3), (9, .aload_n 0, 1), (10, .iload_n 3, 1), (11, .iconst 0, 1), (12, .bipush 100, 2), (14, .invokestatic 159, 3), (17, .ifCond .ne 7, 3), (20, .iconst 1, 1), (21, .goto 4, 3), (24, .iconst 0, 1), (25, .iconst 2, 1), (26, .invokevirtual 176, 3), (29, .ifCond .ne 38, 3), (32, .aload_n 0, 1), (33, .aload_n 0, 1), (34, .getfield 47, 3), (37, .iload_n 1, 1), (38, .aaload, 1), (39, .iload_n 2, 1), (40, .baload, 1), (41, .ifCond .eq 14, 3), (44, .aload_n 0, 1), (45, .getfield 52, 3), (48, .iload_n 1, 1), (49, .aaload, 1), (50, .iload_n 2, 1), (51, .iaload, 1), (52, .ifCond .lt 7, 3), (55, .iconst 1, 1), (56, .goto 4, 3), (59, .iconst 0, 1), (60, .iconst 3, 1), (61, .invokevirtual 176, 3), (64, .ifCond .eq 5, 3), (67, .iconst 0, 1), (68, .ireturn, 1), (69, .aload_n 0, 1), (70, .getfield 52, 3), (73, .iload_n 1, 1), (74, .aaload, 1), (75, .iload_n 2, 1), (76, .iload_n 3, 1), (77, .iastore, 1), (78, .aload_n 0, 1), (79, .iload_n 1, 1), (80, .invokevirtual 194, 3), (83, .ireturn, 1)]),
  (prog_14_method_16_code, [(0, .iconst 0, 1), (1, .istore_n 3, 1), (2, .iconst 0, 1), (3, .istore 4, 2), (5, .iconst 0, 1), (6, .istore 5, 2), (8, .iload 5, 2), (10, .aload_n 0, 1), (11, .getfield 156, 3), (14, .if_icmp .ge 47, 3), (17, .iload_n 3, 1), (18, .iconst 0, 1), (19, .aload_n 0, 1), (20, .getfield 52, 3), (23, .iload 5, 2), (25, .aaload, 1), (26, .iload_n 2, 1), (27, .iaload, 1), (28, .invokestatic 198, 3), (31, .iadd, 1), (32, .istore_n 3, 1), (33, .iload 4, 2), (35, .aload_n 0, 1), (36, .getfield 52, 3), (39, .iload 5, 2), (41, .aaload, 1), (42, .iload_n 2, 1), (43, .iaload, 1), (44, .ifCond .lt 7, 3), (47, .iconst 1, 1), (48, .goto 4, 3), (51, .iconst 0, 1), (52, .iadd, 1), (53, .istore 4, 2), (55, .iinc 5 1, 3), (58, .goto (-50), 3), (61, .aload_n 0, 1), (62, .getfield 52, 3), (65, .iload_n 1, 1), (66, .aaload, 1), (67, .iload_n 2, 1), (68, .iaload, 1), (69, .iload_n 3, 1), (70, .iload 4, 2), (72, .idiv, 1), (73, .isub, 1), (74, .bipush 50, 2), (76, .iadd, 1), (77, .ireturn, 1)]),
  (prog_14_method_17_code, [(0, .aload_n 0, 1), (1, .iload_n 1, 1), (2, .iload_n 2, 1), (3, .invokevirtual 191, 3), (6, .ifCond .ne 27, 3), (9, .aload_n 0, 1), (10, .aload_n 0, 1), (11, .getfield 52, 3), (14, .iload_n 1, 1), (15, .aaload, 1), (16, .iload_n 2, 1), (17, .iaload, 1), (18, .ifCond .ge 7, 3), (21, .iconst 1, 1), (22, .goto 4, 3), (25, .iconst 0, 1), (26, .iconst 2, 1), (27, .invokevirtual 176, 3), (30, .ifCond .eq 7, 3), (33, .iconst 0, 1), (34, .goto 9, 3), (37, .aload_n 0, 1), (38, .iload_n 1, 1), (39, .iload_n 2, 1), (40, .invokevirtual 204, 3), (43, .ireturn, 1)]),
  (prog_14_method_18_code, [(0, .iconst 0, 1), (1, .istore_n 2, 1), (2, .iconst 0, 1), (3, .istore_n 3, 1), (4, .iload_n 3, 1), (5, .aload_n 0, 1), (6, .getfield 180, 3), (9, .if_icmp .ge 33, 3), (12, .iload_n 2, 1), (13, .aload_n 0, 1), (14, .getfield 52, 3), (17, .iload_n 1, 1), (18, .aaload, 1), (19, .iload_n 3, 1), (20, .iaload, 1), (21, .ifCond .lt 12, 3), (24, .aload_n 0, 1), (25, .iload_n 1, 1), (26, .iload_n 3, 1), (27, .invokevirtual 204, 3), (30, .goto 4, 3), (33, .iconst 0, 1), (34, .iadd, 1), (35, .istore_n 2, 1), (36, .iinc 3 1, 3), (39, .goto (-35), 3), (42, .iload_n 2, 1), (43, .aload_n 0, 1), (44, .iload_n 1, 1), (45, .invokevirtual 194, 3), (48, .idiv, 1), (49, .ireturn, 1)]),
  (prog_14_method_19_code, [(0, .aload_n 0, 1), (1, .aload_n 0, 1), (2, .iload_n 1, 1), (3, .invokevirtual 183, 3), (6, .iconst 1, 1), (7, .invokevirtual 176, 3), (10, .ifCond .ne 24, 3), (13, .aload_n 0, 1), (14, .aload_n 0, 1), (15, .iload_n 1, 1), (16, .invokevirtual 194, 3), (19, .ifCond .ne 7, 3), (22, .iconst 1, 1), (23, .goto 4, 3), (26, .iconst 0, 1), (27, .iconst 2, 1), (28, .invokevirtual 176, 3), (31, .ifCond .eq 7, 3), (34, .iconst 0, 1), (35, .goto 8, 3), (38, .aload_n 0, 1), (39, .iload_n 1, 1), (40, .invokevirtual 207, 3), (43, .ireturn, 1)])]
noncomputable def a_prog_9 : List (ByteArray × List (Nat × Instr × Nat)) := [
  (prog_14_method_20_code, [(0, .ldc 212, 2), (2, .istore_n 2, 1), (3, .ldc 213, 2), (5, .istore_n 3, 1), (6, .iconst 0, 1), (7, .istore 4, 2), (9, .iload 4, 2), (11, .aload_n 0, 1), (12, .getfield 180, 3), (15, .if_icmp .ge 45, 3), (18, .aload_n 0, 1), (19, .getfield 52, 3), (22, .iload_n 1, 1), (23, .aaload, 1), (24, .iload 4, 2), (26, .iaload, 1), (27, .ifCond .lt 27, 3), (30, .iload_n 2, 1), (31, .aload_n 0, 1), (32, .iload_n 1, 1), (33, .iload 4, 2), (35, .invokevirtual 204, 3), (38, .invokestatic 214, 3), (41, .istore_n 2, 1), (42, .iload_n 3, 1), (43, .aload_n 0, 1), (44, .iload_n 1, 1), (45, .iload 4, 2), (47, .invokevirtual 204, 3), (50, .invokestatic 198, 3), (53, .istore_n 3, 1), (54, .iinc 4 1, 3), (57, .goto (-48), 3), (60, .aload_n 0, 1), (61, .iload_n 1, 1), (62, .invokevirtual 194, 3), (65, .ifCond .le 15, 3), (68, .iload_n 3, 1), (69, .iload_n 2, 1), (70, .isub, 1), (71, .bipush 30, 2), (73, .if_icmp .le 7, 3), (76, .iconst 1, 1), (77, .goto 4, 3), (80, .iconst 0, 1), (81, .ireturn, 1)]),
  (prog_14_method_21_code, [(0, .aload_n 0, 1), (1, .aload_n 0, 1), (2, .iload_n 1, 1), (3, .invokevirtual 183, 3), (6, .iconst 1, 1), (7, .invokevirtual 176, 3), (10, .ifCond .ne 15, 3), (13, .aload_n 0, 1), (14, .iload_n 1, 1), (15, .invokevirtual 217, 3), (18, .ifCond .eq 7, 3), (21, .iconst 1, 1), (22, .goto 4, 3), (25, .iconst 0, 1), (26, .ireturn, 1)]),
  (prog_14_method_22_code, [(0, .iload_n 0, 1), (1, .iconst 3, 1), (2, .if_icmp .ne 8, 3), (5, .bipush 119, 2), (7, .goto 25, 3), (10, .iload_n 0, 1), (11, .iconst 2, 1), (12, .if_icmp .ne 8, 3), (15, .bipush 108, 2), (17, .goto 15, 3), (20, .iload_n 0, 1), (21, .iconst 1, 1), (22, .if_icmp .ne 8, 3), (25, .bipush 116, 2), (27, .goto 5, 3), (30, .bipush 45, 2), (32, .ireturn, 1)]),
  (prog_14_method_23_code, [(0, .iload_n 0, 1), (1, .bipush 119, 2), (3, .if_icmp .ne 7, 3), (6, .iconst 3, 1), (7, .goto 34, 3), (10, .iload_n 0, 1), (11, .bipush 108, 2), (13, .if_icmp .ne 7, 3), (16, .iconst 2, 1), (17, .goto 24, 3), (20, .iload_n 0, 1), (21, .bipush 116, 2), (23, .if_icmp .ne 7, 3), (26, .iconst 1, 1), (27, .goto 14, 3), (30, .iload_n 0, 1), (31, .bipush 45, 2), (33, .if_icmp .ne 7, 3), (36, .iconst 0, 1), (37, .goto 4, 3), (40, .iconst (-1), 1), (41, .ireturn, 1)]),
  (prog_14_method_24_code, [(0, .iload_n 2, 1), (1, .bipush 97, 2), (3, .if_icmp .ne 7, 3), (6, .iconst 2, 1), (7, .goto 24, 3), (10, .iload_n 2, 1), (11, .bipush 108, 2), (13, .if_icmp .ne 7, 3), (16, .iconst 1, 1), (17, .goto 14, 3), (20, .iload_n 2, 1), (21, .bipush 116, 2), (23, .if_icmp .ne 7, 3), (26, .iconst 0, 1), (27, .goto 4, 3), (30, .iconst (-1), 1), (31, .istore_n 3, 1), (32, .aload_n 0, 1), (33, .aload_n 0, 1), (34, .iload_n 1, 1), (35, .invokevirtual 183, 3), (38, .iconst 1, 1), (39, .invokevirtual 176, 3), (42, .ifCond .ne 20, 3), (45, .aload_n 0, 1), (46, .iload_n 3, 1), (47, .ifCond .ge 7, 3), (50, .iconst 1, 1), (51, .goto 4, 3), (54, .iconst 0, 1), (55, .iconst 2, 1), (56, .invokevirtual 176, 3), (59, .ifCond .eq 6, 3), (62, .bipush 32, 2), (64, .ireturn, 1), (65, .aload_n 0, 1), (66, .getfield 20, 3), (69, .iload_n 1, 1), (70, .aload_n 0, 1), (71, .getfield 20, 3), (74, .iload_n 1, 1), (75, .iaload, 1), (76, .iload_n 3, 1), (77, .invokestatic 214, 3), (80, .iastore, 1), (81, .aload_n 0, 1), (82, .getfield 20, 3), (85, .iload_n 1, 1), (86, .iaload, 1), (87, .invokestatic 220, 3), (90, .ireturn, 1)]),
  (prog_14_method_25_code, [(0, .iload_n 1, 1), (1, .iconst 1, 1), (2, .bipush 9, 2), (4, .invokestatic 159, 3), (7, .ifCond .eq 51, 3), (10, .iload_n 2, 1), (11, .iconst 1, 1), (12, .sipush 2000, 3), (15, .invokestatic 159, 3), (18, .ifCond .eq 40, 3), (21, .iload_n 3, 1), (22, .iconst 0, 1), (23, .bipush 100, 2), (25, .invokestatic 159, 3), (28, .ifCond .eq 30, 3), (31, .iload 4, 2), (33, .invokestatic 172, 3), (36, .ifCond .ne 10, 3), (39, .iload 4, 2), (41, .bipush 45, 2), (43, .if_icmp .ne 15, 3), (46, .iload 5, 2), (48, .invokestatic 224, 3), (51, .ifCond .lt 7, 3), (54, .iconst 1, 1), (55, .goto 4, 3), (58, .iconst 0, 1), (59, .istore 6, 2), (61, .aload_n 0, 1), (62, .iload 6, 2), (64, .ifCond .ne 7, 3), (67, .iconst 1, 1), (68, .goto 4, 3), (71, .iconst 0, 1), (72, .iconst 1, 1), (73, .invokevirtual 176, 3), (76, .ifCond .ne 24, 3), (79, .aload_n 0, 1), (80, .aload_n 0, 1), (81, .getfield 228, 3), (84, .iconst 5, 1), (85, .if_icmp .ne 7, 3), (88, .iconst 1, 1), (89, .goto 4, 3), (92, .iconst 0, 1), (93, .iconst 2, 1), (94, .invokevirtual 176, 3), (97, .ifCond .eq 5, 3), (100, .iconst 0, 1), (101, .ireturn, 1), (102, .aload_n 0, 1), (103, .getfield 55, 3), (106, .aload_n 0, 1), (107, .getfield 228, 3), (110, .iload_n 1, 1), (111, .iastore, 1), (112, .aload_n 0, 1), (113, .getfield 58, 3), (116, .aload_n 0, 1), (117, .getfield 228, 3), (120, .iload_n 2, 1), (121, .iastore, 1), (122, .aload_n 0, 1), (123, .getfield 61, 3), (126, .aload_n 0, 1), (127, .getfield 228, 3), (130, .iload_n 3, 1), (131, .iastore, 1), (132, .aload_n 0, 1), (133, .getfield 64, 3), (136, .aload_n 0, 1), (137, .getfield 228, 3), (140, .iload 4, 2), (142, .castore, 1), (143, .aload_n 0, 1), (144, .getfield 67, 3), (147, .aload_n 0, 1), (148, .getfield 228, 3), (151, .iload 5, 2), (153, .invokestatic 224, 3), (156, .iastore, 1), (157, .aload_n 0, 1), (158, .getfield 70, 3), (161, .aload_n 0, 1), (162, .getfield 228, 3), (165, .bipush 109, 2), (167, .castore, 1), (168, .aload_n 0, 1), (169, .dup, 1), (170, .getfield 228, 3), (173, .iconst 1, 1), (174, .iadd, 1), (175, .putfield 228, 3), (178, .aload_n 0, 1), (179, .getfield 228, 3), (182, .iconst 1, 1), (183, .isub, 1), (184, .ireturn, 1)]),
  (prog_14_method_26_code, [(0, .iload_n 1, 1), (1, .iconst 0, 1), (2, .aload_n 0, 1), (3, .getfield 228, 3), (6, .iconst 1, 1), (7, .isub, 1), (8, .invokestatic 159, 3), (11, .ifCond .ne 7, 3), (14, .iconst 1, 1), (15, .goto 4, 3), (18, .iconst 0, 1), (19, .ireturn, 1)]),
  (prog_14_method_27_code, [(0, .iconst 0, 1), (1, .istore_n 2, 1), (2, .iconst 0, 1), (3, .istore_n 3, 1), (4, .iload_n 3, 1), (5, .aload_n 0, 1), (6, .getfield 156, 3), (9, .if_icmp .ge 32, 3), (12, .iload_n 2, 1), (13, .aload_n 0, 1), (14, .getfield 23, 3), (17, .iload_n 3, 1), (18, .iaload, 1), (19, .iload_n 1, 1), (20, .if_icmp .ne 12, 3), (23, .aload_n 0, 1), (24, .getfield 13, 3), (27, .iload_n 3, 1), (28, .iaload, 1), (29, .goto 4, 3), (32, .iconst 0, 1), (33, .iadd, 1), (34, .istore_n 2, 1), (35, .iinc 3 1, 3), (38, .goto (-34), 3), (41, .iload_n 2, 1), (42, .ireturn, 1)]),
  (prog_14_method_28_code, [(0, .iconst 0, 1), (1, .istore_n 2, 1), (2, .iconst 0, 1), (3, .istore_n 3, 1), (4, .iload_n 3, 1), (5, .aload_n 0, 1), (6, .getfield 156, 3), (9, .if_icmp .ge 27, 3), (12, .iload_n 2, 1), (13, .aload_n 0, 1), (14, .getfield 23, 3), (17, .iload_n 3, 1), (18, .iaload, 1), (19, .iload_n 1, 1), (20, .if_icmp .ne 7, 3), (23, .iconst 1, 1), (24, .goto 4, 3), (27, .iconst 0, 1), (28, .iadd, 1), (29, .istore_n 2, 1), (30, .iinc 3 1, 3), (33, .goto (-29), 3), (36, .iload_n 2, 1), (37, .ireturn, 1)]),
  (prog_14_method_29_code, [(0, .aload_n 0, 1), (1, .getfield 64, 3), (4, .iload_n 1, 1), (5, .caload, 1), (6, .bipush 45, 2), (8, .if_icmp .eq 18, 3), (11, .aload_n 0, 1), (12, .getfield 64, 3), (15, .iload_n 1, 1), (16, .caload, 1), (17, .aload_n 0, 1), (18, .getfield 9, 3), (21, .iload_n 2, 1), (22, .caload, 1), (23, .if_icmp .ne 7, 3), (26, .iconst 1, 1), (27, .goto 4, 3), (30, .iconst 0, 1), (31, .istore_n 3, 1), (32, .aload_n 0, 1), (33, .getfield 23, 3), (36, .iload_n 2, 1), (37, .iaload, 1), (38, .ifCond .ge 28, 3), (41, .aload_n 0, 1), (42, .getfield 29, 3), (45, .iload_n 2, 1), (46, .baload, 1), (47, .ifCond .ne 19, 3), (50, .aload_n 0, 1), (51, .iload_n 2, 1), (52, .invokevirtual 217, 3), (55, .ifCond .ne 11, 3), (58, .iload_n 3, 1), (59, .ifCond .eq 7, 3), (62, .iconst 1, 1), (63, .goto 4, 3), (66, .iconst 0, 1), (67, .istore 4, 2), (69, .iload 4, 2), (71, .ifCond .eq 36, 3), (74, .aload_n 0, 1), (75, .iload_n 2, 1), (76, .invokevirtual 207, 3), (79, .aload_n 0, 1), (80, .getfield 61, 3), (83, .iload_n 1, 1), (84, .iaload, 1), (85, .if_icmp .lt 22, 3), (88, .aload_n 0, 1), (89, .getfield 20, 3), (92, .iload_n 2, 1), (93, .iaload, 1), (94, .aload_n 0, 1), (95, .getfield 67, 3), (98, .iload_n 1, 1), (99, .iaload, 1), (100, .if_icmp .lt 7, 3), (103, .iconst 1, 1), (104, .goto 4, 3), (107, .iconst 0, 1), (108, .istore 4, 2), (110, .iload 4, 2), (112, .ifCond .eq 42, 3), (115, .aload_n 0, 1), (116, .iload_n 1, 1), (117, .invokevirtual 231, 3), (120, .aload_n 0, 1), (121, .getfield 55, 3), (124, .iload_n 1, 1), (125, .iaload, 1), (126, .if_icmp .ge 28, 3), (129, .aload_n 0, 1), (130, .iload_n 1, 1), (131, .invokevirtual 234, 3), (134, .aload_n 0, 1), (135, .getfield 13, 3), (138, .iload_n 2, 1), (139, .iaload, 1), (140, .iadd, 1), (141, .aload_n 0, 1), (142, .getfield 58, 3), (145, .iload_n 1, 1), (146, .iaload, 1), (147, .if_icmp .gt 7, 3), (150, .iconst 1, 1), (151, .goto 4, 3), (154, .iconst 0, 1), (155, .ireturn, 1)]),
  (prog_14_method_30_code, [(0, .aload_n 0, 1), (1, .aload_n 0, 1), (2, .iload_n 1, 1), (3, .invokevirtual 237, 3), (6, .iconst 1, 1), (7, .invokevirtual 176, 3), (10, .ifCond .eq 5, 3), (13, .iconst 0, 1), (14, .ireturn, 1), (15, .iconst 0, 1), (16, .istore_n 2, 1), (17, .iload_n 2, 1), (18, .aload_n 0, 1), (19, .getfield 156, 3), (22, .if_icmp .ge 28, 3), (25, .aload_n 0, 1), (26, .getfield 149, 3), (29, .iload_n 2, 1), (30, .aload_n 0, 1), (31, .iload_n 2, 1), (32, .invokevirtual 194, 3), (35, .ifCond .le 7, 3), (38, .iconst 1, 1), (39, .goto 4, 3), (42, .iconst 0, 1), (43, .bastore, 1), (44, .iinc 2 1, 3), (47, .goto (-30), 3), (50, .iconst 0, 1), (51, .istore_n 2, 1), (52, .iconst 0, 1), (53, .istore_n 3, 1), (54, .iload_n 3, 1), (55, .ifCond .lt 110, 3), (58, .iconst (-1), 1), (59, .istore_n 3, 1), (60, .iconst 0, 1), (61, .istore 4, 2), (63, .iload 4, 2), (65, .aload_n 0, 1), (66, .getfield 156, 3), (69, .if_icmp .ge 44, 3), (72, .aload_n 0, 1), (73, .getfield 149, 3), (76, .iload 4, 2), (78, .baload, 1), (79, .ifCond .eq 26, 3), (82, .iload_n 3, 1), (83, .ifCond .lt 17, 3), (86, .aload_n 0, 1), (87, .iload 4, 2), (89, .invokevirtual 207, 3), (92, .aload_n 0, 1), (93, .iload_n 3, 1), (94, .invokevirtual 207, 3), (97, .if_icmp .le 8, 3), (100, .iload 4, 2), (102, .goto 4, 3), (105, .iload_n 3, 1), (106, .istore_n 3, 1), (107, .iinc 4 1, 3), (110, .goto (-47), 3), (113, .iload_n 3, 1), (114, .ifCond .lt (-60), 3), (117, .aload_n 0, 1), (118, .getfield 149, 3), (121, .iload_n 3, 1), (122, .iconst 0, 1), (123, .bastore, 1), (124, .aload_n 0, 1), (125, .iload_n 1, 1), (126, .iload_n 3, 1), (127, .invokevirtual 240, 3), (130, .ifCond .eq (-76), 3), (133, .aload_n 0, 1), (134, .getfield 23, 3), (137, .iload_n 3, 1), (138, .iload_n 1, 1), (139, .iastore, 1), (140, .aload_n 0, 1), (141, .getfield 26, 3), (144, .iload_n 3, 1), (145, .aload_n 0, 1), (146, .getfield 67, 3), (149, .iload_n 1, 1), (150, .iaload, 1), (151, .iastore, 1), (152, .aload_n 0, 1), (153, .bipush 99, 2), (155, .iload_n 3, 1), (156, .invokevirtual 243, 3), (159, .iinc 2 1, 3), (162, .goto (-108), 3), (165, .iload_n 2, 1), (166, .ireturn, 1)]),
  (prog_14_method_31_code, [(0, .aload_n 0, 1), (1, .aload_n 0, 1), (2, .iload_n 1, 1), (3, .invokevirtual 183, 3), (6, .iconst 1, 1), (7, .invokevirtual 176, 3), (10, .ifCond .ne 25, 3), (13, .aload_n 0, 1), (14, .aload_n 0, 1), (15, .getfield 23, 3), (18, .iload_n 1, 1), (19, .iaload, 1), (20, .ifCond .ge 7, 3), (23, .iconst 1, 1), (24, .goto 4, 3), (27, .iconst 0, 1), (28, .iconst 2, 1), (29, .invokevirtual 176, 3), (32, .ifCond .eq 7, 3), (35, .iconst 0, 1), (36, .goto 9, 3), (39, .aload_n 0, 1), (40, .getfield 23, 3), (43, .iload_n 1, 1), (44, .iaload, 1), (45, .ireturn, 1)]),
  (prog_14_method_32_code, [(0, .aload_n 0, 1), (1, .aload_n 0, 1), (2, .iload_n 1, 1), (3, .invokevirtual 237, 3), (6, .iconst 1, 1), (7, .invokevirtual 176, 3), (10, .ifCond .eq 7, 3), (13, .iconst 0, 1), (14, .goto 8, 3), (17, .aload_n 0, 1), (18, .iload_n 1, 1), (19, .invokevirtual 234, 3), (22, .ireturn, 1)]),
  (prog_14_method_33_code, [(0, .aload_n 0, 1), (1, .aload_n 0, 1), (2, .iload_n 1, 1), (3, .invokevirtual 183, 3), (6, .iconst 1, 1), (7, .invokevirtual 176, 3), (10, .ifCond .ne 25, 3), (13, .aload_n 0, 1), (14, .aload_n 0, 1), (15, .getfield 26, 3), (18, .iload_n 1, 1), (19, .iaload, 1), (20, .ifCond .ne 7, 3), (23, .iconst 1, 1), (24, .goto 4, 3), (27, .iconst 0, 1), (28, .iconst 2, 1), (29, .invokevirtual 176, 3), (32, .ifCond .eq 6, 3), (35, .bipush 32, 2), (37, .ireturn, 1), (38, .aload_n 0, 1), (39, .getfield 26, 3), (42, .iload_n 1, 1), (43, .iaload, 1), (44, .invokestatic 220, 3), (47, .istore_n 2, 1), (48, .aload_n 0, 1), (49, .getfield 26, 3), (52, .iload_n 1, 1), (53, .iconst 0, 1), (54, .iastore, 1), (55, .aload_n 0, 1), (56, .bipush 103, 2), (58, .iload_n 1, 1), (59, .invokevirtual 243, 3), (62, .iload_n 2, 1), (63, .ireturn, 1)]),
  (prog_14_method_34_code, [(0, .aload_n 0, 1), (1, .aload_n 0, 1), (2, .iload_n 1, 1), (3, .invokevirtual 183, 3), (6, .iconst 1, 1), (7, .invokevirtual 176, 3), (10, .ifCond .ne 22, 3), (13, .aload_n 0, 1), (14, .getfield 20, 3), (17, .iload_n 1, 1), (18, .iaload, 1), (19, .aload_n 0, 1), (20, .getfield 26, 3), (23, .iload_n 1, 1), (24, .iaload, 1), (25, .if_icmp .ge 7, 3), (28, .iconst 1, 1), (29, .goto 4, 3), (32, .iconst 0, 1), (33, .ireturn, 1)]),
  (prog_14_method_35_code, [(0, .aload_n 0, 1), (1, .iload_n 1, 1), (2, .iconst 1, 1), (3, .bipush 9, 2), (5, .invokestatic 159, 3), (8, .ifCond .ne 7, 3), (11, .iconst 1, 1), (12, .goto 4, 3), (15, .iconst 0, 1), (16, .iconst 1, 1), (17, .invokevirtual 176, 3), (20, .ifCond .ne 24, 3), (23, .aload_n 0, 1), (24, .aload_n 0, 1), (25, .getfield 247, 3), (28, .iconst 4, 1), (29, .if_icmp .ne 7, 3), (32, .iconst 1, 1), (33, .goto 4, 3), (36, .iconst 0, 1), (37, .iconst 2, 1), (38, .invokevirtual 176, 3), (41, .ifCond .eq 5, 3), (44, .iconst 0, 1), (45, .ireturn, 1), (46, .aload_n 0, 1), (47, .getfield 76, 3), (50, .aload_n 0, 1), (51, .getfield 247, 3), (54, .iload_n 1, 1), (55, .iastore, 1), (56, .aload_n 0, 1), (57, .getfield 79, 3), (60, .aload_n 0, 1), (61, .getfield 247, 3), (64, .iload_n 2, 1), (65, .bastore, 1), (66, .aload_n 0, 1), (67, .dup, 1), (68, .getfield 247, 3), (71, .iconst 1, 1), (72, .iadd, 1), (73, .putfield 247, 3), (76, .aload_n 0, 1), (77, .getfield 247, 3), (80, .iconst 1, 1), (81, .isub, 1), (82, .ireturn, 1)]),
  (prog_14_method_36_code, [(0, .iload_n 1, 1), (1, .iconst 0, 1), (2, .aload_n 0, 1), (3, .getfield 247, 3), (6, .iconst 1, 1), (7, .isub, 1), (8, .invokestatic 159, 3), (11, .ifCond .ne 7, 3), (14, .iconst 1, 1), (15, .goto 4, 3), (18, .iconst 0, 1), (19, .ireturn, 1)]),
  (prog_14_method_37_code, [(0, .iload_n 0, 1), (1, .iconst 0, 1), (2, .bipush 49, 2), (4, .invokestatic 159, 3), (7, .ireturn, 1)]),
  (prog_14_method_38_code, [(0, .aload_n 0, 1), (1, .aload_n 0, 1), (2, .iload_n 1, 1), (3, .invokevirtual 183, 3), (6, .iconst 1, 1), (7, .invokevirtual 176, 3), (10, .ifCond .ne 35, 3), (13, .aload_n 0, 1), (14, .iload_n 2, 1), (15, .bipush 114, 2), (17, .if_icmp .eq 9, 3), (20, .iload_n 2, 1), (21, .bipush 100, 2), (23, .if_icmp .ne 10, 3), (26, .iload_n 3, 1), (27, .invokestatic 250, 3), (30, .ifCond .ne 7, 3), (33, .iconst 1, 1), (34, .goto 4, 3), (37, .iconst 0, 1), (38, .iconst 2, 1), (39, .invokevirtual 176, 3), (42, .ifCond .eq 5, 3), (45, .iconst 0, 1), (46, .ireturn, 1), (47, .aload_n 0, 1), (48, .getfield 33, 3), (51, .iload_n 1, 1), (52, .caload, 1), (53, .ifCond .eq 7, 3), (56, .iconst 1, 1), (57, .goto 4, 3), (60, .iconst 0, 1), (61, .istore 4, 2), (63, .aload_n 0, 1), (64, .getfield 33, 3), (67, .iload_n 1, 1), (68, .iload_n 2, 1), (69, .castore, 1), (70, .aload_n 0, 1), (71, .getfield 36, 3), (74, .iload_n 1, 1), (75, .iload_n 3, 1), (76, .iastore, 1), (77, .iload 4, 2), (79, .ireturn, 1)]),
  (prog_14_method_39_code, [(0, .aload_n 0, 1), (1, .aload_n 0, 1), (2, .iload_n 1, 1), (3, .invokevirtual 183, 3), (6, .ifCond .ne 11, 3), (9, .aload_n 0, 1), (10, .iload_n 2, 1), (11, .invokevirtual 253, 3), (14, .ifCond .eq 7, 3), (17, .iconst 1, 1), (18, .goto 4, 3), (21, .iconst 0, 1), (22, .iconst 1, 1), (23, .invokevirtual 176, 3), (26, .ifCond .ne 56, 3), (29, .aload_n 0, 1), (30, .iload_n 3, 1), (31, .invokestatic 250, 3), (34, .ifCond .eq 14, 3), (37, .iload 4, 2), (39, .iload_n 3, 1), (40, .bipush 49, 2), (42, .invokestatic 159, 3), (45, .ifCond .ne 7, 3), (48, .iconst 1, 1), (49, .goto 4, 3), (52, .iconst 0, 1), (53, .iconst 2, 1), (54, .invokevirtual 176, 3), (57, .ifCond .ne 25, 3), (60, .aload_n 0, 1), (61, .aload_n 0, 1), (62, .getfield 256, 3), (65, .bipush 60, 2), (67, .if_icmp .ne 7, 3), (70, .iconst 1, 1), (71, .goto 4, 3), (74, .iconst 0, 1), (75, .iconst 3, 1), (76, .invokevirtual 176, 3), (79, .ifCond .eq 5, 3), (82, .iconst 0, 1), (83, .ireturn, 1), (84, .iconst 4, 1), (85, .newarray .int, 2), (87, .dup, 1), (88, .iconst 0, 1), (89, .iload_n 1, 1), (90, .iastore, 1), (91, .dup, 1), (92, .iconst 1, 1), (93, .iload_n 2, 1), (94, .iastore, 1), (95, .dup, 1), (96, .iconst 2, 1), (97, .iload_n 3, 1), (98, .iastore, 1), (99, .dup, 1), (100, .iconst 3, 1), (101, .iload 4, 2), (103, .iastore, 1), (104, .astore 5, 2), (106, .aload 5, 2), (108, .iconst 0, 1), (109, .aload_n 0, 1), (110, .getfield 82, 3), (113, .aload_n 0, 1), (114, .getfield 256, 3), (117, .aaload, 1), (118, .iconst 0, 1), (119, .iconst 4, 1), (120, .invokestatic 166, 3), (123, .aload_n 0, 1), (124, .dup, 1), (125, .getfield 256, 3), (128, .iconst 1, 1), (129, .iadd, 1), (130, .putfield 256, 3), (133, .aload_n 0, 1), (134, .getfield 256, 3), (137, .ireturn, 1)])]
noncomputable def a_prog_10 : List (ByteArray × List (Nat × Instr × Nat)) := [
  (prog_14_method_40_code, [(0, .aload_n 0, 1), (1, .getfield 33, 3), (4, .iload_n 1, 1), (5, .caload, 1), (6, .ifCond .eq 13, 3), (9, .aload_n 0, 1), (10, .getfield 36, 3), (13, .iload_n 1, 1), (14, .iaload, 1), (15, .iload_n 3, 1), (16, .if_icmp .le 5, 3), (19, .iconst 0, 1), (20, .ireturn, 1), (21, .aload_n 0, 1), (22, .getfield 33, 3), (25, .iload_n 1, 1), (26, .caload, 1), (27, .bipush 114, 2), (29, .if_icmp .ne 16, 3), (32, .aload_n 0, 1), (33, .getfield 79, 3), (36, .iload_n 2, 1), (37, .baload, 1), (38, .ifCond .eq 7, 3), (41, .iconst 1, 1), (42, .goto 4, 3), (45, .iconst 0, 1), (46, .istore 4, 2), (48, .iconst 0, 1), (49, .istore 5, 2), (51, .iload 5, 2), (53, .aload_n 0, 1), (54, .getfield 256, 3), (57, .if_icmp .ge 81, 3), (60, .aload_n 0, 1), (61, .getfield 33, 3), (64, .iload_n 1, 1), (65, .caload, 1), (66, .bipush 100, 2), (68, .if_icmp .ne 70, 3), (71, .iload 4, 2), (73, .aload_n 0, 1), (74, .getfield 82, 3), (77, .iload 5, 2), (79, .aaload, 1), (80, .iconst 0, 1), (81, .iaload, 1), (82, .iload_n 1, 1), (83, .if_icmp .ne 45, 3), (86, .aload_n 0, 1), (87, .getfield 82, 3), (90, .iload 5, 2), (92, .aaload, 1), (93, .iconst 1, 1), (94, .iaload, 1), (95, .iload_n 2, 1), (96, .if_icmp .ne 32, 3), (99, .iload_n 3, 1), (100, .aload_n 0, 1), (101, .getfield 82, 3), (104, .iload 5, 2), (106, .aaload, 1), (107, .iconst 2, 1), (108, .iaload, 1), (109, .aload_n 0, 1), (110, .getfield 82, 3), (113, .iload 5, 2), (115, .aaload, 1), (116, .iconst 3, 1), (117, .iaload, 1), (118, .invokestatic 159, 3), (121, .ifCond .eq 7, 3), (124, .iconst 1, 1), (125, .goto 4, 3), (128, .iconst 0, 1), (129, .ior, 1), (130, .istore 4, 2), (132, .iinc 5 1, 3), (135, .goto (-84), 3), (138, .iload 4, 2), (140, .ireturn, 1)]),
  (prog_14_method_41_code, [(0, .aload_n 0, 1), (1, .aload_n 0, 1), (2, .iload_n 1, 1), (3, .invokevirtual 183, 3), (6, .ifCond .ne 11, 3), (9, .aload_n 0, 1), (10, .iload_n 2, 1), (11, .invokevirtual 253, 3), (14, .ifCond .eq 7, 3), (17, .iconst 1, 1), (18, .goto 4, 3), (21, .iconst 0, 1), (22, .iconst 1, 1), (23, .invokevirtual 176, 3), (26, .ifCond .ne 37, 3), (29, .aload_n 0, 1), (30, .iload_n 3, 1), (31, .invokestatic 250, 3), (34, .ifCond .ne 7, 3), (37, .iconst 1, 1), (38, .goto 4, 3), (41, .iconst 0, 1), (42, .iconst 2, 1), (43, .invokevirtual 176, 3), (46, .ifCond .ne 17, 3), (49, .aload_n 0, 1), (50, .iload_n 1, 1), (51, .iload_n 2, 1), (52, .iload_n 3, 1), (53, .invokevirtual 259, 3), (56, .ifCond .eq 7, 3), (59, .iconst 1, 1), (60, .goto 4, 3), (63, .iconst 0, 1), (64, .ireturn, 1)]),
  (prog_14_method_42_code, [(0, .aload_n 0, 1), (1, .getfield 13, 3), (4, .iload_n 1, 1), (5, .iaload, 1), (6, .sipush 150, 3), (9, .if_icmp .gt 7, 3), (12, .iconst 1, 1), (13, .goto 4, 3), (16, .iconst 2, 1), (17, .ireturn, 1)]),
  (prog_14_method_43_code, [(0, .aload_n 0, 1), (1, .getfield 91, 3), (4, .iload_n 1, 1), (5, .iaload, 1), (6, .aload_n 0, 1), (7, .aload_n 0, 1), (8, .getfield 85, 3), (11, .iload_n 1, 1), (12, .iaload, 1), (13, .invokevirtual 262, 3), (16, .iadd, 1), (17, .iconst 1, 1), (18, .isub, 1), (19, .ireturn, 1)]),
  (prog_14_method_44_code, [(0, .aload_n 0, 1), (1, .getfield 94, 3), (4, .iload_n 1, 1), (5, .caload, 1), (6, .ifCond .eq 10, 3), (9, .aload_n 0, 1), (10, .getfield 94, 3), (13, .iload_n 1, 1), (14, .caload, 1), (15, .ireturn, 1), (16, .aload_n 0, 1), (17, .iload_n 1, 1), (18, .invokevirtual 265, 3), (21, .aload_n 0, 1), (22, .getfield 268, 3), (25, .if_icmp .ge 8, 3), (28, .bipush 111, 2), (30, .goto 23, 3), (33, .aload_n 0, 1), (34, .getfield 91, 3), (37, .iload_n 1, 1), (38, .iaload, 1), (39, .aload_n 0, 1), (40, .getfield 268, 3), (43, .if_icmp .gt 8, 3), (46, .bipush 110, 2), (48, .goto 5, 3), (51, .bipush 116, 2), (53, .ireturn, 1)]),
  (prog_14_method_45_code, [(0, .aload_n 0, 1), (1, .getfield 94, 3), (4, .iload_n 1, 1), (5, .caload, 1), (6, .ifCond .ne 25, 3), (9, .iload_n 2, 1), (10, .aload_n 0, 1), (11, .getfield 91, 3), (14, .iload_n 1, 1), (15, .iaload, 1), (16, .aload_n 0, 1), (17, .iload_n 1, 1), (18, .invokevirtual 265, 3), (21, .invokestatic 159, 3), (24, .ifCond .eq 7, 3), (27, .iconst 1, 1), (28, .goto 4, 3), (31, .iconst 0, 1), (32, .ireturn, 1)]),
  (prog_14_method_46_code, [(0, .aload_n 0, 1), (1, .iload_n 1, 1), (2, .invokevirtual 262, 3), (5, .istore 4, 2), (7, .iload_n 3, 1), (8, .aload_n 0, 1), (9, .getfield 268, 3), (12, .if_icmp .lt 28, 3), (15, .iload_n 3, 1), (16, .iconst 5, 1), (17, .irem, 1), (18, .iload 4, 2), (20, .iadd, 1), (21, .iconst 5, 1), (22, .if_icmp .gt 18, 3), (25, .aload_n 0, 1), (26, .getfield 109, 3), (29, .iload_n 3, 1), (30, .iconst 5, 1), (31, .idiv, 1), (32, .baload, 1), (33, .ifCond .ne 7, 3), (36, .iconst 1, 1), (37, .goto 4, 3), (40, .iconst 0, 1), (41, .istore 5, 2), (43, .iload_n 3, 1), (44, .istore 6, 2), (46, .iload 6, 2), (48, .iload_n 3, 1), (49, .iload 4, 2), (51, .iadd, 1), (52, .if_icmp .ge 127, 3), (55, .iload 5, 2), (57, .ifCond .eq 122, 3), (60, .aload_n 0, 1), (61, .iload_n 1, 1), (62, .iload_n 2, 1), (63, .iload 6, 2), (65, .invokevirtual 259, 3), (68, .istore 5, 2), (70, .iconst 0, 1), (71, .istore 7, 2), (73, .iload 7, 2), (75, .aload_n 0, 1), (76, .getfield 271, 3), (79, .if_icmp .ge 94, 3), (82, .aload_n 0, 1), (83, .getfield 88, 3), (86, .iload 7, 2), (88, .iaload, 1), (89, .iload_n 2, 1), (90, .if_icmp .eq 44, 3), (93, .aload_n 0, 1), (94, .getfield 85, 3), (97, .iload 7, 2), (99, .iaload, 1), (100, .iload_n 1, 1), (101, .if_icmp .eq 33, 3), (104, .aload_n 0, 1), (105, .getfield 23, 3), (108, .aload_n 0, 1), (109, .getfield 85, 3), (112, .iload 7, 2), (114, .iaload, 1), (115, .iaload, 1), (116, .aload_n 0, 1), (117, .getfield 23, 3), (120, .iload_n 1, 1), (121, .iaload, 1), (122, .if_icmp .ne 16, 3), (125, .aload_n 0, 1), (126, .getfield 23, 3), (129, .iload_n 1, 1), (130, .iaload, 1), (131, .ifCond .lt 7, 3), (134, .iconst 1, 1), (135, .goto 4, 3), (138, .iconst 0, 1), (139, .istore 8, 2), (141, .iload 5, 2), (143, .aload_n 0, 1), (144, .iload 7, 2), (146, .iload 6, 2), (148, .invokevirtual 274, 3), (151, .ifCond .eq 8, 3), (154, .iload 8, 2), (156, .ifCond .ne 7, 3), (159, .iconst 1, 1), (160, .goto 4, 3), (163, .iconst 0, 1), (164, .iand, 1), (165, .istore 5, 2), (167, .iinc 7 1, 3), (170, .goto (-97), 3), (173, .iinc 6 1, 3), (176, .goto (-130), 3), (179, .iload 5, 2), (181, .ireturn, 1)]),
  (prog_14_method_47_code, [(0, .aload_n 0, 1), (1, .getfield 85, 3), (4, .aload_n 0, 1), (5, .getfield 271, 3), (8, .iload_n 1, 1), (9, .iastore, 1), (10, .aload_n 0, 1), (11, .getfield 88, 3), (14, .aload_n 0, 1), (15, .getfield 271, 3), (18, .iload_n 2, 1), (19, .iastore, 1), (20, .aload_n 0, 1), (21, .getfield 91, 3), (24, .aload_n 0, 1), (25, .getfield 271, 3), (28, .iload_n 3, 1), (29, .iastore, 1), (30, .aload_n 0, 1), (31, .bipush 115, 2), (33, .iload_n 1, 1), (34, .invokevirtual 243, 3), (37, .aload_n 0, 1), (38, .dup, 1), (39, .getfield 271, 3), (42, .iconst 1, 1), (43, .iadd, 1), (44, .putfield 271, 3), (47, .aload_n 0, 1), (48, .getfield 271, 3), (51, .iconst 1, 1), (52, .isub, 1), (53, .ireturn, 1)]),
  (prog_14_method_48_code, [(0, .aload_n 0, 1), (1, .getfield 268, 3), (4, .istore_n 2, 1), (5, .iload_n 2, 1), (6, .bipush 50, 2), (8, .if_icmp .ge 43, 3), (11, .iconst 0, 1), (12, .istore_n 3, 1), (13, .iload_n 3, 1), (14, .aload_n 0, 1), (15, .getfield 247, 3), (18, .if_icmp .ge 27, 3), (21, .aload_n 0, 1), (22, .iload_n 1, 1), (23, .iload_n 3, 1), (24, .iload_n 2, 1), (25, .invokevirtual 277, 3), (28, .ifCond .eq 11, 3), (31, .aload_n 0, 1), (32, .iload_n 1, 1), (33, .iload_n 3, 1), (34, .iload_n 2, 1), (35, .invokevirtual 280, 3), (38, .ireturn, 1), (39, .iinc 3 1, 3), (42, .goto (-29), 3), (45, .iinc 2 1, 3), (48, .goto (-43), 3), (51, .iconst (-1), 1), (52, .ireturn, 1)]),
  (prog_14_method_49_code, [(0, .aload_n 0, 1), (1, .aload_n 0, 1), (2, .iload_n 1, 1), (3, .invokevirtual 183, 3), (6, .ifCond .ne 11, 3), (9, .aload_n 0, 1), (10, .iload_n 2, 1), (11, .invokevirtual 253, 3), (14, .ifCond .eq 7, 3), (17, .iconst 1, 1), (18, .goto 4, 3), (21, .iconst 0, 1), (22, .iconst 1, 1), (23, .invokevirtual 176, 3), (26, .ifCond .ne 23, 3), (29, .aload_n 0, 1), (30, .iload_n 3, 1), (31, .invokestatic 250, 3), (34, .ifCond .ne 7, 3), (37, .iconst 1, 1), (38, .goto 4, 3), (41, .iconst 0, 1), (42, .iconst 2, 1), (43, .invokevirtual 176, 3), (46, .ifCond .eq 5, 3), (49, .iconst 0, 1), (50, .ireturn, 1), (51, .aload_n 0, 1), (52, .aload_n 0, 1), (53, .getfield 23, 3), (56, .iload_n 1, 1), (57, .iaload, 1), (58, .ifCond .lt 13, 3), (61, .aload_n 0, 1), (62, .iload_n 1, 1), (63, .iload_n 2, 1), (64, .iload_n 3, 1), (65, .invokevirtual 277, 3), (68, .ifCond .ne 7, 3), (71, .iconst 1, 1), (72, .goto 4, 3), (75, .iconst 0, 1), (76, .iconst 3, 1), (77, .invokevirtual 176, 3), (80, .ifCond .ne 25, 3), (83, .aload_n 0, 1), (84, .aload_n 0, 1), (85, .getfield 271, 3), (88, .bipush 60, 2), (90, .if_icmp .ne 7, 3), (93, .iconst 1, 1), (94, .goto 4, 3), (97, .iconst 0, 1), (98, .iconst 4, 1), (99, .invokevirtual 176, 3), (102, .ifCond .eq 5, 3), (105, .iconst 0, 1), (106, .ireturn, 1), (107, .aload_n 0, 1), (108, .iload_n 1, 1), (109, .iload_n 2, 1), (110, .iload_n 3, 1), (111, .invokevirtual 280, 3), (114, .ireturn, 1)]),
  (prog_14_method_50_code, [(0, .iconst 0, 1), (1, .istore_n 2, 1), (2, .iconst 0, 1), (3, .istore_n 3, 1), (4, .iload_n 3, 1), (5, .aload_n 0, 1), (6, .getfield 271, 3), (9, .if_icmp .ge 37, 3), (12, .iload_n 2, 1), (13, .aload_n 0, 1), (14, .getfield 85, 3), (17, .iload_n 3, 1), (18, .iaload, 1), (19, .iload_n 1, 1), (20, .if_icmp .ne 17, 3), (23, .aload_n 0, 1), (24, .iload_n 3, 1), (25, .invokevirtual 284, 3), (28, .bipush 116, 2), (30, .if_icmp .ne 7, 3), (33, .iconst 1, 1), (34, .goto 4, 3), (37, .iconst 0, 1), (38, .ior, 1), (39, .istore_n 2, 1), (40, .iinc 3 1, 3), (43, .goto (-39), 3), (46, .iload_n 2, 1), (47, .ireturn, 1)]),
  (prog_14_method_51_code, [(0, .aload_n 0, 1), (1, .aload_n 0, 1), (2, .iload_n 1, 1), (3, .invokevirtual 237, 3), (6, .iconst 1, 1), (7, .invokevirtual 176, 3), (10, .ifCond .eq 5, 3), (13, .iconst 0, 1), (14, .ireturn, 1), (15, .iconst 0, 1), (16, .istore_n 2, 1), (17, .iconst 0, 1), (18, .istore_n 3, 1), (19, .iload_n 3, 1), (20, .aload_n 0, 1), (21, .getfield 156, 3), (24, .if_icmp .ge 55, 3), (27, .aload_n 0, 1), (28, .getfield 149, 3), (31, .iload_n 3, 1), (32, .aload_n 0, 1), (33, .getfield 23, 3), (36, .iload_n 3, 1), (37, .iaload, 1), (38, .iload_n 1, 1), (39, .if_icmp .ne 15, 3), (42, .aload_n 0, 1), (43, .iload_n 3, 1), (44, .invokevirtual 287, 3), (47, .ifCond .ne 7, 3), (50, .iconst 1, 1), (51, .goto 4, 3), (54, .iconst 0, 1), (55, .bastore, 1), (56, .iload_n 2, 1), (57, .aload_n 0, 1), (58, .getfield 149, 3), (61, .iload_n 3, 1), (62, .baload, 1), (63, .ifCond .eq 7, 3), (66, .iconst 1, 1), (67, .goto 4, 3), (70, .iconst 0, 1), (71, .iadd, 1), (72, .istore_n 2, 1), (73, .iinc 3 1, 3), (76, .goto (-57), 3), (79, .aload_n 0, 1), (80, .aload_n 0, 1), (81, .getfield 271, 3), (84, .iload_n 2, 1), (85, .iadd, 1), (86, .bipush 60, 2), (88, .if_icmp .le 7, 3), (91, .iconst 1, 1), (92, .goto 4, 3), (95, .iconst 0, 1), (96, .iconst 2, 1), (97, .invokevirtual 176, 3), (100, .ifCond .eq 5, 3), (103, .iconst 0, 1), (104, .ireturn, 1), (105, .iconst 0, 1), (106, .istore_n 3, 1), (107, .iconst 0, 1), (108, .istore 4, 2), (110, .iload 4, 2), (112, .iload_n 2, 1), (113, .if_icmp .ge 96, 3), (116, .iconst (-1), 1), (117, .istore 5, 2), (119, .iconst 0, 1), (120, .istore 6, 2), (122, .iload 6, 2), (124, .aload_n 0, 1), (125, .getfield 156, 3), (128, .if_icmp .ge 50, 3), (131, .aload_n 0, 1), (132, .getfield 149, 3), (135, .iload 6, 2), (137, .baload, 1), (138, .ifCond .eq 30, 3), (141, .iload 5, 2), (143, .ifCond .lt 20, 3), (146, .aload_n 0, 1), (147, .getfield 13, 3), (150, .iload 6, 2), (152, .iaload, 1), (153, .aload_n 0, 1), (154, .getfield 13, 3), (157, .iload 5, 2), (159, .iaload, 1), (160, .if_icmp .le 8, 3), (163, .iload 6, 2), (165, .goto 5, 3), (168, .iload 5, 2), (170, .istore 5, 2), (172, .iinc 6 1, 3), (175, .goto (-53), 3), (178, .aload_n 0, 1), (179, .getfield 149, 3), (182, .iload 5, 2), (184, .iconst 0, 1), (185, .bastore, 1), (186, .iload_n 3, 1), (187, .aload_n 0, 1), (188, .iload 5, 2), (190, .invokevirtual 290, 3), (193, .ifCond .ge 7, 3), (196, .iconst 0, 1), (197, .goto 4, 3), (200, .iconst 1, 1), (201, .iadd, 1), (202, .istore_n 3, 1), (203, .iinc 4 1, 3), (206, .goto (-96), 3), (209, .iload_n 3, 1), (210, .ireturn, 1)]),
  (prog_14_method_52_code, [(0, .iload_n 1, 1), (1, .iconst 0, 1), (2, .aload_n 0, 1), (3, .getfield 271, 3), (6, .iconst 1, 1), (7, .isub, 1), (8, .invokestatic 159, 3), (11, .ifCond .ne 7, 3), (14, .iconst 1, 1), (15, .goto 4, 3), (18, .iconst 0, 1), (19, .ireturn, 1)]),
  (prog_14_method_53_code, [(0, .aload_n 0, 1), (1, .aload_n 0, 1), (2, .iload_n 1, 1), (3, .invokevirtual 293, 3), (6, .iconst 1, 1), (7, .invokevirtual 176, 3), (10, .ifCond .ne 40, 3), (13, .aload_n 0, 1), (14, .iload_n 2, 1), (15, .bipush 102, 2), (17, .if_icmp .eq 25, 3), (20, .iload_n 2, 1), (21, .bipush 115, 2), (23, .if_icmp .eq 19, 3), (26, .iload_n 2, 1), (27, .bipush 104, 2), (29, .if_icmp .eq 13, 3), (32, .iload_n 2, 1), (33, .bipush 108, 2), (35, .if_icmp .eq 7, 3), (38, .iconst 1, 1), (39, .goto 4, 3), (42, .iconst 0, 1), (43, .iconst 2, 1), (44, .invokevirtual 176, 3), (47, .ifCond .eq 5, 3), (50, .iconst 0, 1), (51, .ireturn, 1), (52, .iload_n 2, 1), (53, .bipush 102, 2), (55, .if_icmp .ne 12, 3), (58, .aload_n 0, 1), (59, .getfield 85, 3), (62, .iload_n 1, 1), (63, .iaload, 1), (64, .goto 43, 3), (67, .iload_n 2, 1), (68, .bipush 115, 2), (70, .if_icmp .ne 12, 3), (73, .aload_n 0, 1), (74, .getfield 88, 3), (77, .iload_n 1, 1), (78, .iaload, 1), (79, .goto 28, 3), (82, .iload_n 2, 1), (83, .bipush 104, 2), (85, .if_icmp .ne 12, 3), (88, .aload_n 0, 1), (89, .getfield 91, 3), (92, .iload_n 1, 1), (93, .iaload, 1), (94, .goto 13, 3), (97, .aload_n 0, 1), (98, .aload_n 0, 1), (99, .getfield 85, 3), (102, .iload_n 1, 1), (103, .iaload, 1), (104, .invokevirtual 262, 3), (107, .ireturn, 1)]),
  (prog_14_method_54_code, [(0, .aload_n 0, 1), (1, .aload_n 0, 1), (2, .iload_n 1, 1), (3, .invokevirtual 293, 3), (6, .iconst 1, 1), (7, .invokevirtual 176, 3), (10, .ifCond .eq 8, 3), (13, .bipush 32, 2), (15, .goto 8, 3), (18, .aload_n 0, 1), (19, .iload_n 1, 1), (20, .invokevirtual 284, 3), (23, .ireturn, 1)]),
  (prog_14_method_55_code, [(0, .aload_n 0, 1), (1, .aload_n 0, 1), (2, .iload_n 1, 1), (3, .invokevirtual 253, 3), (6, .iconst 1, 1), (7, .invokevirtual 176, 3), (10, .ifCond .ne 23, 3), (13, .aload_n 0, 1), (14, .iload_n 2, 1), (15, .invokestatic 250, 3), (18, .ifCond .ne 7, 3), (21, .iconst 1, 1), (22, .goto 4, 3), (25, .iconst 0, 1), (26, .iconst 2, 1), (27, .invokevirtual 176, 3), (30, .ifCond .eq 5, 3), (33, .iconst 0, 1), (34, .ireturn, 1), (35, .iconst (-1), 1), (36, .istore_n 3, 1), (37, .iconst 0, 1), (38, .istore 4, 2), (40, .iload 4, 2), (42, .aload_n 0, 1), (43, .getfield 271, 3), (46, .if_icmp .ge 37, 3), (49, .aload_n 0, 1), (50, .getfield 88, 3), (53, .iload 4, 2), (55, .iaload, 1), (56, .iload_n 1, 1), (57, .if_icmp .ne 18, 3), (60, .aload_n 0, 1), (61, .iload 4, 2), (63, .iload_n 2, 1), (64, .invokevirtual 274, 3), (67, .ifCond .eq 8, 3), (70, .iload 4, 2), (72, .goto 4, 3), (75, .iload_n 3, 1), (76, .istore_n 3, 1), (77, .iinc 4 1, 3), (80, .goto (-40), 3), (83, .aload_n 0, 1), (84, .iload_n 3, 1), (85, .ifCond .ge 7, 3), (88, .iconst 1, 1), (89, .goto 4, 3), (92, .iconst 0, 1), (93, .iconst 3, 1), (94, .invokevirtual 176, 3), (97, .ifCond .eq 7, 3), (100, .iconst 0, 1), (101, .goto 4, 3), (104, .iload_n 3, 1), (105, .ireturn, 1)]),
  (prog_14_method_56_code, [(0, .aload_n 0, 1), (1, .iload_n 1, 1), (2, .iconst 1, 1), (3, .bipush 50, 2), (5, .invokestatic 159, 3), (8, .ifCond .ne 7, 3), (11, .iconst 1, 1), (12, .goto 4, 3), (15, .iconst 0, 1), (16, .iconst 1, 1), (17, .invokevirtual 176, 3), (20, .ifCond .ne 27, 3), (23, .aload_n 0, 1), (24, .aload_n 0, 1), (25, .getfield 268, 3), (28, .iload_n 1, 1), (29, .iadd, 1), (30, .bipush 50, 2), (32, .if_icmp .le 7, 3), (35, .iconst 1, 1), (36, .goto 4, 3), (39, .iconst 0, 1), (40, .iconst 2, 1), (41, .invokevirtual 176, 3), (44, .ifCond .eq 5, 3), (47, .iconst 0, 1), (48, .ireturn, 1), (49, .aload_n 0, 1), (50, .dup, 1), (51, .getfield 268, 3), (54, .iload_n 1, 1), (55, .iadd, 1), (56, .putfield 268, 3), (59, .aload_n 0, 1), (60, .getfield 268, 3), (63, .ireturn, 1)]),
  (prog_14_method_57_code, [(0, .aload_n 0, 1), (1, .iconst 0, 1), (2, .putfield 152, 3), (5, .aload_n 0, 1), (6, .getfield 268, 3), (9, .ireturn, 1)]),
  (prog_14_method_58_code, [(0, .aload_n 0, 1), (1, .iload_n 1, 1), (2, .invokevirtual 284, 3), (5, .bipush 116, 2), (7, .if_icmp .eq 5, 3), (10, .iconst 0, 1), (11, .ireturn, 1), (12, .iload_n 3, 1), (13, .ifCond .ge 21, 3), (16, .aload_n 0, 1), (17, .getfield 91, 3), (20, .iload_n 1, 1), (21, .iaload, 1), (22, .iconst 5, 1), (23, .idiv, 1), (24, .iload_n 2, 1), (25, .if_icmp .ne 7, 3), (28, .iconst 1, 1), (29, .goto 4, 3), (32, .iconst 0, 1), (33, .ireturn, 1), (34, .iconst 1, 1), (35, .istore 4, 2), (37, .aload_n 0, 1), (38, .getfield 91, 3), (41, .iload_n 1, 1), (42, .iaload, 1), (43, .istore 5, 2), (45, .iload 5, 2), (47, .aload_n 0, 1), (48, .iload_n 1, 1), (49, .invokevirtual 265, 3), (52, .if_icmp .gt 27, 3), (55, .iload 4, 2), (57, .aload_n 0, 1), (58, .iload_n 3, 1), (59, .aload_n 0, 1), (60, .getfield 88, 3), (63, .iload_n 1, 1), (64, .iaload, 1), (65, .iload 5, 2), (67, .invokevirtual 259, 3), (70, .iand, 1), (71, .istore 4, 2), (73, .iinc 5 1, 3), (76, .goto (-31), 3), (79, .aload_n 0, 1), (80, .getfield 85, 3), (83, .iload_n 1, 1), (84, .iaload, 1), (85, .iload_n 3, 1), (86, .if_icmp .ne 12, 3), (89, .iload 4, 2), (91, .ifCond .ne 7, 3), (94, .iconst 1, 1), (95, .goto 4, 3), (98, .iconst 0, 1), (99, .ireturn, 1)]),
  (prog_14_method_59_code, [(0, .aload_n 0, 1), (1, .getfield 271, 3), (4, .istore 4, 2), (6, .iconst 0, 1), (7, .istore 5, 2), (9, .bipush 60, 2), (11, .newarray .boolean, 2), (13, .astore 6, 2), (15, .iconst 0, 1), (16, .istore 7, 2), (18, .iload 7, 2), (20, .iload 4, 2), (22, .if_icmp .ge 22, 3), (25, .aload 6, 2), (27, .iload 7, 2), (29, .aload_n 0, 1), (30, .iload 7, 2), (32, .iload_n 2, 1), (33, .iload_n 3, 1), (34, .invokevirtual 296, 3), (37, .bastore, 1), (38, .iinc 7 1, 3), (41, .goto (-23), 3), (44, .iconst 0, 1), (45, .istore 7, 2), (47, .iload 7, 2), (49, .iload 4, 2), (51, .if_icmp .ge 41, 3), (54, .aload 6, 2), (56, .iload 7, 2), (58, .baload, 1), (59, .ifCond .eq 27, 3), (62, .aload_n 0, 1), (63, .getfield 94, 3), (66, .iload 7, 2), (68, .iload_n 1, 1), (69, .castore, 1), (70, .aload_n 0, 1), (71, .bipush 120, 2), (73, .aload_n 0, 1), (74, .getfield 85, 3), (77, .iload 7, 2), (79, .iaload, 1), (80, .invokevirtual 243, 3), (83, .iinc 5 1, 3), (86, .iinc 7 1, 3), (89, .goto (-42), 3), (92, .iconst 0, 1), (93, .istore 7, 2), (95, .iload 7, 2), (97, .iload 4, 2), (99, .if_icmp .ge 74, 3), (102, .aload 6, 2), (104, .iload 7, 2), (106, .baload, 1), (107, .ifCond .eq 17, 3), (110, .aload_n 0, 1), (111, .aload_n 0, 1), (112, .getfield 85, 3), (115, .iload 7, 2), (117, .iaload, 1), (118, .invokevirtual 290, 3), (121, .goto 4, 3), (124, .iconst (-1), 1), (125, .istore 8, 2), (127, .iload 8, 2), (129, .ifCond .lt 38, 3), (132, .aload_n 0, 1), (133, .getfield 100, 3), (136, .iload 7, 2), (138, .aaload, 1), (139, .iconst 0, 1), (140, .aload_n 0, 1), (141, .getfield 100, 3), (144, .iload 8, 2), (146, .aaload, 1), (147, .iconst 0, 1), (148, .bipush 16, 2), (150, .invokestatic 166, 3), (153, .aload_n 0, 1), (154, .getfield 103, 3), (157, .iload 8, 2), (159, .aload_n 0, 1), (160, .getfield 103, 3), (163, .iload 7, 2), (165, .iaload, 1), (166, .iastore, 1), (167, .iinc 7 1, 3), (170, .goto (-75), 3), (173, .iload 5, 2), (175, .ireturn, 1)])]
noncomputable def a_prog_11 : List (ByteArray × List (Nat × Instr × Nat)) := [
  (prog_14_method_60_code, [(0, .iconst 0, 1), (1, .istore_n 3, 1), (2, .iconst 0, 1), (3, .istore 4, 2), (5, .iload 4, 2), (7, .aload_n 0, 1), (8, .getfield 271, 3), (11, .if_icmp .ge 28, 3), (14, .iload_n 3, 1), (15, .aload_n 0, 1), (16, .iload 4, 2), (18, .iload_n 1, 1), (19, .iload_n 2, 1), (20, .invokevirtual 296, 3), (23, .ifCond .eq 7, 3), (26, .iconst 1, 1), (27, .goto 4, 3), (30, .iconst 0, 1), (31, .iadd, 1), (32, .istore_n 3, 1), (33, .iinc 4 1, 3), (36, .goto (-31), 3), (39, .iload_n 3, 1), (40, .ireturn, 1)]),
  (prog_14_method_61_code, [(0, .aload_n 0, 1), (1, .iload_n 1, 1), (2, .iconst 0, 1), (3, .bipush 9, 2), (5, .invokestatic 159, 3), (8, .ifCond .ne 7, 3), (11, .iconst 1, 1), (12, .goto 4, 3), (15, .iconst 0, 1), (16, .iconst 1, 1), (17, .invokevirtual 176, 3), (20, .ifCond .ne 46, 3), (23, .aload_n 0, 1), (24, .aload_n 0, 1), (25, .getfield 109, 3), (28, .iload_n 1, 1), (29, .baload, 1), (30, .iconst 2, 1), (31, .invokevirtual 176, 3), (34, .ifCond .ne 32, 3), (37, .aload_n 0, 1), (38, .aload_n 0, 1), (39, .getfield 271, 3), (42, .aload_n 0, 1), (43, .iload_n 1, 1), (44, .iconst (-1), 1), (45, .invokevirtual 299, 3), (48, .iadd, 1), (49, .bipush 60, 2), (51, .if_icmp .le 7, 3), (54, .iconst 1, 1), (55, .goto 4, 3), (58, .iconst 0, 1), (59, .iconst 3, 1), (60, .invokevirtual 176, 3), (63, .ifCond .eq 5, 3), (66, .iconst 0, 1), (67, .ireturn, 1), (68, .aload_n 0, 1), (69, .getfield 109, 3), (72, .iload_n 1, 1), (73, .iconst 1, 1), (74, .bastore, 1), (75, .aload_n 0, 1), (76, .bipush 115, 2), (78, .iload_n 1, 1), (79, .iconst (-1), 1), (80, .invokevirtual 302, 3), (83, .ireturn, 1)]),
  (prog_14_method_62_code, [(0, .aload_n 0, 1), (1, .aload_n 0, 1), (2, .iload_n 1, 1), (3, .invokevirtual 183, 3), (6, .iconst 1, 1), (7, .invokevirtual 176, 3), (10, .ifCond .ne 63, 3), (13, .aload_n 0, 1), (14, .iload_n 2, 1), (15, .bipush 50, 2), (17, .if_icmp .ge 22, 3), (20, .aload_n 0, 1), (21, .getfield 33, 3), (24, .iload_n 1, 1), (25, .caload, 1), (26, .ifCond .eq 17, 3), (29, .iload_n 2, 1), (30, .aload_n 0, 1), (31, .getfield 36, 3), (34, .iload_n 1, 1), (35, .iaload, 1), (36, .if_icmp .gt 7, 3), (39, .iconst 1, 1), (40, .goto 4, 3), (43, .iconst 0, 1), (44, .iconst 2, 1), (45, .invokevirtual 176, 3), (48, .ifCond .ne 25, 3), (51, .aload_n 0, 1), (52, .aload_n 0, 1), (53, .getfield 33, 3), (56, .iload_n 1, 1), (57, .caload, 1), (58, .ifCond .ne 7, 3), (61, .iconst 1, 1), (62, .goto 4, 3), (65, .iconst 0, 1), (66, .iconst 3, 1), (67, .invokevirtual 176, 3), (70, .ifCond .eq 5, 3), (73, .iconst 0, 1), (74, .ireturn, 1), (75, .aload_n 0, 1), (76, .getfield 36, 3), (79, .iload_n 1, 1), (80, .iaload, 1), (81, .istore_n 3, 1), (82, .aload_n 0, 1), (83, .getfield 36, 3), (86, .iload_n 1, 1), (87, .iload_n 2, 1), (88, .iastore, 1), (89, .aload_n 0, 1), (90, .aload_n 0, 1), (91, .getfield 271, 3), (94, .aload_n 0, 1), (95, .iconst (-1), 1), (96, .iload_n 1, 1), (97, .invokevirtual 299, 3), (100, .iadd, 1), (101, .bipush 60, 2), (103, .if_icmp .le 7, 3), (106, .iconst 1, 1), (107, .goto 4, 3), (110, .iconst 0, 1), (111, .iconst 4, 1), (112, .invokevirtual 176, 3), (115, .ifCond .eq 12, 3), (118, .aload_n 0, 1), (119, .getfield 36, 3), (122, .iload_n 1, 1), (123, .iload_n 3, 1), (124, .iastore, 1), (125, .iconst 0, 1), (126, .ireturn, 1), (127, .aload_n 0, 1), (128, .bipush 108, 2), (130, .iconst (-1), 1), (131, .iload_n 1, 1), (132, .invokevirtual 302, 3), (135, .ireturn, 1)]),
  (prog_14_method_63_code, [(0, .aload_n 0, 1), (1, .aload_n 0, 1), (2, .iload_n 1, 1), (3, .invokevirtual 183, 3), (6, .iconst 1, 1), (7, .invokevirtual 176, 3), (10, .ifCond .ne 17, 3), (13, .aload_n 0, 1), (14, .aload_n 0, 1), (15, .getfield 29, 3), (18, .iload_n 1, 1), (19, .baload, 1), (20, .iconst 2, 1), (21, .invokevirtual 176, 3), (24, .ifCond .eq 5, 3), (27, .iconst 0, 1), (28, .ireturn, 1), (29, .iconst 0, 1), (30, .istore_n 2, 1), (31, .iconst 0, 1), (32, .istore_n 3, 1), (33, .iload_n 3, 1), (34, .aload_n 0, 1), (35, .getfield 271, 3), (38, .if_icmp .ge 47, 3), (41, .aload_n 0, 1), (42, .getfield 85, 3), (45, .iload_n 3, 1), (46, .iaload, 1), (47, .iload_n 1, 1), (48, .if_icmp .ne 31, 3), (51, .aload_n 0, 1), (52, .iload_n 3, 1), (53, .invokevirtual 284, 3), (56, .bipush 116, 2), (58, .if_icmp .ne 21, 3), (61, .aload_n 0, 1), (62, .getfield 94, 3), (65, .iload_n 3, 1), (66, .bipush 119, 2), (68, .castore, 1), (69, .aload_n 0, 1), (70, .bipush 120, 2), (72, .iload_n 1, 1), (73, .invokevirtual 243, 3), (76, .iinc 2 1, 3), (79, .iinc 3 1, 3), (82, .goto (-49), 3), (85, .aload_n 0, 1), (86, .getfield 29, 3), (89, .iload_n 1, 1), (90, .iconst 1, 1), (91, .bastore, 1), (92, .aload_n 0, 1), (93, .getfield 23, 3), (96, .iload_n 1, 1), (97, .iconst (-1), 1), (98, .iastore, 1), (99, .aload_n 0, 1), (100, .getfield 26, 3), (103, .iload_n 1, 1), (104, .iconst 0, 1), (105, .iastore, 1), (106, .iload_n 2, 1), (107, .ireturn, 1)]),
  (prog_14_method_64_code, [(0, .aload_n 0, 1), (1, .iload_n 1, 1), (2, .iconst 0, 1), (3, .iconst 3, 1), (4, .invokestatic 159, 3), (7, .ifCond .ne 7, 3), (10, .iconst 1, 1), (11, .goto 4, 3), (14, .iconst 0, 1), (15, .iconst 1, 1), (16, .invokevirtual 176, 3), (19, .ifCond .ne 25, 3), (22, .aload_n 0, 1), (23, .aload_n 0, 1), (24, .getfield 306, 3), (27, .bipush 16, 2), (29, .if_icmp .ne 7, 3), (32, .iconst 1, 1), (33, .goto 4, 3), (36, .iconst 0, 1), (37, .iconst 2, 1), (38, .invokevirtual 176, 3), (41, .ifCond .eq 5, 3), (44, .iconst 0, 1), (45, .ireturn, 1), (46, .aload_n 0, 1), (47, .getfield 112, 3), (50, .aload_n 0, 1), (51, .getfield 306, 3), (54, .iload_n 1, 1), (55, .iastore, 1), (56, .aload_n 0, 1), (57, .dup, 1), (58, .getfield 306, 3), (61, .iconst 1, 1), (62, .iadd, 1), (63, .putfield 306, 3), (66, .aload_n 0, 1), (67, .getfield 306, 3), (70, .iconst 1, 1), (71, .isub, 1), (72, .ireturn, 1)]),
  (prog_14_method_65_code, [(0, .iconst 0, 1), (1, .istore_n 3, 1), (2, .iconst 0, 1), (3, .istore 4, 2), (5, .iload 4, 2), (7, .aload_n 0, 1), (8, .getfield 103, 3), (11, .iload_n 2, 1), (12, .iaload, 1), (13, .if_icmp .ge 30, 3), (16, .iload_n 3, 1), (17, .aload_n 0, 1), (18, .getfield 100, 3), (21, .iload_n 2, 1), (22, .aaload, 1), (23, .iload 4, 2), (25, .iaload, 1), (26, .iload_n 1, 1), (27, .if_icmp .ne 7, 3), (30, .iconst 1, 1), (31, .goto 4, 3), (34, .iconst 0, 1), (35, .ior, 1), (36, .istore_n 3, 1), (37, .iinc 4 1, 3), (40, .goto (-35), 3), (43, .iload_n 3, 1), (44, .ireturn, 1)]),
  (prog_14_method_66_code, [(0, .aload_n 0, 1), (1, .iload_n 1, 1), (2, .iconst 0, 1), (3, .aload_n 0, 1), (4, .getfield 306, 3), (7, .iconst 1, 1), (8, .isub, 1), (9, .invokestatic 159, 3), (12, .ifCond .eq 11, 3), (15, .aload_n 0, 1), (16, .iload_n 2, 1), (17, .invokevirtual 293, 3), (20, .ifCond .eq 7, 3), (23, .iconst 1, 1), (24, .goto 4, 3), (27, .iconst 0, 1), (28, .iconst 1, 1), (29, .invokevirtual 176, 3), (32, .ifCond .ne 44, 3), (35, .aload_n 0, 1), (36, .aload_n 0, 1), (37, .iload_n 2, 1), (38, .invokevirtual 284, 3), (41, .bipush 116, 2), (43, .if_icmp .ne 21, 3), (46, .aload_n 0, 1), (47, .getfield 97, 3), (50, .iload_n 2, 1), (51, .baload, 1), (52, .ifCond .ne 12, 3), (55, .aload_n 0, 1), (56, .iload_n 1, 1), (57, .iload_n 2, 1), (58, .invokevirtual 309, 3), (61, .ifCond .eq 7, 3), (64, .iconst 1, 1), (65, .goto 4, 3), (68, .iconst 0, 1), (69, .iconst 2, 1), (70, .invokevirtual 176, 3), (73, .ifCond .eq 5, 3), (76, .iconst 0, 1), (77, .ireturn, 1), (78, .aload_n 0, 1), (79, .getfield 100, 3), (82, .iload_n 2, 1), (83, .aaload, 1), (84, .aload_n 0, 1), (85, .getfield 103, 3), (88, .iload_n 2, 1), (89, .iaload, 1), (90, .iload_n 1, 1), (91, .iastore, 1), (92, .aload_n 0, 1), (93, .getfield 103, 3), (96, .iload_n 2, 1), (97, .dup2, 1), (98, .iaload, 1), (99, .iconst 1, 1), (100, .iadd, 1), (101, .iastore, 1), (102, .aload_n 0, 1), (103, .getfield 103, 3), (106, .iload_n 2, 1), (107, .iaload, 1), (108, .ireturn, 1)]),
  (prog_14_method_67_code, [(0, .iconst 0, 1), (1, .istore_n 3, 1), (2, .iconst 0, 1), (3, .istore 4, 2), (5, .iload 4, 2), (7, .aload_n 0, 1), (8, .getfield 271, 3), (11, .if_icmp .ge 70, 3), (14, .aload_n 0, 1), (15, .getfield 91, 3), (18, .iload_n 2, 1), (19, .iaload, 1), (20, .istore 5, 2), (22, .iload 5, 2), (24, .aload_n 0, 1), (25, .iload_n 2, 1), (26, .invokevirtual 265, 3), (29, .if_icmp .gt 46, 3), (32, .iload_n 3, 1), (33, .iload 4, 2), (35, .iload_n 2, 1), (36, .if_icmp .eq 30, 3), (39, .aload_n 0, 1), (40, .getfield 106, 3), (43, .iload 4, 2), (45, .aaload, 1), (46, .iload_n 1, 1), (47, .baload, 1), (48, .ifCond .eq 18, 3), (51, .aload_n 0, 1), (52, .iload 4, 2), (54, .iload 5, 2), (56, .invokevirtual 274, 3), (59, .ifCond .eq 7, 3), (62, .iconst 1, 1), (63, .goto 4, 3), (66, .iconst 0, 1), (67, .ior, 1), (68, .istore_n 3, 1), (69, .iinc 5 1, 3), (72, .goto (-50), 3), (75, .iinc 4 1, 3), (78, .goto (-73), 3), (81, .iload_n 3, 1), (82, .ireturn, 1)]),
  (prog_14_method_68_code, [(0, .aload_n 0, 1), (1, .aload_n 0, 1), (2, .iload_n 1, 1), (3, .invokevirtual 293, 3), (6, .iconst 1, 1), (7, .invokevirtual 176, 3), (10, .ifCond .ne 47, 3), (13, .aload_n 0, 1), (14, .aload_n 0, 1), (15, .getfield 94, 3), (18, .iload_n 1, 1), (19, .caload, 1), (20, .ifCond .ne 25, 3), (23, .aload_n 0, 1), (24, .getfield 97, 3), (27, .iload_n 1, 1), (28, .baload, 1), (29, .ifCond .ne 16, 3), (32, .aload_n 0, 1), (33, .getfield 91, 3), (36, .iload_n 1, 1), (37, .iaload, 1), (38, .aload_n 0, 1), (39, .getfield 268, 3), (42, .if_icmp .ge 7, 3), (45, .iconst 1, 1), (46, .goto 4, 3), (49, .iconst 0, 1), (50, .iconst 2, 1), (51, .invokevirtual 176, 3), (54, .ifCond .eq 5, 3), (57, .iconst 0, 1), (58, .ireturn, 1), (59, .iconst 0, 1), (60, .istore_n 2, 1), (61, .iconst 0, 1), (62, .istore_n 3, 1), (63, .iload_n 3, 1), (64, .iconst 4, 1), (65, .if_icmp .ge 89, 3), (68, .iconst 0, 1), (69, .istore 4, 2), (71, .iload 4, 2), (73, .aload_n 0, 1), (74, .getfield 103, 3), (77, .iload_n 1, 1), (78, .iaload, 1), (79, .if_icmp .ge 69, 3), (82, .aload_n 0, 1), (83, .getfield 100, 3), (86, .iload_n 1, 1), (87, .aaload, 1), (88, .iload 4, 2), (90, .iaload, 1), (91, .istore 5, 2), (93, .aload_n 0, 1), (94, .getfield 112, 3), (97, .iload 5, 2), (99, .iaload, 1), (100, .iload_n 3, 1), (101, .if_icmp .ne 41, 3), (104, .iload_n 2, 1), (105, .aload_n 0, 1), (106, .getfield 76, 3), (109, .aload_n 0, 1), (110, .getfield 88, 3), (113, .iload_n 1, 1), (114, .iaload, 1), (115, .iaload, 1), (116, .if_icmp .ge 26, 3), (119, .aload_n 0, 1), (120, .iload 5, 2), (122, .iload_n 1, 1), (123, .invokevirtual 312, 3), (126, .ifCond .ne 16, 3), (129, .aload_n 0, 1), (130, .getfield 106, 3), (133, .iload_n 1, 1), (134, .aaload, 1), (135, .iload 5, 2), (137, .iconst 1, 1), (138, .bastore, 1), (139, .iinc 2 1, 3), (142, .iinc 4 1, 3), (145, .goto (-74), 3), (148, .iinc 3 1, 3), (151, .goto (-88), 3), (154, .aload_n 0, 1), (155, .getfield 97, 3), (158, .iload_n 1, 1), (159, .iconst 1, 1), (160, .bastore, 1), (161, .aload_n 0, 1), (162, .bipush 111, 2), (164, .aload_n 0, 1), (165, .getfield 85, 3), (168, .iload_n 1, 1), (169, .iaload, 1), (170, .invokevirtual 243, 3), (173, .iload_n 2, 1), (174, .ireturn, 1)]),
  (prog_14_method_69_code, [(0, .aload_n 0, 1), (1, .iload_n 1, 1), (2, .iconst 0, 1), (3, .aload_n 0, 1), (4, .getfield 306, 3), (7, .iconst 1, 1), (8, .isub, 1), (9, .invokestatic 159, 3), (12, .ifCond .eq 11, 3), (15, .aload_n 0, 1), (16, .iload_n 2, 1), (17, .invokevirtual 293, 3), (20, .ifCond .eq 7, 3), (23, .iconst 1, 1), (24, .goto 4, 3), (27, .iconst 0, 1), (28, .iconst 1, 1), (29, .invokevirtual 176, 3), (32, .ifCond .ne 27, 3), (35, .aload_n 0, 1), (36, .getfield 94, 3), (39, .iload_n 2, 1), (40, .caload, 1), (41, .ifCond .ne 18, 3), (44, .aload_n 0, 1), (45, .getfield 106, 3), (48, .iload_n 2, 1), (49, .aaload, 1), (50, .iload_n 1, 1), (51, .baload, 1), (52, .ifCond .eq 7, 3), (55, .iconst 1, 1), (56, .goto 4, 3), (59, .iconst 0, 1), (60, .ireturn, 1)]),
  (prog_14_method_70_code, [(0, .aload_n 0, 1), (1, .aload_n 0, 1), (2, .iload_n 1, 1), (3, .invokevirtual 237, 3), (6, .iconst 1, 1), (7, .invokevirtual 176, 3), (10, .ifCond .ne 49, 3), (13, .aload_n 0, 1), (14, .iload_n 2, 1), (15, .iconst 0, 1), (16, .bipush 9, 2), (18, .invokestatic 159, 3), (21, .ifCond .ne 7, 3), (24, .iconst 1, 1), (25, .goto 4, 3), (28, .iconst 0, 1), (29, .iconst 2, 1), (30, .invokevirtual 176, 3), (33, .ifCond .ne 26, 3), (36, .aload_n 0, 1), (37, .aload_n 0, 1), (38, .getfield 115, 3), (41, .iload_n 1, 1), (42, .iaload, 1), (43, .iconst 5, 1), (44, .if_icmp .ne 7, 3), (47, .iconst 1, 1), (48, .goto 4, 3), (51, .iconst 0, 1), (52, .iconst 3, 1), (53, .invokevirtual 176, 3), (56, .ifCond .eq 5, 3), (59, .iconst 0, 1), (60, .ireturn, 1), (61, .aload_n 0, 1), (62, .getfield 115, 3), (65, .iload_n 1, 1), (66, .iaload, 1), (67, .istore_n 3, 1), (68, .aload_n 0, 1), (69, .getfield 118, 3), (72, .iload_n 1, 1), (73, .aaload, 1), (74, .iload_n 3, 1), (75, .iload_n 2, 1), (76, .iastore, 1), (77, .iconst 0, 1), (78, .istore 4, 2), (80, .iload 4, 2), (82, .bipush 50, 2), (84, .if_icmp .gt 21, 3), (87, .aload_n 0, 1), (88, .getfield 128, 3), (91, .iload_n 1, 1), (92, .aaload, 1), (93, .iload_n 3, 1), (94, .aaload, 1), (95, .iload 4, 2), (97, .iconst (-1), 1), (98, .iastore, 1), (99, .iinc 4 1, 3), (102, .goto (-22), 3), (105, .aload_n 0, 1), (106, .getfield 115, 3), (109, .iload_n 1, 1), (110, .dup2, 1), (111, .iaload, 1), (112, .iconst 1, 1), (113, .iadd, 1), (114, .iastore, 1), (115, .iload_n 3, 1), (116, .ireturn, 1)]),
  (prog_14_method_71_code, [(0, .aload_n 0, 1), (1, .aload_n 0, 1), (2, .iload_n 1, 1), (3, .invokevirtual 237, 3), (6, .iconst 1, 1), (7, .invokevirtual 176, 3), (10, .ifCond .ne 40, 3), (13, .aload_n 0, 1), (14, .iload_n 2, 1), (15, .bipush 109, 2), (17, .if_icmp .eq 25, 3), (20, .iload_n 2, 1), (21, .bipush 98, 2), (23, .if_icmp .eq 19, 3), (26, .iload_n 2, 1), (27, .bipush 99, 2), (29, .if_icmp .eq 13, 3), (32, .iload_n 2, 1), (33, .bipush 114, 2), (35, .if_icmp .eq 7, 3), (38, .iconst 1, 1), (39, .goto 4, 3), (42, .iconst 0, 1), (43, .iconst 2, 1), (44, .invokevirtual 176, 3), (47, .ifCond .eq 6, 3), (50, .bipush 32, 2), (52, .ireturn, 1), (53, .aload_n 0, 1), (54, .getfield 70, 3), (57, .iload_n 1, 1), (58, .caload, 1), (59, .istore_n 3, 1), (60, .aload_n 0, 1), (61, .getfield 70, 3), (64, .iload_n 1, 1), (65, .iload_n 2, 1), (66, .castore, 1), (67, .iload_n 3, 1), (68, .ireturn, 1)]),
  (prog_14_method_72_code, [(0, .aload_n 0, 1), (1, .iload_n 1, 1), (2, .invokevirtual 237, 3), (5, .ifCond .ne 19, 3), (8, .iload_n 2, 1), (9, .iconst 0, 1), (10, .aload_n 0, 1), (11, .getfield 115, 3), (14, .iload_n 1, 1), (15, .iaload, 1), (16, .iconst 1, 1), (17, .isub, 1), (18, .invokestatic 159, 3), (21, .ifCond .ne 7, 3), (24, .iconst 1, 1), (25, .goto 4, 3), (28, .iconst 0, 1), (29, .ireturn, 1)]),
  (prog_14_method_73_code, [(0, .aload_n 0, 1), (1, .aload_n 0, 1), (2, .iload_n 1, 1), (3, .iload_n 2, 1), (4, .invokevirtual 315, 3), (7, .ifCond .ne 11, 3), (10, .aload_n 0, 1), (11, .iload_n 3, 1), (12, .invokevirtual 293, 3), (15, .ifCond .eq 7, 3), (18, .iconst 1, 1), (19, .goto 4, 3), (22, .iconst 0, 1), (23, .iconst 1, 1), (24, .invokevirtual 176, 3), (27, .ifCond .eq 5, 3), (30, .iconst 0, 1), (31, .ireturn, 1), (32, .aload_n 0, 1), (33, .getfield 128, 3), (36, .iload_n 1, 1), (37, .aaload, 1), (38, .iload_n 2, 1), (39, .aaload, 1), (40, .astore 4, 2), (42, .aload_n 0, 1), (43, .iload_n 3, 1), (44, .invokevirtual 284, 3), (47, .bipush 110, 2), (49, .if_icmp .ne 22, 3), (52, .aload_n 0, 1), (53, .getfield 23, 3), (56, .aload_n 0, 1), (57, .getfield 85, 3), (60, .iload_n 3, 1), (61, .iaload, 1), (62, .iaload, 1), (63, .iload_n 1, 1), (64, .if_icmp .ne 7, 3), (67, .iconst 1, 1), (68, .goto 4, 3), (71, .iconst 0, 1), (72, .istore 5, 2), (74, .aload_n 0, 1), (75, .iload 5, 2), (77, .ifCond .eq 24, 3), (80, .aload 4, 2), (82, .aload_n 0, 1), (83, .getfield 268, 3), (86, .iaload, 1), (87, .ifCond .lt 18, 3), (90, .aload 4, 2), (92, .aload_n 0, 1), (93, .getfield 268, 3), (96, .iaload, 1), (97, .iload_n 3, 1), (98, .if_icmp .eq 7, 3), (101, .iconst 1, 1), (102, .goto 4, 3), (105, .iconst 0, 1), (106, .iconst 2, 1), (107, .invokevirtual 176, 3), (110, .ifCond .eq 5, 3), (113, .iconst 0, 1), (114, .ireturn, 1), (115, .aload 4, 2), (117, .aload_n 0, 1), (118, .getfield 268, 3), (121, .iload_n 3, 1), (122, .iastore, 1), (123, .aload_n 0, 1), (124, .getfield 123, 3), (127, .iload_n 1, 1), (128, .aaload, 1), (129, .iload_n 2, 1), (130, .aaload, 1), (131, .aload_n 0, 1), (132, .getfield 85, 3), (135, .iload_n 3, 1), (136, .iaload, 1), (137, .iconst 1, 1), (138, .bastore, 1), (139, .iconst 0, 1), (140, .istore 6, 2), (142, .iconst 0, 1), (143, .istore 7, 2), (145, .iload 7, 2), (147, .aload_n 0, 1), (148, .getfield 156, 3), (151, .if_icmp .ge 44, 3), (154, .iload 6, 2), (156, .aload_n 0, 1), (157, .getfield 23, 3), (160, .iload 7, 2), (162, .iaload, 1), (163, .iload_n 1, 1), (164, .if_icmp .ne 21, 3), (167, .aload_n 0, 1), (168, .getfield 123, 3), (171, .iload_n 1, 1), (172, .aaload, 1), (173, .iload_n 2, 1), (174, .aaload, 1), (175, .iload 7, 2), (177, .baload, 1), (178, .ifCond .eq 7, 3), (181, .iconst 1, 1), (182, .goto 4, 3), (185, .iconst 0, 1), (186, .iadd, 1), (187, .istore 6, 2), (189, .iinc 7 1, 3), (192, .goto (-47), 3), (195, .iload 6, 2), (197, .ireturn, 1)]),
  (prog_14_method_74_code, [(0, .aload_n 0, 1), (1, .aload_n 0, 1), (2, .iload_n 1, 1), (3, .invokevirtual 183, 3), (6, .iconst 1, 1), (7, .invokevirtual 176, 3), (10, .ifCond .ne 25, 3), (13, .aload_n 0, 1), (14, .aload_n 0, 1), (15, .getfield 318, 3), (18, .bipush 9, 2), (20, .if_icmp .ne 7, 3), (23, .iconst 1, 1), (24, .goto 4, 3), (27, .iconst 0, 1), (28, .iconst 2, 1), (29, .invokevirtual 176, 3), (32, .ifCond .eq 5, 3), (35, .iconst 0, 1), (36, .ireturn, 1), (37, .aload_n 0, 1), (38, .getfield 137, 3), (41, .aload_n 0, 1), (42, .getfield 318, 3), (45, .iload_n 1, 1), (46, .iastore, 1), (47, .aload_n 0, 1), (48, .dup, 1), (49, .getfield 318, 3), (52, .iconst 1, 1), (53, .iadd, 1), (54, .putfield 318, 3), (57, .aload_n 0, 1), (58, .getfield 318, 3), (61, .ireturn, 1)]),
  (prog_14_method_75_code, [(0, .aload_n 0, 1), (1, .iconst 0, 1), (2, .putfield 152, 3), (5, .aload_n 0, 1), (6, .getfield 318, 3), (9, .istore_n 1, 1), (10, .aload_n 0, 1), (11, .iconst 0, 1), (12, .putfield 318, 3), (15, .iload_n 1, 1), (16, .ireturn, 1)]),
  (prog_14_method_76_code, [(0, .iconst 0, 1), (1, .istore_n 2, 1), (2, .iconst 0, 1), (3, .istore_n 3, 1), (4, .iload_n 3, 1), (5, .aload_n 0, 1), (6, .getfield 115, 3), (9, .iload_n 1, 1), (10, .iaload, 1), (11, .if_icmp .ge 28, 3), (14, .iload_n 2, 1), (15, .aload_n 0, 1), (16, .getfield 131, 3), (19, .iload_n 1, 1), (20, .aaload, 1), (21, .iload_n 3, 1), (22, .iaload, 1), (23, .ifCond .le 7, 3), (26, .iconst 1, 1), (27, .goto 4, 3), (30, .iconst 0, 1), (31, .iadd, 1), (32, .istore_n 2, 1), (33, .iinc 3 1, 3), (36, .goto (-32), 3), (39, .iload_n 2, 1), (40, .ireturn, 1)]),
  (prog_14_method_77_code, [(0, .aload_n 0, 1), (1, .aload_n 0, 1), (2, .iload_n 1, 1), (3, .iload_n 2, 1), (4, .invokevirtual 315, 3), (7, .iconst 1, 1), (8, .invokevirtual 176, 3), (11, .ifCond .eq 5, 3), (14, .iconst 0, 1), (15, .ireturn, 1), (16, .aload_n 0, 1), (17, .getfield 318, 3), (20, .ifCond .le 7, 3), (23, .iconst 1, 1), (24, .goto 4, 3), (27, .iconst 0, 1), (28, .istore_n 3, 1), (29, .iconst 0, 1), (30, .istore 4, 2), (32, .iload 4, 2), (34, .aload_n 0, 1), (35, .getfield 156, 3), (38, .if_icmp .ge 130, 3), (41, .iconst 0, 1), (42, .istore 5, 2), (44, .iconst 0, 1), (45, .istore 6, 2), (47, .iload 6, 2), (49, .aload_n 0, 1), (50, .getfield 318, 3), (53, .if_icmp .ge 31, 3), (56, .iload 5, 2), (58, .aload_n 0, 1), (59, .getfield 137, 3), (62, .iload 6, 2), (64, .iaload, 1), (65, .iload 4, 2), (67, .if_icmp .ne 7, 3), (70, .iconst 1, 1), (71, .goto 4, 3), (74, .iconst 0, 1), (75, .iadd, 1), (76, .istore 5, 2), (78, .iinc 6 1, 3), (81, .goto (-34), 3), (84, .aload_n 0, 1), (85, .getfield 23, 3), (88, .iload 4, 2), (90, .iaload, 1), (91, .iload_n 1, 1), (92, .if_icmp .ne 25, 3), (95, .aload_n 0, 1), (96, .getfield 17, 3), (99, .iload 4, 2), (101, .iaload, 1), (102, .aload_n 0, 1), (103, .getfield 118, 3), (106, .iload_n 1, 1), (107, .aaload, 1), (108, .iload_n 2, 1), (109, .iaload, 1), (110, .if_icmp .eq 7, 3), (113, .iconst 1, 1), (114, .goto 4, 3), (117, .iconst 0, 1), (118, .istore 6, 2), (120, .iload_n 3, 1), (121, .iload 5, 2), (123, .iload 6, 2), (125, .ifCond .eq 7, 3), (128, .iconst 1, 1), (129, .goto 4, 3), (132, .iconst 0, 1), (133, .if_icmp .ne 26, 3), (136, .iload 6, 2), (138, .ifCond .eq 17, 3), (141, .aload_n 0, 1), (142, .getfield 123, 3), (145, .iload_n 1, 1), (146, .aaload, 1), (147, .iload_n 2, 1), (148, .aaload, 1), (149, .iload 4, 2), (151, .baload, 1), (152, .ifCond .eq 7, 3), (155, .iconst 1, 1), (156, .goto 4, 3), (159, .iconst 0, 1), (160, .iand, 1), (161, .istore_n 3, 1), (162, .iinc 4 1, 3), (165, .goto (-133), 3), (168, .aload_n 0, 1), (169, .iload_n 3, 1), (170, .ifCond .ne 7, 3), (173, .iconst 1, 1), (174, .goto 4, 3), (177, .iconst 0, 1), (178, .iconst 2, 1), (179, .invokevirtual 176, 3), (182, .ifCond .eq 5, 3), (185, .iconst 0, 1), (186, .ireturn, 1), (187, .aload_n 0, 1), (188, .getfield 137, 3), (191, .iconst 0, 1), (192, .aload_n 0, 1), (193, .getfield 134, 3), (196, .iload_n 1, 1), (197, .aaload, 1), (198, .iload_n 2, 1), (199, .aaload, 1), (200, .iconst 0, 1), (201, .bipush 9, 2), (203, .invokestatic 166, 3), (206, .aload_n 0, 1), (207, .getfield 131, 3), (210, .iload_n 1, 1), (211, .aaload, 1), (212, .iload_n 2, 1), (213, .aload_n 0, 1), (214, .getfield 318, 3), (217, .iastore, 1), (218, .aload_n 0, 1), (219, .iconst 0, 1), (220, .putfield 318, 3), (223, .aload_n 0, 1), (224, .iload_n 1, 1), (225, .invokevirtual 321, 3), (228, .ireturn, 1)]),
  (prog_14_method_78_code, [(0, .iconst 0, 1), (1, .istore_n 3, 1), (2, .iload_n 3, 1), (3, .aload_n 0, 1), (4, .getfield 131, 3), (7, .iload_n 1, 1), (8, .aaload, 1), (9, .iload_n 2, 1), (10, .iaload, 1), (11, .if_icmp .ge 38, 3), (14, .aload_n 0, 1), (15, .getfield 149, 3), (18, .aload_n 0, 1), (19, .getfield 134, 3), (22, .iload_n 1, 1), (23, .aaload, 1), (24, .iload_n 2, 1), (25, .aaload, 1), (26, .iload_n 3, 1), (27, .iaload, 1), (28, .baload, 1), (29, .ifCond .eq 14, 3), (32, .aload_n 0, 1), (33, .getfield 134, 3), (36, .iload_n 1, 1), (37, .aaload, 1), (38, .iload_n 2, 1), (39, .aaload, 1), (40, .iload_n 3, 1), (41, .iaload, 1), (42, .ireturn, 1), (43, .iinc 3 1, 3), (46, .goto (-44), 3), (49, .iconst (-1), 1), (50, .ireturn, 1)]),
  (prog_14_method_79_code, [(0, .iconst 0, 1), (1, .istore_n 3, 1), (2, .iconst 0, 1), (3, .istore 4, 2), (5, .iload 4, 2), (7, .aload_n 0, 1), (8, .getfield 115, 3), (11, .iload_n 1, 1), (12, .iaload, 1), (13, .if_icmp .ge 28, 3), (16, .iload_n 3, 1), (17, .aload_n 0, 1), (18, .iload_n 1, 1), (19, .iload 4, 2), (21, .invokevirtual 324, 3), (24, .iload_n 2, 1), (25, .if_icmp .ne 7, 3), (28, .iconst 1, 1), (29, .goto 4, 3), (32, .iconst 0, 1), (33, .iadd, 1), (34, .istore_n 3, 1), (35, .iinc 4 1, 3), (38, .goto (-33), 3), (41, .iload_n 3, 1), (42, .ireturn, 1)])]
noncomputable def a_prog_12 : List (ByteArray × List (Nat × Instr × Nat)) := [
  (prog_14_method_80_code, [(0, .iconst (-1), 1), (1, .istore 4, 2), (3, .iconst 0, 1), (4, .istore 5, 2), (6, .iload 5, 2), (8, .aload_n 0, 1), (9, .getfield 131, 3), (12, .iload_n 1, 1), (13, .aaload, 1), (14, .iload_n 2, 1), (15, .iaload, 1), (16, .if_icmp .ge 33, 3), (19, .aload_n 0, 1), (20, .getfield 134, 3), (23, .iload_n 1, 1), (24, .aaload, 1), (25, .iload_n 2, 1), (26, .aaload, 1), (27, .iload 5, 2), (29, .iaload, 1), (30, .iload_n 3, 1), (31, .if_icmp .ne 8, 3), (34, .iload 5, 2), (36, .goto 5, 3), (39, .iload 4, 2), (41, .istore 4, 2), (43, .iinc 5 1, 3), (46, .goto (-40), 3), (49, .iload 4, 2), (51, .ireturn, 1)]),
  (prog_14_method_81_code, [(0, .iconst 0, 1), (1, .istore_n 3, 1), (2, .iconst 0, 1), (3, .istore 4, 2), (5, .iload 4, 2), (7, .aload_n 0, 1), (8, .getfield 115, 3), (11, .iload_n 1, 1), (12, .iaload, 1), (13, .if_icmp .ge 78, 3), (16, .aload_n 0, 1), (17, .iload_n 1, 1), (18, .iload 4, 2), (20, .iload_n 2, 1), (21, .invokevirtual 327, 3), (24, .istore 5, 2), (26, .iload 5, 2), (28, .iconst 1, 1), (29, .iadd, 1), (30, .istore 6, 2), (32, .iload 6, 2), (34, .aload_n 0, 1), (35, .getfield 131, 3), (38, .iload_n 1, 1), (39, .aaload, 1), (40, .iload 4, 2), (42, .iaload, 1), (43, .if_icmp .ge 42, 3), (46, .iload 5, 2), (48, .ifCond .lt 37, 3), (51, .iload_n 3, 1), (52, .aload_n 0, 1), (53, .getfield 149, 3), (56, .aload_n 0, 1), (57, .getfield 134, 3), (60, .iload_n 1, 1), (61, .aaload, 1), (62, .iload 4, 2), (64, .aaload, 1), (65, .iload 6, 2), (67, .iaload, 1), (68, .baload, 1), (69, .ifCond .eq 7, 3), (72, .iconst 1, 1), (73, .goto 4, 3), (76, .iconst 0, 1), (77, .iadd, 1), (78, .istore_n 3, 1), (79, .iinc 6 1, 3), (82, .goto (-50), 3), (85, .iinc 4 1, 3), (88, .goto (-83), 3), (91, .iload_n 3, 1), (92, .ireturn, 1)]),
  (prog_14_method_82_code, [(0, .iconst 0, 1), (1, .istore 4, 2), (3, .iconst 0, 1), (4, .istore 5, 2), (6, .iload 5, 2), (8, .aload_n 0, 1), (9, .getfield 115, 3), (12, .iload_n 1, 1), (13, .iaload, 1), (14, .if_icmp .ge 60, 3), (17, .aload_n 0, 1), (18, .iload_n 1, 1), (19, .iload 5, 2), (21, .iload_n 2, 1), (22, .invokevirtual 327, 3), (25, .istore 6, 2), (27, .aload_n 0, 1), (28, .iload_n 1, 1), (29, .iload 5, 2), (31, .iload_n 3, 1), (32, .invokevirtual 327, 3), (35, .istore 7, 2), (37, .iload 4, 2), (39, .iload 6, 2), (41, .ifCond .lt 8, 3), (44, .iload 7, 2), (46, .ifCond .ge 7, 3), (49, .iconst 0, 1), (50, .goto 15, 3), (53, .iload 6, 2), (55, .iload 7, 2), (57, .if_icmp .ge 7, 3), (60, .iconst 1, 1), (61, .goto 4, 3), (64, .iconst (-1), 1), (65, .iadd, 1), (66, .istore 4, 2), (68, .iinc 5 1, 3), (71, .goto (-65), 3), (74, .iload 4, 2), (76, .ifCond .le 7, 3), (79, .iconst 1, 1), (80, .goto 4, 3), (83, .iconst 0, 1), (84, .ireturn, 1)]),
  (prog_14_method_83_code, [(0, .iconst (-1), 1), (1, .istore_n 3, 1), (2, .iconst 0, 1), (3, .istore 4, 2), (5, .iload 4, 2), (7, .aload_n 0, 1), (8, .getfield 156, 3), (11, .if_icmp .ge 85, 3), (14, .aload_n 0, 1), (15, .getfield 149, 3), (18, .iload 4, 2), (20, .baload, 1), (21, .ifCond .eq 69, 3), (24, .iload_n 2, 1), (25, .ifCond .eq 13, 3), (28, .aload_n 0, 1), (29, .iload_n 1, 1), (30, .iload 4, 2), (32, .invokevirtual 330, 3), (35, .goto 10, 3), (38, .aload_n 0, 1), (39, .iload_n 1, 1), (40, .iload 4, 2), (42, .invokevirtual 333, 3), (45, .istore 5, 2), (47, .iload_n 3, 1), (48, .ifCond .ge 7, 3), (51, .iconst (-1), 1), (52, .goto 22, 3), (55, .iload_n 2, 1), (56, .ifCond .eq 12, 3), (59, .aload_n 0, 1), (60, .iload_n 1, 1), (61, .iload_n 3, 1), (62, .invokevirtual 330, 3), (65, .goto 9, 3), (68, .aload_n 0, 1), (69, .iload_n 1, 1), (70, .iload_n 3, 1), (71, .invokevirtual 333, 3), (74, .istore 6, 2), (76, .iload 5, 2), (78, .iload 6, 2), (80, .if_icmp .le 8, 3), (83, .iload 4, 2), (85, .goto 4, 3), (88, .iload_n 3, 1), (89, .istore_n 3, 1), (90, .iinc 4 1, 3), (93, .goto (-88), 3), (96, .iload_n 3, 1), (97, .ireturn, 1)]),
  (prog_14_method_84_code, [(0, .iconst 0, 1), (1, .istore_n 2, 1), (2, .iload_n 2, 1), (3, .aload_n 0, 1), (4, .getfield 156, 3), (7, .if_icmp .ge 77, 3), (10, .aload_n 0, 1), (11, .getfield 149, 3), (14, .iload_n 2, 1), (15, .baload, 1), (16, .istore_n 3, 1), (17, .iconst 0, 1), (18, .istore 4, 2), (20, .iload 4, 2), (22, .aload_n 0, 1), (23, .getfield 156, 3), (26, .if_icmp .ge 46, 3), (29, .iload_n 3, 1), (30, .ifCond .eq 42, 3), (33, .iload 4, 2), (35, .iload_n 2, 1), (36, .if_icmp .eq 24, 3), (39, .aload_n 0, 1), (40, .getfield 149, 3), (43, .iload 4, 2), (45, .baload, 1), (46, .ifCond .eq 14, 3), (49, .aload_n 0, 1), (50, .iload_n 1, 1), (51, .iload_n 2, 1), (52, .iload 4, 2), (54, .invokevirtual 336, 3), (57, .ifCond .eq 7, 3), (60, .iconst 1, 1), (61, .goto 4, 3), (64, .iconst 0, 1), (65, .istore_n 3, 1), (66, .iinc 4 1, 3), (69, .goto (-49), 3), (72, .iload_n 3, 1), (73, .ifCond .eq 5, 3), (76, .iload_n 2, 1), (77, .ireturn, 1), (78, .iinc 2 1, 3), (81, .goto (-79), 3), (84, .aload_n 0, 1), (85, .iload_n 1, 1), (86, .iconst 1, 1), (87, .invokevirtual 339, 3), (90, .ireturn, 1)]),
  (prog_14_method_85_code, [(0, .iconst 0, 1), (1, .istore_n 2, 1), (2, .iconst 0, 1), (3, .istore_n 3, 1), (4, .iload_n 3, 1), (5, .aload_n 0, 1), (6, .getfield 115, 3), (9, .iload_n 1, 1), (10, .iaload, 1), (11, .if_icmp .ge 26, 3), (14, .iload_n 2, 1), (15, .aload_n 0, 1), (16, .iload_n 1, 1), (17, .iload_n 3, 1), (18, .invokevirtual 324, 3), (21, .ifCond .lt 7, 3), (24, .iconst 1, 1), (25, .goto 4, 3), (28, .iconst 0, 1), (29, .iadd, 1), (30, .istore_n 2, 1), (31, .iinc 3 1, 3), (34, .goto (-30), 3), (37, .iconst (-1), 1), (38, .istore_n 3, 1), (39, .iconst 0, 1), (40, .istore 4, 2), (42, .iload 4, 2), (44, .aload_n 0, 1), (45, .getfield 156, 3), (48, .if_icmp .ge 62, 3), (51, .aload_n 0, 1), (52, .getfield 149, 3), (55, .iload 4, 2), (57, .baload, 1), (58, .ifCond .eq 46, 3), (61, .iconst 2, 1), (62, .aload_n 0, 1), (63, .iload_n 1, 1), (64, .iload 4, 2), (66, .invokevirtual 333, 3), (69, .imul, 1), (70, .iload_n 2, 1), (71, .if_icmp .le 6, 3), (74, .iload 4, 2), (76, .ireturn, 1), (77, .iload_n 3, 1), (78, .ifCond .lt 19, 3), (81, .aload_n 0, 1), (82, .iload_n 1, 1), (83, .iload 4, 2), (85, .invokevirtual 333, 3), (88, .aload_n 0, 1), (89, .iload_n 1, 1), (90, .iload_n 3, 1), (91, .invokevirtual 333, 3), (94, .if_icmp .gt 8, 3), (97, .iload 4, 2), (99, .goto 4, 3), (102, .iload_n 3, 1), (103, .istore_n 3, 1), (104, .iinc 4 1, 3), (107, .goto (-65), 3), (110, .aload_n 0, 1), (111, .getfield 149, 3), (114, .iload_n 3, 1), (115, .iconst 0, 1), (116, .bastore, 1), (117, .goto (-117), 3)]),
  (prog_14_method_86_code, [(0, .iconst 0, 1), (1, .istore_n 2, 1), (2, .iconst 0, 1), (3, .istore_n 3, 1), (4, .iload_n 3, 1), (5, .aload_n 0, 1), (6, .getfield 156, 3), (9, .if_icmp .ge 79, 3), (12, .aload_n 0, 1), (13, .getfield 149, 3), (16, .iload_n 3, 1), (17, .iconst 0, 1), (18, .bastore, 1), (19, .iconst 0, 1), (20, .istore 4, 2), (22, .iload 4, 2), (24, .aload_n 0, 1), (25, .getfield 115, 3), (28, .iload_n 1, 1), (29, .iaload, 1), (30, .if_icmp .ge 43, 3), (33, .aload_n 0, 1), (34, .getfield 149, 3), (37, .iload_n 3, 1), (38, .dup2, 1), (39, .baload, 1), (40, .aload_n 0, 1), (41, .iload_n 1, 1), (42, .iload 4, 2), (44, .iload_n 3, 1), (45, .invokevirtual 327, 3), (48, .ifCond .lt 16, 3), (51, .aload_n 0, 1), (52, .getfield 29, 3), (55, .iload_n 3, 1), (56, .baload, 1), (57, .ifCond .ne 7, 3), (60, .iconst 1, 1), (61, .goto 4, 3), (64, .iconst 0, 1), (65, .ior, 1), (66, .bastore, 1), (67, .iinc 4 1, 3), (70, .goto (-48), 3), (73, .iload_n 2, 1), (74, .aload_n 0, 1), (75, .getfield 149, 3), (78, .iload_n 3, 1), (79, .baload, 1), (80, .ior, 1), (81, .istore_n 2, 1), (82, .iinc 3 1, 3), (85, .goto (-81), 3), (88, .iload_n 2, 1), (89, .ifCond .ne 5, 3), (92, .iconst (-1), 1), (93, .ireturn, 1), (94, .aload_n 0, 1), (95, .getfield 70, 3), (98, .iload_n 1, 1), (99, .caload, 1), (100, .istore_n 3, 1), (101, .iload_n 3, 1), (102, .bipush 99, 2), (104, .if_icmp .ne 11, 3), (107, .aload_n 0, 1), (108, .iload_n 1, 1), (109, .invokevirtual 343, 3), (112, .goto 33, 3), (115, .iload_n 3, 1), (116, .bipush 114, 2), (118, .if_icmp .ne 11, 3), (121, .aload_n 0, 1), (122, .iload_n 1, 1), (123, .invokevirtual 346, 3), (126, .goto 19, 3), (129, .aload_n 0, 1), (130, .iload_n 1, 1), (131, .iload_n 3, 1), (132, .bipush 98, 2), (134, .if_icmp .ne 7, 3), (137, .iconst 1, 1), (138, .goto 4, 3), (141, .iconst 0, 1), (142, .invokevirtual 339, 3), (145, .ireturn, 1)]),
  (prog_14_method_87_code, [(0, .aload_n 0, 1), (1, .aload_n 0, 1), (2, .iload_n 1, 1), (3, .invokevirtual 237, 3), (6, .iconst 1, 1), (7, .invokevirtual 176, 3), (10, .ifCond .eq 5, 3), (13, .iconst 0, 1), (14, .ireturn, 1), (15, .aload_n 0, 1), (16, .iload_n 1, 1), (17, .invokevirtual 349, 3), (20, .istore_n 2, 1), (21, .aload_n 0, 1), (22, .iload_n 2, 1), (23, .ifCond .ge 7, 3), (26, .iconst 1, 1), (27, .goto 4, 3), (30, .iconst 0, 1), (31, .iconst 2, 1), (32, .invokevirtual 176, 3), (35, .ifCond .eq 7, 3), (38, .iconst 0, 1), (39, .goto 4, 3), (42, .iload_n 2, 1), (43, .ireturn, 1)]),
  (prog_14_method_88_code, [(0, .aload_n 0, 1), (1, .aload_n 0, 1), (2, .iload_n 1, 1), (3, .invokevirtual 237, 3), (6, .iconst 1, 1), (7, .invokevirtual 176, 3), (10, .ifCond .eq 5, 3), (13, .iconst 0, 1), (14, .ireturn, 1), (15, .aload_n 0, 1), (16, .iload_n 1, 1), (17, .invokevirtual 349, 3), (20, .istore_n 2, 1), (21, .aload_n 0, 1), (22, .aload_n 0, 1), (23, .getfield 73, 3), (26, .iload_n 1, 1), (27, .baload, 1), (28, .ifCond .ne 22, 3), (31, .iload_n 2, 1), (32, .ifCond .lt 22, 3), (35, .aload_n 0, 1), (36, .getfield 20, 3), (39, .iload_n 2, 1), (40, .iaload, 1), (41, .aload_n 0, 1), (42, .getfield 26, 3), (45, .iload_n 2, 1), (46, .iaload, 1), (47, .if_icmp .ge 7, 3), (50, .iconst 1, 1), (51, .goto 4, 3), (54, .iconst 0, 1), (55, .iconst 2, 1), (56, .invokevirtual 176, 3), (59, .ifCond .ne 20, 3), (62, .aload_n 0, 1), (63, .iload_n 2, 1), (64, .ifCond .ge 7, 3), (67, .iconst 1, 1), (68, .goto 4, 3), (71, .iconst 0, 1), (72, .iconst 3, 1), (73, .invokevirtual 176, 3), (76, .ifCond .eq 5, 3), (79, .iconst 0, 1), (80, .ireturn, 1), (81, .aload_n 0, 1), (82, .getfield 73, 3), (85, .iload_n 1, 1), (86, .iconst 1, 1), (87, .bastore, 1), (88, .aload_n 0, 1), (89, .bipush 112, 2), (91, .iload_n 2, 1), (92, .invokevirtual 243, 3), (95, .iload_n 2, 1), (96, .ireturn, 1)]),
  (prog_14_method_89_code, [(0, .iload_n 2, 1), (1, .iconst 0, 1), (2, .bipush 9, 2), (4, .invokestatic 159, 3), (7, .ifCond .eq 39, 3), (10, .iload_n 3, 1), (11, .iconst 0, 1), (12, .bipush 99, 2), (14, .invokestatic 159, 3), (17, .ifCond .eq 29, 3), (20, .iload 4, 2), (22, .iload_n 3, 1), (23, .bipush 99, 2), (25, .invokestatic 159, 3), (28, .ifCond .eq 18, 3), (31, .iload 5, 2), (33, .iconst 0, 1), (34, .bipush 9, 2), (36, .invokestatic 159, 3), (39, .ifCond .eq 7, 3), (42, .iconst 1, 1), (43, .goto 4, 3), (46, .iconst 0, 1), (47, .istore 6, 2), (49, .aload_n 0, 1), (50, .aload_n 0, 1), (51, .iload_n 1, 1), (52, .invokevirtual 183, 3), (55, .iconst 1, 1), (56, .invokevirtual 176, 3), (59, .ifCond .ne 21, 3), (62, .aload_n 0, 1), (63, .iload 6, 2), (65, .ifCond .ne 7, 3), (68, .iconst 1, 1), (69, .goto 4, 3), (72, .iconst 0, 1), (73, .iconst 2, 1), (74, .invokevirtual 176, 3), (77, .ifCond .eq 5, 3), (80, .iconst 0, 1), (81, .ireturn, 1), (82, .aload_n 0, 1), (83, .getfield 29, 3), (86, .iload_n 1, 1), (87, .baload, 1), (88, .istore 7, 2), (90, .iconst 0, 1), (91, .istore 8, 2), (93, .iload 8, 2), (95, .aload_n 0, 1), (96, .getfield 352, 3), (99, .if_icmp .ge 72, 3), (102, .iload 7, 2), (104, .aload_n 0, 1), (105, .getfield 140, 3), (108, .iload 8, 2), (110, .aaload, 1), (111, .iconst 0, 1), (112, .iaload, 1), (113, .iload_n 1, 1), (114, .if_icmp .ne 47, 3), (117, .aload_n 0, 1), (118, .getfield 140, 3), (121, .iload 8, 2), (123, .aaload, 1), (124, .iconst 1, 1), (125, .iaload, 1), (126, .iload_n 2, 1), (127, .if_icmp .ne 34, 3), (130, .aload_n 0, 1), (131, .getfield 140, 3), (134, .iload 8, 2), (136, .aaload, 1), (137, .iconst 2, 1), (138, .iaload, 1), (139, .iload 4, 2), (141, .if_icmp .gt 20, 3), (144, .iload_n 3, 1), (145, .aload_n 0, 1), (146, .getfield 140, 3), (149, .iload 8, 2), (151, .aaload, 1), (152, .iconst 3, 1), (153, .iaload, 1), (154, .if_icmp .gt 7, 3), (157, .iconst 1, 1), (158, .goto 4, 3), (161, .iconst 0, 1), (162, .ior, 1), (163, .istore 7, 2), (165, .iinc 8 1, 3), (168, .goto (-75), 3), (171, .aload_n 0, 1), (172, .iload 7, 2), (174, .iconst 3, 1), (175, .invokevirtual 176, 3), (178, .ifCond .ne 25, 3), (181, .aload_n 0, 1), (182, .aload_n 0, 1), (183, .getfield 352, 3), (186, .bipush 40, 2), (188, .if_icmp .ne 7, 3), (191, .iconst 1, 1), (192, .goto 4, 3), (195, .iconst 0, 1), (196, .iconst 4, 1), (197, .invokevirtual 176, 3), (200, .ifCond .eq 5, 3), (203, .iconst 0, 1), (204, .ireturn, 1), (205, .iconst 5, 1), (206, .newarray .int, 2), (208, .dup, 1), (209, .iconst 0, 1), (210, .iload_n 1, 1), (211, .iastore, 1), (212, .dup, 1), (213, .iconst 1, 1), (214, .iload_n 2, 1), (215, .iastore, 1), (216, .dup, 1), (217, .iconst 2, 1), (218, .iload_n 3, 1), (219, .iastore, 1), (220, .dup, 1), (221, .iconst 3, 1), (222, .iload 4, 2), (224, .iastore, 1), (225, .dup, 1), (226, .iconst 4, 1), (227, .iload 5, 2), (229, .iastore, 1), (230, .astore 8, 2), (232, .aload 8, 2), (234, .iconst 0, 1), (235, .aload_n 0, 1), (236, .getfield 140, 3), (239, .aload_n 0, 1), (240, .getfield 352, 3), (243, .aaload, 1), (244, .iconst 0, 1), (245, .iconst 5, 1), (246, .invokestatic 166, 3), (249, .aload_n 0, 1), (250, .dup, 1), (251, .getfield 352, 3), (254, .iconst 1, 1), (255, .iadd, 1), (256, .putfield 352, 3), (259, .aload_n 0, 1), (260, .bipush 100, 2), (262, .iload_n 1, 1), (263, .invokevirtual 243, 3), (266, .aload_n 0, 1), (267, .getfield 352, 3), (270, .ireturn, 1)]),
  (prog_14_method_90_code, [(0, .aload_n 0, 1), (1, .aload_n 0, 1), (2, .iload_n 1, 1), (3, .invokevirtual 183, 3), (6, .iconst 1, 1), (7, .invokevirtual 176, 3), (10, .ifCond .ne 36, 3), (13, .aload_n 0, 1), (14, .iload_n 2, 1), (15, .iconst 0, 1), (16, .bipush 9, 2), (18, .invokestatic 159, 3), (21, .ifCond .eq 13, 3), (24, .iload_n 3, 1), (25, .iconst 0, 1), (26, .bipush 99, 2), (28, .invokestatic 159, 3), (31, .ifCond .ne 7, 3), (34, .iconst 1, 1), (35, .goto 4, 3), (38, .iconst 0, 1), (39, .iconst 2, 1), (40, .invokevirtual 176, 3), (43, .ifCond .eq 5, 3), (46, .iconst 0, 1), (47, .ireturn, 1), (48, .iconst (-1), 1), (49, .istore 4, 2), (51, .iconst 0, 1), (52, .istore 5, 2), (54, .iload 5, 2), (56, .aload_n 0, 1), (57, .getfield 352, 3), (60, .if_icmp .ge 88, 3), (63, .aload_n 0, 1), (64, .getfield 140, 3), (67, .iload 5, 2), (69, .aaload, 1), (70, .iconst 0, 1), (71, .iaload, 1), (72, .iload_n 1, 1), (73, .if_icmp .ne 45, 3), (76, .aload_n 0, 1), (77, .getfield 140, 3), (80, .iload 5, 2), (82, .aaload, 1), (83, .iconst 1, 1), (84, .iaload, 1), (85, .iload_n 2, 1), (86, .if_icmp .ne 32, 3), (89, .iload_n 3, 1), (90, .aload_n 0, 1), (91, .getfield 140, 3), (94, .iload 5, 2), (96, .aaload, 1), (97, .iconst 2, 1), (98, .iaload, 1), (99, .aload_n 0, 1), (100, .getfield 140, 3), (103, .iload 5, 2), (105, .aaload, 1), (106, .iconst 3, 1), (107, .iaload, 1), (108, .invokestatic 159, 3), (111, .ifCond .eq 7, 3), (114, .iconst 1, 1), (115, .goto 4, 3), (118, .iconst 0, 1), (119, .istore 6, 2), (121, .iload 6, 2), (123, .ifCond .eq 15, 3), (126, .aload_n 0, 1), (127, .getfield 140, 3), (130, .iload 5, 2), (132, .aaload, 1), (133, .iconst 4, 1), (134, .iaload, 1), (135, .goto 5, 3), (138, .iload 4, 2), (140, .istore 4, 2), (142, .iinc 5 1, 3), (145, .goto (-91), 3), (148, .aload_n 0, 1), (149, .iload 4, 2), (151, .ifCond .ge 7, 3), (154, .iconst 1, 1), (155, .goto 4, 3), (158, .iconst 0, 1), (159, .iconst 3, 1), (160, .invokevirtual 176, 3), (163, .ifCond .eq 7, 3), (166, .iconst 0, 1), (167, .goto 5, 3), (170, .iload 4, 2), (172, .ireturn, 1)]),
  (prog_14_method_91_code, [(0, .aload_n 0, 1), (1, .iload_n 1, 1), (2, .iconst 0, 1), (3, .aload_n 0, 1), (4, .getfield 163, 3), (7, .iconst 1, 1), (8, .isub, 1), (9, .invokestatic 159, 3), (12, .ifCond .ne 7, 3), (15, .iconst 1, 1), (16, .goto 4, 3), (19, .iconst 0, 1), (20, .iconst 1, 1), (21, .invokevirtual 176, 3), (24, .ifCond .eq 5, 3), (27, .iconst 0, 1), (28, .ireturn, 1), (29, .aload_n 0, 1), (30, .getfield 163, 3), (33, .iconst 1, 1), (34, .isub, 1), (35, .iload_n 1, 1), (36, .isub, 1), (37, .istore_n 3, 1), (38, .iload_n 2, 1), (39, .ifCond .eq 12, 3), (42, .aload_n 0, 1), (43, .getfield 146, 3), (46, .iload_n 3, 1), (47, .iaload, 1), (48, .goto 9, 3), (51, .aload_n 0, 1), (52, .getfield 143, 3), (55, .iload_n 3, 1), (56, .caload, 1), (57, .ireturn, 1)]),
  (prog_14_method_92_code, [(0, .aload_n 0, 1), (1, .iconst 0, 1), (2, .putfield 152, 3), (5, .ldc2_w 355, 3), (8, .lstore_n 1, 1), (9, .iconst 0, 1), (10, .istore_n 3, 1), (11, .iload_n 3, 1), (12, .aload_n 0, 1), (13, .getfield 271, 3), (16, .if_icmp .ge 60, 3), (19, .ldc2_w 357, 3), (22, .lload_n 1, 1), (23, .lmul, 1), (24, .aload_n 0, 1), (25, .getfield 85, 3), (28, .iload_n 3, 1), (29, .iaload, 1), (30, .i2l, 1), (31, .ladd, 1), (32, .lstore_n 1, 1), (33, .ldc2_w 357, 3), (36, .lload_n 1, 1), (37, .lmul, 1), (38, .aload_n 0, 1), (39, .getfield 88, 3), (42, .iload_n 3, 1), (43, .iaload, 1), (44, .bipush 10, 2), (46, .aload_n 0, 1), (47, .getfield 91, 3), (50, .iload_n 3, 1), (51, .iaload, 1), (52, .imul, 1), (53, .iadd, 1), (54, .i2l, 1), (55, .ladd, 1), (56, .lstore_n 1, 1), (57, .ldc2_w 357, 3), (60, .lload_n 1, 1), (61, .lmul, 1), (62, .aload_n 0, 1), (63, .iload_n 3, 1), (64, .invokevirtual 284, 3), (67, .i2l, 1), (68, .ladd, 1), (69, .lstore_n 1, 1), (70, .iinc 3 1, 3), (73, .goto (-62), 3), (76, .lload_n 1, 1), (77, .lreturn, 1)]),
  (prog_14_method_93_code, [(0, .iconst 0, 1), (1, .istore_n 1, 1), (2, .iconst 0, 1), (3, .istore_n 2, 1), (4, .iconst 0, 1), (5, .istore_n 3, 1), (6, .iload_n 3, 1), (7, .aload_n 0, 1), (8, .getfield 156, 3), (11, .if_icmp .ge 100, 3), (14, .iconst 0, 1), (15, .istore 4, 2), (17, .iconst 0, 1), (18, .istore 5, 2), (20, .iload 5, 2), (22, .aload_n 0, 1), (23, .getfield 271, 3), (26, .if_icmp .ge 40, 3), (29, .iload 4, 2), (31, .aload_n 0, 1), (32, .getfield 85, 3), (35, .iload 5, 2), (37, .iaload, 1), (38, .iload_n 3, 1), (39, .if_icmp .ne 17, 3), (42, .aload_n 0, 1), (43, .getfield 94, 3), (46, .iload 5, 2), (48, .caload, 1), (49, .ifCond .ne 7, 3), (52, .iconst 1, 1), (53, .goto 4, 3), (56, .iconst 0, 1), (57, .ior, 1), (58, .istore 4, 2), (60, .iinc 5 1, 3), (63, .goto (-43), 3), (66, .iload_n 1, 1), (67, .aload_n 0, 1), (68, .getfield 23, 3), (71, .iload_n 3, 1), (72, .iaload, 1), (73, .ifCond .lt 7, 3), (76, .iconst 1, 1), (77, .goto 4, 3), (80, .iconst 0, 1), (81, .iadd, 1), (82, .istore_n 1, 1), (83, .iload_n 2, 1), (84, .aload_n 0, 1), (85, .getfield 23, 3), (88, .iload_n 3, 1), (89, .iaload, 1), (90, .ifCond .lt 12, 3), (93, .iload 4, 2), (95, .ifCond .eq 7, 3), (98, .iconst 1, 1), (99, .goto 4, 3), (102, .iconst 0, 1), (103, .iadd, 1), (104, .istore_n 2, 1), (105, .iinc 3 1, 3), (108, .goto (-102), 3), (111, .aload_n 0, 1), (112, .iload_n 1, 1), (113, .ifCond .ne 7, 3), (116, .iconst 1, 1), (117, .goto 4, 3), (120, .iconst 0, 1), (121, .iconst 1, 1), (122, .invokevirtual 176, 3), (125, .ifCond .eq 7, 3), (128, .fconst 0, 1), (129, .goto 8, 3), (132, .iload_n 2, 1), (133, .i2f, 1), (134, .iload_n 1, 1), (135, .i2f, 1), (136, .fdiv, 1), (137, .freturn, 1)]),
  (prog_14_method_94_code, [(0, .iconst 0, 1), (1, .istore_n 1, 1), (2, .iconst 0, 1), (3, .istore_n 2, 1), (4, .iconst 0, 1), (5, .istore_n 3, 1), (6, .iload_n 3, 1), (7, .aload_n 0, 1), (8, .getfield 156, 3), (11, .if_icmp .ge 28, 3), (14, .aload_n 0, 1), (15, .iload_n 3, 1), (16, .invokevirtual 194, 3), (19, .ifCond .le 14, 3), (22, .iload_n 1, 1), (23, .aload_n 0, 1), (24, .iload_n 3, 1), (25, .invokevirtual 207, 3), (28, .iadd, 1), (29, .istore_n 1, 1), (30, .iinc 2 1, 3), (33, .iinc 3 1, 3), (36, .goto (-30), 3), (39, .aload_n 0, 1), (40, .iload_n 2, 1), (41, .ifCond .ne 7, 3), (44, .iconst 1, 1), (45, .goto 4, 3), (48, .iconst 0, 1), (49, .iconst 1, 1), (50, .invokevirtual 176, 3), (53, .ifCond .eq 7, 3), (56, .dconst 0, 1), (57, .goto 8, 3), (60, .iload_n 1, 1), (61, .i2d, 1), (62, .iload_n 2, 1), (63, .i2d, 1), (64, .ddiv, 1), (65, .dreturn, 1)]),
  (prog_14_method_95_code, [(0, .aload_n 0, 1), (1, .iconst 0, 1), (2, .putfield 152, 3), (5, .iconst 1, 1), (6, .ireturn, 1)]),
  (method_3_code, [(0, .aload 4, 2), (2, .iconst 0, 1), (3, .aload_n 0, 1), (4, .iload_n 1, 1), (5, .iload_n 2, 1), (6, .iload_n 3, 1), (7, .invokevirtual 7, 3), (10, .i2l, 1), (11, .lastore, 1), (12, .goto 11, 3), (15, .astore 5, 2), (17, .iconst 1, 1), (18, .ireturn, 1), (19, .astore 5, 2), (21, .iconst 2, 1), (22, .ireturn, 1), (23, .iconst 0, 1), (24, .ireturn, 1)]),
  (method_4_code, [(0, .aload_n 2, 1), (1, .iconst 0, 1), (2, .aload_n 0, 1), (3, .iload_n 1, 1), (4, .invokevirtual 17, 3), (7, .i2l, 1), (8, .lastore, 1), (9, .goto 9, 3), (12, .astore_n 3, 1), (13, .iconst 1, 1), (14, .ireturn, 1), (15, .astore_n 3, 1), (16, .iconst 2, 1), (17, .ireturn, 1), (18, .iconst 0, 1), (19, .ireturn, 1)]),
  (method_5_code, [(0, .aload_n 3, 1), (1, .iconst 0, 1), (2, .aload_n 0, 1), (3, .iload_n 1, 1), (4, .iload_n 2, 1), (5, .invokevirtual 21, 3), (8, .i2l, 1), (9, .lastore, 1), (10, .goto 15, 3), (13, .astore 4, 2), (15, .iconst 1, 1), (16, .ireturn, 1), (17, .astore 4, 2), (19, .iconst 2, 1), (20, .ireturn, 1), (21, .astore 4, 2), (23, .iconst 3, 1), (24, .ireturn, 1), (25, .iconst 0, 1), (26, .ireturn, 1)]),
  (method_6_code, [(0, .aload_n 3, 1), (1, .iconst 0, 1), (2, .aload_n 0, 1), (3, .iload_n 1, 1), (4, .iload_n 2, 1), (5, .invokevirtual 29, 3), (8, .ifCond .eq 7, 3), (11, .lconst 1, 1), (12, .goto 4, 3), (15, .lconst 0, 1), (16, .lastore, 1), (17, .goto 7, 3), (20, .astore 4, 2), (22, .iconst 1, 1), (23, .ireturn, 1), (24, .iconst 0, 1), (25, .ireturn, 1)])]
noncomputable def a_prog_13 : List (ByteArray × List (Nat × Instr × Nat)) := [
  (method_7_code, [(0, .aload 4, 2), (2, .iconst 0, 1), (3, .aload_n 0, 1), (4, .iload_n 1, 1), (5, .iload_n 2, 1), (6, .iload_n 3, 1), (7, .invokevirtual 33, 3), (10, .i2l, 1), (11, .lastore, 1), (12, .goto 15, 3), (15, .astore 5, 2), (17, .iconst 1, 1), (18, .ireturn, 1), (19, .astore 5, 2), (21, .iconst 2, 1), (22, .ireturn, 1), (23, .astore 5, 2), (25, .iconst 3, 1), (26, .ireturn, 1), (27, .iconst 0, 1), (28, .ireturn, 1)]),
  (method_8_code, [(0, .aload_n 3, 1), (1, .iconst 0, 1), (2, .aload_n 0, 1), (3, .iload_n 1, 1), (4, .iload_n 2, 1), (5, .invokevirtual 37, 3), (8, .i2l, 1), (9, .lastore, 1), (10, .goto 11, 3), (13, .astore 4, 2), (15, .iconst 1, 1), (16, .ireturn, 1), (17, .astore 4, 2), (19, .iconst 2, 1), (20, .ireturn, 1), (21, .iconst 0, 1), (22, .ireturn, 1)]),
  (method_9_code, [(0, .aload_n 2, 1), (1, .iconst 0, 1), (2, .aload_n 0, 1), (3, .iload_n 1, 1), (4, .invokevirtual 42, 3), (7, .i2l, 1), (8, .lastore, 1), (9, .goto 9, 3), (12, .astore_n 3, 1), (13, .iconst 1, 1), (14, .ireturn, 1), (15, .astore_n 3, 1), (16, .iconst 2, 1), (17, .ireturn, 1), (18, .iconst 0, 1), (19, .ireturn, 1)]),
  (method_10_code, [(0, .aload_n 2, 1), (1, .iconst 0, 1), (2, .aload_n 0, 1), (3, .iload_n 1, 1), (4, .invokevirtual 45, 3), (7, .ifCond .eq 7, 3), (10, .lconst 1, 1), (11, .goto 4, 3), (14, .lconst 0, 1), (15, .lastore, 1), (16, .goto 6, 3), (19, .astore_n 3, 1), (20, .iconst 1, 1), (21, .ireturn, 1), (22, .iconst 0, 1), (23, .ireturn, 1)]),
  (method_11_code, [(0, .aload_n 3, 1), (1, .iconst 0, 1), (2, .aload_n 0, 1), (3, .iload_n 1, 1), (4, .iload_n 2, 1), (5, .invokevirtual 49, 3), (8, .i2l, 1), (9, .lastore, 1), (10, .goto 11, 3), (13, .astore 4, 2), (15, .iconst 1, 1), (16, .ireturn, 1), (17, .astore 4, 2), (19, .iconst 2, 1), (20, .ireturn, 1), (21, .iconst 0, 1), (22, .ireturn, 1)]),
  (method_12_code, [(0, .aload 6, 2), (2, .iconst 0, 1), (3, .aload_n 0, 1), (4, .iload_n 1, 1), (5, .iload_n 2, 1), (6, .iload_n 3, 1), (7, .iload 4, 2), (9, .iload 5, 2), (11, .invokevirtual 53, 3), (14, .i2l, 1), (15, .lastore, 1), (16, .goto 11, 3), (19, .astore 7, 2), (21, .iconst 1, 1), (22, .ireturn, 1), (23, .astore 7, 2), (25, .iconst 2, 1), (26, .ireturn, 1), (27, .iconst 0, 1), (28, .ireturn, 1)]),
  (method_13_code, [(0, .aload_n 2, 1), (1, .iconst 0, 1), (2, .aload_n 0, 1), (3, .iload_n 1, 1), (4, .invokevirtual 57, 3), (7, .i2l, 1), (8, .lastore, 1), (9, .goto 6, 3), (12, .astore_n 3, 1), (13, .iconst 1, 1), (14, .ireturn, 1), (15, .iconst 0, 1), (16, .ireturn, 1)]),
  (method_14_code, [(0, .aload_n 2, 1), (1, .iconst 0, 1), (2, .aload_n 0, 1), (3, .iload_n 1, 1), (4, .invokevirtual 60, 3), (7, .i2l, 1), (8, .lastore, 1), (9, .goto 9, 3), (12, .astore_n 3, 1), (13, .iconst 1, 1), (14, .ireturn, 1), (15, .astore_n 3, 1), (16, .iconst 2, 1), (17, .ireturn, 1), (18, .iconst 0, 1), (19, .ireturn, 1)]),
  (method_15_code, [(0, .aload_n 2, 1), (1, .iconst 0, 1), (2, .aload_n 0, 1), (3, .iload_n 1, 1), (4, .invokevirtual 63, 3), (7, .i2l, 1), (8, .lastore, 1), (9, .goto 6, 3), (12, .astore_n 3, 1), (13, .iconst 1, 1), (14, .ireturn, 1), (15, .iconst 0, 1), (16, .ireturn, 1)]),
  (method_16_code, [(0, .aload_n 2, 1), (1, .iconst 0, 1), (2, .aload_n 0, 1), (3, .iload_n 1, 1), (4, .invokevirtual 66, 3), (7, .i2l, 1), (8, .lastore, 1), (9, .goto 9, 3), (12, .astore_n 3, 1), (13, .iconst 1, 1), (14, .ireturn, 1), (15, .astore_n 3, 1), (16, .iconst 2, 1), (17, .ireturn, 1), (18, .iconst 0, 1), (19, .ireturn, 1)]),
  (method_17_code, [(0, .aload_n 2, 1), (1, .iconst 0, 1), (2, .aload_n 0, 1), (3, .iload_n 1, 1), (4, .invokevirtual 70, 3), (7, .ifCond .eq 7, 3), (10, .lconst 1, 1), (11, .goto 4, 3), (14, .lconst 0, 1), (15, .lastore, 1), (16, .goto 6, 3), (19, .astore_n 3, 1), (20, .iconst 1, 1), (21, .ireturn, 1), (22, .iconst 0, 1), (23, .ireturn, 1)]),
  (method_18_code, [(0, .aload_n 3, 1), (1, .iconst 0, 1), (2, .aload_n 0, 1), (3, .iload_n 1, 1), (4, .iload_n 2, 1), (5, .invokevirtual 73, 3), (8, .i2l, 1), (9, .lastore, 1), (10, .goto 11, 3), (13, .astore 4, 2), (15, .iconst 1, 1), (16, .ireturn, 1), (17, .astore 4, 2), (19, .iconst 2, 1), (20, .ireturn, 1), (21, .iconst 0, 1), (22, .ireturn, 1)]),
  (method_19_code, [(0, .aload 4, 2), (2, .iconst 0, 1), (3, .aload_n 0, 1), (4, .iload_n 1, 1), (5, .iload_n 2, 1), (6, .iload_n 3, 1), (7, .invokevirtual 77, 3), (10, .ifCond .eq 7, 3), (13, .lconst 1, 1), (14, .goto 4, 3), (17, .lconst 0, 1), (18, .lastore, 1), (19, .goto 11, 3), (22, .astore 5, 2), (24, .iconst 1, 1), (25, .ireturn, 1), (26, .astore 5, 2), (28, .iconst 2, 1), (29, .ireturn, 1), (30, .iconst 0, 1), (31, .ireturn, 1)]),
  (method_20_code, [(0, .aload 5, 2), (2, .iconst 0, 1), (3, .aload_n 0, 1), (4, .iload_n 1, 1), (5, .iload_n 2, 1), (6, .iload_n 3, 1), (7, .iload 4, 2), (9, .invokevirtual 81, 3), (12, .i2l, 1), (13, .lastore, 1), (14, .goto 15, 3), (17, .astore 6, 2), (19, .iconst 1, 1), (20, .ireturn, 1), (21, .astore 6, 2), (23, .iconst 2, 1), (24, .ireturn, 1), (25, .astore 6, 2), (27, .iconst 3, 1), (28, .ireturn, 1), (29, .iconst 0, 1), (30, .ireturn, 1)]),
  (method_21_code, [(0, .aload 4, 2), (2, .iconst 0, 1), (3, .aload_n 0, 1), (4, .iload_n 1, 1), (5, .iload_n 2, 1), (6, .iload_n 3, 1), (7, .invokevirtual 85, 3), (10, .ifCond .eq 7, 3), (13, .lconst 1, 1), (14, .goto 4, 3), (17, .lconst 0, 1), (18, .lastore, 1), (19, .goto 11, 3), (22, .astore 5, 2), (24, .iconst 1, 1), (25, .ireturn, 1), (26, .astore 5, 2), (28, .iconst 2, 1), (29, .ireturn, 1), (30, .iconst 0, 1), (31, .ireturn, 1)]),
  (method_22_code, [(0, .aload 4, 2), (2, .iconst 0, 1), (3, .aload_n 0, 1), (4, .iload_n 1, 1), (5, .iload_n 2, 1), (6, .iload_n 3, 1), (7, .invokevirtual 89, 3), (10, .i2l, 1), (11, .lastore, 1), (12, .goto 19, 3), (15, .astore 5, 2), (17, .iconst 1, 1), (18, .ireturn, 1), (19, .astore 5, 2), (21, .iconst 2, 1), (22, .ireturn, 1), (23, .astore 5, 2), (25, .iconst 3, 1), (26, .ireturn, 1), (27, .astore 5, 2), (29, .iconst 4, 1), (30, .ireturn, 1), (31, .iconst 0, 1), (32, .ireturn, 1)]),
  (method_23_code, [(0, .aload_n 2, 1), (1, .iconst 0, 1), (2, .aload_n 0, 1), (3, .iload_n 1, 1), (4, .invokevirtual 92, 3), (7, .i2l, 1), (8, .lastore, 1), (9, .goto 9, 3), (12, .astore_n 3, 1), (13, .iconst 1, 1), (14, .ireturn, 1), (15, .astore_n 3, 1), (16, .iconst 2, 1), (17, .ireturn, 1), (18, .iconst 0, 1), (19, .ireturn, 1)]),
  (method_24_code, [(0, .aload_n 3, 1), (1, .iconst 0, 1), (2, .aload_n 0, 1), (3, .iload_n 1, 1), (4, .iload_n 2, 1), (5, .invokevirtual 95, 3), (8, .i2l, 1), (9, .lastore, 1), (10, .goto 11, 3), (13, .astore 4, 2), (15, .iconst 1, 1), (16, .ireturn, 1), (17, .astore 4, 2), (19, .iconst 2, 1), (20, .ireturn, 1), (21, .iconst 0, 1), (22, .ireturn, 1)]),
  (method_25_code, [(0, .aload_n 2, 1), (1, .iconst 0, 1), (2, .aload_n 0, 1), (3, .iload_n 1, 1), (4, .invokevirtual 99, 3), (7, .i2l, 1), (8, .lastore, 1), (9, .goto 6, 3), (12, .astore_n 3, 1), (13, .iconst 1, 1), (14, .ireturn, 1), (15, .iconst 0, 1), (16, .ireturn, 1)]),
  (method_26_code, [(0, .aload_n 3, 1), (1, .iconst 0, 1), (2, .aload_n 0, 1), (3, .iload_n 1, 1), (4, .iload_n 2, 1), (5, .invokevirtual 102, 3), (8, .i2l, 1), (9, .lastore, 1), (10, .goto 15, 3), (13, .astore 4, 2), (15, .iconst 1, 1), (16, .ireturn, 1), (17, .astore 4, 2), (19, .iconst 2, 1), (20, .ireturn, 1), (21, .astore 4, 2), (23, .iconst 3, 1), (24, .ireturn, 1), (25, .iconst 0, 1), (26, .ireturn, 1)])]
noncomputable def a_prog_14 : List (ByteArray × List (Nat × Instr × Nat)) := [
  (method_27_code, [(0, .aload_n 2, 1), (1, .iconst 0, 1), (2, .aload_n 0, 1), (3, .iload_n 1, 1), (4, .invokevirtual 105, 3), (7, .i2l, 1), (8, .lastore, 1), (9, .goto 9, 3), (12, .astore_n 3, 1), (13, .iconst 1, 1), (14, .ireturn, 1), (15, .astore_n 3, 1), (16, .iconst 2, 1), (17, .ireturn, 1), (18, .iconst 0, 1), (19, .ireturn, 1)]),
  (method_28_code, [(0, .aload_n 2, 1), (1, .iconst 0, 1), (2, .aload_n 0, 1), (3, .iload_n 1, 1), (4, .invokevirtual 108, 3), (7, .i2l, 1), (8, .lastore, 1), (9, .goto 12, 3), (12, .astore_n 3, 1), (13, .iconst 1, 1), (14, .ireturn, 1), (15, .astore_n 3, 1), (16, .iconst 2, 1), (17, .ireturn, 1), (18, .astore_n 3, 1), (19, .iconst 3, 1), (20, .ireturn, 1), (21, .iconst 0, 1), (22, .ireturn, 1)]),
  (method_29_code, [(0, .aload_n 3, 1), (1, .iconst 0, 1), (2, .aload_n 0, 1), (3, .iload_n 1, 1), (4, .iload_n 2, 1), (5, .invokevirtual 111, 3), (8, .i2l, 1), (9, .lastore, 1), (10, .goto 19, 3), (13, .astore 4, 2), (15, .iconst 1, 1), (16, .ireturn, 1), (17, .astore 4, 2), (19, .iconst 2, 1), (20, .ireturn, 1), (21, .astore 4, 2), (23, .iconst 3, 1), (24, .ireturn, 1), (25, .astore 4, 2), (27, .iconst 4, 1), (28, .ireturn, 1), (29, .iconst 0, 1), (30, .ireturn, 1)]),
  (method_30_code, [(0, .aload_n 2, 1), (1, .iconst 0, 1), (2, .aload_n 0, 1), (3, .iload_n 1, 1), (4, .invokevirtual 114, 3), (7, .i2l, 1), (8, .lastore, 1), (9, .goto 9, 3), (12, .astore_n 3, 1), (13, .iconst 1, 1), (14, .ireturn, 1), (15, .astore_n 3, 1), (16, .iconst 2, 1), (17, .ireturn, 1), (18, .iconst 0, 1), (19, .ireturn, 1)]),
  (method_31_code, [(0, .aload_n 2, 1), (1, .iconst 0, 1), (2, .aload_n 0, 1), (3, .iload_n 1, 1), (4, .invokevirtual 117, 3), (7, .i2l, 1), (8, .lastore, 1), (9, .goto 9, 3), (12, .astore_n 3, 1), (13, .iconst 1, 1), (14, .ireturn, 1), (15, .astore_n 3, 1), (16, .iconst 2, 1), (17, .ireturn, 1), (18, .iconst 0, 1), (19, .ireturn, 1)]),
  (method_32_code, [(0, .aload_n 3, 1), (1, .iconst 0, 1), (2, .aload_n 0, 1), (3, .iload_n 1, 1), (4, .iload_n 2, 1), (5, .invokevirtual 120, 3), (8, .i2l, 1), (9, .lastore, 1), (10, .goto 11, 3), (13, .astore 4, 2), (15, .iconst 1, 1), (16, .ireturn, 1), (17, .astore 4, 2), (19, .iconst 2, 1), (20, .ireturn, 1), (21, .iconst 0, 1), (22, .ireturn, 1)]),
  (method_33_code, [(0, .aload_n 2, 1), (1, .iconst 0, 1), (2, .aload_n 0, 1), (3, .iload_n 1, 1), (4, .invokevirtual 123, 3), (7, .i2l, 1), (8, .lastore, 1), (9, .goto 9, 3), (12, .astore_n 3, 1), (13, .iconst 1, 1), (14, .ireturn, 1), (15, .astore_n 3, 1), (16, .iconst 2, 1), (17, .ireturn, 1), (18, .iconst 0, 1), (19, .ireturn, 1)]),
  (method_34_code, [(0, .aload_n 3, 1), (1, .iconst 0, 1), (2, .aload_n 0, 1), (3, .iload_n 1, 1), (4, .iload_n 2, 1), (5, .invokevirtual 126, 3), (8, .ifCond .eq 7, 3), (11, .lconst 1, 1), (12, .goto 4, 3), (15, .lconst 0, 1), (16, .lastore, 1), (17, .goto 7, 3), (20, .astore 4, 2), (22, .iconst 1, 1), (23, .ireturn, 1), (24, .iconst 0, 1), (25, .ireturn, 1)]),
  (method_35_code, [(0, .aload_n 3, 1), (1, .iconst 0, 1), (2, .aload_n 0, 1), (3, .iload_n 1, 1), (4, .iload_n 2, 1), (5, .invokevirtual 129, 3), (8, .i2l, 1), (9, .lastore, 1), (10, .goto 15, 3), (13, .astore 4, 2), (15, .iconst 1, 1), (16, .ireturn, 1), (17, .astore 4, 2), (19, .iconst 2, 1), (20, .ireturn, 1), (21, .astore 4, 2), (23, .iconst 3, 1), (24, .ireturn, 1), (25, .iconst 0, 1), (26, .ireturn, 1)]),
  (method_36_code, [(0, .aload_n 3, 1), (1, .iconst 0, 1), (2, .aload_n 0, 1), (3, .iload_n 1, 1), (4, .iload_n 2, 1), (5, .invokevirtual 132, 3), (8, .i2l, 1), (9, .lastore, 1), (10, .goto 11, 3), (13, .astore 4, 2), (15, .iconst 1, 1), (16, .ireturn, 1), (17, .astore 4, 2), (19, .iconst 2, 1), (20, .ireturn, 1), (21, .iconst 0, 1), (22, .ireturn, 1)]),
  (method_37_code, [(0, .aload 4, 2), (2, .iconst 0, 1), (3, .aload_n 0, 1), (4, .iload_n 1, 1), (5, .iload_n 2, 1), (6, .iload_n 3, 1), (7, .invokevirtual 135, 3), (10, .i2l, 1), (11, .lastore, 1), (12, .goto 11, 3), (15, .astore 5, 2), (17, .iconst 1, 1), (18, .ireturn, 1), (19, .astore 5, 2), (21, .iconst 2, 1), (22, .ireturn, 1), (23, .iconst 0, 1), (24, .ireturn, 1)]),
  (method_38_code, [(0, .aload_n 2, 1), (1, .iconst 0, 1), (2, .aload_n 0, 1), (3, .iload_n 1, 1), (4, .invokevirtual 138, 3), (7, .i2l, 1), (8, .lastore, 1), (9, .goto 9, 3), (12, .astore_n 3, 1), (13, .iconst 1, 1), (14, .ireturn, 1), (15, .astore_n 3, 1), (16, .iconst 2, 1), (17, .ireturn, 1), (18, .iconst 0, 1), (19, .ireturn, 1)]),
  (method_39_code, [(0, .aload_n 3, 1), (1, .iconst 0, 1), (2, .aload_n 0, 1), (3, .iload_n 1, 1), (4, .iload_n 2, 1), (5, .invokevirtual 141, 3), (8, .i2l, 1), (9, .lastore, 1), (10, .goto 11, 3), (13, .astore 4, 2), (15, .iconst 1, 1), (16, .ireturn, 1), (17, .astore 4, 2), (19, .iconst 2, 1), (20, .ireturn, 1), (21, .iconst 0, 1), (22, .ireturn, 1)]),
  (method_40_code, [(0, .aload_n 2, 1), (1, .iconst 0, 1), (2, .aload_n 0, 1), (3, .iload_n 1, 1), (4, .invokevirtual 144, 3), (7, .i2l, 1), (8, .lastore, 1), (9, .goto 9, 3), (12, .astore_n 3, 1), (13, .iconst 1, 1), (14, .ireturn, 1), (15, .astore_n 3, 1), (16, .iconst 2, 1), (17, .ireturn, 1), (18, .iconst 0, 1), (19, .ireturn, 1)]),
  (method_41_code, [(0, .aload_n 2, 1), (1, .iconst 0, 1), (2, .aload_n 0, 1), (3, .iload_n 1, 1), (4, .invokevirtual 147, 3), (7, .i2l, 1), (8, .lastore, 1), (9, .goto 12, 3), (12, .astore_n 3, 1), (13, .iconst 1, 1), (14, .ireturn, 1), (15, .astore_n 3, 1), (16, .iconst 2, 1), (17, .ireturn, 1), (18, .astore_n 3, 1), (19, .iconst 3, 1), (20, .ireturn, 1), (21, .iconst 0, 1), (22, .ireturn, 1)]),
  (method_42_code, [(0, .aload 6, 2), (2, .iconst 0, 1), (3, .aload_n 0, 1), (4, .iload_n 1, 1), (5, .iload_n 2, 1), (6, .iload_n 3, 1), (7, .iload 4, 2), (9, .iload 5, 2), (11, .invokevirtual 150, 3), (14, .i2l, 1), (15, .lastore, 1), (16, .goto 19, 3), (19, .astore 7, 2), (21, .iconst 1, 1), (22, .ireturn, 1), (23, .astore 7, 2), (25, .iconst 2, 1), (26, .ireturn, 1), (27, .astore 7, 2), (29, .iconst 3, 1), (30, .ireturn, 1), (31, .astore 7, 2), (33, .iconst 4, 1), (34, .ireturn, 1), (35, .iconst 0, 1), (36, .ireturn, 1)]),
  (method_43_code, [(0, .aload 4, 2), (2, .iconst 0, 1), (3, .aload_n 0, 1), (4, .iload_n 1, 1), (5, .iload_n 2, 1), (6, .iload_n 3, 1), (7, .invokevirtual 154, 3), (10, .i2l, 1), (11, .lastore, 1), (12, .goto 15, 3), (15, .astore 5, 2), (17, .iconst 1, 1), (18, .ireturn, 1), (19, .astore 5, 2), (21, .iconst 2, 1), (22, .ireturn, 1), (23, .astore 5, 2), (25, .iconst 3, 1), (26, .ireturn, 1), (27, .iconst 0, 1), (28, .ireturn, 1)]),
  (method_44_code, [(0, .aload_n 3, 1), (1, .iconst 0, 1), (2, .aload_n 0, 1), (3, .iload_n 1, 1), (4, .iload_n 2, 1), (5, .invokevirtual 157, 3), (8, .i2l, 1), (9, .lastore, 1), (10, .goto 7, 3), (13, .astore 4, 2), (15, .iconst 1, 1), (16, .ireturn, 1), (17, .iconst 0, 1), (18, .ireturn, 1)]),
  (method_45_code, [(0, .aload_n 1, 1), (1, .iconst 0, 1), (2, .aload_n 0, 1), (3, .invokevirtual 160, 3), (6, .f2d, 1), (7, .dastore, 1), (8, .goto 6, 3), (11, .astore_n 2, 1), (12, .iconst 1, 1), (13, .ireturn, 1), (14, .iconst 0, 1), (15, .ireturn, 1)]),
  (method_46_code, [(0, .aload_n 1, 1), (1, .iconst 0, 1), (2, .aload_n 0, 1), (3, .invokevirtual 166, 3), (6, .dastore, 1), (7, .goto 6, 3), (10, .astore_n 2, 1), (11, .iconst 1, 1), (12, .ireturn, 1), (13, .iconst 0, 1), (14, .ireturn, 1)])]
noncomputable def a_prog_15 : List (ByteArray × List (Nat × Instr × Nat)) := [
]
noncomputable def a_prog : List (ByteArray × List (Nat × Instr × Nat)) := a_prog_0 ++ (a_prog_1 ++ (a_prog_2 ++ (a_prog_3 ++ (a_prog_4 ++ (a_prog_5 ++ (a_prog_6 ++ (a_prog_7 ++ (a_prog_8 ++ (a_prog_9 ++ (a_prog_10 ++ (a_prog_11 ++ (a_prog_12 ++ (a_prog_13 ++ (a_prog_14 ++ (a_prog_15)))))))))))))))
def a_chk (P : List (ByteArray × List (Nat × Instr × Nat))) : Bool := P.all fun m => m.2.all fun e => decide (decode m.1 e.1 = .ok e.2)
theorem a_chk_prog_0 : a_chk a_prog_0 = true := by decide +kernel
theorem a_chk_prog_1 : a_chk a_prog_1 = true := by decide +kernel
theorem a_chk_prog_2 : a_chk a_prog_2 = true := by decide +kernel
theorem a_chk_prog_3 : a_chk a_prog_3 = true := by decide +kernel
theorem a_chk_prog_4 : a_chk a_prog_4 = true := by decide +kernel
theorem a_chk_prog_5 : a_chk a_prog_5 = true := by decide +kernel
theorem a_chk_prog_6 : a_chk a_prog_6 = true := by decide +kernel
theorem a_chk_prog_7 : a_chk a_prog_7 = true := by decide +kernel
theorem a_chk_prog_8 : a_chk a_prog_8 = true := by decide +kernel
theorem a_chk_prog_9 : a_chk a_prog_9 = true := by decide +kernel
theorem a_chk_prog_10 : a_chk a_prog_10 = true := by decide +kernel
theorem a_chk_prog_11 : a_chk a_prog_11 = true := by decide +kernel
theorem a_chk_prog_12 : a_chk a_prog_12 = true := by decide +kernel
theorem a_chk_prog_13 : a_chk a_prog_13 = true := by decide +kernel
theorem a_chk_prog_14 : a_chk a_prog_14 = true := by decide +kernel
theorem a_chk_prog_15 : a_chk a_prog_15 = true := by decide +kernel
def a_chs (k : Nat) : List Cond := match k with
  | 0 => k2_sels lw_privs
  | 1 => tables_1_1
  | 2 => tables_1_2
  | 3 => tables_1_3
  | 4 => tables_1_4
  | 5 => tables_1_5
  | 6 => tables_1_6
  | 7 => tables_1_7
  | 8 => tables_1_8
  | 9 => tables_1_9
  | _ => []
theorem a_chs_in {k : Nat} {w : Cond} (h : w ∈ a_chs k) : w ∈ lw_tbl := by
  unfold lw_tbl tables_1
  match k, h with
  | 0, h => exact List.mem_append_left _ h
  | 1, h => exact List.mem_append_right _ (List.mem_append_left _ h)
  | 2, h => exact List.mem_append_right _ (List.mem_append_right _ (List.mem_append_left _ h))
  | 3, h => exact List.mem_append_right _ (List.mem_append_right _ (List.mem_append_right _ (List.mem_append_left _ h)))
  | 4, h => exact List.mem_append_right _ (List.mem_append_right _ (List.mem_append_right _ (List.mem_append_right _ (List.mem_append_left _ h))))
  | 5, h => exact List.mem_append_right _ (List.mem_append_right _ (List.mem_append_right _ (List.mem_append_right _ (List.mem_append_right _ (List.mem_append_left _ h)))))
  | 6, h => exact List.mem_append_right _ (List.mem_append_right _ (List.mem_append_right _ (List.mem_append_right _ (List.mem_append_right _ (List.mem_append_right _ (List.mem_append_left _ h))))))
  | 7, h => exact List.mem_append_right _ (List.mem_append_right _ (List.mem_append_right _ (List.mem_append_right _ (List.mem_append_right _ (List.mem_append_right _ (List.mem_append_right _ (List.mem_append_left _ h)))))))
  | 8, h => exact List.mem_append_right _ (List.mem_append_right _ (List.mem_append_right _ (List.mem_append_right _ (List.mem_append_right _ (List.mem_append_right _ (List.mem_append_right _ (List.mem_append_right _ (List.mem_append_left _ h))))))))
  | 9, h => exact List.mem_append_right _ (List.mem_append_right _ (List.mem_append_right _ (List.mem_append_right _ (List.mem_append_right _ (List.mem_append_right _ (List.mem_append_right _ (List.mem_append_right _ (List.mem_append_right _ (h)))))))))
  | k + 10, h => exact absurd h List.not_mem_nil
-- method numbers
abbrev m_X0_init : Nat := 0
abbrev m_X0_add : Nat := 1
abbrev m_X0_placeOf : Nat := 2
abbrev m_X1_init : Nat := 3
abbrev m_X1_findWinner : Nat := 4
abbrev m_X1_dropWithdrawn : Nat := 5
abbrev m_X1_placeOn : Nat := 6
abbrev m_X1_firstOn : Nat := 7
abbrev m_X1_isRanked : Nat := 8
abbrev m_X1_firstsOf : Nat := 9
abbrev m_X1_pointsOf : Nat := 10
abbrev m_X1_withMost : Nat := 11
abbrev m_X1_byDuels : Nat := 12
abbrev m_X1_winsEachDuel : Nat := 13
abbrev m_X1_leadOf : Nat := 14
abbrev m_X1_byRounds : Nat := 15
abbrev m_X1_withFewestFirsts : Nat := 16
abbrev m_X1_recount : Nat := 17
abbrev m_X1_tallyBallots : Nat := 18
abbrev m_X1_tallyBallot : Nat := 19
abbrev m_X1_tallied : Nat := 20
abbrev m_X1_recountDuels : Nat := 21
abbrev m_X1_recountRounds : Nat := 22
abbrev m_X2_init : Nat := 23
abbrev m_X2_begin : Nat := 24
abbrev m_X2_showElsewhere : Nat := 25
abbrev m_X2_enter : Nat := 26
abbrev m_X2_leave : Nat := 27
abbrev m_X2_breaksPromise : Nat := 28
abbrev m_X2_hoursLong : Nat := 29
abbrev m_X3_init : Nat := 30
abbrev m_X3_stateOf : Nat := 31
abbrev m_X3_canRun : Nat := 32
abbrev m_X3_canRunThrough : Nat := 33
abbrev m_X3_canBeSet : Nat := 34
abbrev m_X3_isFree : Nat := 35
abbrev m_X3_setShow : Nat := 36
abbrev m_X3_setAtFirstPlace : Nat := 37
abbrev m_X3_showOn : Nat := 38
abbrev m_X3_hasToCome : Nat := 39
abbrev m_X3_hasStanding : Nat := 40
abbrev m_X3_findOnDay : Nat := 41
abbrev m_X3_findWithoutPrint : Nat := 42
abbrev m_X3_findOfFilm : Nat := 43
abbrev m_X3_addFound : Nat := 44
abbrev m_X3_takeFound : Nat := 45
abbrev m_X3_setFoundAnew : Nat := 46
abbrev m_X3_isSeatedElsewhere : Nat := 47
abbrev m_X3_keepsApart : Nat := 48
abbrev m_X3_areOfOneSection : Nat := 49
abbrev m_X3_keepsSeats : Nat := 50
abbrev m_X4_init : Nat := 51
abbrev m_X4_sawAnother : Nat := 52
abbrev m_X4_look : Nat := 53
abbrev m_X4_vote : Nat := 54
abbrev m_X5_init : Nat := 55
abbrev m_X5_addPass : Nat := 56
abbrev m_X5_giveSeats : Nat := 57
abbrev m_X6_init : Nat := 58
abbrev m_X6_addReader : Nat := 59
abbrev m_X6_isFree : Nat := 60
abbrev m_X6_countFree : Nat := 61
abbrev m_X6_dealOnce : Nat := 62
abbrev m_X6_countDealt : Nat := 63
abbrev m_X6_tell : Nat := 64
abbrev m_X6_countTold : Nat := 65
abbrev m_X6_evenScore : Nat := 66
abbrev m_X6_meanOfEven : Nat := 67
abbrev m_X6_spread : Nat := 68
abbrev m_X7_init : Nat := 69
abbrev m_X7_addDeal : Nat := 70
abbrev m_X7_isOver : Nat := 71
abbrev m_X7_isSoldWithin : Nat := 72
abbrev m_X7_buyerIn : Nat := 73
abbrev m_X7_keepApart : Nat := 74
abbrev m_X8_init : Nat := 75
abbrev m_X8_begin : Nat := 76
abbrev m_X8_addJuror : Nat := 77
abbrev m_X8_countBallots : Nat := 78
abbrev m_X9_init : Nat := 79
abbrev m_X9_begin : Nat := 80
abbrev m_X9_standsIn : Nat := 81
abbrev m_X9_isAwaitedBy : Nat := 82
abbrev m_X9_addWaiting : Nat := 83
abbrev m_X9_countSeats : Nat := 84
abbrev m_X10_init : Nat := 85
abbrev m_X10_addScreen : Nat := 86
abbrev m_X10_addKey : Nat := 87
abbrev m_X10_isOpenedByKey : Nat := 88
abbrev m_X11_init : Nat := 89
abbrev m_X11_film : Nat := 90
abbrev m_X11_reader : Nat := 91
abbrev m_X11_deal : Nat := 92
abbrev m_X11_isDealt : Nat := 93
abbrev m_X11_read : Nat := 94
abbrev m_X11_even : Nat := 95
abbrev m_X11_score : Nat := 96
abbrev m_X11_isInQuarrel : Nat := 97
abbrev m_X11_rival : Nat := 98
abbrev m_X11_section : Nat := 99
abbrev m_X11_choose : Nat := 100
abbrev m_X11_sectionOf : Nat := 101
abbrev m_X11_minutes : Nat := 102
abbrev m_X11_giveUp : Nat := 103
abbrev m_X11_isBroken : Nat := 104
abbrev m_X11_screen : Nat := 105
abbrev m_X11_print : Nat := 106
abbrev m_X11_key : Nat := 107
abbrev m_X11_canShow : Nat := 108
abbrev m_X11_show : Nat := 109
abbrev m_X11_plan : Nat := 110
abbrev m_X11_of : Nat := 111
abbrev m_X11_state : Nat := 112
abbrev m_X11_at : Nat := 113
abbrev m_X11_go : Nat := 114
abbrev m_X11_now : Nat := 115
abbrev m_X11_storm : Nat := 116
abbrev m_X11_late : Nat := 117
abbrev m_X11_withdraw : Nat := 118
abbrev m_X11_pass : Nat := 119
abbrev m_X11_join : Nat := 120
abbrev m_X11_open : Nat := 121
abbrev m_X11_hasSeat : Nat := 122
abbrev m_X11_juror : Nat := 123
abbrev m_X11_rule : Nat := 124
abbrev m_X11_see : Nat := 125
abbrev m_X11_type : Nat := 126
abbrev m_X11_wipe : Nat := 127
abbrev m_X11_rank : Nat := 128
abbrev m_X11_winner : Nat := 129
abbrev m_X11_award : Nat := 130
abbrev m_X11_sell : Nat := 131
abbrev m_X11_owner : Nat := 132
abbrev m_X11_line : Nat := 133
abbrev m_X11_checksum : Nat := 134
abbrev m_X11_shownShare : Nat := 135
abbrev m_X11_meanScore : Nat := 136
abbrev m_X11_isSound : Nat := 137
abbrev m_X11_isWithin : Nat := 138
abbrev m_X11_isForm : Nat := 139
abbrev m_X11_levelOf : Nat := 140
abbrev m_X11_premiereOf : Nat := 141
abbrev m_X11_checkNumber : Nat := 142
abbrev m_X11_checkFilm : Nat := 143
abbrev m_X11_checkReader : Nat := 144
abbrev m_X11_checkSection : Nat := 145
abbrev m_X11_checkJuror : Nat := 146
abbrev m_X11_checkScreen : Nat := 147
abbrev m_X11_checkShow : Nat := 148
abbrev m_X11_checkPass : Nat := 149
abbrev m_X11_checkHour : Nat := 150
abbrev m_X11_putInOrder : Nat := 151
abbrev m_X11_orderByScore : Nat := 152
abbrev m_X11_orderUnsetByMinutes : Nat := 153
abbrev m_X11_canBeChosen : Nat := 154
abbrev m_X11_filmsIn : Nat := 155
abbrev m_X11_minutesIn : Nat := 156
abbrev m_X11_countSeen : Nat := 157
abbrev m_X11_isTyped : Nat := 158
abbrev m_X11_isBallotOf : Nat := 159
abbrev m_X11_areSectionsKept : Nat := 160
abbrev m_X11_areWinnersRight : Nat := 161
abbrev m_X12_init : Nat := 162
abbrev m_X12_isThrown : Nat := 163
abbrev m_X12_isIn : Nat := 164
abbrev m_X12_isForm : Nat := 165
abbrev m_X12_isNoFilm : Nat := 166
abbrev m_X12_writes : Nat := 167
abbrev m_X12_film : Nat := 168
abbrev m_X12_reader : Nat := 169
abbrev m_X12_mayRead : Nat := 170
abbrev m_X12_deal : Nat := 171
abbrev m_X12_isNoReader : Nat := 172
abbrev m_X12_isDealt : Nat := 173
abbrev m_X12_scoreMany : Nat := 174
abbrev m_X12_read : Nat := 175
abbrev m_X12_evenOf : Nat := 176
abbrev m_X12_even : Nat := 177
abbrev m_X12_scoreOf : Nat := 178
abbrev m_X12_score : Nat := 179
abbrev m_X12_isQuarrel : Nat := 180
abbrev m_X12_isInQuarrel : Nat := 181
abbrev m_X12_letterOf : Nat := 182
abbrev m_X12_premiereOf : Nat := 183
abbrev m_X12_rival : Nat := 184
abbrev m_X12_section : Nat := 185
abbrev m_X12_isNoSection : Nat := 186
abbrev m_X12_minutesOf : Nat := 187
abbrev m_X12_filmsOf : Nat := 188
abbrev m_X12_mayChoose : Nat := 189
abbrev m_X12_choose : Nat := 190
abbrev m_X12_sectionOf : Nat := 191
abbrev m_X12_minutes : Nat := 192
abbrev m_X12_giveUp : Nat := 193
abbrev m_X12_isBroken : Nat := 194
abbrev m_X12_screen : Nat := 195
abbrev m_X12_isNoScreen : Nat := 196
abbrev m_X12_isHour : Nat := 197
abbrev m_X12_print : Nat := 198
abbrev m_X12_key : Nat := 199
abbrev m_X12_canShowNow : Nat := 200
abbrev m_X12_canShow : Nat := 201
abbrev m_X12_lengthOf : Nat := 202
abbrev m_X12_lastOf : Nat := 203
abbrev m_X12_stateOf : Nat := 204
abbrev m_X12_hasHour : Nat := 205
abbrev m_X12_canSet : Nat := 206
abbrev m_X12_set : Nat := 207
abbrev m_X12_setAnywhere : Nat := 208
abbrev m_X12_show : Nat := 209
abbrev m_X12_hasToCome : Nat := 210
abbrev m_X12_plan : Nat := 211
abbrev m_X12_isNoShow : Nat := 212
abbrev m_X12_of : Nat := 213
abbrev m_X12_state : Nat := 214
abbrev m_X12_at : Nat := 215
abbrev m_X12_go : Nat := 216
abbrev m_X12_now : Nat := 217
abbrev m_X12_goesBy : Nat := 218
abbrev m_X12_takes : Nat := 219
abbrev m_X12_going : Nat := 220
abbrev m_X12_storm : Nat := 221
abbrev m_X12_late : Nat := 222
abbrev m_X12_withdraw : Nat := 223
abbrev m_X12_pass : Nat := 224
abbrev m_X12_waitsFor : Nat := 225
abbrev m_X12_join : Nat := 226
abbrev m_X12_isElsewhere : Nat := 227
abbrev m_X12_open : Nat := 228
abbrev m_X12_hasSeat : Nat := 229
abbrev m_X12_juror : Nat := 230
abbrev m_X12_rule : Nat := 231
abbrev m_X12_isNoJuror : Nat := 232
abbrev m_X12_see : Nat := 233
abbrev m_X12_type : Nat := 234
abbrev m_X12_wipe : Nat := 235
abbrev m_X12_ballotsOf : Nat := 236
abbrev m_X12_rank : Nat := 237
abbrev m_X12_firstOf : Nat := 238
abbrev m_X12_firsts : Nat := 239
abbrev m_X12_placeOf : Nat := 240
abbrev m_X12_points : Nat := 241
abbrev m_X12_isAheadOf : Nat := 242
abbrev m_X12_byCount : Nat := 243
abbrev m_X12_byDuels : Nat := 244
abbrev m_X12_byRounds : Nat := 245
abbrev m_X12_winnerOf : Nat := 246
abbrev m_X12_winner : Nat := 247
abbrev m_X12_award : Nat := 248
abbrev m_X12_sell : Nat := 249
abbrev m_X12_owner : Nat := 250
abbrev m_X12_line : Nat := 251
abbrev m_X12_checksum : Nat := 252
abbrev m_X12_shownShare : Nat := 253
abbrev m_X12_meanScore : Nat := 254
abbrev m_X12_isSound : Nat := 255
abbrev m_L_film : Nat := 256
abbrev m_L_reader : Nat := 257
abbrev m_L_deal : Nat := 258
abbrev m_L_isDealt : Nat := 259
abbrev m_L_read : Nat := 260
abbrev m_L_even : Nat := 261
abbrev m_L_score : Nat := 262
abbrev m_L_isInQuarrel : Nat := 263
abbrev m_L_rival : Nat := 264
abbrev m_L_section : Nat := 265
abbrev m_L_choose : Nat := 266
abbrev m_L_sectionOf : Nat := 267
abbrev m_L_minutes : Nat := 268
abbrev m_L_giveUp : Nat := 269
abbrev m_L_isBroken : Nat := 270
abbrev m_L_screen : Nat := 271
abbrev m_L_print : Nat := 272
abbrev m_L_key : Nat := 273
abbrev m_L_canShow : Nat := 274
abbrev m_L_show : Nat := 275
abbrev m_L_plan : Nat := 276
abbrev m_L_of : Nat := 277
abbrev m_L_state : Nat := 278
abbrev m_L_at : Nat := 279
abbrev m_L_go : Nat := 280
abbrev m_L_storm : Nat := 281
abbrev m_L_late : Nat := 282
abbrev m_L_withdraw : Nat := 283
abbrev m_L_pass : Nat := 284
abbrev m_L_join : Nat := 285
abbrev m_L_open : Nat := 286
abbrev m_L_hasSeat : Nat := 287
abbrev m_L_juror : Nat := 288
abbrev m_L_rule : Nat := 289
abbrev m_L_see : Nat := 290
abbrev m_L_type : Nat := 291
abbrev m_L_rank : Nat := 292
abbrev m_L_winner : Nat := 293
abbrev m_L_award : Nat := 294
abbrev m_L_sell : Nat := 295
abbrev m_L_owner : Nat := 296
abbrev m_L_line : Nat := 297
abbrev m_L_shownShare : Nat := 298
abbrev m_L_meanScore : Nat := 299
abbrev m_L_law : Nat := 300
end
section
/-! The law's own code as a list, by program (wip/genlaw.py) -/
def a_law_0 : List (Nat × Instr × Nat) := [(0, .new 8, 3), (3, .dup, 1), (4, .invokespecial 170, 3), (7, .astore_n 1, 1), (8, .new 171, 3), (11, .dup, 1), (12, .invokespecial 173, 3), (15, .astore_n 2, 1), (16, .iconst 1, 1), (17, .newarray .long, 2), (19, .astore_n 3, 1), (20, .iconst 1, 1), (21, .newarray .double, 2), (23, .astore 4, 2), (25, .iconst 0, 1), (26, .istore 5, 2), (28, .iload 5, 2), (30, .aload_n 0, 1), (31, .arraylength, 1), (32, .bipush 6, 2), (34, .isub, 1), (35, .if_icmp .gt 1999, 3), (38, .aload_n 0, 1), (39, .iload 5, 2), (41, .iaload, 1), (42, .bipush 63, 2), (44, .iand, 1), (45, .tableswitch 1983 0 47 #[207, 261, 289, 329, 369, 421, 461, 489, 517, 559, 639, 667, 695, 723, 751, 779, 835, 889, 953, 1005, 1057, 1085, 1127, 1155, 1195, 1223, 1236, 1264, 1304, 1332, 1360, 1400, 1428, 1468, 1508, 1550, 1602, 1630, 1643, 1683, 1711, 1739, 1815, 1867, 1923, 1936, 1953, 1970], 207), (252, .aload_n 1, 1), (253, .aload_n 0, 1), (254, .iload 5, 2), (256, .iconst 1, 1), (257, .iadd, 1), (258, .iaload, 1), (259, .i2c, 1), (260, .aload_n 0, 1), (261, .iload 5, 2), (263, .iconst 2, 1), (264, .iadd, 1), (265, .iaload, 1)]
theorem a_chk_law_0 : a_chk [(code, a_law_0)] = true := by decide +kernel
def a_law_1 : List (Nat × Instr × Nat) := [(266, .aload_n 0, 1), (267, .iload 5, 2), (269, .iconst 3, 1), (270, .iadd, 1), (271, .iaload, 1), (272, .aload_n 3, 1), (273, .invokestatic 174, 3), (276, .istore 6, 2), (278, .aload_n 2, 1), (279, .aload_n 0, 1), (280, .iload 5, 2), (282, .iconst 1, 1), (283, .iadd, 1), (284, .iaload, 1), (285, .i2c, 1), (286, .aload_n 0, 1), (287, .iload 5, 2), (289, .iconst 2, 1), (290, .iadd, 1), (291, .iaload, 1), (292, .aload_n 0, 1), (293, .iload 5, 2), (295, .iconst 3, 1), (296, .iadd, 1), (297, .iaload, 1), (298, .invokevirtual 179, 3), (301, .istore 7, 2), (303, .goto 1725, 3), (306, .aload_n 1, 1), (307, .aload_n 0, 1), (308, .iload 5, 2), (310, .iconst 1, 1), (311, .iadd, 1), (312, .iaload, 1), (313, .aload_n 3, 1), (314, .invokestatic 180, 3), (317, .istore 6, 2), (319, .aload_n 2, 1), (320, .aload_n 0, 1), (321, .iload 5, 2)]
theorem a_chk_law_1 : a_chk [(code, a_law_1)] = true := by decide +kernel
def a_law_2 : List (Nat × Instr × Nat) := [(323, .iconst 1, 1), (324, .iadd, 1), (325, .iaload, 1), (326, .invokevirtual 183, 3), (329, .istore 7, 2), (331, .goto 1697, 3), (334, .aload_n 1, 1), (335, .aload_n 0, 1), (336, .iload 5, 2), (338, .iconst 1, 1), (339, .iadd, 1), (340, .iaload, 1), (341, .aload_n 0, 1), (342, .iload 5, 2), (344, .iconst 2, 1), (345, .iadd, 1), (346, .iaload, 1), (347, .aload_n 3, 1), (348, .invokestatic 184, 3), (351, .istore 6, 2), (353, .aload_n 2, 1), (354, .aload_n 0, 1), (355, .iload 5, 2), (357, .iconst 1, 1), (358, .iadd, 1), (359, .iaload, 1), (360, .aload_n 0, 1), (361, .iload 5, 2), (363, .iconst 2, 1), (364, .iadd, 1), (365, .iaload, 1), (366, .invokevirtual 187, 3), (369, .istore 7, 2), (371, .goto 1657, 3), (374, .aload_n 1, 1), (375, .aload_n 0, 1), (376, .iload 5, 2), (378, .iconst 1, 1), (379, .iadd, 1), (380, .iaload, 1)]
theorem a_chk_law_2 : a_chk [(code, a_law_2)] = true := by decide +kernel
def a_law_3 : List (Nat × Instr × Nat) := [(381, .aload_n 0, 1), (382, .iload 5, 2), (384, .iconst 2, 1), (385, .iadd, 1), (386, .iaload, 1), (387, .aload_n 3, 1), (388, .invokestatic 188, 3), (391, .istore 6, 2), (393, .aload_n 2, 1), (394, .aload_n 0, 1), (395, .iload 5, 2), (397, .iconst 1, 1), (398, .iadd, 1), (399, .iaload, 1), (400, .aload_n 0, 1), (401, .iload 5, 2), (403, .iconst 2, 1), (404, .iadd, 1), (405, .iaload, 1), (406, .invokevirtual 190, 3), (409, .istore 7, 2), (411, .goto 1617, 3), (414, .aload_n 1, 1), (415, .aload_n 0, 1), (416, .iload 5, 2), (418, .iconst 1, 1), (419, .iadd, 1), (420, .iaload, 1), (421, .aload_n 0, 1), (422, .iload 5, 2), (424, .iconst 2, 1), (425, .iadd, 1), (426, .iaload, 1), (427, .aload_n 0, 1), (428, .iload 5, 2), (430, .iconst 3, 1), (431, .iadd, 1), (432, .iaload, 1), (433, .aload_n 3, 1), (434, .invokestatic 191, 3)]
theorem a_chk_law_3 : a_chk [(code, a_law_3)] = true := by decide +kernel
def a_law_4 : List (Nat × Instr × Nat) := [(437, .istore 6, 2), (439, .aload_n 2, 1), (440, .aload_n 0, 1), (441, .iload 5, 2), (443, .iconst 1, 1), (444, .iadd, 1), (445, .iaload, 1), (446, .aload_n 0, 1), (447, .iload 5, 2), (449, .iconst 2, 1), (450, .iadd, 1), (451, .iaload, 1), (452, .aload_n 0, 1), (453, .iload 5, 2), (455, .iconst 3, 1), (456, .iadd, 1), (457, .iaload, 1), (458, .invokevirtual 194, 3), (461, .istore 7, 2), (463, .goto 1565, 3), (466, .aload_n 1, 1), (467, .aload_n 0, 1), (468, .iload 5, 2), (470, .iconst 1, 1), (471, .iadd, 1), (472, .iaload, 1), (473, .aload_n 0, 1), (474, .iload 5, 2), (476, .iconst 2, 1), (477, .iadd, 1), (478, .iaload, 1), (479, .aload_n 3, 1), (480, .invokestatic 195, 3), (483, .istore 6, 2), (485, .aload_n 2, 1), (486, .aload_n 0, 1), (487, .iload 5, 2), (489, .iconst 1, 1), (490, .iadd, 1), (491, .iaload, 1)]
theorem a_chk_law_4 : a_chk [(code, a_law_4)] = true := by decide +kernel
def a_law_5 : List (Nat × Instr × Nat) := [(492, .aload_n 0, 1), (493, .iload 5, 2), (495, .iconst 2, 1), (496, .iadd, 1), (497, .iaload, 1), (498, .invokevirtual 197, 3), (501, .istore 7, 2), (503, .goto 1525, 3), (506, .aload_n 1, 1), (507, .aload_n 0, 1), (508, .iload 5, 2), (510, .iconst 1, 1), (511, .iadd, 1), (512, .iaload, 1), (513, .aload_n 3, 1), (514, .invokestatic 198, 3), (517, .istore 6, 2), (519, .aload_n 2, 1), (520, .aload_n 0, 1), (521, .iload 5, 2), (523, .iconst 1, 1), (524, .iadd, 1), (525, .iaload, 1), (526, .invokevirtual 200, 3), (529, .istore 7, 2), (531, .goto 1497, 3), (534, .aload_n 1, 1), (535, .aload_n 0, 1), (536, .iload 5, 2), (538, .iconst 1, 1), (539, .iadd, 1), (540, .iaload, 1), (541, .aload_n 3, 1), (542, .invokestatic 201, 3), (545, .istore 6, 2), (547, .aload_n 2, 1), (548, .aload_n 0, 1), (549, .iload 5, 2), (551, .iconst 1, 1), (552, .iadd, 1)]
theorem a_chk_law_5 : a_chk [(code, a_law_5)] = true := by decide +kernel
def a_law_6 : List (Nat × Instr × Nat) := [(553, .iaload, 1), (554, .invokevirtual 203, 3), (557, .istore 7, 2), (559, .goto 1469, 3), (562, .aload_n 1, 1), (563, .aload_n 0, 1), (564, .iload 5, 2), (566, .iconst 1, 1), (567, .iadd, 1), (568, .iaload, 1), (569, .aload_n 0, 1), (570, .iload 5, 2), (572, .iconst 2, 1), (573, .iadd, 1), (574, .iaload, 1), (575, .i2c, 1), (576, .aload_n 3, 1), (577, .invokestatic 204, 3), (580, .istore 6, 2), (582, .aload_n 2, 1), (583, .aload_n 0, 1), (584, .iload 5, 2), (586, .iconst 1, 1), (587, .iadd, 1), (588, .iaload, 1), (589, .aload_n 0, 1), (590, .iload 5, 2), (592, .iconst 2, 1), (593, .iadd, 1), (594, .iaload, 1), (595, .i2c, 1), (596, .invokevirtual 207, 3), (599, .istore 7, 2), (601, .goto 1427, 3), (604, .aload_n 1, 1), (605, .aload_n 0, 1), (606, .iload 5, 2), (608, .iconst 1, 1), (609, .iadd, 1), (610, .iaload, 1)]
theorem a_chk_law_6 : a_chk [(code, a_law_6)] = true := by decide +kernel
def a_law_7 : List (Nat × Instr × Nat) := [(611, .aload_n 0, 1), (612, .iload 5, 2), (614, .iconst 2, 1), (615, .iadd, 1), (616, .iaload, 1), (617, .aload_n 0, 1), (618, .iload 5, 2), (620, .iconst 3, 1), (621, .iadd, 1), (622, .iaload, 1), (623, .aload_n 0, 1), (624, .iload 5, 2), (626, .iconst 4, 1), (627, .iadd, 1), (628, .iaload, 1), (629, .i2c, 1), (630, .aload_n 0, 1), (631, .iload 5, 2), (633, .iconst 5, 1), (634, .iadd, 1), (635, .iaload, 1), (636, .i2c, 1), (637, .aload_n 3, 1), (638, .invokestatic 208, 3), (641, .istore 6, 2), (643, .aload_n 2, 1), (644, .aload_n 0, 1), (645, .iload 5, 2), (647, .iconst 1, 1), (648, .iadd, 1), (649, .iaload, 1), (650, .aload_n 0, 1), (651, .iload 5, 2), (653, .iconst 2, 1), (654, .iadd, 1), (655, .iaload, 1), (656, .aload_n 0, 1), (657, .iload 5, 2), (659, .iconst 3, 1), (660, .iadd, 1)]
theorem a_chk_law_7 : a_chk [(code, a_law_7)] = true := by decide +kernel
def a_law_8 : List (Nat × Instr × Nat) := [(661, .iaload, 1), (662, .aload_n 0, 1), (663, .iload 5, 2), (665, .iconst 4, 1), (666, .iadd, 1), (667, .iaload, 1), (668, .i2c, 1), (669, .aload_n 0, 1), (670, .iload 5, 2), (672, .iconst 5, 1), (673, .iadd, 1), (674, .iaload, 1), (675, .i2c, 1), (676, .invokevirtual 211, 3), (679, .istore 7, 2), (681, .goto 1347, 3), (684, .aload_n 1, 1), (685, .aload_n 0, 1), (686, .iload 5, 2), (688, .iconst 1, 1), (689, .iadd, 1), (690, .iaload, 1), (691, .aload_n 3, 1), (692, .invokestatic 212, 3), (695, .istore 6, 2), (697, .aload_n 2, 1), (698, .aload_n 0, 1), (699, .iload 5, 2), (701, .iconst 1, 1), (702, .iadd, 1), (703, .iaload, 1), (704, .invokevirtual 214, 3), (707, .istore 7, 2), (709, .goto 1319, 3), (712, .aload_n 1, 1), (713, .aload_n 0, 1), (714, .iload 5, 2), (716, .iconst 1, 1), (717, .iadd, 1), (718, .iaload, 1)]
theorem a_chk_law_8 : a_chk [(code, a_law_8)] = true := by decide +kernel
def a_law_9 : List (Nat × Instr × Nat) := [(719, .aload_n 3, 1), (720, .invokestatic 215, 3), (723, .istore 6, 2), (725, .aload_n 2, 1), (726, .aload_n 0, 1), (727, .iload 5, 2), (729, .iconst 1, 1), (730, .iadd, 1), (731, .iaload, 1), (732, .invokevirtual 217, 3), (735, .istore 7, 2), (737, .goto 1291, 3), (740, .aload_n 1, 1), (741, .aload_n 0, 1), (742, .iload 5, 2), (744, .iconst 1, 1), (745, .iadd, 1), (746, .iaload, 1), (747, .aload_n 3, 1), (748, .invokestatic 218, 3), (751, .istore 6, 2), (753, .aload_n 2, 1), (754, .aload_n 0, 1), (755, .iload 5, 2), (757, .iconst 1, 1), (758, .iadd, 1), (759, .iaload, 1), (760, .invokevirtual 220, 3), (763, .istore 7, 2), (765, .goto 1263, 3), (768, .aload_n 1, 1), (769, .aload_n 0, 1), (770, .iload 5, 2), (772, .iconst 1, 1), (773, .iadd, 1), (774, .iaload, 1), (775, .aload_n 3, 1), (776, .invokestatic 221, 3), (779, .istore 6, 2), (781, .aload_n 2, 1)]
theorem a_chk_law_9 : a_chk [(code, a_law_9)] = true := by decide +kernel
def a_law_10 : List (Nat × Instr × Nat) := [(782, .aload_n 0, 1), (783, .iload 5, 2), (785, .iconst 1, 1), (786, .iadd, 1), (787, .iaload, 1), (788, .invokevirtual 223, 3), (791, .istore 7, 2), (793, .goto 1235, 3), (796, .aload_n 1, 1), (797, .aload_n 0, 1), (798, .iload 5, 2), (800, .iconst 1, 1), (801, .iadd, 1), (802, .iaload, 1), (803, .aload_n 3, 1), (804, .invokestatic 224, 3), (807, .istore 6, 2), (809, .aload_n 2, 1), (810, .aload_n 0, 1), (811, .iload 5, 2), (813, .iconst 1, 1), (814, .iadd, 1), (815, .iaload, 1), (816, .invokevirtual 226, 3), (819, .istore 7, 2), (821, .goto 1207, 3), (824, .aload_n 1, 1), (825, .aload_n 0, 1), (826, .iload 5, 2), (828, .iconst 1, 1), (829, .iadd, 1), (830, .iaload, 1), (831, .aload_n 0, 1), (832, .iload 5, 2), (834, .iconst 2, 1), (835, .iadd, 1), (836, .iaload, 1), (837, .ifCond .eq 7, 3), (840, .iconst 1, 1), (841, .goto 4, 3)]
theorem a_chk_law_10 : a_chk [(code, a_law_10)] = true := by decide +kernel
def a_law_11 : List (Nat × Instr × Nat) := [(844, .iconst 0, 1), (845, .aload_n 3, 1), (846, .invokestatic 227, 3), (849, .istore 6, 2), (851, .aload_n 2, 1), (852, .aload_n 0, 1), (853, .iload 5, 2), (855, .iconst 1, 1), (856, .iadd, 1), (857, .iaload, 1), (858, .aload_n 0, 1), (859, .iload 5, 2), (861, .iconst 2, 1), (862, .iadd, 1), (863, .iaload, 1), (864, .ifCond .eq 7, 3), (867, .iconst 1, 1), (868, .goto 4, 3), (871, .iconst 0, 1), (872, .invokevirtual 230, 3), (875, .istore 7, 2), (877, .goto 1151, 3), (880, .aload_n 1, 1), (881, .aload_n 0, 1), (882, .iload 5, 2), (884, .iconst 1, 1), (885, .iadd, 1), (886, .iaload, 1), (887, .aload_n 0, 1), (888, .iload 5, 2), (890, .iconst 2, 1), (891, .iadd, 1), (892, .iaload, 1), (893, .i2c, 1), (894, .aload_n 0, 1), (895, .iload 5, 2), (897, .iconst 3, 1), (898, .iadd, 1), (899, .iaload, 1), (900, .aload_n 3, 1)]
theorem a_chk_law_11 : a_chk [(code, a_law_11)] = true := by decide +kernel
def a_law_12 : List (Nat × Instr × Nat) := [(901, .invokestatic 231, 3), (904, .istore 6, 2), (906, .aload_n 2, 1), (907, .aload_n 0, 1), (908, .iload 5, 2), (910, .iconst 1, 1), (911, .iadd, 1), (912, .iaload, 1), (913, .aload_n 0, 1), (914, .iload 5, 2), (916, .iconst 2, 1), (917, .iadd, 1), (918, .iaload, 1), (919, .i2c, 1), (920, .aload_n 0, 1), (921, .iload 5, 2), (923, .iconst 3, 1), (924, .iadd, 1), (925, .iaload, 1), (926, .invokevirtual 234, 3), (929, .istore 7, 2), (931, .goto 1097, 3), (934, .aload_n 1, 1), (935, .aload_n 0, 1), (936, .iload 5, 2), (938, .iconst 1, 1), (939, .iadd, 1), (940, .iaload, 1), (941, .aload_n 0, 1), (942, .iload 5, 2), (944, .iconst 2, 1), (945, .iadd, 1), (946, .iaload, 1), (947, .aload_n 0, 1), (948, .iload 5, 2), (950, .iconst 3, 1), (951, .iadd, 1), (952, .iaload, 1), (953, .aload_n 0, 1), (954, .iload 5, 2)]
theorem a_chk_law_12 : a_chk [(code, a_law_12)] = true := by decide +kernel
def a_law_13 : List (Nat × Instr × Nat) := [(956, .iconst 4, 1), (957, .iadd, 1), (958, .iaload, 1), (959, .aload_n 3, 1), (960, .invokestatic 235, 3), (963, .istore 6, 2), (965, .aload_n 2, 1), (966, .aload_n 0, 1), (967, .iload 5, 2), (969, .iconst 1, 1), (970, .iadd, 1), (971, .iaload, 1), (972, .aload_n 0, 1), (973, .iload 5, 2), (975, .iconst 2, 1), (976, .iadd, 1), (977, .iaload, 1), (978, .aload_n 0, 1), (979, .iload 5, 2), (981, .iconst 3, 1), (982, .iadd, 1), (983, .iaload, 1), (984, .aload_n 0, 1), (985, .iload 5, 2), (987, .iconst 4, 1), (988, .iadd, 1), (989, .iaload, 1), (990, .invokevirtual 238, 3), (993, .istore 7, 2), (995, .goto 1033, 3), (998, .aload_n 1, 1), (999, .aload_n 0, 1), (1000, .iload 5, 2), (1002, .iconst 1, 1), (1003, .iadd, 1), (1004, .iaload, 1), (1005, .aload_n 0, 1), (1006, .iload 5, 2), (1008, .iconst 2, 1), (1009, .iadd, 1)]
theorem a_chk_law_13 : a_chk [(code, a_law_13)] = true := by decide +kernel
def a_law_14 : List (Nat × Instr × Nat) := [(1010, .iaload, 1), (1011, .aload_n 0, 1), (1012, .iload 5, 2), (1014, .iconst 3, 1), (1015, .iadd, 1), (1016, .iaload, 1), (1017, .aload_n 3, 1), (1018, .invokestatic 239, 3), (1021, .istore 6, 2), (1023, .aload_n 2, 1), (1024, .aload_n 0, 1), (1025, .iload 5, 2), (1027, .iconst 1, 1), (1028, .iadd, 1), (1029, .iaload, 1), (1030, .aload_n 0, 1), (1031, .iload 5, 2), (1033, .iconst 2, 1), (1034, .iadd, 1), (1035, .iaload, 1), (1036, .aload_n 0, 1), (1037, .iload 5, 2), (1039, .iconst 3, 1), (1040, .iadd, 1), (1041, .iaload, 1), (1042, .invokevirtual 241, 3), (1045, .istore 7, 2), (1047, .goto 981, 3), (1050, .aload_n 1, 1), (1051, .aload_n 0, 1), (1052, .iload 5, 2), (1054, .iconst 1, 1), (1055, .iadd, 1), (1056, .iaload, 1), (1057, .aload_n 0, 1), (1058, .iload 5, 2), (1060, .iconst 2, 1), (1061, .iadd, 1), (1062, .iaload, 1), (1063, .aload_n 0, 1)]
theorem a_chk_law_14 : a_chk [(code, a_law_14)] = true := by decide +kernel
def a_law_15 : List (Nat × Instr × Nat) := [(1064, .iload 5, 2), (1066, .iconst 3, 1), (1067, .iadd, 1), (1068, .iaload, 1), (1069, .aload_n 3, 1), (1070, .invokestatic 242, 3), (1073, .istore 6, 2), (1075, .aload_n 2, 1), (1076, .aload_n 0, 1), (1077, .iload 5, 2), (1079, .iconst 1, 1), (1080, .iadd, 1), (1081, .iaload, 1), (1082, .aload_n 0, 1), (1083, .iload 5, 2), (1085, .iconst 2, 1), (1086, .iadd, 1), (1087, .iaload, 1), (1088, .aload_n 0, 1), (1089, .iload 5, 2), (1091, .iconst 3, 1), (1092, .iadd, 1), (1093, .iaload, 1), (1094, .invokevirtual 244, 3), (1097, .istore 7, 2), (1099, .goto 929, 3), (1102, .aload_n 1, 1), (1103, .aload_n 0, 1), (1104, .iload 5, 2), (1106, .iconst 1, 1), (1107, .iadd, 1), (1108, .iaload, 1), (1109, .aload_n 3, 1), (1110, .invokestatic 245, 3), (1113, .istore 6, 2), (1115, .aload_n 2, 1), (1116, .aload_n 0, 1), (1117, .iload 5, 2), (1119, .iconst 1, 1), (1120, .iadd, 1)]
theorem a_chk_law_15 : a_chk [(code, a_law_15)] = true := by decide +kernel
def a_law_16 : List (Nat × Instr × Nat) := [(1121, .iaload, 1), (1122, .invokevirtual 247, 3), (1125, .istore 7, 2), (1127, .goto 901, 3), (1130, .aload_n 1, 1), (1131, .aload_n 0, 1), (1132, .iload 5, 2), (1134, .iconst 1, 1), (1135, .iadd, 1), (1136, .iaload, 1), (1137, .aload_n 0, 1), (1138, .iload 5, 2), (1140, .iconst 2, 1), (1141, .iadd, 1), (1142, .iaload, 1), (1143, .i2c, 1), (1144, .aload_n 3, 1), (1145, .invokestatic 248, 3), (1148, .istore 6, 2), (1150, .aload_n 2, 1), (1151, .aload_n 0, 1), (1152, .iload 5, 2), (1154, .iconst 1, 1), (1155, .iadd, 1), (1156, .iaload, 1), (1157, .aload_n 0, 1), (1158, .iload 5, 2), (1160, .iconst 2, 1), (1161, .iadd, 1), (1162, .iaload, 1), (1163, .i2c, 1), (1164, .invokevirtual 250, 3), (1167, .istore 7, 2), (1169, .goto 859, 3), (1172, .aload_n 1, 1), (1173, .aload_n 0, 1), (1174, .iload 5, 2), (1176, .iconst 1, 1), (1177, .iadd, 1), (1178, .iaload, 1)]
theorem a_chk_law_16 : a_chk [(code, a_law_16)] = true := by decide +kernel
def a_law_17 : List (Nat × Instr × Nat) := [(1179, .aload_n 3, 1), (1180, .invokestatic 251, 3), (1183, .istore 6, 2), (1185, .aload_n 2, 1), (1186, .aload_n 0, 1), (1187, .iload 5, 2), (1189, .iconst 1, 1), (1190, .iadd, 1), (1191, .iaload, 1), (1192, .invokevirtual 253, 3), (1195, .istore 7, 2), (1197, .goto 831, 3), (1200, .aload_n 1, 1), (1201, .aload_n 0, 1), (1202, .iload 5, 2), (1204, .iconst 1, 1), (1205, .iadd, 1), (1206, .iaload, 1), (1207, .aload_n 0, 1), (1208, .iload 5, 2), (1210, .iconst 2, 1), (1211, .iadd, 1), (1212, .iaload, 1), (1213, .aload_n 3, 1), (1214, .invokestatic 254, 3), (1217, .istore 6, 2), (1219, .aload_n 2, 1), (1220, .aload_n 0, 1), (1221, .iload 5, 2), (1223, .iconst 1, 1), (1224, .iadd, 1), (1225, .iaload, 1), (1226, .aload_n 0, 1), (1227, .iload 5, 2), (1229, .iconst 2, 1), (1230, .iadd, 1), (1231, .iaload, 1), (1232, .invokevirtual 256, 3), (1235, .istore 7, 2), (1237, .goto 791, 3)]
theorem a_chk_law_17 : a_chk [(code, a_law_17)] = true := by decide +kernel
def a_law_18 : List (Nat × Instr × Nat) := [(1240, .aload_n 1, 1), (1241, .aload_n 0, 1), (1242, .iload 5, 2), (1244, .iconst 1, 1), (1245, .iadd, 1), (1246, .iaload, 1), (1247, .aload_n 3, 1), (1248, .invokestatic 257, 3), (1251, .istore 6, 2), (1253, .aload_n 2, 1), (1254, .aload_n 0, 1), (1255, .iload 5, 2), (1257, .iconst 1, 1), (1258, .iadd, 1), (1259, .iaload, 1), (1260, .invokevirtual 259, 3), (1263, .istore 7, 2), (1265, .goto 763, 3), (1268, .aload_n 1, 1), (1269, .invokevirtual 260, 3), (1272, .aload_n 2, 1), (1273, .invokevirtual 264, 3), (1276, .if_icmp .eq 752, 3), (1279, .iconst 0, 1), (1280, .ireturn, 1), (1281, .aload_n 1, 1), (1282, .aload_n 0, 1), (1283, .iload 5, 2), (1285, .iconst 1, 1), (1286, .iadd, 1), (1287, .iaload, 1), (1288, .aload_n 3, 1), (1289, .invokestatic 265, 3), (1292, .istore 6, 2), (1294, .aload_n 2, 1), (1295, .aload_n 0, 1), (1296, .iload 5, 2), (1298, .iconst 1, 1), (1299, .iadd, 1), (1300, .iaload, 1)]
theorem a_chk_law_18 : a_chk [(code, a_law_18)] = true := by decide +kernel
def a_law_19 : List (Nat × Instr × Nat) := [(1301, .invokevirtual 267, 3), (1304, .istore 7, 2), (1306, .goto 722, 3), (1309, .aload_n 1, 1), (1310, .aload_n 0, 1), (1311, .iload 5, 2), (1313, .iconst 1, 1), (1314, .iadd, 1), (1315, .iaload, 1), (1316, .aload_n 0, 1), (1317, .iload 5, 2), (1319, .iconst 2, 1), (1320, .iadd, 1), (1321, .iaload, 1), (1322, .aload_n 3, 1), (1323, .invokestatic 268, 3), (1326, .istore 6, 2), (1328, .aload_n 2, 1), (1329, .aload_n 0, 1), (1330, .iload 5, 2), (1332, .iconst 1, 1), (1333, .iadd, 1), (1334, .iaload, 1), (1335, .aload_n 0, 1), (1336, .iload 5, 2), (1338, .iconst 2, 1), (1339, .iadd, 1), (1340, .iaload, 1), (1341, .invokevirtual 270, 3), (1344, .istore 7, 2), (1346, .goto 682, 3), (1349, .aload_n 1, 1), (1350, .aload_n 0, 1), (1351, .iload 5, 2), (1353, .iconst 1, 1), (1354, .iadd, 1), (1355, .iaload, 1), (1356, .aload_n 3, 1), (1357, .invokestatic 271, 3), (1360, .istore 6, 2)]
theorem a_chk_law_19 : a_chk [(code, a_law_19)] = true := by decide +kernel
def a_law_20 : List (Nat × Instr × Nat) := [(1362, .aload_n 2, 1), (1363, .aload_n 0, 1), (1364, .iload 5, 2), (1366, .iconst 1, 1), (1367, .iadd, 1), (1368, .iaload, 1), (1369, .invokevirtual 273, 3), (1372, .istore 7, 2), (1374, .goto 654, 3), (1377, .aload_n 1, 1), (1378, .aload_n 0, 1), (1379, .iload 5, 2), (1381, .iconst 1, 1), (1382, .iadd, 1), (1383, .iaload, 1), (1384, .aload_n 3, 1), (1385, .invokestatic 274, 3), (1388, .istore 6, 2), (1390, .aload_n 2, 1), (1391, .aload_n 0, 1), (1392, .iload 5, 2), (1394, .iconst 1, 1), (1395, .iadd, 1), (1396, .iaload, 1), (1397, .invokevirtual 276, 3), (1400, .istore 7, 2), (1402, .goto 626, 3), (1405, .aload_n 1, 1), (1406, .aload_n 0, 1), (1407, .iload 5, 2), (1409, .iconst 1, 1), (1410, .iadd, 1), (1411, .iaload, 1), (1412, .aload_n 0, 1), (1413, .iload 5, 2), (1415, .iconst 2, 1), (1416, .iadd, 1), (1417, .iaload, 1), (1418, .aload_n 3, 1), (1419, .invokestatic 277, 3)]
theorem a_chk_law_20 : a_chk [(code, a_law_20)] = true := by decide +kernel
def a_law_21 : List (Nat × Instr × Nat) := [(1422, .istore 6, 2), (1424, .aload_n 2, 1), (1425, .aload_n 0, 1), (1426, .iload 5, 2), (1428, .iconst 1, 1), (1429, .iadd, 1), (1430, .iaload, 1), (1431, .aload_n 0, 1), (1432, .iload 5, 2), (1434, .iconst 2, 1), (1435, .iadd, 1), (1436, .iaload, 1), (1437, .invokevirtual 279, 3), (1440, .istore 7, 2), (1442, .goto 586, 3), (1445, .aload_n 1, 1), (1446, .aload_n 0, 1), (1447, .iload 5, 2), (1449, .iconst 1, 1), (1450, .iadd, 1), (1451, .iaload, 1), (1452, .aload_n 3, 1), (1453, .invokestatic 280, 3), (1456, .istore 6, 2), (1458, .aload_n 2, 1), (1459, .aload_n 0, 1), (1460, .iload 5, 2), (1462, .iconst 1, 1), (1463, .iadd, 1), (1464, .iaload, 1), (1465, .invokevirtual 282, 3), (1468, .istore 7, 2), (1470, .goto 558, 3), (1473, .aload_n 1, 1), (1474, .aload_n 0, 1), (1475, .iload 5, 2), (1477, .iconst 1, 1), (1478, .iadd, 1), (1479, .iaload, 1), (1480, .aload_n 0, 1)]
theorem a_chk_law_21 : a_chk [(code, a_law_21)] = true := by decide +kernel
def a_law_22 : List (Nat × Instr × Nat) := [(1481, .iload 5, 2), (1483, .iconst 2, 1), (1484, .iadd, 1), (1485, .iaload, 1), (1486, .aload_n 3, 1), (1487, .invokestatic 283, 3), (1490, .istore 6, 2), (1492, .aload_n 2, 1), (1493, .aload_n 0, 1), (1494, .iload 5, 2), (1496, .iconst 1, 1), (1497, .iadd, 1), (1498, .iaload, 1), (1499, .aload_n 0, 1), (1500, .iload 5, 2), (1502, .iconst 2, 1), (1503, .iadd, 1), (1504, .iaload, 1), (1505, .invokevirtual 285, 3), (1508, .istore 7, 2), (1510, .goto 518, 3), (1513, .aload_n 1, 1), (1514, .aload_n 0, 1), (1515, .iload 5, 2), (1517, .iconst 1, 1), (1518, .iadd, 1), (1519, .iaload, 1), (1520, .aload_n 0, 1), (1521, .iload 5, 2), (1523, .iconst 2, 1), (1524, .iadd, 1), (1525, .iaload, 1), (1526, .aload_n 3, 1), (1527, .invokestatic 286, 3), (1530, .istore 6, 2), (1532, .aload_n 2, 1), (1533, .aload_n 0, 1), (1534, .iload 5, 2), (1536, .iconst 1, 1), (1537, .iadd, 1)]
theorem a_chk_law_22 : a_chk [(code, a_law_22)] = true := by decide +kernel
def a_law_23 : List (Nat × Instr × Nat) := [(1538, .iaload, 1), (1539, .aload_n 0, 1), (1540, .iload 5, 2), (1542, .iconst 2, 1), (1543, .iadd, 1), (1544, .iaload, 1), (1545, .invokevirtual 288, 3), (1548, .istore 7, 2), (1550, .goto 478, 3), (1553, .aload_n 1, 1), (1554, .aload_n 0, 1), (1555, .iload 5, 2), (1557, .iconst 1, 1), (1558, .iadd, 1), (1559, .iaload, 1), (1560, .aload_n 0, 1), (1561, .iload 5, 2), (1563, .iconst 2, 1), (1564, .iadd, 1), (1565, .iaload, 1), (1566, .i2c, 1), (1567, .aload_n 3, 1), (1568, .invokestatic 289, 3), (1571, .istore 6, 2), (1573, .aload_n 2, 1), (1574, .aload_n 0, 1), (1575, .iload 5, 2), (1577, .iconst 1, 1), (1578, .iadd, 1), (1579, .iaload, 1), (1580, .aload_n 0, 1), (1581, .iload 5, 2), (1583, .iconst 2, 1), (1584, .iadd, 1), (1585, .iaload, 1), (1586, .i2c, 1), (1587, .invokevirtual 291, 3), (1590, .istore 7, 2), (1592, .goto 436, 3), (1595, .aload_n 1, 1)]
theorem a_chk_law_23 : a_chk [(code, a_law_23)] = true := by decide +kernel
def a_law_24 : List (Nat × Instr × Nat) := [(1596, .aload_n 0, 1), (1597, .iload 5, 2), (1599, .iconst 1, 1), (1600, .iadd, 1), (1601, .iaload, 1), (1602, .aload_n 0, 1), (1603, .iload 5, 2), (1605, .iconst 2, 1), (1606, .iadd, 1), (1607, .iaload, 1), (1608, .aload_n 0, 1), (1609, .iload 5, 2), (1611, .iconst 3, 1), (1612, .iadd, 1), (1613, .iaload, 1), (1614, .aload_n 3, 1), (1615, .invokestatic 292, 3), (1618, .istore 6, 2), (1620, .aload_n 2, 1), (1621, .aload_n 0, 1), (1622, .iload 5, 2), (1624, .iconst 1, 1), (1625, .iadd, 1), (1626, .iaload, 1), (1627, .aload_n 0, 1), (1628, .iload 5, 2), (1630, .iconst 2, 1), (1631, .iadd, 1), (1632, .iaload, 1), (1633, .aload_n 0, 1), (1634, .iload 5, 2), (1636, .iconst 3, 1), (1637, .iadd, 1), (1638, .iaload, 1), (1639, .invokevirtual 294, 3), (1642, .istore 7, 2), (1644, .goto 384, 3), (1647, .aload_n 1, 1), (1648, .aload_n 0, 1), (1649, .iload 5, 2)]
theorem a_chk_law_24 : a_chk [(code, a_law_24)] = true := by decide +kernel
def a_law_25 : List (Nat × Instr × Nat) := [(1651, .iconst 1, 1), (1652, .iadd, 1), (1653, .iaload, 1), (1654, .aload_n 3, 1), (1655, .invokestatic 295, 3), (1658, .istore 6, 2), (1660, .aload_n 2, 1), (1661, .aload_n 0, 1), (1662, .iload 5, 2), (1664, .iconst 1, 1), (1665, .iadd, 1), (1666, .iaload, 1), (1667, .invokevirtual 297, 3), (1670, .istore 7, 2), (1672, .goto 356, 3), (1675, .aload_n 1, 1), (1676, .invokevirtual 298, 3), (1679, .pop, 1), (1680, .aload_n 2, 1), (1681, .invokevirtual 301, 3), (1684, .pop, 1), (1685, .goto 343, 3), (1688, .aload_n 1, 1), (1689, .aload_n 0, 1), (1690, .iload 5, 2), (1692, .iconst 1, 1), (1693, .iadd, 1), (1694, .iaload, 1), (1695, .aload_n 0, 1), (1696, .iload 5, 2), (1698, .iconst 2, 1), (1699, .iadd, 1), (1700, .iaload, 1), (1701, .aload_n 3, 1), (1702, .invokestatic 302, 3), (1705, .istore 6, 2), (1707, .aload_n 2, 1), (1708, .aload_n 0, 1), (1709, .iload 5, 2), (1711, .iconst 1, 1)]
theorem a_chk_law_25 : a_chk [(code, a_law_25)] = true := by decide +kernel
def a_law_26 : List (Nat × Instr × Nat) := [(1712, .iadd, 1), (1713, .iaload, 1), (1714, .aload_n 0, 1), (1715, .iload 5, 2), (1717, .iconst 2, 1), (1718, .iadd, 1), (1719, .iaload, 1), (1720, .invokevirtual 304, 3), (1723, .istore 7, 2), (1725, .goto 303, 3), (1728, .aload_n 1, 1), (1729, .aload_n 0, 1), (1730, .iload 5, 2), (1732, .iconst 1, 1), (1733, .iadd, 1), (1734, .iaload, 1), (1735, .aload_n 3, 1), (1736, .invokestatic 305, 3), (1739, .istore 6, 2), (1741, .aload_n 2, 1), (1742, .aload_n 0, 1), (1743, .iload 5, 2), (1745, .iconst 1, 1), (1746, .iadd, 1), (1747, .iaload, 1), (1748, .invokevirtual 307, 3), (1751, .istore 7, 2), (1753, .goto 275, 3), (1756, .aload_n 1, 1), (1757, .aload_n 0, 1), (1758, .iload 5, 2), (1760, .iconst 1, 1), (1761, .iadd, 1), (1762, .iaload, 1), (1763, .aload_n 3, 1), (1764, .invokestatic 308, 3), (1767, .istore 6, 2), (1769, .aload_n 2, 1), (1770, .aload_n 0, 1), (1771, .iload 5, 2)]
theorem a_chk_law_26 : a_chk [(code, a_law_26)] = true := by decide +kernel
def a_law_27 : List (Nat × Instr × Nat) := [(1773, .iconst 1, 1), (1774, .iadd, 1), (1775, .iaload, 1), (1776, .invokevirtual 310, 3), (1779, .istore 7, 2), (1781, .goto 247, 3), (1784, .aload_n 1, 1), (1785, .aload_n 0, 1), (1786, .iload 5, 2), (1788, .iconst 1, 1), (1789, .iadd, 1), (1790, .iaload, 1), (1791, .aload_n 0, 1), (1792, .iload 5, 2), (1794, .iconst 2, 1), (1795, .iadd, 1), (1796, .iaload, 1), (1797, .aload_n 0, 1), (1798, .iload 5, 2), (1800, .iconst 3, 1), (1801, .iadd, 1), (1802, .iaload, 1), (1803, .aload_n 0, 1), (1804, .iload 5, 2), (1806, .iconst 4, 1), (1807, .iadd, 1), (1808, .iaload, 1), (1809, .aload_n 0, 1), (1810, .iload 5, 2), (1812, .iconst 5, 1), (1813, .iadd, 1), (1814, .iaload, 1), (1815, .aload_n 3, 1), (1816, .invokestatic 311, 3), (1819, .istore 6, 2), (1821, .aload_n 2, 1), (1822, .aload_n 0, 1), (1823, .iload 5, 2), (1825, .iconst 1, 1), (1826, .iadd, 1)]
theorem a_chk_law_27 : a_chk [(code, a_law_27)] = true := by decide +kernel
def a_law_28 : List (Nat × Instr × Nat) := [(1827, .iaload, 1), (1828, .aload_n 0, 1), (1829, .iload 5, 2), (1831, .iconst 2, 1), (1832, .iadd, 1), (1833, .iaload, 1), (1834, .aload_n 0, 1), (1835, .iload 5, 2), (1837, .iconst 3, 1), (1838, .iadd, 1), (1839, .iaload, 1), (1840, .aload_n 0, 1), (1841, .iload 5, 2), (1843, .iconst 4, 1), (1844, .iadd, 1), (1845, .iaload, 1), (1846, .aload_n 0, 1), (1847, .iload 5, 2), (1849, .iconst 5, 1), (1850, .iadd, 1), (1851, .iaload, 1), (1852, .invokevirtual 314, 3), (1855, .istore 7, 2), (1857, .goto 171, 3), (1860, .aload_n 1, 1), (1861, .aload_n 0, 1), (1862, .iload 5, 2), (1864, .iconst 1, 1), (1865, .iadd, 1), (1866, .iaload, 1), (1867, .aload_n 0, 1), (1868, .iload 5, 2), (1870, .iconst 2, 1), (1871, .iadd, 1), (1872, .iaload, 1), (1873, .aload_n 0, 1), (1874, .iload 5, 2), (1876, .iconst 3, 1), (1877, .iadd, 1), (1878, .iaload, 1)]
theorem a_chk_law_28 : a_chk [(code, a_law_28)] = true := by decide +kernel
def a_law_29 : List (Nat × Instr × Nat) := [(1879, .aload_n 3, 1), (1880, .invokestatic 315, 3), (1883, .istore 6, 2), (1885, .aload_n 2, 1), (1886, .aload_n 0, 1), (1887, .iload 5, 2), (1889, .iconst 1, 1), (1890, .iadd, 1), (1891, .iaload, 1), (1892, .aload_n 0, 1), (1893, .iload 5, 2), (1895, .iconst 2, 1), (1896, .iadd, 1), (1897, .iaload, 1), (1898, .aload_n 0, 1), (1899, .iload 5, 2), (1901, .iconst 3, 1), (1902, .iadd, 1), (1903, .iaload, 1), (1904, .invokevirtual 317, 3), (1907, .istore 7, 2), (1909, .goto 119, 3), (1912, .aload_n 1, 1), (1913, .aload_n 0, 1), (1914, .iload 5, 2), (1916, .iconst 1, 1), (1917, .iadd, 1), (1918, .iaload, 1), (1919, .aload_n 0, 1), (1920, .iload 5, 2), (1922, .iconst 2, 1), (1923, .iadd, 1), (1924, .iaload, 1), (1925, .ifCond .eq 7, 3), (1928, .iconst 1, 1), (1929, .goto 4, 3), (1932, .iconst 0, 1), (1933, .aload_n 3, 1), (1934, .invokestatic 318, 3), (1937, .istore 6, 2)]
theorem a_chk_law_29 : a_chk [(code, a_law_29)] = true := by decide +kernel
def a_law_30 : List (Nat × Instr × Nat) := [(1939, .aload_n 2, 1), (1940, .aload_n 0, 1), (1941, .iload 5, 2), (1943, .iconst 1, 1), (1944, .iadd, 1), (1945, .iaload, 1), (1946, .aload_n 0, 1), (1947, .iload 5, 2), (1949, .iconst 2, 1), (1950, .iadd, 1), (1951, .iaload, 1), (1952, .ifCond .eq 7, 3), (1955, .iconst 1, 1), (1956, .goto 4, 3), (1959, .iconst 0, 1), (1960, .invokevirtual 320, 3), (1963, .istore 7, 2), (1965, .goto 63, 3), (1968, .aload_n 1, 1), (1969, .invokevirtual 321, 3), (1972, .pop2, 1), (1973, .aload_n 2, 1), (1974, .invokevirtual 325, 3), (1977, .pop2, 1), (1978, .goto 50, 3), (1981, .aload_n 1, 1), (1982, .aload 4, 2), (1984, .invokestatic 326, 3), (1987, .istore 6, 2), (1989, .aload_n 2, 1), (1990, .invokevirtual 329, 3), (1993, .fstore 7, 2), (1995, .goto 33, 3), (1998, .aload_n 1, 1), (1999, .aload 4, 2), (2001, .invokestatic 330, 3), (2004, .istore 6, 2), (2006, .aload_n 2, 1), (2007, .invokevirtual 332, 3), (2010, .dstore 7, 2)]
theorem a_chk_law_30 : a_chk [(code, a_law_30)] = true := by decide +kernel
def a_law_31 : List (Nat × Instr × Nat) := [(2012, .goto 16, 3), (2015, .aload_n 1, 1), (2016, .invokevirtual 333, 3), (2019, .pop, 1), (2020, .aload_n 2, 1), (2021, .invokevirtual 337, 3), (2024, .pop, 1), (2025, .goto 3, 3), (2028, .iinc 5 6, 3), (2031, .goto (-2003), 3), (2034, .iconst 1, 1), (2035, .ireturn, 1)]
theorem a_chk_law_31 : a_chk [(code, a_law_31)] = true := by decide +kernel
def a_lawP : List (Nat × Instr × Nat) := a_law_0 ++ (a_law_1 ++ (a_law_2 ++ (a_law_3 ++ (a_law_4 ++ (a_law_5 ++ (a_law_6 ++ (a_law_7 ++ (a_law_8 ++ (a_law_9 ++ (a_law_10 ++ (a_law_11 ++ (a_law_12 ++ (a_law_13 ++ (a_law_14 ++ (a_law_15 ++ (a_law_16 ++ (a_law_17 ++ (a_law_18 ++ (a_law_19 ++ (a_law_20 ++ (a_law_21 ++ (a_law_22 ++ (a_law_23 ++ (a_law_24 ++ (a_law_25 ++ (a_law_26 ++ (a_law_27 ++ (a_law_28 ++ (a_law_29 ++ (a_law_30 ++ (a_law_31)))))))))))))))))))))))))))))))
theorem a_chk_lawP : a_chk [(code, a_lawP)] = true := by
  simp only [a_chk, List.all_cons, List.all_nil, Bool.and_true, a_lawP, List.all_append, Bool.and_eq_true]
  have key : ∀ L : List (Nat × Instr × Nat), a_chk [(code, L)] = true → (L.all fun e => decide (decode code e.1 = .ok e.2)) = true := fun L h => by simpa [a_chk] using h
  exact ⟨key _ a_chk_law_0, ⟨key _ a_chk_law_1, ⟨key _ a_chk_law_2, ⟨key _ a_chk_law_3, ⟨key _ a_chk_law_4, ⟨key _ a_chk_law_5, ⟨key _ a_chk_law_6, ⟨key _ a_chk_law_7, ⟨key _ a_chk_law_8, ⟨key _ a_chk_law_9, ⟨key _ a_chk_law_10, ⟨key _ a_chk_law_11, ⟨key _ a_chk_law_12, ⟨key _ a_chk_law_13, ⟨key _ a_chk_law_14, ⟨key _ a_chk_law_15, ⟨key _ a_chk_law_16, ⟨key _ a_chk_law_17, ⟨key _ a_chk_law_18, ⟨key _ a_chk_law_19, ⟨key _ a_chk_law_20, ⟨key _ a_chk_law_21, ⟨key _ a_chk_law_22, ⟨key _ a_chk_law_23, ⟨key _ a_chk_law_24, ⟨key _ a_chk_law_25, ⟨key _ a_chk_law_26, ⟨key _ a_chk_law_27, ⟨key _ a_chk_law_28, ⟨key _ a_chk_law_29, ⟨key _ a_chk_law_30, key _ a_chk_law_31⟩⟩⟩⟩⟩⟩⟩⟩⟩⟩⟩⟩⟩⟩⟩⟩⟩⟩⟩⟩⟩⟩⟩⟩⟩⟩⟩⟩⟩⟩⟩
end
section
/-! An abstract machine: a heap is a list of (tag, contents), a reference is a place in it. Tags: below 19 an object of that class, 19 the script, from 20 on an array (a_aty). -/
abbrev AC : Type := Nat × List Value
abbrev AH : Type := List AC
abbrev AL : Type := List (Option Value)
/-- what a run of a method comes to: its result or the exception's number, the heap, cells and slots made -/
abbrev AR : Type := ((Option Value) ⊕ Nat) × AH × Nat × Nat
def a_cN (c : Nat) : String := (a_cls.getD c ("", [])).1
def a_cF (c : Nat) : List (String × String × Bool) := (a_cls.getD c ("", [])).2
def a_cT (c : Nat) : u_T := fun k => match (a_cF c)[k]? with
  | some (n, d, f) => (a_cN c, n, d, f)
  | none => ("", "", "", false)
def a_cl (c : Nat) : Nat := (a_cF c).length
def a_ty (d : String) : FieldType := (parseFieldDescriptor d).getD .int
def a_fty (c k : Nat) : FieldType := a_ty (a_cT c k).2.2.1
def a_atys : List FieldType := [.int, .int, .boolean, .char, .long, .double, .object "Juryreel$Film", .object "Juryreel$Show", .object "Juryreel$Juror", .object "Juryreel$Section", .array .int, .array .boolean, .array (.array .int), .array (.array .boolean)]
/-- the component type of the arrays of a tag -/
def a_aty (t : Nat) : Option FieldType := if t < 19 then none else a_atys[t - 19]?
def a_atag (ty : FieldType) : Nat := 20 + (a_atys.tail.idxOf ty)
def a_ren (ad : Nat → Nat) : Value → Value
  | .ref a => .ref (ad a)
  | v => v
def a_get (al : AL) (i : Nat) : Option Value := (al[i]?).getD none
/-- a store at i takes away a wide value that begins one place below -/
def a_kill (al : AL) (i : Nat) : AL := match i with
  | 0 => al
  | j + 1 => if (a_get al j).any (fun v => v.category == 2) then al.set j none else al
def a_set1 (al : AL) (i : Nat) (v : Value) : AL := (a_kill al i).set i (some v)
def a_set2 (al : AL) (i : Nat) (v : Value) : AL := ((a_kill al i).set i (some v)).set (i + 1) none
def a_sto (al : AL) (i : Nat) (v : Value) : Option AL :=
  if v.category = 2 then (if i + 1 < al.length then some (a_set2 al i v) else none) else (if i < al.length then some (a_set1 al i v) else none)
def a_tgt (pc : Nat) (off : Int) : Option Nat := if 0 ≤ (pc : Int) + off then some ((pc : Int) + off).toNat else none
def a_br (pc : Nat) (b : Bool) (off : Int) : Option Nat := (a_tgt pc off).map (fun t => if b = true then t else pc + 3)
def a_if1 (c : Jvm.ClassFile.Cond) (x : Int32) : Bool := match c with
  | .eq => decide (x = 0)
  | .ne => !decide (x = 0)
  | .lt => decide (x < 0)
  | .ge => decide (0 ≤ x)
  | .gt => decide (0 < x)
  | .le => decide (x ≤ 0)
def a_if2 (c : Jvm.ClassFile.Cond) (x y : Int32) : Bool := match c with
  | .eq => decide (x = y)
  | .ne => !decide (x = y)
  | .lt => decide (x < y)
  | .ge => decide (y ≤ x)
  | .gt => decide (y < x)
  | .le => decide (x ≤ y)
/-- int arithmetic: x below y on the stack -/
def a_bin (i : Instr) (x y : Int32) : Option Int32 := match i with
  | .iadd => some (x + y)
  | .isub => some (x - y)
  | .imul => some (x * y)
  | .iand => some (x &&& y)
  | .ior => some (x ||| y)
  | .idiv => if y = 0 then none else some (x / y)
  | .irem => if y = 0 then none else some (x - x / y * y)
  | _ => none
def a_const (i : Instr) : Option Value := match i with
  | .iconst n => some (.int (Int32.ofInt n))
  | .bipush n => some (.int (Int8.ofInt n).toInt32)
  | .sipush n => some (.int (Int16.ofInt n).toInt32)
  | .lconst n => some (.long (Int64.ofNat (n : Nat)))
  | .fconst n => if n = 0 then some (.float FP.fconst0) else none
  | .dconst n => if n = 0 then some (.double FP.dconst0) else none
  | _ => none
/-- loads: the local, and its kind (0 int, 1 long, 2 float, 3 double, 4 reference) -/
def a_load (i : Instr) : Option (Nat × Nat) := match i with
  | .iload k => some (k, 0)
  | .iload_n k => some ((k : Nat), 0)
  | .lload k => some (k, 1)
  | .lload_n k => some ((k : Nat), 1)
  | .fload k => some (k, 2)
  | .dload k => some (k, 3)
  | .aload k => some (k, 4)
  | .aload_n k => some ((k : Nat), 4)
  | _ => none
def a_store (i : Instr) : Option (Nat × Nat) := match i with
  | .istore k => some (k, 0)
  | .istore_n k => some ((k : Nat), 0)
  | .lstore k => some (k, 1)
  | .lstore_n k => some ((k : Nat), 1)
  | .fstore k => some (k, 2)
  | .dstore k => some (k, 3)
  | .astore k => some (k, 4)
  | .astore_n k => some ((k : Nat), 4)
  | _ => none
def a_kind (v : Value) : Nat := match v with
  | .int _ => 0
  | .long _ => 1
  | .float _ => 2
  | .double _ => 3
  | .ref _ => 4
  | _ => 5
/-- a list of a table that belongs to a class -/
def a_of {α : Type} (t : List (List α)) (own : Nat) : List α := t.getD own []
def a_field (own idx : Nat) : Option (Nat × Nat) := ((a_of a_fld own).find? (fun e => e.1 == idx)).map (fun e => (e.2.1, e.2.2.1))
/-- the places of an array that an index names -/
def a_ix (j : Int32) (n : Nat) : Option Nat := if j < 0 ∨ n ≤ j.toNatClampNeg then none else some j.toNatClampNeg
/-- which tags an array load or store of this kind takes, and what is written of x -/
def a_ald (i : Instr) (t : Nat) : Bool := match i with
  | .iaload => decide (a_aty t = some .int)
  | .baload => decide (a_aty t = some .boolean)
  | .caload => decide (a_aty t = some .char)
  | .laload => decide (a_aty t = some .long)
  | .daload => decide (a_aty t = some .double)
  | .aaload => (a_aty t).any FieldType.isReference
  | _ => false
def a_ast (i : Instr) (t : Nat) (x : Value) : Option Value := match i, x with
  | .iastore, .int x => if t ≠ 19 ∧ a_aty t = some .int then some (.int x) else none
  | .bastore, .int x => if a_aty t = some .boolean then some (narrow .boolean (.int x)) else none
  | .castore, .int x => if a_aty t = some .char then some (narrow .char (.int x)) else none
  | .lastore, .long x => if a_aty t = some .long then some (.long x) else none
  | .dastore, .double x => if a_aty t = some .double then some (.double x) else none
  | _, _ => none
def a_len (i : Instr) : Nat := match i with
  | .bipush _ | .ldc _ | .iload _ | .lload _ | .fload _ | .dload _ | .aload _ | .istore _ | .lstore _ | .fstore _ | .dstore _ | .astore _ | .newarray _ => 2
  | .sipush _ | .ldc_w _ | .ldc2_w _ | .getfield _ | .putfield _ | .invokevirtual _ | .invokestatic _ | .invokespecial _ | .new _ | .anewarray _ | .goto _ | .ifCond .. | .if_icmp .. | .if_acmp .. | .iinc .. => 3
  | .multianewarray .. => 4
  | _ => 1
abbrev AS : Type := Nat × AL × List Value × AH × Nat × Nat
/-- constants, locals, jumps, the stack -/
def a_st1 (i : Instr) (pc : Nat) (al : AL) (st : List Value) (h : AH) : Option AS :=
  match a_const i with
  | some v => some (pc + a_len i, al, v :: st, h, 0, 0)
  | none => match a_load i with
  | some (k, kd) => match a_get al k with
    | some v => if a_kind v = kd then some (pc + a_len i, al, v :: st, h, 0, 0) else none
    | none => none
  | none => match a_store i with
  | some (k, kd) => match st with
    | v :: st => if a_kind v = kd then (a_sto al k v).map (fun al' => (pc + a_len i, al', st, h, 0, 0)) else none
    | [] => none
  | none => match i, st with
  | .iinc k n, st => match a_get al k with
    | some (.int x) => (a_sto al k (.int (x + Int32.ofInt n))).map (fun al' => (pc + 3, al', st, h, 0, 0))
    | _ => none
  | .goto off, st => (a_tgt pc off).map (fun t => (t, al, st, h, 0, 0))
  | .ifCond c off, .int x :: st => (a_br pc (a_if1 c x) off).map (fun t => (t, al, st, h, 0, 0))
  | .if_icmp c off, .int y :: .int x :: st => (a_br pc (a_if2 c x y) off).map (fun t => (t, al, st, h, 0, 0))
  | .if_acmp .eq off, .ref y :: .ref x :: st => if x < h.length ∧ y < h.length then (a_br pc (decide (x = y)) off).map (fun t => (t, al, st, h, 0, 0)) else none
  | .dup, v :: st => if v.category = 1 then some (pc + 1, al, v :: v :: st, h, 0, 0) else none
  | .dup2, v :: u :: st => if v.category = 1 ∧ u.category = 1 then some (pc + 1, al, v :: u :: v :: u :: st, h, 0, 0) else none
  | .pop, v :: st => if v.category = 1 then some (pc + 1, al, st, h, 0, 0) else none
  | _, _ => none
/-- arithmetic -/
def a_st2 (i : Instr) (pc : Nat) (al : AL) (st : List Value) (h : AH) : Option AS := match i, st with
  | .i2l, .int x :: st => some (pc + 1, al, .long x.toInt64 :: st, h, 0, 0)
  | .i2c, .int x :: st => some (pc + 1, al, .int (x.toUInt32 % 65536).toInt32 :: st, h, 0, 0)
  | .i2f, .int x :: st => some (pc + 1, al, .float (FP.i2f x) :: st, h, 0, 0)
  | .i2d, .int x :: st => some (pc + 1, al, .double (FP.i2d x) :: st, h, 0, 0)
  | .f2d, .float x :: st => if FP.f2d x &&& 0x7fffffffffffffff ≤ 0x7ff0000000000000 then some (pc + 1, al, .double (FP.f2d x) :: st, h, 0, 0) else none
  | .ladd, .long y :: .long x :: st => some (pc + 1, al, .long (x + y) :: st, h, 0, 0)
  | .lmul, .long y :: .long x :: st => some (pc + 1, al, .long (x * y) :: st, h, 0, 0)
  | .lcmp, .long y :: .long x :: st => some (pc + 1, al, .int (lg_cmp x y) :: st, h, 0, 0)
  | .fdiv, .float y :: .float x :: st => if FP.fdiv x y &&& 0x7fffffff ≤ 0x7f800000 then some (pc + 1, al, .float (FP.fdiv x y) :: st, h, 0, 0) else none
  | .ddiv, .double y :: .double x :: st => if FP.ddiv x y &&& 0x7fffffffffffffff ≤ 0x7ff0000000000000 then some (pc + 1, al, .double (FP.ddiv x y) :: st, h, 0, 0) else none
  | .fcmp op, .float y :: .float x :: st => some (pc + 1, al, .int (Op.cmpValue (FP.fcmp x y) op) :: st, h, 0, 0)
  | .dcmp op, .double y :: .double x :: st => some (pc + 1, al, .int (Op.cmpValue (FP.dcmp x y) op) :: st, h, 0, 0)
  | i, .int y :: .int x :: st => (a_bin i x y).map (fun v => (pc + 1, al, .int v :: st, h, 0, 0))
  | _, _ => none
/-- array loads -/
def a_st3 (i : Instr) (pc : Nat) (al : AL) (st : List Value) (h : AH) : Option AS := match st with
  | .int j :: .ref a :: st => match h[a]? with
    | some (t, vs) => if a_ald i t = true then (a_ix j vs.length).bind (fun n => (vs[n]?).map (fun v => (pc + 1, al, v :: st, h, 0, 0))) else none
    | none => none
  | _ => none
/-- array stores, an array's length, fields, constants out of the pool -/
def a_st4 (own : Nat) (ini : Bool) (i : Instr) (pc : Nat) (al : AL) (st : List Value) (h : AH) : Option AS := match i, st with
  | .arraylength, .ref a :: st => match h[a]? with
    | some (t, vs) => if (a_aty t).isSome then some (pc + 1, al, .int vs.length.toInt32 :: st, h, 0, 0) else none
    | none => none
  | .ldc idx, st => ((a_of a_cst own).find? (fun e => e.1 == idx)).map (fun e => (pc + 2, al, .int e.2.1 :: st, h, 0, 0))
  | .ldc_w idx, st => ((a_of a_cst own).find? (fun e => e.1 == idx)).map (fun e => (pc + 3, al, .int e.2.1 :: st, h, 0, 0))
  | .ldc2_w idx, st => ((a_of a_csl own).find? (fun e => e.1 == idx)).map (fun e => (pc + 3, al, .long e.2.1 :: st, h, 0, 0))
  | .getfield idx, .ref a :: st => match a_field own idx with
    | some (ci, k) => match h[a]? with
      | some (t, vs) => if t = ci then (vs[k]?).map (fun v => (pc + 3, al, v :: st, h, 0, 0)) else none
      | none => none
    | none => none
  | .putfield idx, v :: .ref a :: st => match a_field own idx with
    | some (ci, k) => match h[a]? with
      | some (t, vs) => if t = ci ∧ k < vs.length ∧ narrow (a_fty ci k) v = v ∧ fits (a_fty ci k) v = true ∧ ((a_cT ci k).2.2.2 = false ∨ (ini = true ∧ own = ci)) then some (pc + 3, al, st, h.set a (t, vs.set k v), 0, 0) else none
      | none => none
    | none => none
  | i, x :: .int j :: .ref a :: st => match h[a]? with
    | some (t, vs) => match a_ast i t x with
      | some v => (a_ix j vs.length).map (fun n => (pc + 1, al, st, h.set a (t, vs.set n v), 0, 0))
      | none => none
    | none => none
  | _, _ => none
end
section
/-! The abstract machine's steps are the machine's: locals and stack -/
theorem a_ren_cat (ad : Nat → Nat) (v : Value) : (a_ren ad v).category = v.category := by cases v <;> rfl
def a_lv (ad : Nat → Nat) (al : AL) : List (Nat × Value) := (List.range al.length).filterMap (fun i => (a_get al i).map (fun v => (i, a_ren ad v)))
def a_L (ad : Nat → Nat) (al : AL) (ls : Array Slot) : Prop := ls.size = al.length ∧ lv_wf ls ∧ ∀ (i : Nat) (v : Value), a_get al i = some v → ls[i]? = some (.val (a_ren ad v))
theorem a_get_lt {al : AL} {i : Nat} {v : Value} (h : a_get al i = some v) : i < al.length := by
  rcases Nat.lt_or_ge i al.length with q | q
  · exact q
  · unfold a_get at h
    rw [List.getElem?_eq_none q] at h
    cases h
theorem a_lv_mem {ad : Nat → Nat} {al : AL} {i : Nat} {w : Value} : (i, w) ∈ a_lv ad al ↔ ∃ v, a_get al i = some v ∧ w = a_ren ad v := by
  unfold a_lv
  rw [List.mem_filterMap]
  constructor
  · rintro ⟨j, -, hj⟩
    rw [Option.map_eq_some_iff] at hj
    obtain ⟨v, h1, h2⟩ := hj
    cases h2
    exact ⟨v, h1, rfl⟩
  · rintro ⟨v, h1, rfl⟩
    exact ⟨i, List.mem_range.mpr (a_get_lt h1), by rw [h1]; rfl⟩
theorem a_L.has {ad : Nat → Nat} {al : AL} {ls : Array Slot} (h : a_L ad al ls) : lv_has ls al.length (a_lv ad al) := by
  refine ⟨h.1, h.2.1, fun q hq => ?_⟩
  obtain ⟨i, w⟩ := q
  obtain ⟨v, h1, rfl⟩ := a_lv_mem.mp hq
  exact h.2.2 i v h1
theorem a_get_set {al : AL} {i j : Nat} {o : Option Value} : a_get (al.set i o) j = if i = j ∧ j < al.length then o else a_get al j := by
  unfold a_get
  rw [List.getElem?_set]
  by_cases h : i = j
  · subst h
    by_cases h2 : i < al.length
    · simp [h2]
    · simp [h2]
  · simp [h]
theorem a_kill_len (al : AL) (i : Nat) : (a_kill al i).length = al.length := by
  unfold a_kill
  split
  · rfl
  · split
    · rw [List.length_set]
    · rfl
theorem a_kill_get {al : AL} {i j : Nat} {v : Value} (h : a_get (a_kill al i) j = some v) : a_get al j = some v ∧ ¬ (j + 1 = i ∧ v.category = 2) := by
  unfold a_kill at h
  split at h
  · exact ⟨h, fun q => by omega⟩
  · rename_i k
    split at h
    · rename_i h2
      rw [a_get_set] at h
      split at h
      · cases h
      · rename_i h3
        refine ⟨h, fun q => h3 ⟨by omega, a_get_lt h⟩⟩
    · rename_i h2
      refine ⟨h, fun q => h2 ?_⟩
      have e : j = k := by omega
      subst e
      rw [h]
      simp [q.2]
theorem a_L.set1 {ad : Nat → Nat} {al : AL} {ls : Array Slot} {i n : Nat} {v : Value} (hn : al.length = n) (hi : i < n) (h : lv_has ls n ((i, a_ren ad v) :: (a_lv ad al).filter (fun q => !(q.1 == i) && !(q.1 + 1 == i && q.2.category == 2)))) : a_L ad (a_set1 al i v) ls := by
  refine ⟨by rw [h.1, a_set1, List.length_set, a_kill_len, hn], h.2.1, fun j w hj => ?_⟩
  unfold a_set1 at hj
  rw [a_get_set] at hj
  split at hj
  · rename_i h1
    cases hj
    exact h.2.2 (j, a_ren ad v) (by rw [h1.1]; exact List.mem_cons_self)
  · rename_i h1
    rw [a_kill_len, hn] at h1
    obtain ⟨h2, h3⟩ := a_kill_get hj
    have h4 := a_get_lt h2
    refine h.2.2 (j, a_ren ad w) (List.mem_cons_of_mem _ (List.mem_filter.mpr ⟨a_lv_mem.mpr ⟨w, h2, rfl⟩, ?_⟩))
    have h5 : ¬ j = i := fun q => h1 ⟨q.symm, by omega⟩
    simp only [a_ren_cat]
    by_cases h6 : j + 1 = i
    · have h7 : ¬ w.category = 2 := fun q => h3 ⟨h6, q⟩
      simp [h5, h7]
    · simp [h5, h6]
theorem a_L.set2 {ad : Nat → Nat} {al : AL} {ls : Array Slot} {i n : Nat} {v : Value} (hn : al.length = n) (hi : i + 1 < n) (h : lv_has ls n ((i, a_ren ad v) :: (a_lv ad al).filter (fun q => !(q.1 == i) && (!(q.1 == i + 1) && !(q.1 + 1 == i && q.2.category == 2))))) : a_L ad (a_set2 al i v) ls := by
  refine ⟨by rw [h.1, a_set2, List.length_set, List.length_set, a_kill_len, hn], h.2.1, fun j w hj => ?_⟩
  unfold a_set2 at hj
  rw [a_get_set] at hj
  split at hj
  · cases hj
  · rename_i h0
    rw [List.length_set, a_kill_len, hn] at h0
    rw [a_get_set] at hj
    split at hj
    · rename_i h1
      cases hj
      exact h.2.2 (j, a_ren ad v) (by rw [h1.1]; exact List.mem_cons_self)
    · rename_i h1
      rw [a_kill_len, hn] at h1
      obtain ⟨h2, h3⟩ := a_kill_get hj
      have h4 := a_get_lt h2
      refine h.2.2 (j, a_ren ad w) (List.mem_cons_of_mem _ (List.mem_filter.mpr ⟨a_lv_mem.mpr ⟨w, h2, rfl⟩, ?_⟩))
      have h5 : ¬ j = i := fun q => h1 ⟨q.symm, by omega⟩
      have h8 : ¬ j = i + 1 := fun q => h0 ⟨q.symm, by omega⟩
      simp only [a_ren_cat]
      by_cases h6 : j + 1 = i
      · have h7 : ¬ w.category = 2 := fun q => h3 ⟨h6, q⟩
        simp [h5, h7, h8]
      · simp [h5, h6, h8]
theorem a_tgt_ok {pc t : Nat} {off : Int} (h : a_tgt pc off = some t) : (pc : Int) + off = (t : Int) := by
  unfold a_tgt at h
  split at h
  · rename_i h1
    cases h
    omega
  · cases h

section AW
variable {p : Program} {l : Launch} {e : Env} {R : Room} {s : State} {m : MethodId} {args : Array Value} {below : List Frame} {meth : Method} {c : Code} {H : Heap} {locs : List Loc} {cells slots : Nat} {Q : State → Prop} {cc : ByteArray} {pc : Nat} {ls : Array Slot} {rest : List Value} {i : Instr}
theorem a_const_ok (hx : p.tables.exec = Jvm.exec) (hb : c.code = cc) (hdg : decode cc pc = .ok (i, a_len i)) {v : Value} (h : a_const i = some v) (ad : Nat → Nat) (k : W p l e R s m args below meth c H locs cells slots Q (F0 m (pc + a_len i) ls (a_ren ad v :: rest))) : W p l e R s m args below meth c H locs cells slots Q (F0 m pc ls rest) := by
  cases i <;> simp only [a_const] at h <;> (try (cases h; done))
  · cases h; exact lv_bipush hx hb hdg rfl k
  · rename_i n
    split at h
    · rename_i h1; subst h1; cases h; exact lv_dconst0 hx hb hdg k
    · cases h
  · rename_i n
    split at h
    · rename_i h1; subst h1; cases h; exact lv_fconst0 hx hb hdg k
    · cases h
  · cases h; exact lv_iconst hx hb hdg rfl k
  · cases h; exact lv_lconst hx hb hdg rfl k
  · cases h; exact lv_sipush hx hb hdg rfl k
theorem a_load_ok (hx : p.tables.exec = Jvm.exec) (hb : c.code = cc) (hdg : decode cc pc = .ok (i, a_len i)) {j kd : Nat} {v : Value} (h : a_load i = some (j, kd)) (hk : a_kind v = kd) {ad : Nat → Nat} (hl : ls[j]? = some (.val (a_ren ad v))) (k : W p l e R s m args below meth c H locs cells slots Q (F0 m (pc + a_len i) ls (a_ren ad v :: rest))) : W p l e R s m args below meth c H locs cells slots Q (F0 m pc ls rest) := by
  cases i <;> simp only [a_load] at h <;> (try (cases h; done)) <;> cases h <;> cases v <;> (try (cases hk; done))
  · exact lv_aload hx hb hdg hl k
  · exact lv_aload_n hx hb hdg rfl hl k
  · exact lv_dload hx hb hdg hl k
  · exact lv_fload hx hb hdg hl k
  · exact lv_iload hx hb hdg hl k
  · exact lv_iload_n hx hb hdg rfl hl k
  · exact lv_lload hx hb hdg hl k
  · exact lv_lload_n hx hb hdg rfl hl k
theorem a_sto1 {al al' : AL} {j : Nat} {v : Value} (hc : v.category = 1) (h : a_sto al j v = some al') : j < al.length ∧ a_set1 al j v = al' := by
  unfold a_sto at h
  rw [hc, if_neg (by decide)] at h
  split at h
  · cases h; exact ⟨by assumption, rfl⟩
  · cases h
theorem a_sto2 {al al' : AL} {j : Nat} {v : Value} (hc : v.category = 2) (h : a_sto al j v = some al') : j + 1 < al.length ∧ a_set2 al j v = al' := by
  unfold a_sto at h
  rw [hc, if_pos rfl] at h
  split at h
  · cases h; exact ⟨by assumption, rfl⟩
  · cases h
theorem a_store_ok (hx : p.tables.exec = Jvm.exec) (hb : c.code = cc) (hdg : decode cc pc = .ok (i, a_len i)) {j kd : Nat} {v : Value} {al al' : AL} (h : a_store i = some (j, kd)) (hk : a_kind v = kd) {ad : Nat → Nat} (hs : a_sto al j v = some al') (hl : a_L ad al ls) (k : ∀ ls' : Array Slot, a_L ad al' ls' → W p l e R s m args below meth c H locs cells slots Q (F0 m (pc + a_len i) ls' rest)) : W p l e R s m args below meth c H locs cells slots Q (F0 m pc ls (a_ren ad v :: rest)) := by
  cases i <;> simp only [a_store] at h <;> (try (cases h; done)) <;> cases h <;> cases v <;> (try (cases hk; done))
  · obtain ⟨hj, rfl⟩ := a_sto1 rfl hs; exact lv_astore hx hb hdg hl.has hj rfl (fun ls' q => k ls' (a_L.set1 (v := .ref _) rfl hj q))
  · obtain ⟨hj, rfl⟩ := a_sto1 rfl hs; exact lv_astore_n hx hb hdg rfl hl.has hj rfl (fun ls' q => k ls' (a_L.set1 (v := .ref _) rfl hj q))
  · obtain ⟨hj, rfl⟩ := a_sto2 rfl hs; exact lv_dstore hx hb hdg hl.has hj rfl (fun ls' q => k ls' (a_L.set2 (v := .double _) rfl hj q))
  · obtain ⟨hj, rfl⟩ := a_sto1 rfl hs; exact lv_fstore hx hb hdg hl.has hj rfl (fun ls' q => k ls' (a_L.set1 (v := .float _) rfl hj q))
  · obtain ⟨hj, rfl⟩ := a_sto1 rfl hs; exact lv_istore hx hb hdg hl.has hj rfl (fun ls' q => k ls' (a_L.set1 (v := .int _) rfl hj q))
  · obtain ⟨hj, rfl⟩ := a_sto1 rfl hs; exact lv_istore_n hx hb hdg rfl hl.has hj rfl (fun ls' q => k ls' (a_L.set1 (v := .int _) rfl hj q))
  · obtain ⟨hj, rfl⟩ := a_sto2 rfl hs; exact lv_lstore hx hb hdg hl.has hj rfl (fun ls' q => k ls' (a_L.set2 (v := .long _) rfl hj q))
  · obtain ⟨hj, rfl⟩ := a_sto2 rfl hs; exact lv_lstore_n hx hb hdg rfl hl.has hj rfl (fun ls' q => k ls' (a_L.set2 (v := .long _) rfl hj q))
theorem a_br_ok {b : Bool} {off : Int} {t : Nat} (h : a_br pc b off = some t) : ∃ t0 : Nat, (pc : Int) + off = (t0 : Int) ∧ (b = true → t = t0) ∧ (b = false → t = pc + 3) := by
  unfold a_br at h
  rw [Option.map_eq_some_iff] at h
  obtain ⟨t0, h1, h2⟩ := h
  refine ⟨t0, a_tgt_ok h1, fun hb => ?_, fun hb => ?_⟩
  · rw [hb, if_pos rfl] at h2; exact h2.symm
  · rw [hb, if_neg (by decide)] at h2; exact h2.symm
theorem a_if1_ok (hx : p.tables.exec = Jvm.exec) (hb : c.code = cc) {k : Jvm.ClassFile.Cond} {off : Int} {x : Int32} {t : Nat} (hdg : decode cc pc = .ok (.ifCond k off, 3)) (h : a_br pc (a_if1 k x) off = some t) (kk : W p l e R s m args below meth c H locs cells slots Q (F0 m t ls rest)) : W p l e R s m args below meth c H locs cells slots Q (F0 m pc ls (.int x :: rest)) := by
  obtain ⟨t0, h0, h1, h2⟩ := a_br_ok h
  cases k
  · exact lv_if_eq hx hb hdg h0 (fun q => by rw [← h1 (by simp [a_if1, q])]; exact kk) (fun q => by rw [← h2 (by simp [a_if1, q])]; exact kk)
  · exact lv_if_ne hx hb hdg h0 (fun q => by rw [← h1 (by simp [a_if1, q])]; exact kk) (fun q => by rw [← h2 (by simp [a_if1, q])]; exact kk)
  · exact lv_if_lt hx hb hdg h0 (fun q => by rw [← h1 (by simp only [a_if1, q, decide_true])]; exact kk) (fun q => by rw [← h2 (by simp only [a_if1, q, decide_false])]; exact kk)
  · exact lv_if_ge hx hb hdg h0 (fun q => by rw [← h1 (by simp only [a_if1, q, decide_true])]; exact kk) (fun q => by rw [← h2 (by simp only [a_if1, q, decide_false])]; exact kk)
  · exact lv_if_gt hx hb hdg h0 (fun q => by rw [← h1 (by simp only [a_if1, q, decide_true])]; exact kk) (fun q => by rw [← h2 (by simp only [a_if1, q, decide_false])]; exact kk)
  · exact lv_if_le hx hb hdg h0 (fun q => by rw [← h1 (by simp only [a_if1, q, decide_true])]; exact kk) (fun q => by rw [← h2 (by simp only [a_if1, q, decide_false])]; exact kk)
theorem a_if2_ok (hx : p.tables.exec = Jvm.exec) (hb : c.code = cc) {k : Jvm.ClassFile.Cond} {off : Int} {x y : Int32} {t : Nat} (hdg : decode cc pc = .ok (.if_icmp k off, 3)) (h : a_br pc (a_if2 k x y) off = some t) (kk : W p l e R s m args below meth c H locs cells slots Q (F0 m t ls rest)) : W p l e R s m args below meth c H locs cells slots Q (F0 m pc ls (.int y :: .int x :: rest)) := by
  obtain ⟨t0, h0, h1, h2⟩ := a_br_ok h
  cases k
  · exact lv_icmp_eq hx hb hdg h0 (fun q => by rw [← h1 (by simp [a_if2, q])]; exact kk) (fun q => by rw [← h2 (by simp [a_if2, q])]; exact kk)
  · exact lv_icmp_ne hx hb hdg h0 (fun q => by rw [← h1 (by simp [a_if2, q])]; exact kk) (fun q => by rw [← h2 (by simp [a_if2, q])]; exact kk)
  · exact lv_icmp_lt hx hb hdg h0 (fun q => by rw [← h1 (by simp only [a_if2, q, decide_true])]; exact kk) (fun q => by rw [← h2 (by simp only [a_if2, q, decide_false])]; exact kk)
  · exact lv_icmp_ge hx hb hdg h0 (fun q => by rw [← h1 (by simp only [a_if2, q, decide_true])]; exact kk) (fun q => by rw [← h2 (by simp only [a_if2, q, decide_false])]; exact kk)
  · exact lv_icmp_gt hx hb hdg h0 (fun q => by rw [← h1 (by simp only [a_if2, q, decide_true])]; exact kk) (fun q => by rw [← h2 (by simp only [a_if2, q, decide_false])]; exact kk)
  · exact lv_icmp_le hx hb hdg h0 (fun q => by rw [← h1 (by simp only [a_if2, q, decide_true])]; exact kk) (fun q => by rw [← h2 (by simp only [a_if2, q, decide_false])]; exact kk)
/-- constants, locals, jumps, the stack: the machine does the same, the heap stays -/
theorem a_st1_ok (hx : p.tables.exec = Jvm.exec) (hb : c.code = cc) (hdg : decode cc pc = .ok (i, a_len i)) {ad : Nat → Nat} {al : AL} {st : List Value} {h : AH} {r : AS} (hr : a_st1 i pc al st h = some r) (hl : a_L ad al ls) (inj : ∀ j k, j < h.length → k < h.length → ad j = ad k → j = k)
    (kk : r.2.2.2 = (h, 0, 0) → r.2.1.length = al.length → ∀ ls' : Array Slot, a_L ad r.2.1 ls' → W p l e R s m args below meth c H locs cells slots Q (F0 m r.1 ls' (r.2.2.1.map (a_ren ad)))) : W p l e R s m args below meth c H locs cells slots Q (F0 m pc ls (st.map (a_ren ad))) := by
  unfold a_st1 at hr
  split at hr
  · rename_i v hv
    cases hr
    exact a_const_ok hx hb hdg hv ad (kk rfl rfl ls hl)
  split at hr
  · rename_i j kd hv
    split at hr
    · rename_i v hg
      split at hr
      · rename_i hk
        cases hr
        exact a_load_ok hx hb hdg hv hk (hl.2.2 j v hg) (kk rfl rfl ls hl)
      · cases hr
    · cases hr
  split at hr
  · rename_i j kd hv
    split at hr
    · rename_i v st'
      split at hr
      · rename_i hk
        rw [Option.map_eq_some_iff] at hr
        obtain ⟨al', h1, rfl⟩ := hr
        exact a_store_ok hx hb hdg hv hk h1 hl (fun ls' q => kk rfl (by have := q.1; have := hl.1; unfold a_sto at h1; split at h1 <;> split at h1 <;> cases h1 <;> simp [a_set1, a_set2, a_kill_len]) ls' q)
      · cases hr
    · cases hr
  split at hr
  · rename_i k n
    split at hr
    · rename_i x hg
      rw [Option.map_eq_some_iff] at hr
      obtain ⟨al', h1, rfl⟩ := hr
      obtain ⟨hj, rfl⟩ := a_sto1 rfl h1
      obtain ⟨z, hz⟩ := List.getElem?_of_mem (a_lv_mem (ad := ad).mpr ⟨_, hg, rfl⟩)
      exact lv_iinc hx hb hdg hl.has hz rfl hj rfl (fun ls' q => kk rfl (by simp [a_set1, a_kill_len]) ls' (a_L.set1 (v := .int _) rfl hj q))
    · cases hr
  · rw [Option.map_eq_some_iff] at hr
    obtain ⟨t, h1, rfl⟩ := hr
    exact lv_goto hx hb hdg (a_tgt_ok h1) (kk rfl rfl ls hl)
  · rw [Option.map_eq_some_iff] at hr
    obtain ⟨t, h1, rfl⟩ := hr
    exact a_if1_ok hx hb hdg h1 (kk rfl rfl ls hl)
  · rw [Option.map_eq_some_iff] at hr
    obtain ⟨t, h1, rfl⟩ := hr
    exact a_if2_ok hx hb hdg h1 (kk rfl rfl ls hl)
  · rename_i off y x st' _ _ _
    split at hr
    · rename_i hxy
      rw [Option.map_eq_some_iff] at hr
      obtain ⟨t, h1, rfl⟩ := hr
      obtain ⟨t0, h0, h2, h3⟩ := a_br_ok h1
      have k1 := kk rfl rfl ls hl
      have e : (some (ad x) = some (ad y)) ↔ x = y := ⟨fun q => inj x y hxy.1 hxy.2 (Option.some.inj q), fun q => by rw [q]⟩
      exact lv_acmp_eq (rx := some (ad x)) (ry := some (ad y)) hx hb hdg h0 (fun q => by rw [← h2 (decide_eq_true (e.mp q))]; exact k1) (fun q => by rw [← h3 (decide_eq_false (fun z => q (e.mpr z)))]; exact k1)
    · cases hr
  · rename_i v st'
    split at hr
    · rename_i hc
      cases hr
      exact lv_dup hx hb hdg (by rw [a_ren_cat]; exact hc) (kk rfl rfl ls hl)
    · cases hr
  · rename_i v u st'
    split at hr
    · rename_i hc
      cases hr
      exact lv_dup2_11 hx hb hdg (by rw [a_ren_cat]; exact hc.1) (by rw [a_ren_cat]; exact hc.2) (kk rfl rfl ls hl)
    · cases hr
  · rename_i v st'
    split at hr
    · rename_i hc
      cases hr
      exact lv_pop hx hb hdg (by rw [a_ren_cat]; exact hc) (kk rfl rfl ls hl)
    · cases hr
  · cases hr
end AW
end
section
section AW2
variable {p : Program} {l : Launch} {e : Env} {R : Room} {s : State} {m : MethodId} {args : Array Value} {below : List Frame} {meth : Method} {c : Code} {H : Heap} {locs : List Loc} {cells slots : Nat} {Q : State → Prop} {cc : ByteArray} {pc : Nat} {ls : Array Slot} {rest : List Value} {i : Instr}
theorem a_bin_ok (hx : p.tables.exec = Jvm.exec) (hb : c.code = cc) (hdg : decode cc pc = .ok (i, a_len i)) {x y v : Int32} (h : a_bin i x y = some v) (k : W p l e R s m args below meth c H locs cells slots Q (F0 m (pc + 1) ls (.int v :: rest))) : W p l e R s m args below meth c H locs cells slots Q (F0 m pc ls (.int y :: .int x :: rest)) := by
  cases i <;> simp only [a_bin] at h <;> (try (cases h; done))
  · cases h; exact lv_iadd hx hb hdg k
  · cases h; exact lv_iand hx hb hdg k
  · split at h
    · cases h
    · rename_i hn; cases h; exact lv_idiv hx hb hdg hn k
  · cases h; exact lv_imul hx hb hdg k
  · cases h; exact lv_ior hx hb hdg k
  · split at h
    · cases h
    · rename_i hn; cases h; exact lv_irem hx hb hdg hn k
  · cases h; exact lv_isub hx hb hdg k
/-- arithmetic: the machine does the same, heap and locals stay -/
theorem a_st2_ok (hx : p.tables.exec = Jvm.exec) (hb : c.code = cc) (hdg : decode cc pc = .ok (i, a_len i)) {ad : Nat → Nat} {al : AL} {st : List Value} {h : AH} {r : AS} (hr : a_st2 i pc al st h = some r)
    (kk : r.2.2.2 = (h, 0, 0) → r.2.1 = al → W p l e R s m args below meth c H locs cells slots Q (F0 m r.1 ls (r.2.2.1.map (a_ren ad)))) : W p l e R s m args below meth c H locs cells slots Q (F0 m pc ls (st.map (a_ren ad))) := by
  unfold a_st2 at hr
  split at hr
  · cases hr; exact lv_i2l hx hb hdg rfl (kk rfl rfl)
  · cases hr; exact lv_i2c hx hb hdg rfl (kk rfl rfl)
  · cases hr; exact lv_i2f hx hb hdg (kk rfl rfl)
  · cases hr; exact lv_i2d hx hb hdg (kk rfl rfl)
  · split at hr
    · rename_i hn; cases hr; exact lv_f2d hx hb hdg hn (kk rfl rfl)
    · cases hr
  · cases hr; exact lv_ladd hx hb hdg (kk rfl rfl)
  · cases hr; exact lv_lmul hx hb hdg (kk rfl rfl)
  · cases hr; exact W.lcmp hx hb hdg (kk rfl rfl)
  · split at hr
    · rename_i hn; cases hr; exact lv_fdiv hx hb hdg hn (kk rfl rfl)
    · cases hr
  · split at hr
    · rename_i hn; cases hr; exact lv_ddiv hx hb hdg hn (kk rfl rfl)
    · cases hr
  · cases hr; exact lv_fcmp hx hb hdg (kk rfl rfl)
  · cases hr; exact lv_dcmp hx hb hdg (kk rfl rfl)
  · rw [Option.map_eq_some_iff] at hr
    obtain ⟨v, h1, rfl⟩ := hr
    exact a_bin_ok hx hb hdg h1 (kk rfl rfl)
  · cases hr
end AW2
/-! the heap -/
/-- the classes' numbers and slots, the array classes' numbers by their tags -/
abbrev AD : Type := (Nat → ClassId) × (Nat → Nat → Nat) × (Nat → ClassId)
def a_C (D : AD) (ad : Nat → Nat) (x : AC) (cell : Cell) : Prop :=
  if x.1 < 19 then cell.cls = D.1 x.1 ∧ cell.vm = .none ∧ x.2.length = a_cl x.1 ∧ ∀ (k : Nat) (v : Value), x.2[k]? = some v → cell.slots[D.2.1 x.1 k]? = some (a_ren ad v)
  else cell.cls = D.2.2 x.1 ∧ (cell.vm ≠ .unknown ∧ ∀ q, cell.vm ≠ .statics q) ∧ cell.slots.size = x.2.length ∧ ∀ (k : Nat) (v : Value), x.2[k]? = some v → cell.slots[k]? = some (a_ren ad v)
/-- the heap H holds the abstract heap h at the addresses ad; all but the script lie from B on -/
def a_H (D : AD) (B : Nat) (ad : Nat → Nat) (h : AH) (H : Heap) : Prop :=
  (∀ (k : Nat) (x : AC), h[k]? = some x → ∃ cell : Cell, H[ad k]? = some cell ∧ a_C D ad x cell) ∧
  (∀ j k : Nat, j < h.length → k < h.length → ad j = ad k → j = k) ∧
  ∀ (k : Nat) (x : AC), h[k]? = some x → x.1 ≠ 19 → B ≤ ad k
theorem a_C.arr {D : AD} {ad : Nat → Nat} {x : AC} {cell : Cell} (h : a_C D ad x cell) (ht : 19 ≤ x.1) : cell.cls = D.2.2 x.1 ∧ (cell.vm ≠ .unknown ∧ ∀ q, cell.vm ≠ .statics q) ∧ cell.slots.size = x.2.length ∧ ∀ (k : Nat) (v : Value), x.2[k]? = some v → cell.slots[k]? = some (a_ren ad v) := by
  unfold a_C at h
  rw [if_neg (by omega)] at h
  exact h
theorem a_C.obj {D : AD} {ad : Nat → Nat} {x : AC} {cell : Cell} (h : a_C D ad x cell) (ht : x.1 < 19) : cell.cls = D.1 x.1 ∧ cell.vm = .none ∧ x.2.length = a_cl x.1 ∧ ∀ (k : Nat) (v : Value), x.2[k]? = some v → cell.slots[D.2.1 x.1 k]? = some (a_ren ad v) := by
  unfold a_C at h
  rw [if_pos ht] at h
  exact h
/-- what the tables say of the array classes -/
def a_KA (D : AD) (U : State) : Prop := ∀ (t : Nat) (ty : FieldType), a_aty t = some ty → ∃ (kA : Class) (comp : ClassId), U.vm.classes[D.2.2 t]? = some kA ∧ kA.kind = .array comp ty
theorem a_aty_ge {t : Nat} {ty : FieldType} (h : a_aty t = some ty) : 19 ≤ t := by
  unfold a_aty at h
  split at h
  · cases h
  · omega
theorem a_C.isArr {D : AD} {ad : Nat → Nat} {x : AC} {cell : Cell} {U : State} {ty : FieldType} (hK : a_KA D U) (h : a_C D ad x cell) (ht : a_aty x.1 = some ty) : U.isArrayOf cell ty := by
  obtain ⟨h1, h2, -⟩ := h.arr (a_aty_ge ht)
  obtain ⟨kA, comp, h3, h4⟩ := hK _ _ ht
  exact ⟨h2.2, kA, by rw [h1]; exact h3, comp, h4⟩
theorem a_ix_ok {j : Int32} {n k : Nat} (h : a_ix j n = some k) : ¬ (j < 0 ∨ n ≤ j.toNatClampNeg) ∧ j.toNatClampNeg = k ∧ k < n := by
  unfold a_ix at h
  split at h
  · cases h
  · rename_i h1
    cases h
    exact ⟨h1, rfl, by omega⟩
end
section
/-! The tables' words are among the Statement's -/
def a_at (w : Nat × Nat) (x : Cond) : Bool := decide ((a_chs w.1)[w.2]? = some x) && goodWord x
def a_wG : List Cond := lw_tbl.filter goodWord
theorem a_wG_of {x : Cond} (h : x ∈ lw_tbl) (g : goodWord x = true) : x ∈ a_wG := List.mem_filter.mpr ⟨h, g⟩
theorem a_at_in {w : Nat × Nat} {x : Cond} (h : a_at w x = true) : x ∈ a_wG := by
  unfold a_at at h
  rw [Bool.and_eq_true, decide_eq_true_eq] at h
  exact a_wG_of (a_chs_in (List.mem_of_getElem? h.1)) h.2
theorem a_wG_good : GoodIn a_wG a_wG := fun w hw => ⟨hw, good_of_word (List.mem_filter.mp hw).2⟩
/-- rows of a table of lists, each with the number of its class -/
def a_all {α : Type} (t : List (List α)) (p : Nat → α → Bool) : Bool := t.zipIdx.all fun q => q.1.all (p q.2)
theorem a_all_of {α : Type} {t : List (List α)} {p : Nat → α → Bool} (h : a_all t p = true) {own : Nat} {e : α} (he : e ∈ a_of t own) : p own e = true := by
  unfold a_of at he
  rw [List.getD_eq_getElem?_getD] at he
  cases ht : t[own]? with
  | none => rw [ht] at he; exact absurd he List.not_mem_nil
  | some l =>
    rw [ht] at he
    unfold a_all at h
    rw [List.all_eq_true] at h
    have h1 := h (l, own) (by rw [List.mem_zipIdx_iff_getElem?]; exact ht)
    rw [List.all_eq_true] at h1
    exact h1 e he
def a_fieldW (own : Nat) (e : Nat × Nat × Nat × Nat × Nat) : Bool := a_at e.2.2.2 (.fieldLink (a_cN own) e.1 (a_cN e.2.1) (a_cT e.2.1 e.2.2.1).2.1 (a_cT e.2.1 e.2.2.1).2.2.1) && (decide (e.2.2.1 < a_cl e.2.1) && decide (e.2.1 < 13))
theorem a_fld_ok : a_all a_fld a_fieldW = true := by decide +kernel
def a_wsC (c : Nat) : List Cond := u_ws (a_cN c) (a_cT c) (a_cl c)
theorem a_wsC_ok : ∀ c, c < 13 → ∀ w ∈ a_wsC c, w ∈ lw_tbl ∧ goodWord w = true := by decide +kernel
end
section
theorem a_set_len {α : Type} {l : List α} {a : Nat} {x : α} : (l.set a x).length = l.length := List.length_set ..
theorem a_H.set {D : AD} {B : Nat} {ad : Nat → Nat} {h : AH} {H H' : Heap} {a t : Nat} {vs vs' : List Value} {cell' : Cell} (hH : a_H D B ad h H) (ha : h[a]? = some (t, vs)) (e1 : H'[ad a]? = some cell') (hc : a_C D ad (t, vs') cell') (e3 : ∀ q, q ≠ ad a → H'[q]? = H[q]?) : a_H D B ad (h.set a (t, vs')) H' := by
  obtain ⟨h1, h2, h3⟩ := hH
  have hal := (List.getElem?_eq_some_iff.mp ha).1
  refine ⟨fun k x hk => ?_, fun j k hj hk => h2 j k (by rwa [a_set_len] at hj) (by rwa [a_set_len] at hk), fun k x hk ht => ?_⟩
  · rw [List.getElem?_set] at hk
    split at hk
    · rename_i e
      subst e
      (try rw [if_pos hal] at hk)
      cases hk
      exact ⟨cell', e1, hc⟩
    · rename_i e
      obtain ⟨cell, g1, g2⟩ := h1 k x hk
      refine ⟨cell, ?_, g2⟩
      rw [e3 _ (fun q => e (h2 a k hal (List.getElem?_eq_some_iff.mp hk).1 q.symm))]
      exact g1
  · rw [List.getElem?_set] at hk
    split at hk
    · rename_i e
      subst e
      (try rw [if_pos hal] at hk)
      cases hk
      exact h3 a (t, vs) ha ht
    · exact h3 k x hk ht
theorem a_size_set (c : Cell) (i : Nat) (v : Value) : (c.setSlot i v).slots.size = c.slots.size := by
  simp [Cell.setSlot]
theorem a_C.setArr {D : AD} {ad : Nat → Nat} {t : Nat} {vs : List Value} {cell : Cell} (h : a_C D ad (t, vs) cell) (ht : 19 ≤ t) {n : Nat} (hn : n < vs.length) (v : Value) : a_C D ad (t, vs.set n v) (cell.setSlot n (a_ren ad v)) := by
  obtain ⟨h1, h2, h3, h4⟩ := h.arr ht
  unfold a_C
  rw [if_neg (show ¬ t < 19 by omega)]
  refine ⟨h1, h2, by rw [a_size_set, h3, a_set_len], fun k w hk => ?_⟩
  rw [List.getElem?_set] at hk
  split at hk
  · rename_i e
    subst e
    (try rw [if_pos hn] at hk)
    cases hk
    exact Cell.slots_setSlot_self _ (by rw [h3]; exact hn)
  · rename_i e
    rw [Cell.slots_setSlot_ne _ e]
    exact h4 k w hk
theorem a_C.setObj {D : AD} {ad : Nat → Nat} {t : Nat} {vs : List Value} {cell : Cell} (h : a_C D ad (t, vs) cell) (ht : t < 19) {n : Nat} (hn : n < vs.length) (hap : ∀ j, j < vs.length → j ≠ n → D.2.1 t n ≠ D.2.1 t j) (v : Value) : a_C D ad (t, vs.set n v) (cell.setSlot (D.2.1 t n) (a_ren ad v)) := by
  obtain ⟨h1, h2, h3, h4⟩ := h.obj ht
  unfold a_C
  rw [if_pos (show t < 19 from ht)]
  refine ⟨h1, h2, by rw [a_set_len]; exact h3, fun k w hk => ?_⟩
  rw [List.getElem?_set] at hk
  split at hk
  · rename_i e
    subst e
    (try rw [if_pos hn] at hk)
    cases hk
    exact Cell.slots_setSlot_self _ (k2_hasslot (h4 n _ (List.getElem?_eq_getElem hn)))
  · rename_i e
    rw [Cell.slots_setSlot_ne _ (hap k (List.getElem?_eq_some_iff.mp hk).1 (Ne.symm e))]
    exact h4 k w hk
/-- what the tables say of the classes -/
def a_KC (D : AD) (U : State) : Prop := ∀ c : Nat, c < 13 → u_Kn U (a_cN c) (a_cT c) (a_cl c) (D.1 c) (D.2.1 c)
theorem a_types : ∀ c, c < 13 → ∀ k, k < a_cl c → parseFieldDescriptor (a_cT c k).2.2.1 = some (a_fty c k) := by decide +kernel
theorem a_names : ∀ c, c < 13 → ∀ a, a < a_cl c → ∀ b, b < a_cl c → a ≠ b → (a_cT c a).2.1 ≠ (a_cT c b).2.1 := by decide +kernel
theorem a_decl : ∀ c, c < 13 → ∀ k, k < a_cl c → (a_cT c k).1 = a_cN c := by decide +kernel
theorem a_hin {c : Nat} (hc : c < 13) : ∀ w ∈ u_ws (a_cN c) (a_cT c) (a_cl c), w ∈ a_wG := fun w hw => a_wG_of (a_wsC_ok c hc w hw).1 (a_wsC_ok c hc w hw).2
section AW3
variable {p : Program} {l : Launch} {e : Env} {R : Room} {s : State} {m : MethodId} {args : Array Value} {below : List Frame} {meth : Method} {c : Code} {H : Heap} {locs : List Loc} {cells slots : Nat} {Q : State → Prop} {cc : ByteArray} {pc : Nat} {ls : Array Slot} {rest : List Value} {i : Instr} {D : AD} {B : Nat} {ad : Nat → Nat} {h : AH}
theorem a_apart {args : Array Value} (hts : ∀ w ∈ a_wG, w.before args s = true) (hK : a_KC D s) {ci : Nat} (hc : ci < 13) : ∀ x y, x < a_cl ci → y < a_cl ci → x ≠ y → D.2.1 ci x ≠ D.2.1 ci y := by
  intro x y hx hy hne
  obtain ⟨hS, -⟩ := hK ci hc
  obtain ⟨_, _, _, fa, hia, ea⟩ := hS x hx
  obtain ⟨_, _, _, fb, hib, eb⟩ := hS y hy
  rw [← ea, ← eb]
  refine u_apart (u_lays hts (a_hin hc) hx) (u_lays hts (a_hin hc) hy) hia hib ?_
  rw [(State.fieldFound?_type hia (a_types ci hc x hx)).1, (State.fieldFound?_type hib (a_types ci hc y hy)).1]
  exact a_names ci hc x hx y hy hne
theorem a_field_in {own idx ci k : Nat} (h : a_field own idx = some (ci, k)) : Cond.fieldLink (a_cN own) idx (a_cN ci) (a_cT ci k).2.1 (a_cT ci k).2.2.1 ∈ a_wG ∧ k < a_cl ci ∧ ci < 13 := by
  unfold a_field at h
  rw [Option.map_eq_some_iff] at h
  obtain ⟨q, h1, h2⟩ := h
  have h3 := a_all_of a_fld_ok (List.mem_of_find?_eq_some h1)
  have h4 := List.find?_some h1
  unfold a_fieldW at h3
  simp only [Bool.and_eq_true, decide_eq_true_eq] at h3
  simp only [beq_iff_eq] at h4
  cases h2
  subst h4
  exact ⟨a_at_in h3.1, h3.2.1, h3.2.2⟩
theorem a_getf_ok (hx : p.tables.exec = Jvm.exec) (hb : c.code = cc) {own idx ci k a : Nat} (hown : s.vm.findClass (a_cN own) = some m.cls) (hts : ∀ w ∈ a_wG, w.before args s = true) (hK : a_KC D s) (hf : a_field own idx = some (ci, k)) {cell : Cell} {vs : List Value} {v : Value} (hcell : H[a]? = some cell) (hC : a_C D ad (ci, vs) cell) (hv : vs[k]? = some v) (hdg : decode cc pc = .ok (.getfield idx, 3))
    (kk : W p l e R s m args below meth c H locs cells slots Q (F0 m (pc + 3) ls (a_ren ad v :: rest))) : W p l e R s m args below meth c H locs cells slots Q (F0 m pc ls (.ref a :: rest)) := by
  obtain ⟨hw, hk, hc⟩ := a_field_in hf
  obtain ⟨q2, q3, -, q4⟩ := hC.obj (show ci < 19 by omega)
  obtain ⟨hS, hfc, kC, hkC, hkind⟩ := hK ci hc
  obtain ⟨cf, kf, fi, f, hi, hsl⟩ := hS k hk
  rw [a_decl ci hc k hk] at hi
  have hst := (u_facts (O := a_cN ci) hfc hkC (by have := u_lays hts (a_hin hc) hk; rwa [a_decl ci hc k hk] at this) hi).1
  exact W.getf hx hb hown (hts _ hw) hi hst hcell (by rw [q3]; exact fun h => by cases h) (by rw [hsl]; exact q4 k v hv) rfl rfl hdg kk
theorem a_putf_ok (hx : p.tables.exec = Jvm.exec) (hb : c.code = cc) {own idx ci k a : Nat} (hown : s.vm.findClass (a_cN own) = some m.cls) (hts : ∀ w ∈ a_wG, w.before args s = true) (hK : a_KC D s) (hf : a_field own idx = some (ci, k)) {cell : Cell} {vs : List Value} {v : Value} (hcell : H[a]? = some cell) (hC : a_C D ad (ci, vs) cell) (hv : k < vs.length) (hn : narrow (a_fty ci k) v = v) (hfit : fits (a_fty ci k) v = true) (hfin : (a_cT ci k).2.2.2 = false ∨ (meth.name = "<init>" ∧ own = ci)) (hdg : decode cc pc = .ok (.putfield idx, 3))
    (kk : ∀ H' : Heap, H'[a]? = some (cell.setSlot (D.2.1 ci k) v) → H'.size = H.size → (∀ q, q ≠ a → H'[q]? = H[q]?) → W p l e R s m args below meth c H' (locs ++ [⟨a, D.2.1 ci k⟩]) cells slots Q (F0 m (pc + 3) ls rest)) : W p l e R s m args below meth c H locs cells slots Q (F0 m pc ls (v :: .ref a :: rest)) := by
  obtain ⟨hw, hk, hc⟩ := a_field_in hf
  obtain ⟨q2, q3, -, q4⟩ := hC.obj (show ci < 19 by omega)
  obtain ⟨hS, hfc, kC, hkC, hkind⟩ := hK ci hc
  obtain ⟨cf, kf, fi, f, hi, hsl⟩ := hS k hk
  have hlt : f.slot < cell.slots.size := by rw [hsl]; exact k2_hasslot (q4 k _ (List.getElem?_eq_getElem hv))
  have hl := u_lays hts (a_hin hc) hk
  have hlay := hts _ (a_hin hc _ (u_in_lay hk))
  rw [a_decl ci hc k hk] at hi hl
  have hst := (u_facts (O := a_cN ci) hfc hkC hl hi).1
  have hty := a_types ci hc k hk
  rw [← hsl] at kk
  by_cases hff : (a_cT ci k).2.2.2 = true
  · rcases hfin with hfin | ⟨hin, ho⟩
    · rw [hfin] at hff; cases hff
    · subst ho
      unfold u_lay at hlay
      rw [if_pos hff, a_decl _ hc k hk] at hlay
      have hd : m.cls = cf := laid_decl hown hlay hi
      have hS2 := u_fits (O := a_cN own) hfc hkC hkind hl hi hty hn hfit
      exact W.putFinK hx hb hown (hts _ hw) hi hst hd hin (by rw [q2]; exact hS2) hcell q3 hlt rfl rfl hdg kk
  · have hff : (a_cT ci k).2.2.2 = false := by simpa using hff
    unfold u_lay at hlay
    rw [if_neg (by rw [hff]; decide), a_decl ci hc k hk] at hlay
    have h6 := u_store (O := a_cN ci) hfc hkC hkind hlay hi hty hn hfit
    exact W.putK hx hb (f := f) ⟨hown, hts _ hw, ⟨_, _, _, hi⟩, hst⟩ (by rw [q2]; exact h6) hcell q3 hlt rfl rfl hdg kk
end AW3
end
section
theorem a_narrow_ren {ad : Nat → Nat} {ty : FieldType} {v : Value} (h : narrow ty v = v) : narrow ty (a_ren ad v) = a_ren ad v := by
  cases v <;> first | exact h | (cases ty <;> rfl)
theorem a_fits_ren {ad : Nat → Nat} {ty : FieldType} {v : Value} (h : fits ty v = true) : fits ty (a_ren ad v) = true := by
  cases v <;> first | exact h | (cases ty <;> first | rfl | exact h)
section AW4
variable {p : Program} {l : Launch} {e : Env} {R : Room} {s : State} {m : MethodId} {args : Array Value} {below : List Frame} {meth : Method} {c : Code} {H : Heap} {locs : List Loc} {cells slots : Nat} {Q : State → Prop} {cc : ByteArray} {pc : Nat} {ls : Array Slot} {rest : List Value} {i : Instr} {D : AD} {B : Nat} {ad : Nat → Nat} {h : AH} {H0 : Heap}
theorem a_st3_ok (hx : p.tables.exec = Jvm.exec) (hb : c.code = cc) (hdg : decode cc pc = .ok (i, a_len i)) (hKA : a_KA D s) (hH : a_H D B ad h H) {al : AL} {st : List Value} {r : AS} (hr : a_st3 i pc al st h = some r)
    (kk : r.2.2.2 = (h, 0, 0) → r.2.1 = al → W p l e R s m args below meth c H locs cells slots Q (F0 m r.1 ls (r.2.2.1.map (a_ren ad)))) : W p l e R s m args below meth c H locs cells slots Q (F0 m pc ls (st.map (a_ren ad))) := by
  unfold a_st3 at hr
  split at hr
  · rename_i j a st'
    split at hr
    · rename_i t vs ha
      split at hr
      · rename_i ht
        rw [Option.bind_eq_some_iff] at hr
        obtain ⟨n, h1, hr⟩ := hr
        rw [Option.map_eq_some_iff] at hr
        obtain ⟨v, h2, rfl⟩ := hr
        obtain ⟨g1, g2, g3⟩ := a_ix_ok h1
        obtain ⟨cell, c1, c2⟩ := hH.1 a _ ha
        have k1 := kk rfl rfl
        cases i <;> simp only [a_ald] at ht <;> (try (cases ht; done))
        · obtain ⟨ty, hty, href⟩ : ∃ ty, a_aty t = some ty ∧ ty.isReference = true := by
            cases hq : a_aty t with
            | none => rw [hq] at ht; cases ht
            | some ty => rw [hq] at ht; exact ⟨ty, rfl, ht⟩
          obtain ⟨-, d2, d3, d4⟩ := c2.arr (a_aty_ge hty)
          exact W.aald hx hb c1 (c2.isArr hKA hty) href d2.1 (by rw [d3]; exact g1) (by rw [g2]; exact d4 n v h2) rfl rfl hdg k1
        · have hty := of_decide_eq_true ht
          obtain ⟨-, d2, d3, d4⟩ := c2.arr (a_aty_ge hty)
          exact W.zald hx hb c1 (c2.isArr hKA hty) d2.1 (by rw [d3]; exact g1) (by rw [g2]; exact d4 n v h2) rfl rfl hdg k1
        · have hty := of_decide_eq_true ht
          obtain ⟨-, d2, d3, d4⟩ := c2.arr (a_aty_ge hty)
          exact W.cald hx hb c1 (c2.isArr hKA hty) d2.1 (by rw [d3]; exact g1) (by rw [g2]; exact d4 n v h2) rfl rfl hdg k1
        · have hty := of_decide_eq_true ht
          obtain ⟨-, d2, d3, d4⟩ := c2.arr (a_aty_ge hty)
          exact W.dald hx hb c1 (c2.isArr hKA hty) d2.1 (by rw [d3]; exact g1) (by rw [g2]; exact d4 n v h2) rfl rfl hdg k1
        · have hty := of_decide_eq_true ht
          obtain ⟨-, d2, d3, d4⟩ := c2.arr (a_aty_ge hty)
          exact W.iald hx hb c1 (c2.isArr hKA hty) d2.1 (by rw [d3]; exact g1) (by rw [g2]; exact d4 n v h2) rfl rfl hdg k1
        · have hty := of_decide_eq_true ht
          obtain ⟨-, d2, d3, d4⟩ := c2.arr (a_aty_ge hty)
          exact W.lald hx hb c1 (c2.isArr hKA hty) d2.1 (by rw [d3]; exact g1) (by rw [g2]; exact d4 n v h2) rfl rfl hdg k1
      · cases hr
    · cases hr
  · cases hr
/-- an array store -/
theorem a_ast_ok (hx : p.tables.exec = Jvm.exec) (hb : c.code = cc) (hdg : decode cc pc = .ok (i, a_len i)) (hKA : a_KA D s) (hH : a_H D B ad h H) (hS : va_S (fun q => B ≤ q) H0 H locs) {a t n : Nat} {vs : List Value} {x v : Value} {j : Int32} (ha : h[a]? = some (t, vs)) (hv : a_ast i t x = some v) (hj : a_ix j vs.length = some n)
    (kk : ∀ (H' : Heap) (locs' : List Loc), a_H D B ad (h.set a (t, vs.set n v)) H' → va_S (fun q => B ≤ q) H0 H' locs' → W p l e R s m args below meth c H' locs' cells slots Q (F0 m (pc + 1) ls rest)) : W p l e R s m args below meth c H locs cells slots Q (F0 m pc ls (a_ren ad x :: .int j :: .ref (ad a) :: rest)) := by
  obtain ⟨g1, g2, g3⟩ := a_ix_ok hj
  obtain ⟨cell, c1, c2⟩ := hH.1 a _ ha
  have key : ∀ (ty : FieldType), a_aty t = some ty → t ≠ 19 → ∀ (w : Value), a_ren ad v = w → ∀ H' : Heap, H'[ad a]? = some (cell.setSlot j.toNatClampNeg w) → H'.size = H.size → (∀ q, q ≠ ad a → H'[q]? = H[q]?) → W p l e R s m args below meth c H' (locs ++ [⟨ad a, j.toNatClampNeg⟩]) cells slots Q (F0 m (pc + 1) ls rest) := by
    intro ty hty h19 w hw H' e1 e2 e3
    subst hw
    rw [g2] at e1
    exact kk H' _ (hH.set ha e1 (c2.setArr (a_aty_ge hty) g3 v) e3) (hS.put e2 e3 (hH.2.2 a _ ha h19))
  have n19 : ∀ ty, a_aty t = some ty → ty ≠ .int → t ≠ 19 := fun ty hty hn q => by
    subst q
    have : a_aty 19 = some .int := by decide +kernel
    rw [this] at hty
    cases hty
    exact hn rfl
  cases i <;> cases x <;> simp only [a_ast] at hv <;> (try (cases hv; done))
  · split at hv
    · rename_i hty
      cases hv
      obtain ⟨-, d2, d3, d4⟩ := c2.arr (a_aty_ge hty)
      exact W.zast hx hb c1 (c2.isArr hKA hty) d2.1 (by rw [d3]; exact g1) rfl rfl hdg (key _ hty (n19 _ hty (by decide)) _ rfl)
    · cases hv
  · split at hv
    · rename_i hty
      cases hv
      obtain ⟨-, d2, d3, d4⟩ := c2.arr (a_aty_ge hty)
      exact W.cast hx hb c1 (c2.isArr hKA hty) d2.1 (by rw [d3]; exact g1) rfl rfl hdg (key _ hty (n19 _ hty (by decide)) _ rfl)
    · cases hv
  · split at hv
    · rename_i hty
      cases hv
      obtain ⟨-, d2, d3, d4⟩ := c2.arr (a_aty_ge hty)
      exact W.dast hx hb c1 (c2.isArr hKA hty) d2.1 (by rw [d3]; exact g1) rfl rfl hdg (key _ hty (n19 _ hty (by decide)) _ rfl)
    · cases hv
  · split at hv
    · rename_i hty
      cases hv
      obtain ⟨-, d2, d3, d4⟩ := c2.arr (a_aty_ge hty.2)
      exact W.iast hx hb c1 (c2.isArr hKA hty.2) d2.1 (by rw [d3]; exact g1) rfl rfl hdg (key _ hty.2 hty.1 _ rfl)
    · cases hv
  · split at hv
    · rename_i hty
      cases hv
      obtain ⟨-, d2, d3, d4⟩ := c2.arr (a_aty_ge hty)
      exact W.last hx hb c1 (c2.isArr hKA hty) d2.1 (by rw [d3]; exact g1) rfl rfl hdg (key _ hty (n19 _ hty (by decide)) _ rfl)
    · cases hv
end AW4
end
section
theorem a_cst_ok : a_all a_cst (fun own e => a_at e.2.2 (.constant (a_cN own) e.1 e.2.1)) = true := by decide +kernel
theorem a_csl_ok : a_all a_csl (fun own e => a_at e.2.2 (.constantLong (a_cN own) e.1 e.2.1)) = true := by decide +kernel
theorem a_cst_in {own idx : Nat} {q : Nat × Int32 × Nat × Nat} (h : (a_of a_cst own).find? (fun e => e.1 == idx) = some q) : Cond.constant (a_cN own) idx q.2.1 ∈ a_wG := by
  have h3 := a_all_of a_cst_ok (List.mem_of_find?_eq_some h)
  have h4 := List.find?_some h
  simp only [beq_iff_eq] at h4
  rw [← h4]
  exact a_at_in h3
theorem a_csl_in {own idx : Nat} {q : Nat × Int64 × Nat × Nat} (h : (a_of a_csl own).find? (fun e => e.1 == idx) = some q) : Cond.constantLong (a_cN own) idx q.2.1 ∈ a_wG := by
  have h3 := a_all_of a_csl_ok (List.mem_of_find?_eq_some h)
  have h4 := List.find?_some h
  simp only [beq_iff_eq] at h4
  rw [← h4]
  exact a_at_in h3
section AW5
variable {p : Program} {l : Launch} {e : Env} {R : Room} {s : State} {m : MethodId} {args : Array Value} {below : List Frame} {meth : Method} {c : Code} {H : Heap} {locs : List Loc} {cells slots : Nat} {Q : State → Prop} {cc : ByteArray} {pc : Nat} {ls : Array Slot} {rest : List Value} {i : Instr} {D : AD} {B : Nat} {ad : Nat → Nat} {h : AH} {H0 : Heap}
theorem a_st4_ok (hx : p.tables.exec = Jvm.exec) (hb : c.code = cc) (hdg : decode cc pc = .ok (i, a_len i)) {own : Nat} {ini : Bool} (hown : s.vm.findClass (a_cN own) = some m.cls) (hini : ini = true → meth.name = "<init>") (hts : ∀ w ∈ a_wG, w.before args s = true) (hKC : a_KC D s) (hKA : a_KA D s) (hH : a_H D B ad h H) (hS : va_S (fun q => B ≤ q) H0 H locs) {al : AL} {st : List Value} {r : AS} (hr : a_st4 own ini i pc al st h = some r)
    (kk : ∀ (H' : Heap) (locs' : List Loc), a_H D B ad r.2.2.2.1 H' → va_S (fun q => B ≤ q) H0 H' locs' → r.2.2.2.1.length = h.length → r.2.2.2.2 = (0, 0) → r.2.1 = al → W p l e R s m args below meth c H' locs' cells slots Q (F0 m r.1 ls (r.2.2.1.map (a_ren ad)))) : W p l e R s m args below meth c H locs cells slots Q (F0 m pc ls (st.map (a_ren ad))) := by
  unfold a_st4 at hr
  split at hr
  · split at hr
    · rename_i a st' _ t vs ha
      split at hr
      · rename_i ht
        cases hr
        obtain ⟨ty, hty⟩ := Option.isSome_iff_exists.mp ht
        obtain ⟨cell, c1, c2⟩ := hH.1 a _ ha
        obtain ⟨-, d2, d3, d4⟩ := c2.arr (a_aty_ge hty)
        exact W.alen hx hb c1 (c2.isArr hKA hty) (by rw [d3]) rfl rfl hdg (kk H locs hH hS rfl rfl rfl)
      · cases hr
    · cases hr
  · rw [Option.map_eq_some_iff] at hr
    obtain ⟨q, h1, rfl⟩ := hr
    exact lv_ldc hx hb hown (hts _ (a_cst_in h1)) hdg (kk H locs hH hS rfl rfl rfl)
  · rw [Option.map_eq_some_iff] at hr
    obtain ⟨q, h1, rfl⟩ := hr
    exact lv_ldcw hx hb hown (hts _ (a_cst_in h1)) hdg (kk H locs hH hS rfl rfl rfl)
  · rw [Option.map_eq_some_iff] at hr
    obtain ⟨q, h1, rfl⟩ := hr
    exact lv_ldc2 hx hb hown (hts _ (a_csl_in h1)) hdg (kk H locs hH hS rfl rfl rfl)
  · split at hr
    · rename_i idx a st' _ ci k hf
      split at hr
      · rename_i t vs ha
        split at hr
        · rename_i ht
          subst ht
          rw [Option.map_eq_some_iff] at hr
          obtain ⟨v, h2, rfl⟩ := hr
          obtain ⟨cell, c1, c2⟩ := hH.1 a _ ha
          exact a_getf_ok hx hb hown hts hKC hf c1 c2 h2 hdg (kk H locs hH hS rfl rfl rfl)
        · cases hr
      · cases hr
    · cases hr
  · split at hr
    · rename_i idx v a st' _ ci k hf
      split at hr
      · rename_i t vs ha
        split at hr
        · rename_i ht
          obtain ⟨ht, hk, hn, hfit, hfin⟩ := ht
          subst ht
          cases hr
          obtain ⟨cell, c1, c2⟩ := hH.1 a _ ha
          obtain ⟨-, -, hc13⟩ := a_field_in hf
          refine a_putf_ok (v := a_ren ad v) hx hb hown hts hKC hf c1 c2 hk (a_narrow_ren hn) (a_fits_ren hfit) ?_ hdg (fun H' e1 e2 e3 => ?_)
          · rcases hfin with q | ⟨q1, q2⟩
            · exact Or.inl q
            · exact Or.inr ⟨hini q1, q2⟩
          · have c3 := c2.setObj (show t < 19 by omega) hk (fun j hj hne => a_apart hts hKC hc13 k j (a_field_in hf).2.1 ?_ (Ne.symm hne)) v
            · exact kk H' _ (hH.set ha e1 c3 e3) (hS.put e2 e3 (hH.2.2 a _ ha (show t ≠ 19 by omega))) (a_set_len ..) rfl rfl
            · rw [← (c2.obj (show t < 19 by omega)).2.2.1]; exact hj
        · cases hr
      · cases hr
    · cases hr
  · split at hr
    · rename_i x j a st' _ _ _ _ _ _ t vs ha
      split at hr
      · rename_i v hv
        rw [Option.map_eq_some_iff] at hr
        obtain ⟨n, h1, rfl⟩ := hr
        exact a_ast_ok hx hb hdg hKA hH hS ha hv h1 (fun H' locs' g1 g2 => kk H' locs' g1 g2 (a_set_len ..) rfl rfl)
      · cases hr
    · cases hr
  · cases hr
end AW5
end
section
/-! References lie within the heap -/
def a_ok (n : Nat) (v : Value) : Prop := ∀ k : Nat, v = .ref k → k < n
def a_wf (al : AL) (st : List Value) (h : AH) : Prop := (∀ (i : Nat) (v : Value), a_get al i = some v → a_ok h.length v) ∧ (∀ v, v ∈ st → a_ok h.length v) ∧ ∀ (k : Nat) (x : AC), h[k]? = some x → ∀ v, v ∈ x.2 → a_ok h.length v
theorem a_ok_int {n : Nat} (x : Int32) : a_ok n (.int x) := fun k h => by cases h
theorem a_ok_long {n : Nat} (x : Int64) : a_ok n (.long x) := fun k h => by cases h
theorem a_ok_float {n : Nat} (x : UInt32) : a_ok n (.float x) := fun k h => by cases h
theorem a_ok_double {n : Nat} (x : UInt64) : a_ok n (.double x) := fun k h => by cases h
theorem a_ok_null {n : Nat} : a_ok n .null := fun k h => by cases h
theorem a_ok_mono {n m : Nat} {v : Value} (hm : n ≤ m) (h : a_ok n v) : a_ok m v := fun k hk => Nat.lt_of_lt_of_le (h k hk) hm
theorem a_ok_narrow {n : Nat} {ty : FieldType} {x : Int32} : a_ok n (narrow ty (.int x)) := by
  intro k hk
  cases ty <;> simp [narrow] at hk
theorem a_wf.tl {al : AL} {v : Value} {st : List Value} {h : AH} (w : a_wf al (v :: st) h) : a_wf al st h := ⟨w.1, fun u hu => w.2.1 u (List.mem_cons_of_mem _ hu), w.2.2⟩
theorem a_wf.hd {al : AL} {v : Value} {st : List Value} {h : AH} (w : a_wf al (v :: st) h) : a_ok h.length v := w.2.1 v List.mem_cons_self
theorem a_wf.push {al : AL} {v : Value} {st : List Value} {h : AH} (w : a_wf al st h) (hv : a_ok h.length v) : a_wf al (v :: st) h := ⟨w.1, fun u hu => (List.mem_cons.mp hu).elim (fun q => by rw [q]; exact hv) (w.2.1 u), w.2.2⟩
theorem a_wf.loc {al al' : AL} {st : List Value} {h : AH} (w : a_wf al st h) (hl : ∀ (i : Nat) (v : Value), a_get al' i = some v → a_ok h.length v) : a_wf al' st h := ⟨hl, w.2.1, w.2.2⟩
theorem a_wf.upd {al : AL} {st : List Value} {h : AH} (w : a_wf al st h) {a t : Nat} {vs vs' : List Value} (ha : h[a]? = some (t, vs)) (hv : ∀ v, v ∈ vs' → a_ok h.length v) : a_wf al st (h.set a (t, vs')) := by
  refine ⟨fun i v hi => by rw [a_set_len]; exact w.1 i v hi, fun v hu => by rw [a_set_len]; exact w.2.1 v hu, fun k x hk v hx => ?_⟩
  rw [a_set_len]
  rw [List.getElem?_set] at hk
  split at hk
  · split at hk
    · cases hk; exact hv v hx
    · cases hk
  · exact w.2.2 k x hk v hx
theorem a_wf.upd1 {al : AL} {st : List Value} {h : AH} (w : a_wf al st h) {a t n : Nat} {vs : List Value} {v : Value} (ha : h[a]? = some (t, vs)) (hv : a_ok h.length v) : a_wf al st (h.set a (t, vs.set n v)) := by
  refine w.upd ha (fun u hu => ?_)
  rcases List.mem_or_eq_of_mem_set hu with q | q
  · exact w.2.2 a _ ha u q
  · rw [q]; exact hv
theorem a_sto_wf {al al' : AL} {i n : Nat} {v : Value} (hs : a_sto al i v = some al') (hl : ∀ (i : Nat) (v : Value), a_get al i = some v → a_ok n v) (hv : a_ok n v) : ∀ (i : Nat) (v : Value), a_get al' i = some v → a_ok n v := by
  have hk : ∀ (j : Nat) (u : Value), a_get ((a_kill al i).set i (some v)) j = some u → a_ok n u := by
    intro j u hj
    rw [a_get_set] at hj
    split at hj
    · cases hj; exact hv
    · exact hl j u (a_kill_get hj).1
  intro j u hj
  unfold a_sto at hs
  split at hs
  · split at hs
    · cases hs
      unfold a_set2 at hj
      rw [a_get_set] at hj
      split at hj
      · cases hj
      · exact hk j u hj
    · cases hs
  · split at hs
    · cases hs
      exact hk j u hj
    · cases hs
theorem a_const_wf {i : Instr} {v : Value} {n : Nat} (h : a_const i = some v) : a_ok n v := by
  cases i <;> simp only [a_const] at h <;> (try (cases h; done))
  all_goals first
    | (cases h; exact a_ok_int _)
    | (cases h; exact a_ok_long _)
    | (split at h <;> cases h <;> first | exact a_ok_double _ | exact a_ok_float _)
theorem a_st1_wf {i : Instr} {pc : Nat} {al : AL} {st : List Value} {h : AH} {r : AS} (hr : a_st1 i pc al st h = some r) (w : a_wf al st h) : a_wf r.2.1 r.2.2.1 r.2.2.2.1 := by
  unfold a_st1 at hr
  split at hr
  · rename_i v hv
    cases hr
    exact w.push (a_const_wf hv)
  split at hr
  · split at hr
    · rename_i v hg
      split at hr
      · cases hr; exact w.push (w.1 _ _ hg)
      · cases hr
    · cases hr
  split at hr
  · split at hr
    · split at hr
      · rw [Option.map_eq_some_iff] at hr
        obtain ⟨al', h1, rfl⟩ := hr
        exact w.tl.loc (a_sto_wf h1 w.1 w.hd)
      · cases hr
    · cases hr
  split at hr
  · split at hr
    · rw [Option.map_eq_some_iff] at hr
      obtain ⟨al', h1, rfl⟩ := hr
      exact w.loc (a_sto_wf h1 w.1 (a_ok_int _))
    · cases hr
  · rw [Option.map_eq_some_iff] at hr; obtain ⟨t, h1, rfl⟩ := hr; exact w
  · rw [Option.map_eq_some_iff] at hr; obtain ⟨t, h1, rfl⟩ := hr; exact w.tl
  · rw [Option.map_eq_some_iff] at hr; obtain ⟨t, h1, rfl⟩ := hr; exact w.tl.tl
  · split at hr
    · rw [Option.map_eq_some_iff] at hr; obtain ⟨t, h1, rfl⟩ := hr; exact w.tl.tl
    · cases hr
  · split at hr
    · cases hr; exact w.push w.hd
    · cases hr
  · split at hr
    · cases hr; exact (w.push w.tl.hd).push w.hd
    · cases hr
  · split at hr
    · cases hr; exact w.tl
    · cases hr
  · cases hr
theorem a_st2_wf {i : Instr} {pc : Nat} {al : AL} {st : List Value} {h : AH} {r : AS} (hr : a_st2 i pc al st h = some r) (w : a_wf al st h) : a_wf r.2.1 r.2.2.1 r.2.2.2.1 := by
  unfold a_st2 at hr
  split at hr
  · cases hr; exact w.tl.push (a_ok_long _)
  · cases hr; exact w.tl.push (a_ok_int _)
  · cases hr; exact w.tl.push (a_ok_float _)
  · cases hr; exact w.tl.push (a_ok_double _)
  · split at hr <;> cases hr; exact w.tl.push (a_ok_double _)
  · cases hr; exact w.tl.tl.push (a_ok_long _)
  · cases hr; exact w.tl.tl.push (a_ok_long _)
  · cases hr; exact w.tl.tl.push (a_ok_int _)
  · split at hr <;> cases hr; exact w.tl.tl.push (a_ok_float _)
  · split at hr <;> cases hr; exact w.tl.tl.push (a_ok_double _)
  · cases hr; exact w.tl.tl.push (a_ok_int _)
  · cases hr; exact w.tl.tl.push (a_ok_int _)
  · rw [Option.map_eq_some_iff] at hr; obtain ⟨t, h1, rfl⟩ := hr; exact w.tl.tl.push (a_ok_int _)
  · cases hr
theorem a_st3_wf {i : Instr} {pc : Nat} {al : AL} {st : List Value} {h : AH} {r : AS} (hr : a_st3 i pc al st h = some r) (w : a_wf al st h) : a_wf r.2.1 r.2.2.1 r.2.2.2.1 := by
  unfold a_st3 at hr
  split at hr
  · split at hr
    · rename_i t vs ha
      split at hr
      · rw [Option.bind_eq_some_iff] at hr
        obtain ⟨n, h1, hr⟩ := hr
        rw [Option.map_eq_some_iff] at hr
        obtain ⟨v, h2, rfl⟩ := hr
        exact w.tl.tl.push (w.2.2 _ _ ha v (List.mem_of_getElem? h2))
      · cases hr
    · cases hr
  · cases hr
theorem a_ast_wf {i : Instr} {t n : Nat} {x v : Value} (h : a_ast i t x = some v) : a_ok n v := by
  unfold a_ast at h
  split at h
  all_goals first
    | (split at h <;> cases h <;> first | exact a_ok_int _ | exact a_ok_narrow | exact a_ok_long _ | exact a_ok_double _)
    | cases h
theorem a_st4_wf {own : Nat} {ini : Bool} {i : Instr} {pc : Nat} {al : AL} {st : List Value} {h : AH} {r : AS} (hr : a_st4 own ini i pc al st h = some r) (w : a_wf al st h) : a_wf r.2.1 r.2.2.1 r.2.2.2.1 := by
  unfold a_st4 at hr
  split at hr
  · split at hr
    · split at hr <;> cases hr; exact w.tl.push (a_ok_int _)
    · cases hr
  · rw [Option.map_eq_some_iff] at hr; obtain ⟨t, h1, rfl⟩ := hr; exact w.push (a_ok_int _)
  · rw [Option.map_eq_some_iff] at hr; obtain ⟨t, h1, rfl⟩ := hr; exact w.push (a_ok_int _)
  · rw [Option.map_eq_some_iff] at hr; obtain ⟨t, h1, rfl⟩ := hr; exact w.push (a_ok_long _)
  · split at hr
    · split at hr
      · rename_i t vs ha
        split at hr
        · rw [Option.map_eq_some_iff] at hr
          obtain ⟨v, h2, rfl⟩ := hr
          exact w.tl.push (w.2.2 _ _ ha v (List.mem_of_getElem? h2))
        · cases hr
      · cases hr
    · cases hr
  · split at hr
    · split at hr
      · rename_i t vs ha
        split at hr
        · cases hr
          exact (w.tl.tl.upd1 ha w.hd)
        · cases hr
      · cases hr
    · cases hr
  · split at hr
    · rename_i t vs ha
      split at hr
      · rename_i v hv
        rw [Option.map_eq_some_iff] at hr
        obtain ⟨n, h1, rfl⟩ := hr
        exact w.tl.tl.tl.upd1 ha (a_ast_wf hv)
      · cases hr
    · cases hr
  · cases hr
end
section
/-! What makes cells, and the calls that the kit has rows for -/
def a_cat (st : List Value) : Nat := (st.map fun v => v.category).sum
def a_obj (c : Nat) : AC := (c, (List.range (a_cl c)).map (fun k => defaultValue (a_fty c k)))
def a_row (ty : FieldType) (n : Nat) : AC := (a_atag ty, List.replicate n (defaultValue ty))
def a_cnt (n : Int32) : Option Nat := if n < 0 ∨ 60000 < n.toNatClampNeg then none else some n.toNatClampNeg
def a_tyok (ty : FieldType) : Bool := decide (a_aty (a_atag ty) = some ty) && decide (a_atag ty ≠ 19)
def a_st5 (own : Nat) (i : Instr) (pc : Nat) (al : AL) (st : List Value) (h : AH) : Option AS := match i, st with
  | .new idx, st => ((a_of a_new own).find? (fun e => e.1 == idx)).map (fun e => (pc + 3, al, .ref h.length :: st, h ++ [a_obj e.2.1], 1, a_cl e.2.1))
  | .newarray t, .int n :: st => if a_tyok (Op.newarray.typeOf t) = true then (a_cnt n).map (fun k => (pc + 2, al, .ref h.length :: st, h ++ [a_row (Op.newarray.typeOf t) k], 1, k)) else none
  | .anewarray idx, .int n :: st => match (a_of a_arr own).find? (fun e => e.1 == idx) with
    | some e => if a_tyok (.object e.2.1) = true then (a_cnt n).map (fun k => (pc + 3, al, .ref h.length :: st, h ++ [a_row (.object e.2.1) k], 1, k)) else none
    | none => none
  | .aastore, .ref v :: .int j :: .ref a :: st => match h[a]? with
    | some (t, vs) => match h[v]? with
      | some (u, _) => if u < 13 ∧ t ≠ 19 ∧ a_aty t = some (.object (a_cN u)) then (a_ix j vs.length).map (fun n => (pc + 1, al, st, h.set a (t, vs.set n (.ref v)), 0, 0)) else none
      | none => none
    | none => none
  | .invokespecial idx, .ref _ :: st => if ((a_of a_oin own).find? (fun e => e.1 == idx)).isSome = true ∧ a_cat st ≤ 8 then some (pc + 3, al, st, h, 0, 0) else none
  | .invokestatic idx, .int y :: .int x :: st => match (a_of a_mat own).find? (fun e => e.1 == idx) with
    | some e => if a_cat st ≤ 8 then some (pc + 3, al, .int (if e.2.1 = true then (if x < y then y else x) else (if y < x then y else x)) :: st, h, 0, 0) else none
    | none => none
  | _, _ => none
theorem a_new_ok : a_all a_new (fun own e => a_at e.2.2.1 (.classLink (a_cN own) e.1 (a_cN e.2.1)) && (a_at e.2.2.2.1 (.instantiable (a_cN e.2.1) (a_cl e.2.1)) && (a_at e.2.2.2.2 (.initialized (a_cN e.2.1)) && decide (e.2.1 < 13)))) = true := by decide +kernel
theorem a_arr_ok : a_all a_arr (fun own e => a_at e.2.2 (.classLink (a_cN own) e.1 e.2.1)) = true := by decide +kernel
theorem a_oin_ok : a_all a_oin (fun own e => a_at e.2 (.methodLink (a_cN own) e.1 objectInit)) = true := by decide +kernel
theorem a_mat_ok : a_all a_mat (fun own e => a_at e.2.2 (.methodLink (a_cN own) e.1 (if e.2.1 = true then Lib.Math.max.name else Lib.Math.min.name))) = true := by decide +kernel
def a_fixW : List Cond := [.instanceMethod objectInit, .code objectInit ⟨#[0xb1]⟩ 1 none, .static Lib.Math.min.name, .code Lib.Math.min.name Lib.Math.min.code 2 (some .int), .static Lib.Math.max.name, .code Lib.Math.max.name Lib.Math.max.code 2 (some .int), .initialized "java/lang/Math", .arrayClass .int, .arrayClass .boolean, .arrayClass .char, .arrayClass .long, .arrayClass .double]
theorem a_fix_ok : ∀ w ∈ a_fixW, w ∈ lw_tbl ∧ goodWord w = true := by decide +kernel
theorem a_fix {w : Cond} (h : w ∈ a_fixW) : w ∈ a_wG := a_wG_of (a_fix_ok w h).1 (a_fix_ok w h).2
end
section
/-! What holds of the tables, the texts and Throwable's statics all along a run -/
def a_exN (k : Nat) : String := a_exc.getD k ""
/-- the array classes by name, with their components -/
def a_KN (D : AD) (U : State) : Prop := ∀ (t : Nat) (ty : FieldType), 20 ≤ t → a_aty t = some ty → U.vm.findClass ("[" ++ ty.toString) = some (D.2.2 t) ∧ ∃ (kA : Class) (comp : ClassId), U.vm.classes[D.2.2 t]? = some kA ∧ kA.kind = .array comp ty ∧ (∀ C, ty = .object C → U.vm.findClass C = some comp) ∧ ∀ t', ty = .array t' → U.vm.findClass ("[" ++ t'.toString) = some comp
/-- words that aren't good, but stay -/
def a_ng (w : Cond) : Bool := match w with
  | .declares _ => true
  | .castable .. => true
  | .methodLinkNest .. => true
  | _ => false
theorem a_ng_warm {w : Cond} {s U : State} (hW : s.WarmedH U.vm) (hw : a_ng w = true) (h : va_Nw w s) : va_Nw w U := by
  cases w <;> first
    | exact va_Nw.warmD hW h
    | exact va_Nw.warmC hW h
    | exact va_Nw.warmM hW h
    | cases hw
def a_objs : List String := ["Juryreel$Film", "Juryreel$Show", "Juryreel$Juror", "Juryreel$Section"]
def a_KW (U : State) : Prop := (∀ w ∈ lw_tbl, a_ng w = true → va_Nw w U) ∧ ∀ C ∈ a_objs, va_AO C U
/-- exceptions of which one is no other -/
def a_ncs : List (String × String) := (a_exc.flatMap fun E => a_exc.map fun T => (E, T)).filter (fun q => !(q.1 == q.2))
def a_KX (U : State) : Prop := ∀ q ∈ a_ncs, va_Nc q.1 q.2 U
abbrev AT : Type := Nat × Nat × Nat × Nat × Nat × Bool × Nat × Nat × String × (Nat × Nat) × (Nat × Nat)
def a_KS (U : State) : Prop := ∀ r ∈ a_thr, ∃ sa, vk_R (a_cN r.2.2.1) r.2.2.2.2.1 r.2.2.2.2.2.2.2.2.1 sa U
def a_KZ (B : Nat) (U : State) : Prop := vx_Zq Bundle.tN "UNASSIGNED_STACK" Bundle.steD (fun q => B ≤ q) U U.heap ∧ vx_Zq Bundle.tN "SUPPRESSED_SENTINEL" Bundle.listD (fun q => B ≤ q) U U.heap
def a_K (D : AD) (B : Nat) (U : State) : Prop := a_KC D U ∧ a_KA D U ∧ a_KN D U ∧ a_KW U ∧ a_KX U ∧ a_KS U ∧ a_KZ B U
theorem a_K.go {D : AD} {B : Nat} {s U : State} (hW : s.WarmedH U.vm) (hq : ∀ q : Nat, q < s.heap.size → ¬ B ≤ q → U.heap[q]? = s.heap[q]?) (h : a_K D B s) : a_K D B U := by
  obtain ⟨h1, h2, h3, h4, h5, h6, h7⟩ := h
  have hvm := hW.alike
  refine ⟨fun c hc => u_Kn_moved hvm (h1 c hc), fun t ty ht => ?_, fun t ty h20 ht => ?_, ⟨fun w hw g => a_ng_warm hW g (h4.1 w hw g), fun C hC => va_AO.moved hvm (h4.2 C hC)⟩, fun q hq => va_Nc.moved hvm (h5 q hq), fun r hr => ?_, (vx_Zq.moved hvm h7.1).kept hq, (vx_Zq.moved hvm h7.2).kept hq⟩
  · obtain ⟨kA, comp, g1, g2⟩ := h2 t ty ht
    obtain ⟨k', hk', he⟩ := hvm.2.2 _ _ g1
    exact ⟨k', comp, hk', by rw [he]; exact g2⟩
  · obtain ⟨g0, kA, comp, g1, g2, g3, g4⟩ := h3 t ty h20 ht
    obtain ⟨k', hk', he⟩ := hvm.2.2 _ _ g1
    exact ⟨by rw [hvm.findClass]; exact g0, k', comp, hk', by rw [he]; exact g2, fun C hC => by rw [hvm.findClass]; exact g3 C hC, fun t' hC => by rw [hvm.findClass]; exact g4 t' hC⟩
  · obtain ⟨sa, hsa⟩ := h6 r hr
    exact ⟨sa, vk_R.warm hW hsa⟩
theorem a_K.calling {D : AD} {B : Nat} {U : State} {g : JFrame} {mk : MethodId} {a : Array Value} (h : a_K D B U) : a_K D B (U.calling g mk a) := a_K.go (s := U) (U := U.calling g mk a) (State.WarmedH.refl U) (fun _ _ _ => rfl) h
/-! Addresses of new cells -/
def a_up (ad : Nat → Nat) (n q : Nat) : Nat → Nat := fun k => if k = n then q else ad k
theorem a_up_lt {ad : Nat → Nat} {n q k : Nat} (h : k < n) : a_up ad n q k = ad k := if_neg (Nat.ne_of_lt h)
theorem a_up_n {ad : Nat → Nat} {n q : Nat} : a_up ad n q n = q := if_pos rfl
/-- two maps that say the same below n -/
def a_same (n : Nat) (ad ad' : Nat → Nat) : Prop := ∀ k, k < n → ad' k = ad k
theorem a_same.rf {n : Nat} {ad : Nat → Nat} : a_same n ad ad := fun _ _ => rfl
theorem a_same.tr {n m : Nat} {ad ad' ad'' : Nat → Nat} (h : a_same n ad ad') (h2 : a_same m ad' ad'') (hm : n ≤ m) : a_same n ad ad'' := fun k hk => (h2 k (Nat.lt_of_lt_of_le hk hm)).trans (h k hk)
theorem a_ren_same {n : Nat} {ad ad' : Nat → Nat} {v : Value} (h : a_same n ad ad') (hv : a_ok n v) : a_ren ad' v = a_ren ad v := by
  cases v <;> first | rfl | (show Value.ref _ = Value.ref _; rw [h _ (hv _ rfl)])
theorem a_map_same {n : Nat} {ad ad' : Nat → Nat} {st : List Value} (h : a_same n ad ad') (hv : ∀ v, v ∈ st → a_ok n v) : st.map (a_ren ad') = st.map (a_ren ad) := List.map_congr_left fun v hm => a_ren_same h (hv v hm)
theorem a_L.same {n : Nat} {ad ad' : Nat → Nat} {al : AL} {ls : Array Slot} (h : a_same n ad ad') (hv : ∀ (i : Nat) (v : Value), a_get al i = some v → a_ok n v) (hl : a_L ad al ls) : a_L ad' al ls := ⟨hl.1, hl.2.1, fun i v hi => by rw [a_ren_same h (hv i v hi)]; exact hl.2.2 i v hi⟩
theorem a_C.same {D : AD} {n : Nat} {ad ad' : Nat → Nat} {x : AC} {cell : Cell} (h : a_same n ad ad') (hv : ∀ v, v ∈ x.2 → a_ok n v) (hc : a_C D ad x cell) : a_C D ad' x cell := by
  unfold a_C at hc ⊢
  split
  · rename_i ht
    rw [if_pos ht] at hc
    exact ⟨hc.1, hc.2.1, hc.2.2.1, fun k v hk => by rw [a_ren_same h (hv v (List.mem_of_getElem? hk))]; exact hc.2.2.2 k v hk⟩
  · rename_i ht
    rw [if_neg ht] at hc
    exact ⟨hc.1, hc.2.1, hc.2.2.1, fun k v hk => by rw [a_ren_same h (hv v (List.mem_of_getElem? hk))]; exact hc.2.2.2 k v hk⟩
theorem a_H.lt {D : AD} {B : Nat} {ad : Nat → Nat} {h : AH} {H : Heap} (hH : a_H D B ad h H) {k : Nat} (hk : k < h.length) : ad k < H.size := by
  obtain ⟨cell, c1, -⟩ := hH.1 k _ (List.getElem?_eq_getElem hk)
  exact (Array.getElem?_eq_some_iff.mp c1).1
/-- the whole heap's references lie in it -/
def a_wh (h : AH) : Prop := ∀ (k : Nat) (x : AC), h[k]? = some x → ∀ v, v ∈ x.2 → a_ok h.length v
theorem a_H.push {D : AD} {B : Nat} {ad : Nat → Nat} {h : AH} {H H' : Heap} {x : AC} {cell : Cell} (hH : a_H D B ad h H) (w : a_wh h) (hB : B ≤ H.size) (hx : ∀ v, v ∈ x.2 → a_ok h.length v) (hc : a_C D ad x cell) (e1 : H'[H.size]? = some cell) (e3 : ∀ q, q < H.size → H'[q]? = H[q]?) : a_H D B (a_up ad h.length H.size) (h ++ [x]) H' := by
  have hs : a_same h.length ad (a_up ad h.length H.size) := fun k hk => a_up_lt hk
  have split : ∀ {k : Nat} {y : AC}, (h ++ [x])[k]? = some y → (k < h.length ∧ h[k]? = some y) ∨ (k = h.length ∧ y = x) := by
    intro k y hk
    rcases Nat.lt_or_ge k h.length with q | q
    · rw [List.getElem?_append_left q] at hk
      exact Or.inl ⟨q, hk⟩
    · rw [List.getElem?_append_right q] at hk
      have h1 := (List.getElem?_eq_some_iff.mp hk).1
      simp only [List.length_singleton] at h1
      have h2 : k = h.length := by omega
      subst h2
      rw [Nat.sub_self] at hk
      cases hk
      exact Or.inr ⟨rfl, rfl⟩
  refine ⟨fun k y hk => ?_, fun j k hj hk e => ?_, fun k y hk ht => ?_⟩
  · rcases split hk with ⟨q, hq⟩ | ⟨rfl, rfl⟩
    · obtain ⟨c1, g1, g2⟩ := hH.1 k y hq
      exact ⟨c1, by rw [a_up_lt q, e3 _ (hH.lt q)]; exact g1, g2.same hs (w k y hq)⟩
    · exact ⟨cell, by rw [a_up_n]; exact e1, hc.same hs hx⟩
  · rw [List.length_append, List.length_singleton] at hj hk
    rcases Nat.lt_or_ge j h.length with q1 | q1 <;> rcases Nat.lt_or_ge k h.length with q2 | q2
    · rw [a_up_lt q1, a_up_lt q2] at e
      exact hH.2.1 j k q1 q2 e
    · have h2 : k = h.length := by omega
      subst h2
      rw [a_up_lt q1, a_up_n] at e
      exact absurd e (Nat.ne_of_lt (hH.lt q1))
    · have h2 : j = h.length := by omega
      subst h2
      rw [a_up_lt q2, a_up_n] at e
      exact absurd e.symm (Nat.ne_of_lt (hH.lt q2))
    · omega
  · rcases split hk with ⟨q, hq⟩ | ⟨rfl, rfl⟩
    · rw [a_up_lt q]
      exact hH.2.2 k y hq ht
    · rw [a_up_n]
      exact hB
theorem a_wf.push1 {al : AL} {st : List Value} {h : AH} {x : AC} (w : a_wf al st h) (hx : ∀ v, v ∈ x.2 → a_ok h.length v) : a_wf al st (h ++ [x]) := by
  have hm : h.length ≤ (h ++ [x]).length := by rw [List.length_append]; omega
  refine ⟨fun i v hi => a_ok_mono hm (w.1 i v hi), fun v hv => a_ok_mono hm (w.2.1 v hv), fun k y hk v hv => a_ok_mono hm ?_⟩
  rcases Nat.lt_or_ge k h.length with q | q
  · rw [List.getElem?_append_left q] at hk
    exact w.2.2 k y hk v hv
  · rw [List.getElem?_append_right q] at hk
    have h1 := (List.getElem?_eq_some_iff.mp hk).1
    simp only [List.length_singleton] at h1
    rw [show k - h.length = 0 by omega] at hk
    cases hk
    exact hx v hv
theorem a_ok_def {n : Nat} {ty : FieldType} : a_ok n (defaultValue ty) := by
  intro k hk
  cases ty <;> cases hk
theorem a_cl_obj (c : Nat) : (a_obj c).2.length = a_cl c := by simp [a_obj]
theorem a_ren_def {ad : Nat → Nat} {ty : FieldType} : a_ren ad (defaultValue ty) = defaultValue ty := by cases ty <;> rfl
end
section
/-! What makes cells, and the calls that the kit has rows for: the machine does the same -/
theorem a_cat_ren {ad : Nat → Nat} (st : List Value) : ((st.map (a_ren ad)).map fun v => v.category).sum = a_cat st := by
  unfold a_cat
  rw [List.map_map]
  congr 1
  exact List.map_congr_left fun v _ => a_ren_cat ad v
theorem a_aty_obj {t : Nat} {C : String} (h : a_aty t = some (.object C)) : C ∈ a_objs := by
  unfold a_aty at h
  split at h
  · cases h
  · have h1 := List.mem_of_getElem? h
    simp only [a_atys, List.mem_cons, reduceCtorEq, FieldType.object.injEq, false_or, List.not_mem_nil, or_false] at h1
    simpa [a_objs] using h1
theorem a_row_C {D : AD} {ad : Nat → Nat} {ty : FieldType} {n : Nat} (ht : a_aty (a_atag ty) = some ty) : a_C D ad (a_row ty n) { cls := D.2.2 (a_atag ty), slots := Array.replicate n (defaultValue ty), vm := .none } := by
  unfold a_C
  rw [if_neg (show ¬ (a_row ty n).1 < 19 by have := a_aty_ge ht; show ¬ a_atag ty < 19; omega)]
  refine ⟨rfl, ⟨by simp, by simp⟩, by simp [a_row], fun k v hk => ?_⟩
  simp only [a_row, List.getElem?_replicate] at hk
  split at hk
  · rename_i hlt
    cases hk
    simp [Array.getElem?_replicate, hlt, a_ren_def]
  · cases hk
theorem a_row_ok {n : Nat} {ty : FieldType} {k : Nat} : ∀ v, v ∈ (a_row ty k).2 → a_ok n v := by
  intro v hv
  simp only [a_row, List.mem_replicate] at hv
  rw [hv.2]
  exact a_ok_def
theorem a_obj_ok {n : Nat} {c : Nat} : ∀ v, v ∈ (a_obj c).2 → a_ok n v := by
  intro v hv
  simp only [a_obj, List.mem_map] at hv
  obtain ⟨k, -, rfl⟩ := hv
  exact a_ok_def
theorem a_cnt_ok {n : Int32} {k : Nat} (h : a_cnt n = some k) : ¬ n < 0 ∧ n.toNatClampNeg = k ∧ k ≤ 60000 := by
  unfold a_cnt at h
  split at h
  · cases h
  · rename_i h1
    cases h
    exact ⟨fun q => h1 (Or.inl q), rfl, by omega⟩
theorem a_tyok_ok {ty : FieldType} (h : a_tyok ty = true) : a_aty (a_atag ty) = some ty ∧ a_atag ty ≠ 19 ∧ 20 ≤ a_atag ty := by
  unfold a_tyok at h
  simp only [Bool.and_eq_true, decide_eq_true_eq] at h
  exact ⟨h.1, h.2, by have := a_aty_ge h.1; omega⟩
theorem a_arrW {t : ArrayType} (h : a_tyok (Op.newarray.typeOf t) = true) : Cond.arrayClass (Op.newarray.typeOf t) ∈ a_wG ∧ componentBytes (Op.newarray.typeOf t) ≤ 8 := by
  cases t <;> first
    | (exfalso; revert h; decide)
    | exact ⟨a_fix (by decide +kernel), by decide⟩
theorem a_S.grow {B : Nat} {H0 H H1 : Heap} {locs : List Loc} (hS : va_S (fun q => B ≤ q) H0 H locs) (z : H.size ≤ H1.size) (o : ∀ q, q < H.size → H1[q]? = H[q]?) : va_S (fun q => B ≤ q) H0 H1 locs :=
  ⟨Nat.le_trans hS.1 z, fun q h1 h2 => (o q (Nat.lt_of_lt_of_le h1 hS.1)).trans (hS.2.1 q h1 h2), hS.2.2⟩
section AW6
variable {p : Program} {l : Launch} {e : Env} {R : Room} {s : State} {m : MethodId} {args : Array Value} {below : List Frame} {meth : Method} {c : Code} {H : Heap} {locs : List Loc} {cells slots : Nat} {Q : State → Prop} {cc : ByteArray} {pc : Nat} {ls : Array Slot} {rest : List Value} {i : Instr} {D : AD} {B : Nat} {ad : Nat → Nat} {h : AH} {H0 : Heap}
set_option maxHeartbeats 2000000 in
theorem a_st5_ok (hx : p.tables.exec = Jvm.exec) (hb : c.code = cc) (hdg : decode cc pc = .ok (i, a_len i)) {own : Nat} (hown : s.vm.findClass (a_cN own) = some m.cls) (hsz : ls.size = c.maxLocals) (hts : ∀ w ∈ a_wG, w.before args s = true) (hKC : a_KC D s) (hKA : a_KA D s) (hKN : a_KN D s) (hKW : a_KW s) (hB0 : B ≤ H0.size) (hH : a_H D B ad h H) (hS : va_S (fun q => B ≤ q) H0 H locs) {al : AL} {st : List Value} {r : AS} (hw : a_wf al st h) (hr : a_st5 own i pc al st h = some r)
    (hRf : 1 ≤ R.frames) (hRl : 100 ≤ R.locals) (hRc : cells + r.2.2.2.2.1 ≤ R.cells) (hRs : slots + r.2.2.2.2.2 ≤ R.slots)
    (kk : ∀ (ad' : Nat → Nat) (H' : Heap) (locs' : List Loc), a_same h.length ad ad' → a_H D B ad' r.2.2.2.1 H' → va_S (fun q => B ≤ q) H0 H' locs' → h.length ≤ r.2.2.2.1.length → r.2.1 = al → W p l e R s m args below meth c H' locs' (cells + r.2.2.2.2.1) (slots + r.2.2.2.2.2) Q (F0 m r.1 ls (r.2.2.1.map (a_ren ad')))) : W p l e R s m args below meth c H locs cells slots Q (F0 m pc ls (st.map (a_ren ad))) := by
  have hBH : B ≤ H.size := Nat.le_trans hB0 hS.1
  have hs1 : a_same h.length ad (a_up ad h.length H.size) := fun k hk => a_up_lt hk
  have pushed : ∀ {x : AC} {cell : Cell} {H1 : Heap}, (∀ v, v ∈ x.2 → a_ok h.length v) → a_C D ad x cell → H1[H.size]? = some cell → H1.size = H.size + 1 → (∀ q, q < H.size → H1[q]? = H[q]?) → a_H D B (a_up ad h.length H.size) (h ++ [x]) H1 ∧ va_S (fun q => B ≤ q) H0 H1 locs := by
    intro x cell H1 hx hc e1 z1 o1
    exact ⟨hH.push hw.2.2 hBH hx hc e1 o1, a_S.grow hS (by omega) o1⟩
  have stk : ∀ {st' : List Value}, (∀ v, v ∈ st' → a_ok h.length v) → (Value.ref h.length :: st').map (a_ren (a_up ad h.length H.size)) = .ref H.size :: st'.map (a_ren ad) := by
    intro st' hv
    rw [List.map_cons, a_map_same hs1 hv]
    show Value.ref _ :: _ = _
    rw [a_up_n]
  have len1 : ∀ {x : AC}, h.length ≤ (h ++ [x]).length := by intro x; rw [List.length_append]; omega
  unfold a_st5 at hr
  split at hr
  · -- new
    rename_i idx st'
    rw [Option.map_eq_some_iff] at hr
    obtain ⟨q, h1, rfl⟩ := hr
    have h3 := a_all_of a_new_ok (List.mem_of_find?_eq_some h1)
    have h4 := List.find?_some h1
    simp only [Bool.and_eq_true, decide_eq_true_eq] at h3
    simp only [beq_iff_eq] at h4
    obtain ⟨w1, w2, w3, hc⟩ := h3
    rw [h4] at w1
    refine W.newcK hx hb hown (hts _ (a_at_in w1)) (hts _ (a_at_in w2)) (hts _ (a_at_in w3)) rfl hdg hRc hRs (hKC _ hc).2.1 rfl (fun H1 kC hkC e1 z1 o1 => ?_)
    obtain ⟨cell, g1, g2, g3, g4⟩ := u_born (a_fty q.2.1) hts (a_hin hc) (hKC _ hc) hkC e1 (a_types _ hc)
    have hc2 : a_C D ad (a_obj q.2.1) cell := by
      unfold a_C
      rw [if_pos (show (a_obj q.2.1).1 < 19 by show q.2.1 < 19; omega)]
      refine ⟨g2, g3, a_cl_obj _, fun k v hk => ?_⟩
      have hk2 : k < a_cl q.2.1 := by rw [← a_cl_obj]; exact (List.getElem?_eq_some_iff.mp hk).1
      have hv : v = defaultValue (a_fty q.2.1 k) := by
        simp only [a_obj, List.getElem?_map, List.getElem?_range hk2, Option.map_some, Option.some.injEq] at hk
        exact hk.symm
      rw [hv, a_ren_def]
      exact g4 k hk2
    obtain ⟨p1, p2⟩ := pushed a_obj_ok hc2 g1 z1 o1
    have k1 := kk _ H1 locs hs1 p1 p2 len1 rfl
    rw [stk hw.2.1] at k1
    exact k1
  · -- newarray
    rename_i t n st'
    split at hr
    · rename_i ht
      rw [Option.map_eq_some_iff] at hr
      obtain ⟨k, h1, rfl⟩ := hr
      obtain ⟨n0, hk, hk6⟩ := a_cnt_ok h1
      obtain ⟨t1, t2, t3⟩ := a_tyok_ok ht
      obtain ⟨w1, w2⟩ := a_arrW ht
      have hmul : k * componentBytes (Op.newarray.typeOf t) ≤ k * 8 := Nat.mul_le_mul_left k w2
      subst hk
      refine W.newa hx hb (hts _ w1) rfl hdg rfl n0 (by omega) hRc hRs (fun cA kA comp f1 f2 f3 => ?_)
      have hcA : cA = D.2.2 (a_atag (Op.newarray.typeOf t)) := Option.some.inj (f1.symm.trans (hKN _ _ t3 t1).1)
      subst hcA
      obtain ⟨p1, p2⟩ := pushed (H1 := H.push { cls := D.2.2 (a_atag (Op.newarray.typeOf t)), slots := Array.replicate n.toNatClampNeg (defaultValue (Op.newarray.typeOf t)), vm := .none }) a_row_ok (a_row_C (n := n.toNatClampNeg) t1) Array.getElem?_push_size (Array.size_push ..) (fun q hq => by rw [Array.getElem?_push, if_neg (Nat.ne_of_lt hq)])
      have k1 := kk _ _ locs hs1 p1 p2 len1 rfl
      rw [stk hw.tl.2.1] at k1
      exact k1
    · cases hr
  · -- anewarray
    rename_i idx n st'
    split at hr
    · rename_i q h1
      split at hr
      · rename_i ht
        rw [Option.map_eq_some_iff] at hr
        obtain ⟨k, h2, rfl⟩ := hr
        obtain ⟨n0, hk, hk6⟩ := a_cnt_ok h2
        obtain ⟨t1, t2, t3⟩ := a_tyok_ok ht
        have w1 := a_all_of a_arr_ok (List.mem_of_find?_eq_some h1)
        have h4 := List.find?_some h1
        simp only [beq_iff_eq] at h4
        rw [h4] at w1
        subst hk
        refine W.anew hx hb hown (hts _ (a_at_in w1)) (va_AO.use (hKW.2 _ (a_aty_obj t1))) rfl hdg rfl n0 (by omega) hRc hRs (fun cA kA comp f1 f2 f3 f4 => ?_)
        have hcA : cA = D.2.2 (a_atag (.object q.2.1)) := Option.some.inj (f1.symm.trans (hKN _ _ t3 t1).1)
        subst hcA
        obtain ⟨p1, p2⟩ := pushed (H1 := H.push { cls := D.2.2 (a_atag (.object q.2.1)), slots := Array.replicate n.toNatClampNeg .null, vm := .none }) a_row_ok (a_row_C (ty := .object q.2.1) (n := n.toNatClampNeg) t1) Array.getElem?_push_size (Array.size_push ..) (fun q hq => by rw [Array.getElem?_push, if_neg (Nat.ne_of_lt hq)])
        have k1 := kk _ _ locs hs1 p1 p2 len1 rfl
        rw [stk hw.tl.2.1] at k1
        exact k1
      · cases hr
    · cases hr
  · -- aastore
    rename_i v j a st'
    split at hr
    · rename_i t vs ha
      split at hr
      · rename_i u us hv
        split at hr
        · rename_i hc
          obtain ⟨hu, h19, hty⟩ := hc
          rw [Option.map_eq_some_iff] at hr
          obtain ⟨n, h1, rfl⟩ := hr
          obtain ⟨g1, g2, g3⟩ := a_ix_ok h1
          obtain ⟨cell, c1, c2⟩ := hH.1 a _ ha
          obtain ⟨cv, v1, v2⟩ := hH.1 v _ hv
          have hge := a_aty_ge hty
          obtain ⟨d1, d2, d3, d4⟩ := c2.arr hge
          obtain ⟨b1, b2, -, -⟩ := v2.obj (show u < 19 by omega)
          obtain ⟨-, kA, comp, k1, k2, k3, -⟩ := hKN t _ (show 20 ≤ t by omega) hty
          have hcls := (hKC u hu).2
          have hcomp : comp = D.1 u := Option.some.inj ((k3 _ rfl).symm.trans hcls.1)
          subst hcomp
          obtain ⟨kC, hkC, -⟩ := hcls.2
          refine W.aast hx hb c1 d2.2 d2.1 (by rw [d1]; exact k1) k2 rfl hkC ⟨fun q => g1 (Or.inl q), by rw [d3, g2]; exact g3⟩ v1 (fun q hq => by rw [b2] at hq; cases hq) (by rw [b1]; exact hkC) (by rw [b1]; exact va_assign hcls) rfl rfl hdg (fun H' e1 e2 e3 => ?_)
          rw [g2] at e1
          exact kk ad H' _ a_same.rf (hH.set ha e1 (c2.setArr hge g3 (.ref v)) e3) (hS.put e2 e3 (hH.2.2 a _ ha h19)) (Nat.le_of_eq (a_set_len ..).symm) rfl
        · cases hr
      · cases hr
    · cases hr
  · -- Object.<init>
    rename_i idx a st'
    split at hr
    · rename_i hc
      cases hr
      obtain ⟨hs, h8⟩ := hc
      obtain ⟨q, h1⟩ := Option.isSome_iff_exists.mp hs
      have w1 := a_all_of a_oin_ok (List.mem_of_find?_eq_some h1)
      have h4 := List.find?_some h1
      simp only [beq_iff_eq] at h4
      rw [h4] at w1
      have hcat := a_cat_ren (ad := ad) st'
      refine W.objInit hx hb hown (hts _ (a_at_in w1)) (hts _ (a_fix (by simp [a_fixW]))) (hts _ (a_fix (by simp [a_fixW]))) rfl hsz rfl hdg hRf (by show 2 * 0 + _ + 12 ≤ _; rw [hcat]; omega) ?_
      exact kk ad H locs a_same.rf hH hS (Nat.le_refl _) rfl
    · cases hr
  · -- Math.min, Math.max
    rename_i idx y x st'
    split at hr
    · rename_i q h1
      split at hr
      · rename_i h8
        cases hr
        have w1 := a_all_of a_mat_ok (List.mem_of_find?_eq_some h1)
        have h4 := List.find?_some h1
        simp only [beq_iff_eq] at h4
        rw [h4] at w1
        have w2 := hts _ (a_at_in w1)
        have hcat := a_cat_ren (ad := ad) st'
        have k1 := kk ad H locs a_same.rf hH hS (Nat.le_refl _) rfl
        by_cases hq : q.2.1 = true
        · rw [if_pos hq] at w2
          dsimp only at k1
          rw [if_pos hq] at k1
          exact va_mmax hx hb hsz.symm hown w2 (hts _ (a_fix (by simp [a_fixW]))) (hts _ (a_fix (by simp [a_fixW]))) (hts _ (a_fix (by simp [a_fixW]))) hRf (by rw [hcat]; omega) hRc hRs hdg k1
        · rw [if_neg hq] at w2
          dsimp only at k1
          rw [if_neg hq] at k1
          exact va_mmin hx hb hsz.symm hown w2 (hts _ (a_fix (by simp [a_fixW]))) (hts _ (a_fix (by simp [a_fixW]))) (hts _ (a_fix (by simp [a_fixW]))) hRf (by rw [hcat]; omega) hRc hRs hdg k1
      · cases hr
    · cases hr
  · cases hr
end AW6
end
section
/-! Arrays of arrays: 'multianewarray' of two and of three dimensions (after the library's MA1, MA2, which tell of two, without their heap) -/
/-- the cells of an array of component types tys and lengths ns -/
def a_setR (h : AH) (a i b : Nat) : AH := match h[a]? with
  | some (t, vs) => h.set a (t, vs.set i (.ref b))
  | none => h
def a_mkL (f : AH → AH) (a : Nat) : Nat → Nat → AH → AH
  | 0, _, h => h
  | k + 1, i, h => a_mkL f a k (i + 1) (a_setR (f h) a i h.length)
def a_mk : List FieldType → List Nat → AH → AH
  | ty :: tys, n :: n' :: ns, h => a_mkL (a_mk tys (n' :: ns)) h.length n 0 (h ++ [a_row ty n])
  | ty :: _, [n], h => h ++ [a_row ty n]
  | _, _, h => h
def a_mkC : List Nat → Nat
  | n :: n' :: ns => 1 + n * a_mkC (n' :: ns)
  | _ => 1
def a_mkS : List Nat → Nat
  | n :: n' :: ns => n + n * a_mkS (n' :: ns)
  | [n] => n
  | [] => 0
/-- component types of an array's dimensions, one within the other -/
def a_tys : List FieldType → List Nat → Bool
  | ty :: ty' :: tys, n :: n' :: ns => a_tyok ty && (decide (n ≤ 60000) && (decide (ty = .array ty') && a_tys (ty' :: tys) (n' :: ns)))
  | ty :: _, [n] => a_tyok ty && decide (n ≤ 60000)
  | _, _ => false
theorem a_row_tag {ty : FieldType} {n : Nat} : (a_row ty n).1 = a_atag ty := rfl
theorem a_bytes {ty : FieldType} : componentBytes ty ≤ 8 := by cases ty <;> first | decide | (show (4 : Nat) ≤ 8; decide)
theorem a_fitd {ty : FieldType} : fits ty (defaultValue ty) = true ∧ (defaultValue ty).isDefault = true := by cases ty <;> exact ⟨rfl, rfl⟩
section AM0
variable {E : CtlPost} {e : Env} {d : Bool} {acts : List Action} {s : State}
theorem a_wpNew {c comp : ClassId} {k : Class} {type : FieldType} {len : Nat} {init : Value} (hk : s.vm.classes[c]? = some k) (hkind : k.kind = .array comp type)
    (hlimit : ¬ len > e.platform.arrayLengthLimit) (hheap : ¬ len * componentBytes type > e.platform.maxHeapBytes) (hfit : fits type init = true) (hdef : init.isDefault = true) {Q : Addr → Pre}
    (h1 : s.heap.size < e.platform.maxCells) (h2 : s.slotsUsed + len ≤ e.platform.maxSlots)
    (hq : Q s.heap.size d acts (s.pushCell { cls := c, slots := Array.replicate len init, vm := .none })) :
    wp (Jvm.newArray c len init) Q E e d acts s := by
  have hfits : ∀ i v, (Array.replicate len init)[i]? = some v → s.fitsSlot c .none i v = true := by
    intro i v hv
    simp only [Array.getElem?_replicate] at hv
    split at hv
    · cases hv; simp [State.fitsSlot, State.slotType?, hk, hkind, hfit]
    · cases hv
  have hda : allocActs (Array.replicate len init) s.heap.size acts = acts := by
    have hall : ((Array.replicate len init).all (·.isDefault)) = true := by
      rw [Array.all_replicate]; split <;> simp [hdef]
    unfold allocActs; rw [if_pos hall]
  simp only [Jvm.newArray, Jvm.arrayFits, wp_bind', W.ask, W.ite, hlimit, if_false, wp_pure', W.theClass, hk, hkind, hheap, W.alloc, W.stop, Option.some.injEq, exists_eq_left', Array.size_replicate, hda]
  rw [if_neg (by omega)]
  exact ⟨h1, h2, hfits, hq⟩
end AM0
section AM
variable {p : Program} {l : Launch} {e : Env} {R : Room} {s : State} {m : MethodId} {args : Array Value} {below : List Frame} {meth : Method} {c : Code} {H : Heap} {locs : List Loc} {cells slots : Nat} {D : AD} {B : Nat} {ad : Nat → Nat} {h : AH} {H0 : Heap} {g : JFrame} {E : CtlPost} {d : Bool} {acts : List Action}
def a_G (p : Program) (l : Launch) (e : Env) (R : Room) (s : State) (m : MethodId) (args : Array Value) (below : List Frame) (meth : Method) (c : Code) (D : AD) (B : Nat) (H0 : Heap) (g : JFrame) (ad : Nat → Nat) (h : AH) (locs : List Loc) (cells slots : Nat) (S : State) : Prop :=
  ∃ T : State, S = T.setTop g ∧ Stand p l e R s m args below meth c T locs cells slots ∧ a_H D B ad h T.heap ∧ a_wh h ∧ va_S (fun q => B ≤ q) H0 T.heap locs
theorem a_wh.push1 {x : AC} (w : a_wh h) (hx : ∀ v, v ∈ x.2 → a_ok h.length v) : a_wh (h ++ [x]) := (a_wf.push1 (al := []) (st := []) ⟨fun i v hi => by simp [a_get] at hi, fun v hv => absurd hv List.not_mem_nil, w⟩ hx).2.2
theorem a_new1 {ty : FieldType} {len : Nat} {S : State} (hKN : a_KN D s) (ht : a_tyok ty = true) (hlen : len ≤ 60000) (hB0 : B ≤ H0.size) (hG : a_G p l e R s m args below meth c D B H0 g ad h locs cells slots S) (hc : cells + 1 ≤ R.cells) (hs : slots + len ≤ R.slots) {Q : Addr → Pre}
    (hq : ∀ (S' : State) (q0 : Nat), a_G p l e R s m args below meth c D B H0 g (a_up ad h.length q0) (h ++ [a_row ty len]) locs (cells + 1) (slots + len) S' → Q q0 d acts S') : wp (Jvm.newArray (D.2.2 (a_atag ty)) len (defaultValue ty)) Q E e d acts S := by
  obtain ⟨T, rfl, X, hH, hw, hS⟩ := hG
  obtain ⟨t1, t2, t3⟩ := a_tyok_ok ht
  obtain ⟨-, kA, comp, k1, k2, -⟩ := hKN _ _ t3 t1
  obtain ⟨k', hk', he⟩ := X.warmed.alike.2.2 _ _ k1
  obtain ⟨hr1, hr2⟩ := X.roomAbove hc hs
  have hmul : len * componentBytes ty ≤ len * 8 := Nat.mul_le_mul_left len a_bytes
  have hlimit : ¬ len > e.platform.arrayLengthLimit := by rw [Launch.admits_arrayLengthLimit X.admits]; omega
  have hheap : ¬ len * componentBytes ty > e.platform.maxHeapBytes := by rw [Launch.admits_maxHeapBytes X.admits]; omega
  refine a_wpNew (comp := comp) (type := ty) (s := T.setTop g) hk' (by rw [he]; exact k2) hlimit hheap a_fitd.1 a_fitd.2 (by show T.heap.size < _; omega) hr2 ?_
  refine hq _ T.heap.size ⟨T.pushCell { cls := D.2.2 (a_atag ty), slots := Array.replicate len (defaultValue ty), vm := .none }, rfl, ?_, ?_, ?_, ?_⟩
  · have X2 := X.pushed { cls := D.2.2 (a_atag ty), slots := Array.replicate len (defaultValue ty), vm := .none }
    simpa using X2
  · exact hH.push hw (Nat.le_trans hB0 hS.1) a_row_ok (a_row_C t1) (State.heap_pushCell_size _ _) (fun q hq => State.heap_pushCell_of_lt _ _ hq)
  · exact hw.push1 a_row_ok
  · exact a_S.grow hS (by rw [size_pushCell]; omega) (fun q hq => State.heap_pushCell_of_lt _ _ hq)
theorem a_Gcls {ty : FieldType} {S : State} (hKN : a_KN D s) (ht : a_tyok ty = true) (hG : a_G p l e R s m args below meth c D B H0 g ad h locs cells slots S) : ∃ (k : Class) (comp : ClassId), S.vm.classes[D.2.2 (a_atag ty)]? = some k ∧ k.kind = .array comp ty ∧ ∀ ty', ty = .array ty' → a_tyok ty' = true → comp = D.2.2 (a_atag ty') := by
  obtain ⟨T, rfl, X, -⟩ := hG
  obtain ⟨t1, t2, t3⟩ := a_tyok_ok ht
  obtain ⟨-, kA, comp, k1, k2, -, k4⟩ := hKN _ _ t3 t1
  obtain ⟨k', hk', he⟩ := X.warmed.alike.2.2 _ _ k1
  refine ⟨k', comp, hk', by rw [he]; exact k2, fun ty' e1 e2 => ?_⟩
  obtain ⟨u1, u2, u3⟩ := a_tyok_ok e2
  exact Option.some.inj ((k4 ty' e1).symm.trans (hKN _ _ u3 u1).1)
theorem a_setR_len (h : AH) (a i b : Nat) : (a_setR h a i b).length = h.length := by
  unfold a_setR
  split
  · rw [List.length_set]
  · rfl
theorem a_setR_ne (h : AH) {a i b j : Nat} (hj : j ≠ a) : (a_setR h a i b)[j]? = h[j]? := by
  unfold a_setR
  split
  · rw [List.getElem?_set_ne (Ne.symm hj)]
  · rfl
theorem a_setR_ok {ty : FieldType} {S : State} {a i b : Nat} {vs : List Value} (hKN : a_KN D s) (ht : a_tyok ty = true) (href : ty.isReference = true) (hG : a_G p l e R s m args below meth c D B H0 g ad h locs cells slots S) (ha : h[a]? = some (a_atag ty, vs)) (hi : i < vs.length) (hb : b < h.length) {Q : Unit → Pre}
    (hq : ∀ (S' : State) (locs' : List Loc) (d' : Bool) (acts' : List Action), a_G p l e R s m args below meth c D B H0 g ad (a_setR h a i b) locs' cells slots S' → Q () d' acts' S') : wp (Jvm.writeLoc (ad a) i (.ref (ad b))) Q E e d acts S := by
  obtain ⟨kS, comp, hk, hkind, -⟩ := a_Gcls hKN ht hG
  obtain ⟨T, rfl, X, hH, hw, hS⟩ := hG
  obtain ⟨t1, t2, t3⟩ := a_tyok_ok ht
  obtain ⟨cell, c1, c2⟩ := hH.1 a _ ha
  obtain ⟨d1, d2, d3, d4⟩ := c2.arr (show 19 ≤ a_atag ty by omega)
  have hal := (List.getElem?_eq_some_iff.mp ha).1
  simp only [W.writeLoc]
  refine ⟨cell, c1, d2.1, by rw [d3]; exact hi, ?_, ?_⟩
  · have hfit : fits ty (.ref (ad b)) = true := by cases ty <;> simp [FieldType.isReference] at href <;> rfl
    rw [d1]
    have hk' : T.vm.classes[D.2.2 (a_atag ty)]? = some kS := hk
    cases hvm : cell.vm <;> first | exact absurd hvm (d2.2 _) | simp [State.fitsSlot, State.slotType?, hk', hkind, hfit]
  · refine hq _ (locs ++ [⟨ad a, i⟩]) _ _ ⟨T.setCell (ad a) (cell.setSlot i (.ref (ad b))), rfl, X.stored c1 i (.ref (ad b)), ?_, ?_, ?_⟩
    · unfold a_setR
      rw [ha]
      refine hH.set ha (State.heap_setCell_self c1) (c2.setArr (show 19 ≤ a_atag ty by omega) hi (.ref b)) (fun q hq => State.heap_setCell_other (Ne.symm hq))
    · unfold a_setR
      rw [ha]
      exact (a_wf.upd1 (al := []) (st := []) ⟨fun i v hi => by simp [a_get] at hi, fun v hv => absurd hv List.not_mem_nil, hw⟩ ha (fun k hk => by cases hk; exact hb)).2.2
    · exact hS.put (size_setCell _ _ _) (fun q hq => State.heap_setCell_other (Ne.symm hq)) (hH.2.2 a _ ha t2)
end AM
/-- what is made lies behind what was there -/
def a_keepF (f : AH → AH) : Prop := ∀ h : AH, h.length < (f h).length ∧ ∀ j, j < h.length → (f h)[j]? = h[j]?
theorem a_mkL_keep {f : AH → AH} (hf : a_keepF f) (a : Nat) : ∀ (k i : Nat) (h : AH), h.length ≤ (a_mkL f a k i h).length ∧ ∀ j, j < h.length → j ≠ a → (a_mkL f a k i h)[j]? = h[j]?
  | 0, i, h => ⟨Nat.le_refl _, fun _ _ _ => rfl⟩
  | k + 1, i, h => by
    obtain ⟨g1, g2⟩ := hf h
    obtain ⟨r1, r2⟩ := a_mkL_keep hf a k (i + 1) (a_setR (f h) a i h.length)
    rw [a_setR_len] at r1 r2
    refine ⟨Nat.le_trans (Nat.le_of_lt g1) r1, fun j hj hne => ?_⟩
    show (a_mkL f a k (i + 1) (a_setR (f h) a i h.length))[j]? = _
    rw [r2 j (Nat.lt_trans hj g1) hne, a_setR_ne _ hne, g2 j hj]
theorem a_mk_keep : ∀ (ns : List Nat) (tys : List FieldType), a_tys tys ns = true → a_keepF (a_mk tys ns)
  | [], tys, ht => by rcases tys with _ | ⟨_, _ | ⟨_, _⟩⟩ <;> cases ht
  | [n], [], ht => by cases ht
  | [n], ty :: tys, ht => fun h => by
    have e : a_mk (ty :: tys) [n] h = h ++ [a_row ty n] := by cases tys <;> rfl
    rw [e]
    exact ⟨by simp, fun j hj => List.getElem?_append_left hj⟩
  | n :: n' :: ns, [], ht => by cases ht
  | n :: n' :: ns, [ty], ht => by cases ht
  | n :: n' :: ns, ty :: ty' :: tys, ht => by
    have ht' : a_tys (ty' :: tys) (n' :: ns) = true := by
      simp only [a_tys, Bool.and_eq_true] at ht
      exact ht.2.2.2
    have ih := a_mk_keep (n' :: ns) (ty' :: tys) ht'
    intro h
    have e : a_mk (ty :: ty' :: tys) (n :: n' :: ns) h = a_mkL (a_mk (ty' :: tys) (n' :: ns)) h.length n 0 (h ++ [a_row ty n]) := rfl
    rw [e]
    obtain ⟨r1, r2⟩ := a_mkL_keep ih h.length n 0 (h ++ [a_row ty n])
    rw [List.length_append, List.length_singleton] at r1 r2
    exact ⟨by omega, fun j hj => by rw [r2 j (by omega) (Nat.ne_of_lt hj), List.getElem?_append_left hj]⟩
section AM2
variable {p : Program} {l : Launch} {e : Env} {R : Room} {s : State} {m : MethodId} {args : Array Value} {below : List Frame} {meth : Method} {c : Code} {D : AD} {B : Nat} {H0 : Heap} {g : JFrame} {E : CtlPost}
set_option maxHeartbeats 2000000 in
theorem a_make_ok (hKN : a_KN D s) (hB0 : B ≤ H0.size) : ∀ (ns : List Nat) (tys : List FieldType) (cs : List Int32) (ad : Nat → Nat) (h : AH) (locs : List Loc) (cells slots : Nat) (S : State) (d : Bool) (acts : List Action) (Q : Addr → Pre) (ty : FieldType),
    a_tys tys ns = true → tys.head? = some ty → cs.map (fun n => n.toNatClampNeg) = ns → (∀ n ∈ cs, ¬ n < 0) → a_G p l e R s m args below meth c D B H0 g ad h locs cells slots S → cells + a_mkC ns ≤ R.cells → slots + a_mkS ns ≤ R.slots →
    (∀ (S' : State) (ad' : Nat → Nat) (locs' : List Loc) (d' : Bool) (acts' : List Action), a_same h.length ad ad' → a_G p l e R s m args below meth c D B H0 g ad' (a_mk tys ns h) locs' (cells + a_mkC ns) (slots + a_mkS ns) S' → Q (ad' h.length) d' acts' S') →
    wp (Op.multianewarray.make (D.2.2 (a_atag ty)) cs) Q E e d acts S
  | [], tys, cs, ad, h, locs, cells, slots, S, d, acts, Q, ty0, ht, _, _, _, _, _, _, _ => by rcases tys with _ | ⟨_, _ | ⟨_, _⟩⟩ <;> cases ht
  | [n], [], cs, ad, h, locs, cells, slots, S, d, acts, Q, ty0, ht, _, _, _, _, _, _, _ => by cases ht
  | n :: n' :: ns, [], cs, ad, h, locs, cells, slots, S, d, acts, Q, ty0, ht, _, _, _, _, _, _, _ => by cases ht
  | n :: n' :: ns, [_], cs, ad, h, locs, cells, slots, S, d, acts, Q, ty0, ht, _, _, _, _, _, _, _ => by cases ht
  | [n], ty :: tys, cs, ad, h, locs, cells, slots, S, d, acts, Q, ty0, ht, hhd, hcs, h0, hG, hc, hs, hq => by
    cases hhd
    have ht1 : a_tyok ty = true ∧ n ≤ 60000 := by
      cases tys <;> simpa [a_tys] using ht
    obtain ⟨c0, rfl⟩ : ∃ c0, cs = [c0] := by
      rcases cs with _ | ⟨c0, _ | ⟨c1, cs⟩⟩ <;> simp at hcs
      exact ⟨c0, rfl⟩
    simp only [List.map_cons, List.map_nil, List.cons.injEq, and_true] at hcs
    subst hcs
    have hn := h0 c0 List.mem_cons_self
    obtain ⟨k, comp, hk, hkind, -⟩ := a_Gcls hKN ht1.1 hG
    rw [Op.multianewarray.make]
    simp only [wp_bind', W.ite, hn, if_false, wp_pure', W.theClass, hk, hkind, Option.some.injEq, exists_eq_left']
    refine a_new1 hKN ht1.1 ht1.2 hB0 hG hc hs (fun S' q0 hG' => ?_)
    have e : a_mk (ty :: tys) [c0.toNatClampNeg] h = h ++ [a_row ty c0.toNatClampNeg] := by cases tys <;> rfl
    have k1 := hq S' (a_up ad h.length q0) locs d acts (fun k hk => a_up_lt hk) (by rw [e]; exact hG')
    rw [a_up_n] at k1
    exact k1
  | n :: n' :: ns, ty :: ty' :: tys, cs, ad, h, locs, cells, slots, S, d, acts, Q, ty0, ht, hhd, hcs, h0, hG, hc, hs, hq => by
    cases hhd
    simp only [a_tys, Bool.and_eq_true, decide_eq_true_eq] at ht
    obtain ⟨ht1, hn6, hty, ht2⟩ := ht
    obtain ⟨c0, cs, rfl⟩ : ∃ c0 cs', cs = c0 :: cs' := by
      cases cs with
      | nil => simp at hcs
      | cons c0 cs' => exact ⟨c0, cs', rfl⟩
    simp only [List.map_cons, List.cons.injEq] at hcs
    obtain ⟨hc0, hcs⟩ := hcs
    subst hc0
    obtain ⟨c1, cs, rfl⟩ : ∃ c1 cs', cs = c1 :: cs' := by
      cases cs with
      | nil => simp at hcs
      | cons c0 cs' => exact ⟨c0, cs', rfl⟩
    have hn := h0 c0 List.mem_cons_self
    have ht' : a_tyok ty' = true := by
      cases tys <;> cases ns <;> simp [a_tys] at ht2 <;> first | exact ht2.1 | exact ht2.1
    obtain ⟨k, comp, hk, hkind, hcomp⟩ := a_Gcls hKN ht1 hG
    have hcomp' := hcomp ty' hty ht'
    subst hcomp'
    have href : ty.isReference = true := by rw [hty]; rfl
    have hdef : defaultValue ty = .null := by rw [hty]; rfl
    have hfind : ((c1 :: cs).find? (· < 0)) = none := by
      rw [List.find?_eq_none]
      intro x hx
      simpa using h0 x (List.mem_cons_of_mem _ hx)
    have hC : a_mkC (c0.toNatClampNeg :: n' :: ns) = 1 + c0.toNatClampNeg * a_mkC (n' :: ns) := rfl
    have hSs : a_mkS (c0.toNatClampNeg :: n' :: ns) = c0.toNatClampNeg + c0.toNatClampNeg * a_mkS (n' :: ns) := rfl
    rw [hC] at hc
    rw [hSs] at hs
    rw [Op.multianewarray.make]
    simp only [wp_bind', W.ite, hn, if_false, wp_pure', W.theClass, hk, hkind, Option.some.injEq, exists_eq_left']
    rw [← hdef]
    refine a_new1 hKN ht1 hn6 hB0 hG (by omega) (by omega) (fun S1 q0 hG1 => ?_)
    simp only [hfind]
    rw [ite_self, wp_bind', Std.Legacy.Range.forIn_eq_forIn_range']
    have hsz : ([:c0.toNatClampNeg] : Std.Legacy.Range).size = c0.toNatClampNeg := by simp [Std.Legacy.Range.size]
    rw [hsz]
    show wp (forIn (List.range' 0 c0.toNatClampNeg 1) PUnit.unit _) _ E e d acts _
    have keep := a_mk_keep (n' :: ns) (ty' :: tys) ht2
    refine wp_forIn_inv (fun rest S' => ∃ (i : Nat) (ad' : Nat → Nat) (h' : AH) (locs' : List Loc) (vs : List Value), i ≤ c0.toNatClampNeg ∧ rest = List.range' i (c0.toNatClampNeg - i) ∧ a_same (h.length + 1) (a_up ad h.length q0) ad' ∧ h.length + 1 ≤ h'.length ∧ h'[h.length]? = some (a_atag ty, vs) ∧ vs.length = c0.toNatClampNeg ∧
        a_mkL (a_mk (ty' :: tys) (n' :: ns)) h.length c0.toNatClampNeg 0 (h ++ [a_row ty c0.toNatClampNeg]) = a_mkL (a_mk (ty' :: tys) (n' :: ns)) h.length (c0.toNatClampNeg - i) i h' ∧
        a_G p l e R s m args below meth c D B H0 g ad' h' locs' (cells + 1 + i * a_mkC (n' :: ns)) (slots + c0.toNatClampNeg + i * a_mkS (n' :: ns)) S') _ _
      ⟨0, _, _, locs, List.replicate c0.toNatClampNeg (defaultValue ty), Nat.zero_le _, rfl, a_same.rf, by simp, by rw [List.getElem?_append_right (Nat.le_refl _), Nat.sub_self]; rfl, List.length_replicate, rfl, by simpa using hG1⟩ ?_ ?_
    · rintro x rest S' d' acts' Q' ⟨i, ad', h', locs', vs, hi, hl, hsame, hlen, hroot, hvs, hmk, hG'⟩ hnext
      have hlt : i < c0.toNatClampNeg := by
        rcases Nat.lt_or_ge i c0.toNatClampNeg with q | q
        · exact q
        · rw [show c0.toNatClampNeg - i = 0 from by omega] at hl; simp at hl
      obtain ⟨rfl, hrest⟩ : x = i ∧ rest = List.range' (i + 1) (c0.toNatClampNeg - (i + 1)) := by
        rw [show c0.toNatClampNeg - i = (c0.toNatClampNeg - (i + 1)) + 1 from by omega, List.range'_succ] at hl
        exact ⟨(List.cons.inj hl).1, (List.cons.inj hl).2⟩
      have m1 : x * a_mkC (n' :: ns) + a_mkC (n' :: ns) ≤ c0.toNatClampNeg * a_mkC (n' :: ns) := by
        have := Nat.mul_le_mul_right (a_mkC (n' :: ns)) (show x + 1 ≤ c0.toNatClampNeg from hlt)
        rw [Nat.succ_mul] at this; exact this
      have m2 : x * a_mkS (n' :: ns) + a_mkS (n' :: ns) ≤ c0.toNatClampNeg * a_mkS (n' :: ns) := by
        have := Nat.mul_le_mul_right (a_mkS (n' :: ns)) (show x + 1 ≤ c0.toNatClampNeg from hlt)
        rw [Nat.succ_mul] at this; exact this
      simp only [wp_bind']
      refine a_make_ok hKN hB0 (n' :: ns) (ty' :: tys) (c1 :: cs) ad' h' locs' _ _ S' d' acts' _ ty' ht2 rfl hcs (fun n hn => h0 n (List.mem_cons_of_mem _ hn)) hG' (by omega) (by omega) (fun S2 ad2 locs2 d2 acts2 hsame2 hG2 => ?_)
      obtain ⟨kp1, kp2⟩ := keep h'
      have hr2 := kp2 h.length (by omega)
      rw [hroot] at hr2
      have hq0 : ad2 h.length = q0 := by rw [hsame2 _ (by omega), hsame _ (by omega), a_up_n]
      simp only [wp_bind']
      rw [← hq0]
      refine a_setR_ok hKN ht1 href hG2 hr2 (by rw [hvs]; exact hlt) kp1 (fun S3 locs3 d3 acts3 hG3 => ?_)
      simp only [wp_pure']
      refine hnext _ _ _ ⟨x + 1, ad2, a_setR (a_mk (ty' :: tys) (n' :: ns) h') h.length x h'.length, locs3, vs.set x (.ref h'.length), hlt, hrest, fun k hk => ?_, by rw [a_setR_len]; omega, ?_, by rw [List.length_set]; exact hvs, ?_, ?_⟩
      · rw [hsame2 k (by omega)]
        exact hsame k hk
      · unfold a_setR
        rw [hr2]
        dsimp only
        rw [List.getElem?_set_self (by omega)]
      · rw [hmk, show c0.toNatClampNeg - x = (c0.toNatClampNeg - (x + 1)) + 1 from by omega]
        rfl
      · rw [Nat.succ_mul, Nat.succ_mul, ← Nat.add_assoc, ← Nat.add_assoc]
        exact hG3
    · rintro S' d' acts' ⟨i, ad', h', locs', vs, hi, hl, hsame, hlen, hroot, hvs, hmk, hG'⟩
      have hiN : i = c0.toNatClampNeg := by
        rcases Nat.lt_or_ge i c0.toNatClampNeg with q | q
        · rw [show c0.toNatClampNeg - i = (c0.toNatClampNeg - (i + 1)) + 1 from by omega, List.range'_succ] at hl; cases hl
        · omega
      subst hiN
      simp only [wp_pure']
      have hq0 : ad' h.length = q0 := by rw [hsame _ (by omega), a_up_n]
      rw [← hq0]
      refine hq S' ad' locs' d' acts' (fun k hk => by rw [hsame k (by omega)]; exact a_up_lt hk) ?_
      rw [Nat.sub_self] at hmk
      have e : a_mk (ty :: ty' :: tys) (c0.toNatClampNeg :: n' :: ns) h = h' := hmk
      rw [e, hC, hSs, ← Nat.add_assoc, ← Nat.add_assoc]
      exact hG'
end AM2
end
section
/-- one instruction, the end of the walk behind it to be found -/
theorem a_instrE {tb : Tables} [Ours tb] {e : Env} {below : List Frame} {s : State} {f : JFrame} {c : Code} {i : Instr} {len : Nat} {Qf : State → Prop} (h : At s f.method c below) (hd : decode c.code f.pc = .ok (i, len))
    (hw : wpRun (tb.exec i) (fun _ s₁ _ => ∀ acts, ∃ t, Steps tb e below (afterInstr e len (.ok () s₁ acts)).1 t ∧ Qf t) (fun _ _ _ => False) e (s.setTop f)) : ∃ t, Steps tb e below (s.setTop f) t ∧ Qf t := by
  have key : ∀ t, Steps tb e below (stepThread tb e (s.setTop f)).1 t → Steps tb e below (s.setTop f) t := fun t ht =>
    Steps.head ⟨h.running, by rw [State.curStatus?_setTop]; exact h.runnable, by rw [State.alone_setTop]; exact h.alone⟩ (h.within f) ht
  rw [stepThread_java (State.frames_setTop' f h.top) h.plain h.code hd] at key
  have hw := (wpRun_iff_run _ _ _ _ _).mp hw
  cases hr : (tb.exec i).run e (s.setTop f) with
  | ok a s₁ acts =>
    rw [hr] at hw key
    obtain ⟨t, h1, h2⟩ := hw acts
    exact ⟨t, key t h1, h2⟩
  | ctl x s₁ acts =>
    rw [hr] at hw
    cases x <;> exact hw.elim
/-- 'multianewarray': class, pool number, the outer component type -/
def a_mtb : List (Nat × Nat × FieldType) := [(1, 22, .array .int), (6, 24, .array .int), (12, 45, .array .boolean), (12, 50, .array .int), (12, 121, .array (.array .boolean)), (12, 126, .array (.array .int))]
theorem a_mtb_ok : a_mtb.all (fun e => (a_of a_arr e.1).any (fun q => q.1 == e.2.1 && q.2.1 == "[" ++ e.2.2.toString)) = true := by decide +kernel
def a_comps : FieldType → List FieldType
  | .array t => .array t :: a_comps t
  | t => [t]
def a_mty (own idx : Nat) : Option FieldType := (a_mtb.find? (fun e => e.1 == own && e.2.1 == idx)).map (fun e => e.2.2)
def a_st6 (own : Nat) (i : Instr) (pc : Nat) (al : AL) (st : List Value) (h : AH) : Option AS := match i, st with
  | .multianewarray idx 2, .int k :: .int n :: st => match a_mty own idx with
    | some t => if a_tys (a_comps t) [n.toNatClampNeg, k.toNatClampNeg] = true ∧ ¬ n < 0 ∧ ¬ k < 0 then some (pc + 4, al, .ref h.length :: st, a_mk (a_comps t) [n.toNatClampNeg, k.toNatClampNeg] h, a_mkC [n.toNatClampNeg, k.toNatClampNeg], a_mkS [n.toNatClampNeg, k.toNatClampNeg]) else none
    | none => none
  | .multianewarray idx 3, .int k :: .int o :: .int n :: st => match a_mty own idx with
    | some t => if a_tys (a_comps t) [n.toNatClampNeg, o.toNatClampNeg, k.toNatClampNeg] = true ∧ ¬ n < 0 ∧ ¬ o < 0 ∧ ¬ k < 0 then some (pc + 4, al, .ref h.length :: st, a_mk (a_comps t) [n.toNatClampNeg, o.toNatClampNeg, k.toNatClampNeg] h, a_mkC [n.toNatClampNeg, o.toNatClampNeg, k.toNatClampNeg], a_mkS [n.toNatClampNeg, o.toNatClampNeg, k.toNatClampNeg]) else none
    | none => none
  | _, _ => none
theorem a_mty_ok {own idx : Nat} {t : FieldType} (h : a_mty own idx = some t) : Cond.classLink (a_cN own) idx ("[" ++ t.toString) ∈ a_wG := by
  unfold a_mty at h
  rw [Option.map_eq_some_iff] at h
  obtain ⟨q, h1, rfl⟩ := h
  have h2 := List.find?_some h1
  simp only [Bool.and_eq_true, beq_iff_eq] at h2
  have h3 := List.all_eq_true.mp a_mtb_ok q (List.mem_of_find?_eq_some h1)
  rw [List.any_eq_true] at h3
  obtain ⟨r, hr, h4⟩ := h3
  simp only [Bool.and_eq_true, beq_iff_eq] at h4
  have h5 := a_all_of a_arr_ok hr
  have h6 := a_at_in h5
  rw [h4.1, h4.2, h2.1, h2.2] at h6
  exact h6
theorem a_comps_hd {t : FieldType} : (a_comps t).head? = some t := by cases t <;> rfl
theorem a_comps_ok {t : FieldType} {n : Nat} {ns : List Nat} (h : a_tys (a_comps t) (n :: ns) = true) : a_tyok t = true := by
  have hh := a_comps_hd (t := t)
  cases hc : a_comps t with
  | nil => rw [hc] at hh; cases hh
  | cons u us =>
    rw [hc] at hh h
    cases hh
    cases us <;> cases ns <;> simp [a_tys] at h <;> exact h.1
section AM3
variable {p : Program} {l : Launch} {e : Env} {R : Room} {s : State} {m : MethodId} {args : Array Value} {below : List Frame} {meth : Method} {c : Code} {H : Heap} {locs : List Loc} {cells slots : Nat} {Q : State → Prop} {cc : ByteArray} {pc : Nat} {ls : Array Slot} {rest : List Value} {i : Instr} {D : AD} {B : Nat} {ad : Nat → Nat} {h : AH} {H0 : Heap}
set_option maxHeartbeats 2000000 in
theorem a_multi_ok (hx : p.tables.exec = Jvm.exec) (hb : c.code = cc) {own idx dims : Nat} {t : FieldType} (hown : s.vm.findClass (a_cN own) = some m.cls) (hts : ∀ w ∈ a_wG, w.before args s = true) (hKN : a_KN D s) (hB0 : B ≤ H0.size) (hH : a_H D B ad h H) (hS : va_S (fun q => B ≤ q) H0 H locs) (hw : a_wh h)
    (cs : List Int32) (hdg : decode cc pc = .ok (.multianewarray idx dims, 4)) (hmt : a_mty own idx = some t) (ht : a_tys (a_comps t) (cs.map fun n => n.toNatClampNeg) = true) (h0 : ∀ n ∈ cs, ¬ n < 0)
    (hcs : (dims = 2 ∧ ∃ n k, cs = [n, k]) ∨ (dims = 3 ∧ ∃ n o k, cs = [n, o, k]))
    (hRc : cells + a_mkC (cs.map fun n => n.toNatClampNeg) ≤ R.cells) (hRs : slots + a_mkS (cs.map fun n => n.toNatClampNeg) ≤ R.slots)
    (kk : ∀ (ad' : Nat → Nat) (H' : Heap) (locs' : List Loc), a_same h.length ad ad' → a_H D B ad' (a_mk (a_comps t) (cs.map fun n => n.toNatClampNeg) h) H' → va_S (fun q => B ≤ q) H0 H' locs' → W p l e R s m args below meth c H' locs' (cells + a_mkC (cs.map fun n => n.toNatClampNeg)) (slots + a_mkS (cs.map fun n => n.toNatClampNeg)) Q (F0 m (pc + 4) ls (.ref (ad' h.length) :: rest))) : W p l e R s m args below meth c H locs cells slots Q (F0 m pc ls ((cs.map Value.int).reverse ++ rest)) := by
  intro T hT X
  subst hT
  have hpl : e.platform.magicAccessors = ({} : Platform).magicAccessors := by rw [X.admits.platform]
  have hcl0 := hts _ (a_mty_ok hmt)
  have htok : a_tyok t = true := by
    rcases hcs with ⟨-, n, k, rfl⟩ | ⟨-, n, o, k, rfl⟩ <;> exact a_comps_ok ht
  obtain ⟨t1, t2, t3⟩ := a_tyok_ok htok
  obtain ⟨c0, hfc0, hcl⟩ := Cond.classLink_spec hown hcl0 e.platform hpl
  have ec : c0 = D.2.2 (a_atag t) := Option.some.inj (hfc0.symm.trans (hKN _ _ t3 t1).1)
  subst ec
  obtain ⟨hg₁, hwarm₁, hready₁⟩ := State.classEntry (e := e) X.warmed hcl
  generalize T.vm.noted m.cls idx (.cls (D.2.2 (a_atag t))) = vm₁ at hg₁ hwarm₁ hready₁
  have X₁ := X.noted hwarm₁
  refine a_instrE (f := F0 m pc ls ((cs.map Value.int).reverse ++ rest)) X.here (by rw [hb]; exact hdg) ?_
  rw [hx]
  show wp (Op.multianewarray.sem idx dims) _ _ e false [] _
  have eS : ((T.setTop (F0 m pc ls ((cs.map Value.int).reverse ++ rest))).setVm vm₁).setTop (F0 m pc ls rest) = (T.setVm vm₁).setTop (F0 m pc ls rest) := by
    show ((T.setVm vm₁).setTop _).setTop _ = _
    rw [State.setTop_setTop]
  have hmake : ∀ (d : Bool) (acts : List Action), wp (Op.multianewarray.make (D.2.2 (a_atag t)) cs) (fun a => wp (do mark "op.multianewarray"; pushRef a) (fun _ _ _ s₁ => ∀ acts, ∃ t, Steps p.tables e below (afterInstr e 4 (.ok () s₁ acts)).1 t ∧ Q t) (fun _ _ _ => False) e) (fun _ _ _ => False) e d acts ((T.setVm vm₁).setTop (F0 m pc ls rest)) := by
    intro d acts
    refine a_make_ok hKN hB0 _ (a_comps t) cs ad h locs cells slots _ d acts _ t ht a_comps_hd rfl h0 ⟨T.setVm vm₁, rfl, X₁, hH, hw, hS⟩ hRc hRs (fun S' ad' locs' d' acts' hsame hG' => ?_)
    obtain ⟨T', rfl, X', hH', hw', hS'⟩ := hG'
    simp only [wp_bind', W.mark, W.pushRef, State.topJava?_setTop' _ X'.here.top, Option.some.injEq, exists_eq_left', State.setTop_setTop]
    intro acts2
    rw [afterInstr_ok]
    exact kk ad' T'.heap locs' hsame hH' hS' T' rfl X'
  rcases hcs with ⟨rfl, n, k, rfl⟩ | ⟨rfl, n, o, k, rfl⟩
  · have hres : (T.setTop (F0 m pc ls (([n, k].map Value.int).reverse ++ rest))).method? = some m := State.method?_setTop _ X.here.top
    simp only [Op.multianewarray.sem, wp_bind', W.resolveClassAt_links hres hg₁]
    rw [W.popN, if_neg (by decide)]
    refine ⟨F0 m pc ls (([n, k].map Value.int).reverse ++ rest), State.topJava?_setTop' (s := T.setVm vm₁) _ X.here.top, [.int n, .int k], rest, rfl, rfl, ?_⟩
    simp only [List.mapM_cons, List.mapM_nil, wp_bind', wp_pure']
    have hm := hmake true []
    simp only [wp_bind'] at hm
    rw [← eS] at hm
    exact hm
  · have hres : (T.setTop (F0 m pc ls (([n, o, k].map Value.int).reverse ++ rest))).method? = some m := State.method?_setTop _ X.here.top
    simp only [Op.multianewarray.sem, wp_bind', W.resolveClassAt_links hres hg₁]
    rw [W.popN, if_neg (by decide)]
    refine ⟨F0 m pc ls (([n, o, k].map Value.int).reverse ++ rest), State.topJava?_setTop' (s := T.setVm vm₁) _ X.here.top, [.int n, .int o, .int k], rest, rfl, rfl, ?_⟩
    simp only [List.mapM_cons, List.mapM_nil, wp_bind', wp_pure']
    have hm := hmake true []
    simp only [wp_bind'] at hm
    rw [← eS] at hm
    exact hm
end AM3
end
section
/-! System.arraycopy between arrays of one type that isn't a reference -/
def a_cpyW : List Cond := [.methodLink "JuryreelModel" 166 arraycopyName, .native arraycopyName, .static arraycopyName, .initialized "java/lang/System"]
theorem a_cpyW_ok : ∀ w ∈ a_cpyW, w ∈ lw_tbl ∧ goodWord w = true := by decide +kernel
theorem a_cpyW_in {w : Cond} (h : w ∈ a_cpyW) : w ∈ a_wG := a_wG_of (a_cpyW_ok w h).1 (a_cpyW_ok w h).2
/-- pairs (value, place behind at_) laid into a list -/
def a_prs (at_ : Nat) : List (Value × Nat) → List Value → List Value
  | [], ws => ws
  | q :: r, ws => a_prs at_ r (ws.set (at_ + q.2) q.1)
def a_fitL (ty : FieldType) (xs : List Value) : Bool := xs.all fun v => decide (a_kind v < 4) && fits ty v
/-- the stretch that is copied -/
def a_sl (vs : List Value) (sp n : Nat) : List Value := (vs.drop sp).take n
def a_acp (own : Nat) (i : Instr) (len : Nat) (st : List Value) (h : AH) : Option (List Value × AH) := match i, st with
  | .invokestatic idx, .int n :: .int dp :: .ref b :: .int sp :: .ref a :: st =>
    if own = 12 ∧ idx = 166 ∧ len = 3 ∧ a_cat st ≤ 8 ∧ ¬ sp < 0 ∧ ¬ dp < 0 ∧ ¬ n < 0 then
      match h[a]?, h[b]? with
      | some (t, vs), some (u, ws) => match a_aty t with
        | some ty => if t = u ∧ 20 ≤ t ∧ refKind ty = false ∧ sp.toNatClampNeg + n.toNatClampNeg ≤ vs.length ∧ dp.toNatClampNeg + n.toNatClampNeg ≤ ws.length ∧ a_fitL ty (a_sl vs sp.toNatClampNeg n.toNatClampNeg) = true then
            some (st, h.set b (u, a_prs dp.toNatClampNeg (a_sl vs sp.toNatClampNeg n.toNatClampNeg).zipIdx ws)) else none
        | none => none
      | _, _ => none
    else none
  | _, _ => none
theorem a_prs_len (at_ : Nat) : ∀ (qs : List (Value × Nat)) (ws : List Value), (a_prs at_ qs ws).length = ws.length
  | [], ws => rfl
  | q :: r, ws => by rw [a_prs, a_prs_len at_ r, List.length_set]
theorem a_prs_in (at_ : Nat) : ∀ (qs : List (Value × Nat)) (ws : List Value) (v : Value), v ∈ a_prs at_ qs ws → v ∈ ws ∨ ∃ q ∈ qs, v = q.1
  | [], ws, v, h => Or.inl h
  | q :: r, ws, v, h => by
    rw [a_prs] at h
    rcases a_prs_in at_ r _ v h with g | ⟨q', g1, g2⟩
    · rcases List.mem_or_eq_of_mem_set g with g | g
      · exact Or.inl g
      · exact Or.inr ⟨q, List.mem_cons_self, g⟩
    · exact Or.inr ⟨q', List.mem_cons_of_mem _ g1, g2⟩
theorem a_fitL_in {ty : FieldType} {xs : List Value} (h : a_fitL ty xs = true) {v : Value} (hv : v ∈ xs) : a_kind v < 4 ∧ fits ty v = true := by
  have := List.all_eq_true.mp h v hv
  rw [Bool.and_eq_true, decide_eq_true_eq] at this
  exact this
theorem a_ren_k {ad : Nat → Nat} {v : Value} (h : a_kind v < 4) : a_ren ad v = v := by
  cases v <;> first | rfl | exact absurd h (by decide : ¬ (4 : Nat) < 4)
theorem a_zip_in {xs : List Value} {q : Value × Nat} (h : q ∈ xs.zipIdx) : q.1 ∈ xs ∧ q.2 < xs.length := by
  obtain ⟨v, k⟩ := q
  rw [List.mk_mem_zipIdx_iff_getElem?] at h
  exact ⟨List.mem_of_getElem? h, (List.getElem?_eq_some_iff.mp h).1⟩
theorem a_C.prs {D : AD} {ad : Nat → Nat} {t : Nat} (ht : 19 ≤ t) (at_ : Nat) : ∀ (qs : List (Value × Nat)) (vs : List Value) (ce : Cell), a_C D ad (t, vs) ce → (∀ q ∈ qs, a_kind q.1 < 4 ∧ at_ + q.2 < vs.length) → a_C D ad (t, a_prs at_ qs vs) (ce.storePairs at_ qs)
  | [], vs, ce, h, _ => h
  | q :: r, vs, ce, h, hq => by
    rw [a_prs]
    show a_C D ad _ ((ce.setSlot (at_ + q.2) q.1).storePairs at_ r)
    have h1 := h.setArr ht (hq q List.mem_cons_self).2 q.1
    rw [a_ren_k (hq q List.mem_cons_self).1] at h1
    exact a_C.prs ht at_ r _ _ h1 (fun q' hq' => ⟨(hq q' (List.mem_cons_of_mem _ hq')).1, by rw [List.length_set]; exact (hq q' (List.mem_cons_of_mem _ hq')).2⟩)
theorem a_acp_wf {own : Nat} {i : Instr} {len : Nat} {st st' : List Value} {h h' : AH} {al : AL} (hr : a_acp own i len st h = some (st', h')) (w : a_wf al st h) : a_wf al st' h' ∧ h.length ≤ h'.length := by
  unfold a_acp at hr
  split at hr
  · rename_i idx n dp b sp a st2
    split at hr
    · split at hr
      · rename_i t vs u ws ha hb
        split at hr
        · rename_i ty hty
          split at hr
          · rename_i hc
            cases hr
            refine ⟨w.tl.tl.tl.tl.tl.upd hb (fun v hv => ?_), Nat.le_of_eq (a_set_len ..).symm⟩
            rcases a_prs_in _ _ _ _ hv with g | ⟨q, g1, g2⟩
            · exact w.2.2 b _ hb v g
            · intro k hk
              have g3 := (a_fitL_in hc.2.2.2.2.2 (a_zip_in g1).1).1
              rw [← g2, hk] at g3
              exact absurd g3 (by decide : ¬ (4 : Nat) < 4)
          · cases hr
        · cases hr
      · cases hr
    · cases hr
  · cases hr
section AXC
variable {p : Program} {l : Launch} {e : Env} {R : Room} {s : State} {m : MethodId} {args : Array Value} {below : List Frame} {meth : Method} {c : Code} {H : Heap} {locs : List Loc} {cells slots : Nat} {Q : State → Prop} {cc : ByteArray} {pc : Nat} {ls : Array Slot} {D : AD} {B : Nat} {ad : Nat → Nat} {h : AH} {H0 : Heap}
theorem a_acp_ok (hx : p.tables.exec = Jvm.exec) (hb : c.code = cc) (hml : ls.size = c.maxLocals) {own len : Nat} (hown : s.vm.findClass (a_cN own) = some m.cls) (hts : ∀ w ∈ a_wG, w.before args s = true) (hKA : a_KA D s) (hH : a_H D B ad h H) (hS : va_S (fun q => B ≤ q) H0 H locs) {i : Instr} {st st' : List Value} {h' : AH} (hdg : decode cc pc = .ok (i, len)) (hr : a_acp own i len st h = some (st', h'))
    (hRf : 1 ≤ R.frames) (hRl : 100 ≤ R.locals)
    (kk : ∀ (H' : Heap) (locs' : List Loc), a_H D B ad h' H' → va_S (fun q => B ≤ q) H0 H' locs' → W p l e R s m args below meth c H' locs' cells slots Q (F0 m (pc + 3) ls (st'.map (a_ren ad)))) : W p l e R s m args below meth c H locs cells slots Q (F0 m pc ls (st.map (a_ren ad))) := by
  have nn : ∀ z : Int32, ¬ z < 0 → z.toInt = (z.toNatClampNeg : Int) := by
    intro z hz
    have hz0 : (0 : Int) ≤ z.toInt := by
      have := Int32.not_lt.mp hz
      simpa using Int32.le_iff_toInt_le.mp this
    show z.toInt = ((z.toInt.toNat : Nat) : Int)
    omega
  unfold a_acp at hr
  split at hr
  · rename_i idx n dp b sp a st2
    split at hr
    · rename_i hc1
      obtain ⟨z1, z2, z3, z4, h1, h2, h3⟩ := hc1
      subst z1 z2 z3
      split at hr
      · rename_i t vs u ws ha hbb
        split at hr
        · rename_i ty hty
          split at hr
          · rename_i hc
            obtain ⟨y1, y2, y3, y4, y5, y6⟩ := hc
            subst y1
            cases hr
            intro T hT X
            obtain ⟨ca, a1, a2⟩ := hH.1 a _ ha
            obtain ⟨cb, b1, b2⟩ := hH.1 b _ hbb
            obtain ⟨p1, p2, p3, p4⟩ := a2.arr (show 19 ≤ t by omega)
            obtain ⟨q1, q2, q3, q4⟩ := b2.arr (show 19 ≤ t by omega)
            obtain ⟨kA, comp, k1, k2⟩ := hKA t ty hty
            have hstr : ca.stretch sp.toNatClampNeg n.toNatClampNeg = a_sl vs sp.toNatClampNeg n.toNatClampNeg := by
              apply List.ext_getElem?
              intro j
              unfold Cell.stretch a_sl
              rw [List.getElem?_map, List.getElem?_take]
              by_cases hj : j < n.toNatClampNeg
              · rw [List.getElem?_range hj, if_pos hj, List.getElem?_drop]
                have hlt : sp.toNatClampNeg + j < vs.length := by omega
                rw [List.getElem?_eq_getElem hlt]
                show some (ca.slots.getD (sp.toNatClampNeg + j) .null) = _
                rw [Array.getD_eq_getD_getElem?, p4 _ _ (List.getElem?_eq_getElem hlt)]
                have hm : vs[sp.toNatClampNeg + j] ∈ a_sl vs sp.toNatClampNeg n.toNatClampNeg := by
                  unfold a_sl
                  apply List.mem_of_getElem? (i := j)
                  rw [List.getElem?_take, if_pos hj, List.getElem?_drop, List.getElem?_eq_getElem hlt]
                rw [a_ren_k (a_fitL_in y6 hm).1]
                rfl
              · rw [if_neg hj, List.getElem?_eq_none (by rw [List.length_range]; omega)]
                rfl
            have hsz : ∀ j, j < n.toNatClampNeg → ca.slots.getD (sp.toNatClampNeg + j) .null ∈ a_sl vs sp.toNatClampNeg n.toNatClampNeg := fun j hj => by
              rw [← hstr]
              exact List.mem_map.mpr ⟨j, List.mem_range.mpr hj, rfl⟩
            obtain ⟨vm', X', step⟩ := X.arraycopy hx hown (hts _ (a_cpyW_in (List.mem_cons_self))) (hts _ (a_cpyW_in (List.mem_cons_of_mem _ List.mem_cons_self))) (hts _ (a_cpyW_in (List.mem_cons_of_mem _ (List.mem_cons_of_mem _ List.mem_cons_self)))) (hts _ (a_cpyW_in (List.mem_cons_of_mem _ (List.mem_cons_of_mem _ (List.mem_cons_of_mem _ List.mem_cons_self))))) (src := ad a) (dst := ad b) (cs := ca) (cd := cb) (srcPos := sp) (destPos := dp) (n := n) (by rw [hT]; exact a1) (by rw [hT]; exact b1)
              p2.2 q2.2 p2.1 q2.1 (by rw [p1]; exact k1) (by rw [q1]; exact k1) k2 k2 (by simp [y3]) h1 h2 h3
              (by rw [nn sp h1, nn n h3, p3]; show ¬ _ > ((vs.length : Nat) : Int); omega)
              (by rw [nn dp h2, nn n h3, q3]; show ¬ _ > ((ws.length : Nat) : Int); omega)
              (fun vm₁ _ j hj => by
                have hm := a_fitL_in y6 (hsz j hj)
                refine ⟨hm.2, ?_⟩
                generalize ca.slots.getD (sp.toNatClampNeg + j) .null = v at hm
                cases v <;> first | exact trivial | exact absurd hm.1 (by decide : ¬ (4 : Nat) < 4))
              (g := F0 m pc ls ((Value.int n :: .int dp :: .ref b :: .int sp :: .ref a :: st').map (a_ren ad))) rfl hml (rest := st'.map (a_ren ad)) rfl (by rw [hb]; exact hdg) hRf
              (by
                have hcat : ((st'.map (a_ren ad)).map fun v => v.category).sum = a_cat st' := by
                  unfold a_cat
                  rw [List.map_map]
                  congr 1
                  exact List.map_congr_left fun v _ => a_ren_cat
                have hnw : nativeFrameWords "java/lang/System" "arraycopy" 5 ≤ 60 := by decide +kernel
                show 2 * 0 + _ + _ ≤ _
                rw [hcat]; omega)
            have e1 : copied ca cb sp dp n = cb.storePairs dp.toNatClampNeg (a_sl vs sp.toNatClampNeg n.toNatClampNeg).zipIdx := by
              show cb.storePairs dp.toNatClampNeg (ca.stretch sp.toNatClampNeg n.toNatClampNeg).zipIdx = _
              rw [hstr]
            rw [e1] at X' step
            have hin : ∀ q ∈ (a_sl vs sp.toNatClampNeg n.toNatClampNeg).zipIdx, a_kind q.1 < 4 ∧ dp.toNatClampNeg + q.2 < ws.length := fun q hq => by
              obtain ⟨g1, g2⟩ := a_zip_in hq
              have g3 : (a_sl vs sp.toNatClampNeg n.toNatClampNeg).length ≤ n.toNatClampNeg := by unfold a_sl; rw [List.length_take]; omega
              exact ⟨(a_fitL_in y6 g1).1, by omega⟩
            have hC := b2.prs (show 19 ≤ t by omega) dp.toNatClampNeg _ _ _ hin
            have hl : ad b < H.size := (Array.getElem?_eq_some_iff.mp b1).1
            generalize hcd : cb.storePairs dp.toNatClampNeg (a_sl vs sp.toNatClampNeg n.toNatClampNeg).zipIdx = cd at X' step hC
            have hheap : ((T.setVm vm').setCell (ad b) cd).heap = H.setIfInBounds (ad b) cd := by rw [← hT]; rfl
            have oq : ∀ q : Nat, q ≠ ad b → (H.setIfInBounds (ad b) cd)[q]? = H[q]? := fun q hq => by simp [Array.getElem?_setIfInBounds, Ne.symm hq]
            obtain ⟨t2, a9, b9⟩ := kk _ _ (hH.set hbb (show (H.setIfInBounds (ad b) cd)[ad b]? = some cd by simp [Array.getElem?_setIfInBounds, hl]) hC oq) ⟨by simp; exact hS.1, fun q g1 g2 => by
                rw [oq q (fun e => g2 (by rw [e]; exact hH.2.2 b _ hbb (by show t ≠ 19; omega)))]
                exact hS.2.1 q g1 g2, fun q hq => by
                rcases List.mem_append.mp hq with g | g
                · exact hS.2.2 q g
                · obtain ⟨z, -, hz⟩ := List.mem_map.mp g
                  rw [← hz]
                  exact hH.2.2 b _ hbb (by show t ≠ 19; omega)⟩ _ hheap X'
            exact ⟨t2, step t2 a9, b9⟩
          · cases hr
        · cases hr
      · cases hr
    · cases hr
  · cases hr
end AXC
end
section
/-! The abstract machine's run of a method -/
def a_sw (i : Instr) (pc : Nat) (al : AL) (st : List Value) (h : AH) : Option AS := match i, st with
  | .tableswitch dflt lo hi offs, .int x :: st =>
    if x.toInt < lo ∨ hi < x.toInt then (a_tgt pc dflt).map (fun t => (t, al, st, h, 0, 0))
    else (offs[(x.toInt - lo).toNat]?).bind (fun off => (a_tgt pc off).map (fun t => (t, al, st, h, 0, 0)))
  | _, _ => none
def a_stp (own : Nat) (ini : Bool) (i : Instr) (len : Nat) (pc : Nat) (al : AL) (st : List Value) (h : AH) : Option AS :=
  match a_sw i pc al st h with
  | some r => some r
  | none => if len = a_len i then
    match a_st1 i pc al st h with
    | some r => some r
    | none => match a_st4 own ini i pc al st h with
    | some r => some r
    | none => match a_st2 i pc al st h with
    | some r => some r
    | none => match a_st3 i pc al st h with
    | some r => some r
    | none => match a_st5 own i pc al st h with
    | some r => some r
    | none => a_st6 own i pc al st h
    else none
abbrev AM : Type := Nat × String × String × Nat × Option FieldType × Nat × List (Nat × Nat × Nat × Nat × Nat × Nat × Nat) × (Nat × Nat)
def a_mrow (mi : Nat) : AM := a_mth.getD mi (0, "", "", 0, none, 0, [], (0, 0))
def a_own (mi : Nat) : Nat := (a_mrow mi).1
def a_nam (mi : Nat) : String := (a_mrow mi).2.1
def a_dsc (mi : Nat) : String := (a_mrow mi).2.2.1
def a_mxl (mi : Nat) : Nat := (a_mrow mi).2.2.2.1
def a_rty (mi : Nat) : Option FieldType := (a_mrow mi).2.2.2.2.1
def a_nrg (mi : Nat) : Nat := (a_mrow mi).2.2.2.2.2.1
def a_hnd (mi : Nat) : List (Nat × Nat × Nat × Nat × Nat × Nat × Nat) := (a_mrow mi).2.2.2.2.2.2.1
def a_y (mi : Nat) : MethodName := ⟨a_cN (a_own mi), a_nam mi, a_dsc mi⟩
def a_ini (mi : Nat) : Bool := a_nam mi == "<init>"
noncomputable def a_codeL (mi : Nat) : List (Nat × Instr × Nat) := if mi = 301 then a_lawP else (a_prog.getD mi (⟨#[]⟩, [])).2
noncomputable def a_codeB (mi : Nat) : ByteArray := if mi = 301 then code else (a_prog.getD mi (⟨#[]⟩, [])).1
noncomputable def a_ins (mi pc : Nat) : Option (Instr × Nat) := ((a_codeL mi).find? (fun e => e.1 == pc)).map (fun e => e.2)
/-- the method's end: what it answers -/
def a_end (mi : Nat) (i : Instr) (st : List Value) : Option (Option Value) := match i, st with
  | .return_, [] => if a_rty mi = none then some none else none
  | .ireturn, [.int v] => match a_rty mi with
    | some ty => if narrow ty (.int v) = .int v then some (some (.int v)) else none
    | none => none
  | .lreturn, [.long v] => if a_rty mi = some .long then some (some (.long v)) else none
  | .freturn, [.float v] => if a_rty mi = some .float then some (some (.float v)) else none
  | .dreturn, [.double v] => if a_rty mi = some .double then some (some (.double v)) else none
  | _, _ => none
/-- 'throw new E("text")' begins here: E's number -/
def a_trw (mi pc : Nat) (i : Instr) (st : List Value) : Option Nat := match i with
  | .new _ => if a_cat st ≤ 8 then (a_thr.find? (fun r => r.1 == mi && r.2.1 == pc)).map (fun r => r.2.2.2.2.2.2.2.1) else none
  | _ => none
/-- a call: the method, its arguments, what stays on the stack -/
def a_call (own : Nat) (i : Instr) (st : List Value) (h : AH) : Option (Nat × List Value × List Value) := match i with
  | .invokevirtual idx => match (a_of a_inv own).find? (fun e => e.1 == idx && e.2.1 == 0) with
    | some e => if a_nrg e.2.2.1 ≤ st.length ∧ a_cat (st.drop (a_nrg e.2.2.1)) ≤ 8 then
        (match (st.take (a_nrg e.2.2.1)).reverse with
        | .ref a :: as => (match h[a]? with
          | some (t, _) => if t = a_own e.2.2.1 then some (e.2.2.1, .ref a :: as, st.drop (a_nrg e.2.2.1)) else none
          | none => none)
        | _ => none) else none
    | none => none
  | .invokestatic idx => match (a_of a_inv own).find? (fun e => e.1 == idx && e.2.1 == 1) with
    | some e => if a_nrg e.2.2.1 ≤ st.length ∧ a_cat (st.drop (a_nrg e.2.2.1)) ≤ 8 then some (e.2.2.1, (st.take (a_nrg e.2.2.1)).reverse, st.drop (a_nrg e.2.2.1)) else none
    | none => none
  | .invokespecial idx => match (a_of a_inv own).find? (fun e => e.1 == idx && (e.2.1 == 2 || e.2.1 == 3)) with
    | some e => if a_nrg e.2.2.1 ≤ st.length ∧ a_cat (st.drop (a_nrg e.2.2.1)) ≤ 8 then
        (match (st.take (a_nrg e.2.2.1)).reverse with
        | .ref a :: as => some (e.2.2.1, .ref a :: as, st.drop (a_nrg e.2.2.1))
        | _ => none) else none
    | none => none
  | _ => none
/-- the row of a method's table that takes exception k at pc -/
def a_cth (mi pc k : Nat) : Option (Nat × Nat × Nat × Nat × Nat × Nat × Nat) := (a_hnd mi).find? (fun x => (decide (x.1 ≤ pc) && decide (pc < x.2.1)) && x.2.2.2.2.1 == k)
/-- a handler stores the exception first: where it goes on, and the local -/
noncomputable def a_hdl (mi hp : Nat) : Option (Nat × Nat) := match a_ins mi hp with
  | some (i, len) => if len = a_len i then (match a_store i with
    | some (n, kd) => if kd = 4 then some (hp + len, n) else none
    | none => none) else none
  | none => none
def a_isSp (i : Instr) : Bool := match i with
  | .invokespecial _ => true
  | _ => false
def a_drop (al : AL) (n : Nat) : AL := (a_kill al n).set n none
noncomputable def a_go (call : Nat → List Value → AH → Option AR) (mi : Nat) : Nat → Nat → AL → List Value → AH → Nat → Nat → Option AR
  | 0, _, _, _, _, _, _ => none
  | f + 1, pc, al, st, h, mc, ms =>
    match a_ins mi pc with
    | none => none
    | some (i, len) =>
      match a_end mi i st with
      | some v => some (.inl v, h, mc, ms)
      | none => match a_trw mi pc i st with
        | some k => some (.inr k, h, mc + 1, ms + 6)
        | none => match a_call (a_own mi) i st h with
          | some (mt, as, rest) => (match call mt as h with
            | some (.inl v, h', c, s) => a_go call mi f (pc + 3) al (v.toList ++ rest) h' (mc + c) (ms + s)
            | some (.inr k, h', c, s) => if a_isSp i = true then none else if (a_hnd mi).isEmpty = true then some (.inr k, h', mc + c, ms + s) else (match a_cth mi pc k with
              | some x => (match a_hdl mi x.2.2.1 with
                | some (hp, n) => if n < al.length then a_go call mi f hp (a_drop al n) [] h' (mc + c) (ms + s) else none
                | none => none)
              | none => none)
            | none => none)
          | none => match a_stp (a_own mi) (a_ini mi) i len pc al st h with
            | some (pc', al', st', h', c, s) => a_go call mi f pc' al' st' h' (mc + c) (ms + s)
            | none => match a_acp (a_own mi) i len st h with
              | some (st', h') => a_go call mi f (pc + 3) al st' h' mc ms
              | none => none
def a_args (mi : Nat) (as : List Value) : AL := as.map some ++ List.replicate (a_mxl mi - as.length) none
noncomputable def a_run : Nat → Nat → Nat → List Value → AH → Option AR
  | 0, _, _, _, _ => none
  | d + 1, F, mi, as, h => if as.length = a_nrg mi ∧ as.length ≤ a_mxl mi ∧ (as.all fun v => v.category == 1) = true then a_go (a_run d F) mi F 0 (a_args mi as) [] h 0 0 else none
/-! its cells only grow -/
theorem a_go_mono {call : Nat → List Value → AH → Option AR} {mi : Nat} : ∀ (f pc : Nat) (al : AL) (st : List Value) (h : AH) (mc ms : Nat) (r : AR), a_go call mi f pc al st h mc ms = some r → mc ≤ r.2.2.1 ∧ ms ≤ r.2.2.2
  | 0, pc, al, st, h, mc, ms, r, hr => by cases hr
  | f + 1, pc, al, st, h, mc, ms, r, hr => by
    rw [a_go] at hr
    split at hr
    · cases hr
    · split at hr
      · cases hr; exact ⟨Nat.le_refl _, Nat.le_refl _⟩
      · split at hr
        · cases hr; exact ⟨Nat.le_add_right _ _, Nat.le_add_right _ _⟩
        · split at hr
          · split at hr
            · have := a_go_mono f _ _ _ _ _ _ r hr; omega
            · split at hr
              · cases hr
              · split at hr
                · cases hr; exact ⟨Nat.le_add_right _ _, Nat.le_add_right _ _⟩
                · split at hr
                  · split at hr
                    · split at hr
                      · have := a_go_mono f _ _ _ _ _ _ r hr; omega
                      · cases hr
                    · cases hr
                  · cases hr
            · cases hr
          · split at hr
            · have := a_go_mono f _ _ _ _ _ _ r hr; omega
            · split at hr
              · exact a_go_mono f _ _ _ _ _ _ r hr
              · cases hr
/-! its references lie in the heap, which only grows -/
theorem a_sw_same {i : Instr} {pc : Nat} {al : AL} {st : List Value} {h : AH} {r : AS} (hr : a_sw i pc al st h = some r) : ∃ (x : Int32), st = .int x :: r.2.2.1 ∧ r.2.1 = al ∧ r.2.2.2 = (h, 0, 0) := by
  unfold a_sw at hr
  split at hr
  · split at hr
    · rw [Option.map_eq_some_iff] at hr
      obtain ⟨t, h1, rfl⟩ := hr
      exact ⟨_, rfl, rfl, rfl⟩
    · rw [Option.bind_eq_some_iff] at hr
      obtain ⟨off, h0, hr⟩ := hr
      rw [Option.map_eq_some_iff] at hr
      obtain ⟨t, h1, rfl⟩ := hr
      exact ⟨_, rfl, rfl, rfl⟩
  · cases hr
theorem a_wf.root {al : AL} {st : List Value} {h h' : AH} (w : a_wf al st h') (hl : h.length < h'.length) : a_wf al (.ref h.length :: st) h' := w.push (fun k hk => by cases hk; exact hl)
theorem a_st5_wf {own : Nat} {i : Instr} {pc : Nat} {al : AL} {st : List Value} {h : AH} {r : AS} (hr : a_st5 own i pc al st h = some r) (w : a_wf al st h) : a_wf r.2.1 r.2.2.1 r.2.2.2.1 ∧ h.length ≤ r.2.2.2.1.length := by
  have len1 : ∀ {x : AC}, h.length < (h ++ [x]).length := by intro x; rw [List.length_append, List.length_singleton]; omega
  unfold a_st5 at hr
  split at hr
  · rw [Option.map_eq_some_iff] at hr
    obtain ⟨q, h1, rfl⟩ := hr
    exact ⟨(w.push1 a_obj_ok).root len1, Nat.le_of_lt len1⟩
  · split at hr
    · rw [Option.map_eq_some_iff] at hr
      obtain ⟨q, h1, rfl⟩ := hr
      exact ⟨(w.tl.push1 a_row_ok).root len1, Nat.le_of_lt len1⟩
    · cases hr
  · split at hr
    · split at hr
      · rw [Option.map_eq_some_iff] at hr
        obtain ⟨q, h1, rfl⟩ := hr
        exact ⟨(w.tl.push1 a_row_ok).root len1, Nat.le_of_lt len1⟩
      · cases hr
    · cases hr
  · split at hr
    · rename_i t vs ha
      split at hr
      · rename_i u us hv
        split at hr
        · rw [Option.map_eq_some_iff] at hr
          obtain ⟨q, h1, rfl⟩ := hr
          exact ⟨w.tl.tl.tl.upd1 ha (fun k hk => by cases hk; exact (List.getElem?_eq_some_iff.mp hv).1), Nat.le_of_eq (a_set_len ..).symm⟩
        · cases hr
      · cases hr
    · cases hr
  · split at hr
    · cases hr; exact ⟨w.tl, Nat.le_refl _⟩
    · cases hr
  · split at hr
    · split at hr
      · cases hr; exact ⟨w.tl.tl.push (a_ok_int _), Nat.le_refl _⟩
      · cases hr
    · cases hr
  · cases hr
theorem a_setR_wf {al : AL} {st : List Value} {h : AH} {a i b : Nat} (w : a_wf al st h) (hb : b < h.length) : a_wf al st (a_setR h a i b) := by
  unfold a_setR
  split
  · rename_i t vs ha
    exact w.upd1 ha (fun k hk => by cases hk; exact hb)
  · exact w
def a_wfF (f : AH → AH) : Prop := ∀ (al : AL) (st : List Value) (h : AH), a_wf al st h → a_wf al st (f h)
theorem a_mkL_wf {f : AH → AH} (hk : a_keepF f) (hf : a_wfF f) (a : Nat) (al : AL) (st : List Value) : ∀ (k i : Nat) (h : AH), a_wf al st h → a_wf al st (a_mkL f a k i h)
  | 0, i, h, w => w
  | k + 1, i, h, w => a_mkL_wf hk hf a al st k (i + 1) _ (a_setR_wf (hf al st h w) (hk h).1)
theorem a_mk_wf : ∀ (ns : List Nat) (tys : List FieldType), a_tys tys ns = true → a_wfF (a_mk tys ns)
  | [], tys, ht => by rcases tys with _ | ⟨_, _ | ⟨_, _⟩⟩ <;> cases ht
  | [n], [], ht => by cases ht
  | [n], ty :: tys, ht => fun al st h w => by
    have e : a_mk (ty :: tys) [n] h = h ++ [a_row ty n] := by cases tys <;> rfl
    rw [e]
    exact w.push1 a_row_ok
  | n :: n' :: ns, [], ht => by cases ht
  | n :: n' :: ns, [ty], ht => by cases ht
  | n :: n' :: ns, ty :: ty' :: tys, ht => by
    have ht' : a_tys (ty' :: tys) (n' :: ns) = true := by
      simp only [a_tys, Bool.and_eq_true] at ht
      exact ht.2.2.2
    intro al st h w
    exact a_mkL_wf (a_mk_keep _ _ ht') (a_mk_wf (n' :: ns) (ty' :: tys) ht') h.length al st n 0 _ (w.push1 a_row_ok)
theorem a_st6_wf {own : Nat} {i : Instr} {pc : Nat} {al : AL} {st : List Value} {h : AH} {r : AS} (hr : a_st6 own i pc al st h = some r) (w : a_wf al st h) : a_wf r.2.1 r.2.2.1 r.2.2.2.1 ∧ h.length ≤ r.2.2.2.1.length := by
  unfold a_st6 at hr
  split at hr
  · split at hr
    · split at hr
      · rename_i hc
        cases hr
        have k := (a_mk_keep _ _ hc.1 h).1
        exact ⟨((a_mk_wf _ _ hc.1) _ _ _ w.tl.tl).root k, Nat.le_of_lt k⟩
      · cases hr
    · cases hr
  · split at hr
    · split at hr
      · rename_i hc
        cases hr
        have k := (a_mk_keep _ _ hc.1 h).1
        exact ⟨((a_mk_wf _ _ hc.1) _ _ _ w.tl.tl.tl).root k, Nat.le_of_lt k⟩
      · cases hr
    · cases hr
  · cases hr
theorem a_st1_len {i : Instr} {pc : Nat} {al : AL} {st : List Value} {h : AH} {r : AS} (hr : a_st1 i pc al st h = some r) : r.2.2.2.1 = h := by
  unfold a_st1 at hr
  repeat' split at hr
  all_goals first
    | (cases hr; done)
    | (cases hr; rfl)
    | (rw [Option.map_eq_some_iff] at hr; obtain ⟨t, -, rfl⟩ := hr; rfl)
theorem a_st2_len {i : Instr} {pc : Nat} {al : AL} {st : List Value} {h : AH} {r : AS} (hr : a_st2 i pc al st h = some r) : r.2.2.2.1 = h := by
  unfold a_st2 at hr
  repeat' split at hr
  all_goals first
    | (cases hr; done)
    | (cases hr; rfl)
    | (rw [Option.map_eq_some_iff] at hr; obtain ⟨t, -, rfl⟩ := hr; rfl)
theorem a_st3_len {i : Instr} {pc : Nat} {al : AL} {st : List Value} {h : AH} {r : AS} (hr : a_st3 i pc al st h = some r) : r.2.2.2.1 = h := by
  unfold a_st3 at hr
  repeat' split at hr
  all_goals first
    | (cases hr; done)
    | (cases hr; rfl)
    | (rw [Option.bind_eq_some_iff] at hr; obtain ⟨n, -, hr⟩ := hr; rw [Option.map_eq_some_iff] at hr; obtain ⟨t, -, rfl⟩ := hr; rfl)
theorem a_st4_len {own : Nat} {ini : Bool} {i : Instr} {pc : Nat} {al : AL} {st : List Value} {h : AH} {r : AS} (hr : a_st4 own ini i pc al st h = some r) : r.2.2.2.1.length = h.length := by
  unfold a_st4 at hr
  repeat' split at hr
  all_goals first
    | (cases hr; done)
    | (cases hr; first | rfl | exact a_set_len ..)
    | (rw [Option.map_eq_some_iff] at hr; obtain ⟨t, -, rfl⟩ := hr; first | rfl | exact a_set_len ..)
theorem a_stp_wf {own : Nat} {ini : Bool} {i : Instr} {len pc : Nat} {al : AL} {st : List Value} {h : AH} {r : AS} (hr : a_stp own ini i len pc al st h = some r) (w : a_wf al st h) : a_wf r.2.1 r.2.2.1 r.2.2.2.1 ∧ h.length ≤ r.2.2.2.1.length := by
  unfold a_stp at hr
  split at hr
  · rename_i r' h1
    cases hr
    obtain ⟨x, e1, e2, e3⟩ := a_sw_same h1
    rw [e1] at w
    have e4 : r.2.2.2.1 = h := by rw [e3]
    rw [e2, e4]
    exact ⟨w.tl, Nat.le_refl _⟩
  · split at hr
    · split at hr
      · rename_i h1; cases hr; exact ⟨a_st1_wf h1 w, by rw [a_st1_len h1]; exact Nat.le_refl _⟩
      · split at hr
        · rename_i h1; cases hr; exact ⟨a_st4_wf h1 w, by rw [a_st4_len h1]; exact Nat.le_refl _⟩
        · split at hr
          · rename_i h1; cases hr; exact ⟨a_st2_wf h1 w, by rw [a_st2_len h1]; exact Nat.le_refl _⟩
          · split at hr
            · rename_i h1; cases hr; exact ⟨a_st3_wf h1 w, by rw [a_st3_len h1]; exact Nat.le_refl _⟩
            · split at hr
              · rename_i h1; cases hr; exact a_st5_wf h1 w
              · exact a_st6_wf hr w
    · cases hr
/-- what a call keeps -/
def a_cwf (call : Nat → List Value → AH → Option AR) : Prop := ∀ (mt : Nat) (as : List Value) (h : AH) (r : AR), call mt as h = some r → a_wh h → (∀ v, v ∈ as → a_ok h.length v) → a_wh r.2.1 ∧ h.length ≤ r.2.1.length ∧ ∀ v, r.1 = .inl (some v) → a_ok r.2.1.length v
theorem a_drop_get {al : AL} {n i : Nat} {v : Value} (h : a_get (a_drop al n) i = some v) : a_get al i = some v ∧ i ≠ n ∧ ¬ (i + 1 = n ∧ v.category = 2) := by
  unfold a_drop at h
  rw [a_get_set] at h
  split at h
  · cases h
  · rename_i h1
    obtain ⟨h2, h3⟩ := a_kill_get h
    have h4 := a_get_lt h2
    refine ⟨h2, fun q => h1 ⟨q.symm, by rw [a_kill_len]; exact h4⟩, h3⟩
theorem a_call_in {own : Nat} {i : Instr} {st : List Value} {h : AH} {mt : Nat} {as rest : List Value} (hc : a_call own i st h = some (mt, as, rest)) : (∀ v, v ∈ as → v ∈ st) ∧ (∀ v, v ∈ rest → v ∈ st) ∧ st = as.reverse ++ rest := by
  have key : ∀ n : Nat, (∀ v, v ∈ (st.take n).reverse → v ∈ st) ∧ (∀ v, v ∈ st.drop n → v ∈ st) ∧ st = ((st.take n).reverse).reverse ++ st.drop n := fun n => ⟨fun v hv => List.mem_of_mem_take (List.mem_reverse.mp hv), fun v hv => List.mem_of_mem_drop hv, by rw [List.reverse_reverse, List.take_append_drop]⟩
  unfold a_call at hc
  split at hc
  · split at hc
    · split at hc
      · split at hc
        · rename_i e a as' hq
          split at hc
          · split at hc
            · cases hc
              rw [← hq]
              exact key _
            · cases hc
          · cases hc
        · cases hc
      · cases hc
    · cases hc
  · split at hc
    · split at hc
      · cases hc; exact key _
      · cases hc
    · cases hc
  · split at hc
    · split at hc
      · split at hc
        · rename_i e a as' hq
          cases hc
          rw [← hq]
          exact key _
        · cases hc
      · cases hc
    · cases hc
  · cases hc
theorem a_end_in {mi : Nat} {i : Instr} {st : List Value} {v : Value} (h : a_end mi i st = some (some v)) : v ∈ st := by
  unfold a_end at h
  repeat' split at h
  all_goals first
    | (cases h; done)
    | (cases h; exact List.mem_cons_self)
theorem a_go_wf {call : Nat → List Value → AH → Option AR} (hcall : a_cwf call) {mi : Nat} : ∀ (f pc : Nat) (al : AL) (st : List Value) (h : AH) (mc ms : Nat) (r : AR), a_go call mi f pc al st h mc ms = some r → a_wf al st h → a_wh r.2.1 ∧ h.length ≤ r.2.1.length ∧ ∀ v, r.1 = .inl (some v) → a_ok r.2.1.length v
  | 0, pc, al, st, h, mc, ms, r, hr, w => by cases hr
  | f + 1, pc, al, st, h, mc, ms, r, hr, w => by
    rw [a_go] at hr
    split at hr
    · cases hr
    · split at hr
      · rename_i v hv
        cases hr
        exact ⟨w.2.2, Nat.le_refl _, fun u hu => by cases hu; exact w.2.1 _ (a_end_in hv)⟩
      · split at hr
        · cases hr
          exact ⟨w.2.2, Nat.le_refl _, fun u hu => by cases hu⟩
        · split at hr
          · rename_i mt as rest hc
            obtain ⟨c1, c2, -⟩ := a_call_in hc
            have wc : ∀ {q : AR}, call mt as h = some q → a_wh q.2.1 ∧ h.length ≤ q.2.1.length ∧ ∀ v, q.1 = .inl (some v) → a_ok q.2.1.length v := fun hq => hcall mt as h _ hq w.2.2 (fun v hv => w.2.1 v (c1 v hv))
            split at hr
            · rename_i v h' c s hq
              obtain ⟨q1, q2, q3⟩ := wc hq
              have w' : a_wf al (v.toList ++ rest) h' := ⟨fun i u hi => a_ok_mono q2 (w.1 i u hi), fun u hu => by
                rcases List.mem_append.mp hu with g | g
                · cases v with
                  | none => cases g
                  | some v =>
                    simp only [Option.toList, List.mem_cons, List.not_mem_nil, or_false] at g
                    rw [g]; exact q3 v rfl
                · exact a_ok_mono q2 (w.2.1 u (c2 u g)), q1⟩
              obtain ⟨r1, r2, r3⟩ := a_go_wf hcall f _ _ _ _ _ _ r hr w'
              exact ⟨r1, Nat.le_trans q2 r2, r3⟩
            · rename_i k h' c s hq
              obtain ⟨q1, q2, q3⟩ := wc hq
              split at hr
              · cases hr
              · split at hr
                · cases hr
                  exact ⟨q1, q2, fun u hu => by cases hu⟩
                · split at hr
                  · split at hr
                    · rename_i n _
                      split at hr
                      · have w' : a_wf (a_drop al n) [] h' := ⟨fun i u hi => a_ok_mono q2 (w.1 i u (a_drop_get hi).1), fun u hu => absurd hu List.not_mem_nil, q1⟩
                        obtain ⟨r1, r2, r3⟩ := a_go_wf hcall f _ _ _ _ _ _ r hr w'
                        exact ⟨r1, Nat.le_trans q2 r2, r3⟩
                      · cases hr
                    · cases hr
                  · cases hr
            · cases hr
          · split at hr
            · rename_i pc' al' st' h' c s hq
              obtain ⟨q1, q2⟩ := a_stp_wf hq w
              obtain ⟨r1, r2, r3⟩ := a_go_wf hcall f _ _ _ _ _ _ r hr q1
              exact ⟨r1, Nat.le_trans q2 r2, r3⟩
            · split at hr
              · rename_i st' h' hq
                obtain ⟨q1, q2⟩ := a_acp_wf hq w
                obtain ⟨r1, r2, r3⟩ := a_go_wf hcall f _ _ _ _ _ _ r hr q1
                exact ⟨r1, Nat.le_trans q2 r2, r3⟩
              · cases hr
theorem a_args_get {mi : Nat} {as : List Value} {i : Nat} {v : Value} (h : a_get (a_args mi as) i = some v) : as[i]? = some v := by
  unfold a_get a_args at h
  rcases Nat.lt_or_ge i as.length with q | q
  · rw [List.getElem?_append_left (by rw [List.length_map]; exact q), List.getElem?_map] at h
    rw [List.getElem?_eq_getElem q] at h ⊢
    simpa using h
  · rw [List.getElem?_append_right (by rw [List.length_map]; exact q), List.getElem?_replicate] at h
    split at h
    · cases h
    · cases h
theorem a_run_wf (F : Nat) : ∀ d, a_cwf (a_run d F)
  | 0 => fun mt as h r hr => by cases hr
  | d + 1 => fun mt as h r hr w hv => by
    rw [a_run] at hr
    split at hr
    · exact a_go_wf (a_run_wf F d) F _ _ _ _ _ _ r hr ⟨fun i v hi => hv v (List.mem_of_getElem? (a_args_get hi)), fun v hv => absurd hv List.not_mem_nil, w⟩
    · cases hr
end
section
/-! 'throw new E("text")' where E's own constructor may call its superclass's by another pool number than 7 (NoSuchElementException's does); after the library's ctorThrowS (BundleOwnThrow.lean) and the kit's vx_throwS, vx_throwSW, with the class's own link and bytes free and less said of the cell -/
def a_own5 (own : String) (ic : Nat) (X : String) (ix : Nat) (bytes : ByteArray) : List Cond :=
  Bundle.throwableAtoms ++ Bundle.throwableSAtoms ++ (Bundle.passSAtoms X "java/lang/RuntimeException" ix bytes ++ Bundle.chainSAtoms "java/lang/RuntimeException" ["java/lang/Exception"]) ++
  [.methodLink own ic (Bundle.initS X), .instantiable X 6, .castable X X, .selects X Bundle.tFill0 Bundle.tFill0, .selects X Bundle.tFill Bundle.tFill,
   .lays X Bundle.tN "cause" "Ljava/lang/Throwable;", .lays X Bundle.tN "stackTrace" Bundle.steD, .lays X Bundle.tN "suppressedExceptions" Bundle.listD, .lays X Bundle.tN "detailMessage" "Ljava/lang/String;",
   .isRef (.static Bundle.tN "UNASSIGNED_STACK" Bundle.steD), .isRef (.static Bundle.tN "SUPPRESSED_SENTINEL" Bundle.listD),
   .fieldLink Bundle.tN 198 Bundle.tN "backtrace" "Ljava/lang/Object;", .lays Bundle.tN Bundle.tN "backtrace" "Ljava/lang/Object;", .lays X Bundle.tN "backtrace" "Ljava/lang/Object;"]
def a_at5 (own : String) (ic : Nat) (X : String) (ix : Nat) (bytes : ByteArray) : List Cond := (a_own5 own ic X ix bytes).filter vx_no
section AT5
variable {p : Program} {l : Launch} {e : Env} {R : Room} {s : State} {m : MethodId} {args : Array Value} {below : List Frame} {meth : Method} {c : Code} {H : Heap} {locs : List Loc} {cells slots : Nat}
set_option maxHeartbeats 2000000 in
theorem a_ctorThrow {W : State} (X : Stand p l e R s m args below meth c W [] cells slots) (hexec : p.tables.exec = Jvm.exec) (htr : e.platform.stackTraces = false) {own cls : String} {ic ix : Nat} {bytes : ByteArray}
    (g0 : decode bytes 0 = .ok (.aload_n 0, 1)) (g1 : decode bytes 1 = .ok (.aload_n 1, 1)) (g2 : decode bytes 2 = .ok (.invokespecial ix, 3)) (g5 : decode bytes 5 = .ok (.return_, 1))
    (hown : s.vm.findClass own = some m.cls) (hcls : Bundle.fit cls = true) (h : ∀ a ∈ a_own5 own ic cls ix bytes, a.before args s = true)
    {a : Addr} {cX : ClassId} {kX : Class} (hfoundX : s.vm.findClass cls = some cX) (hkX : s.vm.classes[cX]? = some kX) (hcell : W.heap[a]? = some (freshCell cX kX)) (hnew : s.heap.size ≤ a) {msg : Value} (hmsg : msg.isRef = true)
    {g : JFrame} (hg : g.method = m) (hsize : g.locals.size = c.maxLocals) (hlocked : g.locked = none) (hentered : g.entered = []) {rest : List Value} (hstack : g.stack = msg :: .ref a :: .ref a :: rest)
    (hd6 : decode c.code g.pc = .ok (.invokespecial ic, 3)) (hd9 : decode c.code (g.pc + 3) = .ok (.athrow, 1)) (hout : ∀ x ∈ c.exceptionTable.toList, covers x (g.pc + 3) = false)
    (hRframes : 5 < R.frames) (hRlocals : 2 * g.monitorRoom + ((Value.ref a :: rest).map fun v => v.category).sum + 81 ≤ R.locals) (hlocks : meth.locks = false) :
    ∃ U : State, Steps p.tables e below (W.setTop g) U ∧ U.status = .running ∧ Ended U below (.threw a) ∧ s.WarmedH U.vm ∧ s.sameButNew ({ U with vm := s.vm } : State) [] cells slots ∧ ∃ ce, U.heap[a]? = some ce ∧ ce.vm = .none ∧ ce.cls = cX := by
  have howns : e.platform.frameOwnsMonitors = true := by rw [X.admits.platform]
  have hfin : e.platform.finalization = false := by rw [X.admits.platform]
  have hpl : e.platform.magicAccessors = ({} : Platform).magicAccessors := by rw [X.admits.platform]
  have a' : ∀ x, x ∈ a_own5 own ic cls ix bytes → x.holds args s none s [] = true := fun x hx => h x hx
  obtain ⟨T, Z0, L, -, Y⟩ := ThrowableC.of_atoms (args := args) howns hfin hpl (fun x hx => h x (by simp [a_own5, hx]))
  obtain ⟨Z, M, LZ, LM, hnZ⟩ := Init0T.ofS_atoms (args := args) hpl L Y (fun x hx => h x (by simp [a_own5, hx]))
  obtain ⟨P1, L1, hP1m, hsup1⟩ := PassC.ofS_atoms (args := args) (s := s) hpl (X := cls) (Y := "java/lang/RuntimeException") (Bundle.fit_spec hcls).1 (by decide) g0 g1 g2 g5 (fun x hx => h x (by simp [a_own5, hx]))
  obtain ⟨P2, Ps2, hlen2, L2, hL2, hP2m, hl2, hlk2⟩ := Bundle.chainS (args := args) hpl hnZ ["java/lang/Exception"] "java/lang/RuntimeException" (by decide +kernel) (by decide +kernel) (fun x hx => h x (by simp [a_own5, hx]))
  have hP12 : P1.sup = P2.m := Option.some.inj (hsup1.symm.trans hP2m)
  have hfound : s.vm.findClass cls = some P1.m.cls := findClass_of_methodNamed hP1m
  cases Option.some.inj (hfoundX.symm.trans hfound)
  obtain ⟨c1, kX', hc1, hk, hord, -, -, hn6⟩ := Cond.instantiable_spec (a' (.instantiable cls 6) (by simp [a_own5]))
  cases Option.some.inj (hc1.symm.trans hfound)
  cases Option.some.inj (hkX.symm.trans hk)
  have hsel0 : selectMethod e.platform s.vm P1.m.cls T.fill0 = .method T.fill0 := by
    obtain ⟨c2, r2, m2, q1, q2, q3, q4, -⟩ := Cond.selects_spec (a' (.selects cls Bundle.tFill0 Bundle.tFill0) (by simp [a_own5]))
    cases Option.some.inj (q1.symm.trans hfound)
    cases Option.some.inj (q2.symm.trans (State.methodFound?_of_named Y.fill0 (by decide)))
    cases Option.some.inj (q3.symm.trans Y.fill0)
    rw [Launch.admits_selectMethod X.admits]; exact q4
  have hselF : selectMethod e.platform s.vm P1.m.cls T.fill = .method T.fill := by
    obtain ⟨c2, r2, m2, q1, q2, q3, q4, -⟩ := Cond.selects_spec (a' (.selects cls Bundle.tFill Bundle.tFill) (by simp [a_own5]))
    cases Option.some.inj (q1.symm.trans hfound)
    cases Option.some.inj (q2.symm.trans (State.methodFound?_of_named Y.fill (by decide)))
    cases Option.some.inj (q3.symm.trans Y.fill)
    rw [Launch.admits_selectMethod X.admits]; exact q4
  obtain ⟨cellS0, hcS0, hiss⟩ := Y.statics
  obtain ⟨u0, hu0⟩ := Cond.staticRefV Y.unassigned L.unassignedStatic L.statics hcS0 hiss (a' (.isRef (.static Bundle.tN "UNASSIGNED_STACK" Bundle.steD)) (by simp [a_own5]))
  obtain ⟨sen, hsen⟩ := Cond.staticRefV Y.sentinel L.sentinelStatic L.statics hcS0 hiss (a' (.isRef (.static Bundle.tN "SUPPRESSED_SENTINEL" Bundle.listD)) (by simp [a_own5]))
  obtain ⟨ci198, i198, fB, hk198, hg198, ha198, hsB, -, hnB, htB, hffB⟩ := Cond.ownField (t := .object "java/lang/Object") Y.found L.cls (by decide +kernel) (a' (.fieldLink Bundle.tN 198 Bundle.tN "backtrace" "Ljava/lang/Object;") (by simp [a_own5])) (a' (.lays Bundle.tN Bundle.tN "backtrace" "Ljava/lang/Object;") (by simp [a_own5])) e.platform hpl
  obtain ⟨cellS, hcS', heS, -, hkeep⟩ := X.same.2.2.2.2.2 T.aS cellS0 hcS0
  have hcellS : W.heap[T.aS]? = some cellS := hcS'
  have hout' : ∀ i, (⟨T.aS, i⟩ : Loc) ∉ ([] : List Loc) := fun i hmem => by cases hmem
  have hknownS : cellS.vm ≠ .unknown := by
    rw [heS]; intro hu
    rw [show cellS0.vm = .unknown from hu] at hiss
    cases hiss
  have hneS : T.aS ≠ a := Nat.ne_of_lt (Nat.lt_of_lt_of_le (Array.getElem?_eq_some_iff.mp hcS0).1 hnew)
  obtain ⟨iM, hffM⟩ := Y.msg
  obtain ⟨tyC, dC, hdC, hdnC⟩ := Cond.laysAt hfound hk Y.cause (a' (.lays cls Bundle.tN "cause" "Ljava/lang/Throwable;") (by simp [a_own5]))
  obtain ⟨tyS, dS, hdS, hdnS⟩ := Cond.laysAt hfound hk Y.stack (a' (.lays cls Bundle.tN "stackTrace" Bundle.steD) (by simp [a_own5]))
  obtain ⟨tyP, dP, hdP, hdnP⟩ := Cond.laysAt hfound hk Y.supp (a' (.lays cls Bundle.tN "suppressedExceptions" Bundle.listD) (by simp [a_own5]))
  obtain ⟨tyM, dM, hdM, hdnM⟩ := Cond.laysAt hfound hk hffM (a' (.lays cls Bundle.tN "detailMessage" "Ljava/lang/String;") (by simp [a_own5]))
  obtain ⟨tyB, dB, hdB, hdnB⟩ := Cond.laysAt hfound hk hffB (a' (.lays cls Bundle.tN "backtrace" "Ljava/lang/Object;") (by simp [a_own5]))
  have bC := Cond.laysApart hdB hdC hdnB hdnC (by rw [hnB, Y.causeName]; decide)
  have bS := Cond.laysApart hdB hdS hdnB hdnS (by rw [hnB, Y.stackName]; decide)
  have bP := Cond.laysApart hdB hdP hdnB hdnP (by rw [hnB, Y.suppName]; decide)
  have hskip : SkipFacts T e.platform s (fun u => u) u0 ((preparedCellV T.toThrowableT (freshCell P1.m.cls kX) a u0 sen).withEntry W.cur) :=
    ⟨{ ci198 := ci198, i198 := i198, fBack := fB }, ⟨hk198, hg198, ha198, hsB⟩, by
      have := fresh_default (c := P1.m.cls) tyB
      rw [htB] at this
      simpa [preparedCellV, Cell.setSlot, Cell.withEntry, Array.getElem?_setIfInBounds, bC, bS, bP, bC.symm, bS.symm, bP.symm, defaultValue] using this, fun _ _ => rfl⟩
  obtain ⟨tm, methC, cdC, kC, vm₁, hnC, -, -, -, -, -, -, -, hW₁, st1⟩ := Steps.initColdS (tb := p.tables) (e := e) (below := below) (s := s) (U := W) X.here hexec X.warmed hpl hown (t := Bundle.initS cls) rfl rfl (Bundle.fit_spec hcls).2
    (a' (.methodLink own ic (Bundle.initS cls)) (by simp [a_own5])) (h (.instanceMethod (Bundle.initS cls)) (by simp [a_own5, Bundle.passSAtoms])) (bytes := bytes) (maxL := 2) (h (.code (Bundle.initS cls) bytes 2 none) (by simp [a_own5, Bundle.passSAtoms]))
    (f := g) hg (a := a) (msg := msg) (rest := .ref a :: rest) hstack hd6
  cases Option.some.inj (hnC.symm.trans hP1m)
  have X₁ := X.noted hW₁
  obtain ⟨vm₂, X₂, st2⟩ := X₁.ctorMessageOffV hexec (g := { g with stack := .ref a :: rest }) hg hsize T L Z LZ M LM (P1 :: P2 :: Ps2)
    (fun P hP => by
      rcases List.mem_cons.mp hP with rfl | hP
      · exact L1
      · rcases List.mem_cons.mp hP with rfl | hP
        · exact L2
        · exact hL2 P hP) ⟨hP12, hl2, hlk2⟩ (u0 := u0) (sen := sen) (self := a) hmsg (cell := freshCell P1.m.cls kX) (cellS := cellS)
    hcell (fun _ => by simp) (by simp) rfl rfl hsel0 hselF hcellS hneS hknownS (by rw [hkeep _ (hout' _)]; exact hu0) (by rw [hkeep _ (hout' _)]; exact hsen)
    (Takes.of_laid hk hord tyC (by rw [Y.causeType]; rfl)) (Takes.of_laid hk hord tyS (by rw [Y.stackType]; exact fits_refV_array _ u0)) (Takes.of_laid hk hord tyP (by rw [Y.suppType]; exact fits_refV_object _ sen))
    (Takes.of_laid hk hord tyM (by rw [Y.msgType]; exact fits_refV_object _ ⟨msg, hmsg⟩)) Y.objLocals hskip htr [] hd6
    (by simp only [List.length_cons, hlen2, List.length_nil]; omega) (by simp only [List.length_cons, hlen2, List.length_nil]; omega)
  obtain ⟨hwalk, hrun, hended, hWU, hsame⟩ := X₂.athrowLeaves hexec (g := { g with stack := .ref a :: rest, pc := g.pc + 3 }) hg hlocked hentered hout (a := a) (rest := rest) rfl hd9
  have hlt : a < ((W.setVm vm₁).setVm vm₂).heap.size := (Array.getElem?_eq_some_iff.mp hcell).1
  have hU := heapAt_setCell_self (s := (W.setVm vm₁).setVm vm₂) (plainBareV T.toThrowableT (freshCell P1.m.cls kX) a u0 sen msg) hlt
  refine ⟨_, st1 _ (fun acts => ?_), hrun, hended, hWU, hsame.weaken (fun y hy hlt' => ?_) (Nat.le_refl _) (Nat.le_refl _), _, hU, rfl, rfl⟩
  · rw [doInvoke_state]
    exact st2 _ hwalk
  · exfalso
    have hb : y.base = a := by
      simp only [List.nil_append, List.mem_cons, List.not_mem_nil, or_false] at hy
      rcases hy with rfl | rfl | rfl | rfl | rfl <;> rfl
    rw [hb] at hlt'
    exact Nat.not_lt.mpr hnew hlt'
variable {Qc : Array Value → State → Outcome → State → Prop} {XC : String → State → State → Prop} {free : Addr → Prop} {ls : Array Slot} {rest : List Value}
set_option maxHeartbeats 2000000 in
theorem a_throw5 {cc : ByteArray} {pc w : Nat} {il : Instr} (hexec : p.tables.exec = Jvm.exec) (hb : c.code = cc) (hl : l.stackTraces = false) {own cls text : String} {ik is ic ix mc ms sa : Nat} {A : Nat → Prop} {bytes : ByteArray}
    (g0 : decode bytes 0 = .ok (.aload_n 0, 1)) (g1 : decode bytes 1 = .ok (.aload_n 1, 1)) (g2 : decode bytes 2 = .ok (.invokespecial ix, 3)) (g5 : decode bytes 5 = .ok (.return_, 1))
    (hown : s.vm.findClass own = some m.cls) (hcls : Bundle.fit cls = true)
    (hk : (Cond.classLink own ik cls).before args s = true) (hini : (Cond.initialized cls).before args s = true) (hstr : vk_R own is text sa s) (hat : ∀ w ∈ a_at5 own ic cls ix bytes, w.before args s = true)
    (hgood : ∀ w ∈ Cond.classLink own ik cls :: Cond.initialized cls :: a_at5 own ic cls ix bytes, vx_ot w = true)
    (hU : vx_Zq Bundle.tN "UNASSIGNED_STACK" Bundle.steD A s s.heap) (hN : vx_Zq Bundle.tN "SUPPRESSED_SENTINEL" Bundle.listD A s s.heap) (hS : va_S A s.heap H locs) (hsize : ls.size = c.maxLocals)
    (d0 : decode cc pc = .ok (.new ik, 3)) (d3 : decode cc (pc + 3) = .ok (.dup, 1)) (hil : (il = .ldc is ∧ w = 2) ∨ (il = .ldc_w is ∧ w = 3)) (d4 : decode cc (pc + 4) = .ok (il, w)) (d6 : decode cc (pc + 4 + w) = .ok (.invokespecial ic, 3)) (d9 : decode cc (pc + 4 + w + 3) = .ok (.athrow, 1))
    (hout : ∀ x ∈ c.exceptionTable.toList, covers x (pc + 4 + w + 3) = false)
    (hRframes : 5 < R.frames) (hRlocals : (rest.map fun v => v.category).sum + 82 ≤ R.locals) (hRcells : cells + 1 ≤ R.cells) (hRslots : slots + 6 ≤ R.slots) (hlocks : meth.locks = false)
    (hx : ∀ t : State, s.vm.Alike t.vm → H.size ≤ t.heap.size → (∀ q : Nat, q < H.size → t.heap[q]? = H[q]?) → XC cls s t)
    (hf : ∀ z ∈ locs, free z.base) (hc : cells + 1 ≤ mc) (hs : slots + 6 ≤ ms) :
    W p l e R s m args below meth c H locs cells slots (vx_MQ below Qc XC args s mc ms free) (F0 m pc ls rest) := by
  intro T hT X
  have htr : e.platform.stackTraces = false := (show e.platform.stackTraces = l.stackTraces by rw [X.admits.platform]).trans hl
  have Y := vx_rebase X (R' := { frames := R.frames, locals := R.locals, cells := 1, slots := 6 }) (Nat.le_refl _) (Nat.le_refl _) hRcells hRslots
  obtain ⟨s', hA⟩ : ∃ z, z = (T.setVm s.vm).setFrames (.invoking m args :: below) := ⟨_, rfl⟩
  rw [← hA] at Y
  have hvm : s'.vm = s.vm := by rw [hA]; rfl
  have hhp : s'.heap = H := by rw [hA]; exact hT
  have hW0 : s.WarmedH s'.vm := by rw [hvm]; exact State.WarmedH.refl s
  have hat' : ∀ w ∈ a_at5 own ic cls ix bytes, w.before args s' = true := fun w hw => vx_ot_at hW0 hvm.symm (hgood w (List.mem_cons_of_mem _ (List.mem_cons_of_mem _ hw))) (hat w hw)
  have hk' : (Cond.classLink own ik cls).before args s' = true := vx_ot_at hW0 hvm.symm (hgood _ List.mem_cons_self) hk
  have hini' : (Cond.initialized cls).before args s' = true := vx_ot_at hW0 hvm.symm (hgood _ (List.mem_cons_of_mem _ List.mem_cons_self)) hini
  have hU' : vx_Zq Bundle.tN "UNASSIGNED_STACK" Bundle.steD A s' s'.heap := by rw [hhp]; exact vx_Zq.moved hW0.alike (hU.kept hS.2.1)
  have hN' : vx_Zq Bundle.tN "SUPPRESSED_SENTINEL" Bundle.listD A s' s'.heap := by rw [hhp]; exact vx_Zq.moved hW0.alike (hN.kept hS.2.1)
  have h : ∀ w ∈ a_own5 own ic cls ix bytes, w.before args s' = true := vx_own hat' (vx_isRefq hU'.1) (vx_isRefq hN'.1) hU'.2.word hN'.2.word
  have hown' : s'.vm.findClass own = some m.cls := by rw [hvm]; exact hown
  have hins : (Cond.instantiable cls 6).before args s' = true := h _ (by simp [a_own5])
  obtain ⟨vm₁, cX, kX, hfX, hkX, -, -, X₁, st1⟩ := Y.newCold hexec (own := own) (C := cls) (index := ik) (n := 6) hown' hk' hins hini'
    (g := F0 m pc ls rest) rfl (by rw [hb]; exact d0) (Nat.le_refl _) (Nat.le_refl _)
  generalize hT1 : (T.setVm vm₁).pushCell { cls := cX, slots := kX.instanceTypes.map defaultValue, vm := .none } = T1 at X₁ st1
  have hcat : (Value.ref T.heap.size).category = 1 := rfl
  have hcellA : T1.heap[T.heap.size]? = some (freshCell cX kX) := by rw [← hT1]; exact State.heap_pushCell_size _ _
  have d3' : decode c.code (pc + 3) = .ok (.dup, 1) := by rw [hb]; exact d3
  have d4' : decode c.code (pc + 4) = .ok (il, w) := by rw [hb]; exact d4
  have hstr' : vk_R own is text sa s' := vk_R.warm hW0 hstr
  obtain ⟨U, hsteps, hrun, hend, hW, hsame, ce, hce, hcev, hcec⟩ := a_ctorThrow X₁ hexec htr (own := own) (cls := cls) g0 g1 g2 g5 hown' hcls h hfX hkX hcellA (by rw [hhp, hT]; exact Nat.le_refl _) (msg := .ref sa) rfl
    (g := { method := m, pc := pc + 4 + w, locals := ls, stack := .ref sa :: .ref T.heap.size :: .ref T.heap.size :: rest, locked := none }) rfl hsize rfl rfl (rest := rest) rfl
    (by rw [hb]; exact d6) (by rw [hb]; exact d9) hout hRframes (by simp only [List.map_cons, List.sum_cons, hcat]; omega) hlocks
  obtain ⟨f1, f2⟩ := vx_frame hsame
  rw [hhp] at f1 f2
  have hWs : s.WarmedH U.vm := State.WarmedH.trans hW0 hW
  have hcl : s.vm.findClass cls = some ce.cls := by
    rw [hcec, ← hvm]
    exact hfX
  have hall : s.sameButNew ({ U with vm := s.vm } : State) locs mc ms := by
    subst hA
    obtain ⟨e1, e2⟩ := hsame
    rw [State.setFrames_setFrames] at e1
    have h2 : (T.setVm s.vm).sameButNew ({ U with vm := s.vm } : State) [] (0 + 1) (0 + 6) := ⟨e1, e2⟩
    have h3 := X.same.trans h2
    rw [List.append_nil] at h3
    exact h3.mono hc hs
  refine ⟨U, ?_, .threw T.heap.size, hrun, hend, Or.inr ⟨T.heap.size, rfl, cls, ce, locs, hx U hWs.alike f1 (fun q hq => f2 q hq (fun z hz => nomatch hz)), hce, hcev, hcl, hWs, hall, hf⟩⟩
  refine st1 _ ?_
  show Steps p.tables e below (T1.setTop { method := m, pc := pc + 3, locals := ls, stack := .ref T.heap.size :: rest, locked := none }) _
  jvm_step X₁.here [X₁.here.top, hexec, d3', Value.category]
  rcases hil with ⟨rfl, rfl⟩ | ⟨rfl, rfl⟩
  · exact X₁.ldcString hexec (own := own) (text := text) (index := is) (a := sa) hown' hstr'.1 hstr'.2
      (g := { method := m, pc := pc + 4, locals := ls, stack := .ref T.heap.size :: .ref T.heap.size :: rest, locked := none }) rfl d4' _ hsteps
  · exact X₁.ldcStringW hexec (own := own) (text := text) (index := is) (a := sa) hown' hstr'.1 hstr'.2
      (g := { method := m, pc := pc + 4, locals := ls, stack := .ref T.heap.size :: .ref T.heap.size :: rest, locked := none }) rfl d4' _ hsteps
end AT5
end
section
/-! What the tables say of the methods, the calls, the throws: by evaluation -/
theorem a_chk_app (A B : List (ByteArray × List (Nat × Instr × Nat))) : a_chk (A ++ B) = (a_chk A && a_chk B) := List.all_append
theorem a_chk_prog : a_chk a_prog = true := by
  unfold a_prog
  simp only [a_chk_app, a_chk_prog_0, a_chk_prog_1, a_chk_prog_2, a_chk_prog_3, a_chk_prog_4, a_chk_prog_5, a_chk_prog_6, a_chk_prog_7, a_chk_prog_8, a_chk_prog_9, a_chk_prog_10, a_chk_prog_11, a_chk_prog_12, a_chk_prog_13, a_chk_prog_14, a_chk_prog_15, Bool.and_self]
theorem a_ins_in {mi pc : Nat} {i : Instr} {len : Nat} (h : a_ins mi pc = some (i, len)) : (pc, i, len) ∈ a_codeL mi := by
  unfold a_ins at h
  rw [Option.map_eq_some_iff] at h
  obtain ⟨e, h1, h2⟩ := h
  have h3 := List.find?_some h1
  simp only [beq_iff_eq] at h3
  have h4 := List.mem_of_find?_eq_some h1
  obtain ⟨e1, e2⟩ := e
  simp only at h2 h3
  subst h2; subst h3
  exact h4
theorem a_code_in {mi : Nat} {e : Nat × Instr × Nat} (h : e ∈ a_codeL mi) : mi ≠ 301 → (a_codeB mi, a_codeL mi) ∈ a_prog := by
  intro hm
  unfold a_codeL at h
  rw [if_neg hm] at h
  unfold a_codeB a_codeL
  rw [if_neg hm, if_neg hm]
  rw [List.getD_eq_getElem?_getD] at h ⊢
  cases hq : a_prog[mi]? with
  | none => rw [hq] at h; exact absurd h List.not_mem_nil
  | some x => exact List.mem_of_getElem? hq
theorem a_ins_ok {mi pc : Nat} {i : Instr} {len : Nat} (h : a_ins mi pc = some (i, len)) : decode (a_codeB mi) pc = .ok (i, len) := by
  have h1 := a_ins_in h
  have key : ∀ (b : ByteArray) (L : List (Nat × Instr × Nat)), a_chk [(b, L)] = true → (pc, i, len) ∈ L → decode b pc = .ok (i, len) := by
    intro b L hc hm
    simp only [a_chk, List.all_cons, List.all_nil, Bool.and_true] at hc
    have := List.all_eq_true.mp hc _ hm
    exact of_decide_eq_true this
  by_cases hm : mi = 301
  · subst hm
    have e1 : a_codeL 301 = a_lawP := if_pos rfl
    have e2 : a_codeB 301 = code := if_pos rfl
    rw [e1] at h1
    rw [e2]
    exact key _ _ a_chk_lawP h1
  · have h2 := a_code_in h1 hm
    refine key _ (a_codeL mi) ?_ h1
    have := List.all_eq_true.mp a_chk_prog _ h2
    simp only [a_chk, List.all_cons, List.all_nil, Bool.and_true]
    exact this
def a_isSw (i : Instr) : Bool := match i with
  | .tableswitch .. => true
  | _ => false
def a_lenB (L : List (Nat × Instr × Nat)) : Bool := L.all fun e => a_isSw e.2.1 || decide (e.2.2 = a_len e.2.1)
theorem a_len_law : a_lenB a_lawP = true := by decide +kernel
theorem a_len_prog : (a_prog.all fun m => a_lenB m.2) = true := by decide +kernel
theorem a_ins_len {mi pc : Nat} {i : Instr} {len : Nat} (h : a_ins mi pc = some (i, len)) (hs : a_isSw i = false) : len = a_len i := by
  have h1 := a_ins_in h
  have key : a_lenB (a_codeL mi) = true := by
    by_cases hm : mi = 301
    · subst hm
      have e1 : a_codeL 301 = a_lawP := if_pos rfl
      rw [e1]; exact a_len_law
    · exact List.all_eq_true.mp a_len_prog _ (a_code_in h1 hm)
  have := List.all_eq_true.mp key _ h1
  simp only [hs, Bool.false_or, decide_eq_true_eq] at this
  exact this
def a_hh (mi : Nat) : List (Nat × Nat × Nat × Nat) := (a_hnd mi).map (fun x => (x.1, x.2.1, x.2.2.1, x.2.2.2.1))
noncomputable def a_cw (mi : Nat) : Cond := if (a_hnd mi).isEmpty = true then .code (a_y mi) (a_codeB mi) (a_mxl mi) (a_rty mi) else .codeWith (a_y mi) (a_codeB mi) (a_mxl mi) (a_rty mi) (a_hh mi)
noncomputable def a_mthB (mi : Nat) : Bool := a_at (a_mrow mi).2.2.2.2.2.2.2 (a_cw mi) && (plainName (a_y mi).cls && (decide ((a_y mi).cls ≠ "java/lang/invoke/MethodHandle") && (decide ((a_y mi).cls ≠ "java/lang/invoke/VarHandle") && (decide (a_mxl mi ≤ 41) &&
  (a_hnd mi).all fun x => a_at (x.2.2.2.2.2.1, x.2.2.2.2.2.2) (.classLink (a_cN (a_own mi)) x.2.2.2.1 (a_exN x.2.2.2.2.1)) && (decide (x.2.2.2.1 ≠ 0) && decide (x.2.2.2.2.1 < 6))))))
theorem a_mth_0 : ((List.range' 0 16).all a_mthB) = true := by decide +kernel
theorem a_mth_16 : ((List.range' 16 16).all a_mthB) = true := by decide +kernel
theorem a_mth_32 : ((List.range' 32 16).all a_mthB) = true := by decide +kernel
theorem a_mth_48 : ((List.range' 48 16).all a_mthB) = true := by decide +kernel
theorem a_mth_64 : ((List.range' 64 16).all a_mthB) = true := by decide +kernel
theorem a_mth_80 : ((List.range' 80 16).all a_mthB) = true := by decide +kernel
theorem a_mth_96 : ((List.range' 96 16).all a_mthB) = true := by decide +kernel
theorem a_mth_112 : ((List.range' 112 16).all a_mthB) = true := by decide +kernel
theorem a_mth_128 : ((List.range' 128 16).all a_mthB) = true := by decide +kernel
theorem a_mth_144 : ((List.range' 144 16).all a_mthB) = true := by decide +kernel
theorem a_mth_160 : ((List.range' 160 16).all a_mthB) = true := by decide +kernel
theorem a_mth_176 : ((List.range' 176 16).all a_mthB) = true := by decide +kernel
theorem a_mth_192 : ((List.range' 192 16).all a_mthB) = true := by decide +kernel
theorem a_mth_208 : ((List.range' 208 16).all a_mthB) = true := by decide +kernel
theorem a_mth_224 : ((List.range' 224 16).all a_mthB) = true := by decide +kernel
theorem a_mth_240 : ((List.range' 240 16).all a_mthB) = true := by decide +kernel
theorem a_mth_256 : ((List.range' 256 16).all a_mthB) = true := by decide +kernel
theorem a_mth_272 : ((List.range' 272 16).all a_mthB) = true := by decide +kernel
theorem a_mth_288 : ((List.range' 288 13).all a_mthB) = true := by decide +kernel
theorem a_mth_at {mi : Nat} (h : mi < 301) : a_mthB mi = true := by
  have key : ∀ (k n : Nat), ((List.range' k n).all a_mthB) = true → k ≤ mi → mi < k + n → a_mthB mi = true := fun k n hk h1 h2 => List.all_eq_true.mp hk mi (List.mem_range'_1.mpr ⟨h1, h2⟩)
  rcases Nat.lt_or_ge mi 16 with q | q
  · exact key 0 16 a_mth_0 (by omega) (by omega)
  rcases Nat.lt_or_ge mi 32 with q | q
  · exact key 16 16 a_mth_16 (by omega) (by omega)
  rcases Nat.lt_or_ge mi 48 with q | q
  · exact key 32 16 a_mth_32 (by omega) (by omega)
  rcases Nat.lt_or_ge mi 64 with q | q
  · exact key 48 16 a_mth_48 (by omega) (by omega)
  rcases Nat.lt_or_ge mi 80 with q | q
  · exact key 64 16 a_mth_64 (by omega) (by omega)
  rcases Nat.lt_or_ge mi 96 with q | q
  · exact key 80 16 a_mth_80 (by omega) (by omega)
  rcases Nat.lt_or_ge mi 112 with q | q
  · exact key 96 16 a_mth_96 (by omega) (by omega)
  rcases Nat.lt_or_ge mi 128 with q | q
  · exact key 112 16 a_mth_112 (by omega) (by omega)
  rcases Nat.lt_or_ge mi 144 with q | q
  · exact key 128 16 a_mth_128 (by omega) (by omega)
  rcases Nat.lt_or_ge mi 160 with q | q
  · exact key 144 16 a_mth_144 (by omega) (by omega)
  rcases Nat.lt_or_ge mi 176 with q | q
  · exact key 160 16 a_mth_160 (by omega) (by omega)
  rcases Nat.lt_or_ge mi 192 with q | q
  · exact key 176 16 a_mth_176 (by omega) (by omega)
  rcases Nat.lt_or_ge mi 208 with q | q
  · exact key 192 16 a_mth_192 (by omega) (by omega)
  rcases Nat.lt_or_ge mi 224 with q | q
  · exact key 208 16 a_mth_208 (by omega) (by omega)
  rcases Nat.lt_or_ge mi 240 with q | q
  · exact key 224 16 a_mth_224 (by omega) (by omega)
  rcases Nat.lt_or_ge mi 256 with q | q
  · exact key 240 16 a_mth_240 (by omega) (by omega)
  rcases Nat.lt_or_ge mi 272 with q | q
  · exact key 256 16 a_mth_256 (by omega) (by omega)
  rcases Nat.lt_or_ge mi 288 with q | q
  · exact key 272 16 a_mth_272 (by omega) (by omega)
  exact key 288 13 a_mth_288 (by omega) (by omega)
theorem a_cw_in {mi : Nat} (h : mi < 301) : a_cw mi ∈ a_wG := by
  have := a_mth_at h
  unfold a_mthB at this
  rw [Bool.and_eq_true] at this
  exact a_at_in this.1
theorem a_plain {mi : Nat} (h : mi < 301) : plainName (a_y mi).cls = true ∧ ((a_y mi).cls ≠ "java/lang/invoke/MethodHandle" ∧ (a_y mi).cls ≠ "java/lang/invoke/VarHandle") ∧ a_mxl mi ≤ 41 := by
  have := a_mth_at h
  unfold a_mthB at this
  simp only [Bool.and_eq_true, decide_eq_true_eq] at this
  exact ⟨this.2.1, ⟨this.2.2.1, this.2.2.2.1⟩, this.2.2.2.2.1⟩
theorem a_hnd_in {mi : Nat} (h : mi < 301) {x : Nat × Nat × Nat × Nat × Nat × Nat × Nat} (hx : x ∈ a_hnd mi) : Cond.classLink (a_cN (a_own mi)) x.2.2.2.1 (a_exN x.2.2.2.2.1) ∈ a_wG ∧ x.2.2.2.1 ≠ 0 ∧ x.2.2.2.2.1 < 6 := by
  have h1 := a_mth_at h
  unfold a_mthB at h1
  simp only [Bool.and_eq_true, decide_eq_true_eq] at h1
  have h2 := List.all_eq_true.mp h1.2.2.2.2.2 x hx
  simp only [Bool.and_eq_true, decide_eq_true_eq] at h2
  exact ⟨a_at_in h2.1, h2.2.1, h2.2.2⟩
abbrev AI : Type := Nat × Nat × Nat × (Nat × Nat) × (Nat × Nat) × (Nat × Nat) × (Nat × Nat)
def a_np (mt : Nat) : Option Nat := (parseMethodDescriptor (a_dsc mt)).map (fun d => d.parameters.length)
def a_invB (own : Nat) (e : AI) : Bool := decide (e.2.2.1 < 301) && (a_at e.2.2.2.2.2.2 (.initialized (a_y e.2.2.1).cls) && (match e.2.1 with
  | 0 => a_at e.2.2.2.1 (.methodLink (a_cN own) e.1 (a_y e.2.2.1)) && (a_at e.2.2.2.2.1 (.instanceMethod (a_y e.2.2.1)) && (a_at e.2.2.2.2.2.1 (.selects (a_y e.2.2.1).cls (a_y e.2.2.1) (a_y e.2.2.1)) && (decide ((a_np e.2.2.1).map (· + 1) = some (a_nrg e.2.2.1)) && ((a_hnd e.2.2.1).isEmpty && decide (a_own e.2.2.1 < 13)))))
  | 1 => a_at e.2.2.2.1 (.methodLink (a_cN own) e.1 (a_y e.2.2.1)) && (a_at e.2.2.2.2.1 (.static (a_y e.2.2.1)) && decide (a_np e.2.2.1 = some (a_nrg e.2.2.1)))
  | 2 => a_at e.2.2.2.1 (.methodLink (a_cN own) e.1 (a_y e.2.2.1)) && (a_at e.2.2.2.2.1 (.instanceMethod (a_y e.2.2.1)) && (decide (a_nam e.2.2.1 = "<init>") && (decide (a_rty e.2.2.1 = none) && (decide ((a_np e.2.2.1).map (· + 1) = some (a_nrg e.2.2.1)) && (a_hnd e.2.2.1).isEmpty))))
  | 3 => decide ((a_chs e.2.2.2.1.1)[e.2.2.2.1.2]? = some (.methodLinkNest (a_cN own) e.1 (a_y e.2.2.1) "Juryreel")) && (a_at e.2.2.2.2.1 (.instanceMethod (a_y e.2.2.1)) && (decide (a_nam e.2.2.1 = "<init>") && (decide (a_rty e.2.2.1 = none) && (decide ((a_np e.2.2.1).map (· + 1) = some (a_nrg e.2.2.1)) && (a_hnd e.2.2.1).isEmpty))))
  | _ => false))
theorem a_inv_ok : a_all a_inv a_invB = true := by decide +kernel
/-- throws: class, pool numbers of class and constructor, exception, pool number of its superclass's constructor -/
def a_thx : List (Nat × Nat × Nat × Nat × Nat) := [(11, 101, 105, 2, 7), (11, 136, 140, 3, 7), (11, 166, 170, 4, 13), (11, 539, 543, 5, 7), (11, 561, 565, 0, 7), (11, 94, 98, 1, 7)]
def a_byt (ix : Nat) : ByteArray := if ix = 13 then ⟨#[0x2a, 0x2b, 0xb7, 0x00, 0x0d, 0xb1]⟩ else ⟨#[0x2a, 0x2b, 0xb7, 0x00, 0x07, 0xb1]⟩
def a_thxW (r : Nat × Nat × Nat × Nat × Nat) : List Cond := Cond.classLink (a_cN r.1) r.2.1 (a_exN r.2.2.2.1) :: Cond.initialized (a_exN r.2.2.2.1) :: a_at5 (a_cN r.1) r.2.2.1 (a_exN r.2.2.2.1) r.2.2.2.2 (a_byt r.2.2.2.2)
def a_thxB (r : Nat × Nat × Nat × Nat × Nat) : Bool := (a_thxW r).all fun w => vx_ot w && (goodWord w || a_ng w)
theorem a_thx_ok : a_thx.all a_thxB = true := by decide +kernel
theorem a_thx_in0 : ∀ w ∈ a_thxW (11, 101, 105, 2, 7), w ∈ lw_tbl := by decide +kernel
theorem a_thx_in1 : ∀ w ∈ a_thxW (11, 136, 140, 3, 7), w ∈ lw_tbl := by decide +kernel
theorem a_thx_in2 : ∀ w ∈ a_thxW (11, 166, 170, 4, 13), w ∈ lw_tbl := by decide +kernel
theorem a_thx_in3 : ∀ w ∈ a_thxW (11, 539, 543, 5, 7), w ∈ lw_tbl := by decide +kernel
theorem a_thx_in4 : ∀ w ∈ a_thxW (11, 561, 565, 0, 7), w ∈ lw_tbl := by decide +kernel
theorem a_thx_in5 : ∀ w ∈ a_thxW (11, 94, 98, 1, 7), w ∈ lw_tbl := by decide +kernel
theorem a_thx_in {r : Nat × Nat × Nat × Nat × Nat} (h : r ∈ a_thx) : ∀ w ∈ a_thxW r, w ∈ lw_tbl := by
  simp only [a_thx, List.mem_cons, List.not_mem_nil, or_false] at h
  rcases h with rfl | rfl | rfl | rfl | rfl | rfl
  · exact a_thx_in0
  · exact a_thx_in1
  · exact a_thx_in2
  · exact a_thx_in3
  · exact a_thx_in4
  · exact a_thx_in5
theorem a_byt_ok : ∀ r ∈ a_thx, decode (a_byt r.2.2.2.2) 0 = .ok (.aload_n 0, 1) ∧ decode (a_byt r.2.2.2.2) 1 = .ok (.aload_n 1, 1) ∧ decode (a_byt r.2.2.2.2) 2 = .ok (.invokespecial r.2.2.2.2, 3) ∧ decode (a_byt r.2.2.2.2) 5 = .ok (.return_, 1) ∧ r.2.2.2.1 < 6 := by decide +kernel
theorem a_fit : ∀ k, k < 6 → Bundle.fit (a_exN k) = true := by decide +kernel
/-- the row of a throw -/
def a_thk (r : AT) : Option (Nat × Nat × Nat × Nat × Nat) := a_thx.find? fun q => q.1 == r.2.2.1 && (q.2.1 == r.2.2.2.1 && (q.2.2.1 == r.2.2.2.2.2.2.1 && q.2.2.2.1 == r.2.2.2.2.2.2.2.1))
noncomputable def a_thrB (r : AT) : Bool := (a_thk r).isSome && (decide (a_own r.1 = r.2.2.1) && ((a_hnd r.1).isEmpty && (decide (a_ins r.1 r.2.1 = some (.new r.2.2.2.1, 3)) && (decide (a_ins r.1 (r.2.1 + 3) = some (.dup, 1)) &&
  (if r.2.2.2.2.2.1 = true then decide (a_ins r.1 (r.2.1 + 4) = some (.ldc_w r.2.2.2.2.1, 3)) && (decide (a_ins r.1 (r.2.1 + 7) = some (.invokespecial r.2.2.2.2.2.2.1, 3)) && decide (a_ins r.1 (r.2.1 + 10) = some (.athrow, 1)))
  else decide (a_ins r.1 (r.2.1 + 4) = some (.ldc r.2.2.2.2.1, 2)) && (decide (a_ins r.1 (r.2.1 + 6) = some (.invokespecial r.2.2.2.2.2.2.1, 3)) && decide (a_ins r.1 (r.2.1 + 9) = some (.athrow, 1))))))))
theorem a_thr_ok : a_thr.all a_thrB = true := by decide +kernel
end
section
/-! What the abstract machine's run says, the machine does -/
def a_rm (d : Nat) (q : AR) : Room := { frames := d + 5, cells := q.2.2.1, slots := q.2.2.2, locals := 60 + 60 * d }
def a_Pc (D : AD) (B : Nat) (ad : Nat → Nat) (as : List Value) (h : AH) : Array Value → State → Prop := fun a U => a = (as.map (a_ren ad)).toArray ∧ a_H D B ad h U.heap ∧ a_K D B U ∧ B ≤ U.heap.size
def a_Qc (D : AD) (B : Nat) (ad : Nat → Nat) (h : AH) (q : AR) : Array Value → State → Outcome → State → Prop := fun _ st o t => ∃ (v : Option Value) (ad' : Nat → Nat), q.1 = .inl v ∧ o = .returned (v.map (a_ren ad')) ∧ a_same h.length ad ad' ∧ a_H D B ad' q.2.1 t.heap ∧ va_F (fun x => B ≤ x) st t
def a_XC (D : AD) (B : Nat) (ad : Nat → Nat) (h : AH) (q : AR) : String → State → State → Prop := fun E st t => ∃ (k : Nat) (ad' : Nat → Nat), q.1 = .inr k ∧ E = a_exN k ∧ a_same h.length ad ad' ∧ a_H D B ad' q.2.1 t.heap ∧ va_F (fun x => B ≤ x) st t
theorem a_Pc_blind {D : AD} {B : Nat} {ad : Nat → Nat} {as : List Value} {h : AH} : FrameBlind (a_Pc D B ad as h) := fun _ _ _ _ hp => ⟨hp.1, hp.2.1, hp.2.2.1.calling, hp.2.2.2⟩
theorem a_H.keep {D : AD} {B : Nat} {ad : Nat → Nat} {h : AH} {H H1 : Heap} (hH : a_H D B ad h H) (o : ∀ q, q < H.size → H1[q]? = H[q]?) : a_H D B ad h H1 := ⟨fun k x hk => by
  obtain ⟨cell, c1, c2⟩ := hH.1 k x hk
  exact ⟨cell, by rw [o _ (hH.lt (List.getElem?_eq_some_iff.mp hk).1)]; exact c1, c2⟩, hH.2.1, hH.2.2⟩
/-- a callee that doesn't throw here -/
theorem a_toMet {l : Launch} {y : MethodName} {ws : List Cond} {rm : Room} {Pc : Array Value → State → Prop} {D : AD} {B : Nat} {ad : Nat → Nat} {h : AH} {q : AR} {mc ms : Nat} {free : Addr → Prop} {v : Option Value} (hM : vx_Met l y ws rm Pc (a_Qc D B ad h q) (a_XC D B ad h q) mc ms free) (hq : q.1 = .inl v) : Met l y ws rm Pc (a_Qc D B ad h q) mc ms free := by
  intro p e ha hc hk s m args below hf happ hP hK
  obtain ⟨n, o, h1, h2, h3, h4⟩ := hM p e ha hc hk s m args below hf happ hP hK
  refine ⟨n, o, h1, h2, h3, ?_⟩
  rcases h4 with h4 | ⟨q9, -, E, ce, L, ⟨k, ad', g1, -⟩, -⟩
  · exact h4
  · rw [hq] at g1; cases g1
section AX
variable {p : Program} {l : Launch} {e : Env} {R : Room} {s : State} {m : MethodId} {args : Array Value} {below : List Frame} {meth : Method} {c : Code} {H : Heap} {locs : List Loc} {cells slots : Nat} {Q : State → Prop} {pc : Nat} {ls : Array Slot} {st0 rest : List Value} {D : AD} {B : Nat} {ad : Nat → Nat} {h : AH} {H0 : Heap} {A : Array Value} {q : AR} {mc ms : Nat}
theorem a_runK (hr : vx_Run p l e R s m args below meth c H locs cells slots mc ms (F0 m pc ls st0) rest (a_Qc D B ad h q A) (a_XC D B ad h q) (fun x => B ≤ x)) (hS : va_S (fun x => B ≤ x) H0 H locs)
    (k1 : ∀ (v : Option Value) (ad' : Nat → Nat) (H' : Heap) (locs' : List Loc), q.1 = .inl v → a_same h.length ad ad' → a_H D B ad' q.2.1 H' → va_S (fun x => B ≤ x) H0 H' locs' → W p l e R s m args below meth c H' locs' (cells + mc) (slots + ms) Q (F0 m (pc + 3) ls ((v.map (a_ren ad')).toList ++ rest)))
    (k2 : ∀ (k : Nat) (ad' : Nat → Nat) (H' : Heap) (locs' : List Loc) (q9 : Nat) (ce : Cell), q.1 = .inr k → a_same h.length ad ad' → a_H D B ad' q.2.1 H' → va_S (fun x => B ≤ x) H0 H' locs' → H'[q9]? = some ce → ce.vm = .none → s.vm.findClass (a_exN k) = some ce.cls → vx_W p l e R s m args below meth c H' locs' (cells + mc) (slots + ms) Q (F0 m pc ls rest) q9) : W p l e R s m args below meth c H locs cells slots Q (F0 m pc ls st0) := by
  intro T hT X
  rcases hr T hT X with ⟨v, st₀, t, T', L, h0, X', hL, e1, e2, ⟨v', ad', g1, g2, g3, g4, g5⟩, st⟩ | ⟨q9, st₀, t, T', L, E, ce, h0, X', hL, e1, e2, ⟨k, ad', g1, g2, g3, g4, g5⟩, hce, hcv, hcl, st⟩
  · obtain ⟨-, -, z3⟩ := vx_keep h0 e1 hS (fun q _ hq => hq) (fun q hq => hq) hL g5
    have hv : v = v'.map (a_ren ad') := by cases g2; rfl
    subst hv
    obtain ⟨t2, a1, b1⟩ := k1 v' ad' T'.heap (locs ++ L) g1 g3 (by rw [e1]; exact g4) z3 T' rfl X'
    exact ⟨t2, st t2 a1, b1⟩
  · obtain ⟨-, -, z3⟩ := vx_keep h0 e1 hS (fun q _ hq => hq) (fun q hq => hq) hL g5
    subst g2
    obtain ⟨t2, a1, b1⟩ := k2 k ad' T'.heap (locs ++ L) q9 ce g1 g3 (by rw [e1]; exact g4) z3 (by rw [e1]; exact hce) hcv hcl T' rfl X'
    exact ⟨t2, st.trans a1, b1⟩
theorem a_runM (hr : va_Run p l e R s m args below meth c H locs cells slots mc ms (F0 m pc ls st0) rest (a_Qc D B ad h q A) (fun x => B ≤ x)) (hS : va_S (fun x => B ≤ x) H0 H locs)
    (k1 : ∀ (v : Option Value) (ad' : Nat → Nat) (H' : Heap) (locs' : List Loc), q.1 = .inl v → a_same h.length ad ad' → a_H D B ad' q.2.1 H' → va_S (fun x => B ≤ x) H0 H' locs' → W p l e R s m args below meth c H' locs' (cells + mc) (slots + ms) Q (F0 m (pc + 3) ls ((v.map (a_ren ad')).toList ++ rest))) : W p l e R s m args below meth c H locs cells slots Q (F0 m pc ls st0) := by
  intro T hT X
  obtain ⟨v, st₀, t, T', L, h0, X', hL, e1, e2, ⟨v', ad', g1, g2, g3, g4, g5⟩, st⟩ := hr T hT X
  obtain ⟨-, -, z3⟩ := vx_keep h0 e1 hS (fun q _ hq => hq) (fun q hq => hq) hL g5
  have hv : v = v'.map (a_ren ad') := by cases g2; rfl
  subst hv
  obtain ⟨t2, a1, b1⟩ := k1 v' ad' T'.heap (locs ++ L) g1 g3 (by rw [e1]; exact g4) z3 T' rfl X'
  exact ⟨t2, st t2 a1, b1⟩
/-- what holds of a method's body -/
def a_Cx (p : Program) (l : Launch) (s : State) (m : MethodId) (args : Array Value) (meth : Method) (c : Code) (mi : Nat) (D : AD) (B : Nat) : Prop :=
  p.tables.exec = Jvm.exec ∧ l.stackTraces = false ∧ c.code = a_codeB mi ∧ s.vm.findClass (a_cN (a_own mi)) = some m.cls ∧ (a_ini mi = true → meth.name = "<init>") ∧ (∀ w ∈ a_wG, w.before args s = true) ∧ a_K D B s ∧ B ≤ s.heap.size ∧ (mi < 301 → c.exceptionTable.toList = tableOf (a_hh mi))
theorem a_st6_ok {cc : ByteArray} (hx : p.tables.exec = Jvm.exec) (hb : c.code = cc) {own : Nat} (hown : s.vm.findClass (a_cN own) = some m.cls) (hts : ∀ w ∈ a_wG, w.before args s = true) (hKN : a_KN D s) (hB : B ≤ H0.size) (hH : a_H D B ad h H) (hS : va_S (fun x => B ≤ x) H0 H locs) {i : Instr} {al : AL} {st : List Value} {r : AS} (hdg : decode cc pc = .ok (i, a_len i)) (hr : a_st6 own i pc al st h = some r) (hw : a_wf al st h) (hRc : cells + r.2.2.2.2.1 ≤ R.cells) (hRs : slots + r.2.2.2.2.2 ≤ R.slots)
    (kk : ∀ (ad' : Nat → Nat) (H' : Heap) (locs' : List Loc), a_same h.length ad ad' → a_H D B ad' r.2.2.2.1 H' → va_S (fun x => B ≤ x) H0 H' locs' → r.2.1 = al → W p l e R s m args below meth c H' locs' (cells + r.2.2.2.2.1) (slots + r.2.2.2.2.2) Q (F0 m r.1 ls (r.2.2.1.map (a_ren ad')))) : W p l e R s m args below meth c H locs cells slots Q (F0 m pc ls (st.map (a_ren ad))) := by
  unfold a_st6 at hr
  split at hr
  · rename_i idx k n st2
    split at hr
    · rename_i t hmt
      split at hr
      · rename_i hc
        cases hr
        refine a_multi_ok hx hb hown hts hKN hB hH hS hw.2.2 [n, k] hdg hmt hc.1 (fun x hx => by
          simp only [List.mem_cons, List.not_mem_nil, or_false] at hx
          rcases hx with rfl | rfl
          · exact hc.2.1
          · exact hc.2.2) (Or.inl ⟨rfl, n, k, rfl⟩) hRc hRs (fun ad' H' locs' g1 g2 g3 => ?_)
        have k1 := kk ad' H' locs' g1 g2 g3 rfl
        rw [List.map_cons, a_map_same g1 hw.tl.tl.2.1] at k1
        exact k1
      · cases hr
    · cases hr
  · rename_i idx k o n st2
    split at hr
    · rename_i t hmt
      split at hr
      · rename_i hc
        cases hr
        refine a_multi_ok hx hb hown hts hKN hB hH hS hw.2.2 [n, o, k] hdg hmt hc.1 (fun x hx => by
          simp only [List.mem_cons, List.not_mem_nil, or_false] at hx
          rcases hx with rfl | rfl | rfl
          · exact hc.2.1
          · exact hc.2.2.1
          · exact hc.2.2.2) (Or.inr ⟨rfl, n, o, k, rfl⟩) hRc hRs (fun ad' H' locs' g1 g2 g3 => ?_)
        have k1 := kk ad' H' locs' g1 g2 g3 rfl
        rw [List.map_cons, a_map_same g1 hw.tl.tl.tl.2.1] at k1
        exact k1
      · cases hr
    · cases hr
  · cases hr
theorem a_stp_ok {mi : Nat} (cx : a_Cx p l s m args meth c mi D B) {i : Instr} {len : Nat} {al : AL} {st : List Value} {r : AS} (hi : a_ins mi pc = some (i, len)) (hr : a_stp (a_own mi) (a_ini mi) i len pc al st h = some r) (hw : a_wf al st h) (hl : a_L ad al ls) (hsz : al.length = c.maxLocals) (hH : a_H D B ad h H) (hS : va_S (fun x => B ≤ x) s.heap H locs)
    (hRf : 1 ≤ R.frames) (hRl : 100 ≤ R.locals) (hRc : cells + r.2.2.2.2.1 ≤ R.cells) (hRs : slots + r.2.2.2.2.2 ≤ R.slots)
    (kk : ∀ (ad' : Nat → Nat) (H' : Heap) (locs' : List Loc) (ls' : Array Slot), a_same h.length ad ad' → a_H D B ad' r.2.2.2.1 H' → va_S (fun x => B ≤ x) s.heap H' locs' → a_L ad' r.2.1 ls' → r.2.1.length = al.length → W p l e R s m args below meth c H' locs' (cells + r.2.2.2.2.1) (slots + r.2.2.2.2.2) Q (F0 m r.1 ls' (r.2.2.1.map (a_ren ad')))) : W p l e R s m args below meth c H locs cells slots Q (F0 m pc ls (st.map (a_ren ad))) := by
  obtain ⟨hx, hlt, hb, hown, hini, hts, hK, hB, hxt⟩ := cx
  obtain ⟨hKC, hKA, hKN, hKW, -⟩ := hK
  have hdg := a_ins_ok hi
  have hls : ls.size = c.maxLocals := hl.1.trans hsz
  obtain ⟨pc', al', st', h', c', s'⟩ := r
  dsimp only at kk hRc hRs
  unfold a_stp at hr
  split at hr
  · rename_i r' h1
    cases hr
    unfold a_sw at h1
    split at h1
    · split at h1
      · rename_i hc
        rw [Option.map_eq_some_iff] at h1
        obtain ⟨t, h2, h3⟩ := h1
        cases h3
        exact lv_tableOut hx hb hdg hc (a_tgt_ok h2) (kk ad H locs ls a_same.rf hH hS hl rfl)
      · rename_i hc
        rw [Option.bind_eq_some_iff] at h1
        obtain ⟨off, h0, h1⟩ := h1
        rw [Option.map_eq_some_iff] at h1
        obtain ⟨t, h2, h3⟩ := h1
        cases h3
        exact lv_tableIn hx hb hdg (fun q => hc (Or.inl q)) (fun q => hc (Or.inr q)) h0 (a_tgt_ok h2) (kk ad H locs ls a_same.rf hH hS hl rfl)
    · cases h1
  · split at hr
    · rename_i hlen
      subst hlen
      split at hr
      · rename_i h1
        cases hr
        refine a_st1_ok hx hb hdg h1 hl hH.2.1 (fun e1 e2 ls' hl' => ?_)
        have e3 : h' = h ∧ c' = 0 ∧ s' = 0 := by cases e1; exact ⟨rfl, rfl, rfl⟩
        obtain ⟨rfl, rfl, rfl⟩ := e3
        exact kk ad H locs ls' a_same.rf hH hS hl' e2
      · split at hr
        · rename_i h1
          cases hr
          refine a_st4_ok hx hb hdg hown hini hts hKC hKA hH hS h1 (fun H' locs' g1 g2 g3 e1 e2 => ?_)
          have e3 : c' = 0 ∧ s' = 0 := by cases e1; exact ⟨rfl, rfl⟩
          obtain ⟨rfl, rfl⟩ := e3
          have e4 : al' = al := e2
          subst e4
          exact kk ad H' locs' ls a_same.rf g1 g2 hl rfl
        · split at hr
          · rename_i h1
            cases hr
            refine a_st2_ok hx hb hdg h1 (fun e1 e2 => ?_)
            have e3 : h' = h ∧ c' = 0 ∧ s' = 0 := by cases e1; exact ⟨rfl, rfl, rfl⟩
            obtain ⟨rfl, rfl, rfl⟩ := e3
            have e4 : al' = al := e2
            subst e4
            exact kk ad H locs ls a_same.rf hH hS hl rfl
          · split at hr
            · rename_i h1
              cases hr
              refine a_st3_ok hx hb hdg hKA hH h1 (fun e1 e2 => ?_)
              have e3 : h' = h ∧ c' = 0 ∧ s' = 0 := by cases e1; exact ⟨rfl, rfl, rfl⟩
              obtain ⟨rfl, rfl, rfl⟩ := e3
              have e4 : al' = al := e2
              subst e4
              exact kk ad H locs ls a_same.rf hH hS hl rfl
            · split at hr
              · rename_i h1
                cases hr
                refine a_st5_ok hx hb hdg hown hls hts hKC hKA hKN hKW hB hH hS hw h1 hRf hRl hRc hRs (fun ad' H' locs' g1 g2 g3 g4 e2 => ?_)
                have e4 : al' = al := e2
                subst e4
                exact kk ad' H' locs' ls g1 g2 g3 (hl.same g1 hw.1) rfl
              · refine a_st6_ok hx hb hown hts hKN hB hH hS hdg hr hw hRc hRs (fun ad' H' locs' g1 g2 g3 e2 => ?_)
                have e4 : al' = al := e2
                subst e4
                exact kk ad' H' locs' ls g1 g2 g3 (hl.same g1 hw.1) rfl
    · cases hr
end AX
end
section
/-! Calls -/
theorem a_run_arg {d F mt : Nat} {as : List Value} {h : AH} {q : AR} (hr : a_run d F mt as h = some q) : as.length = a_nrg mt ∧ as.length ≤ a_mxl mt ∧ ∀ v ∈ as, v.category = 1 := by
  cases d with
  | zero => cases hr
  | succ d =>
    rw [a_run] at hr
    split at hr
    · rename_i hc
      refine ⟨hc.1, hc.2.1, fun v hv => ?_⟩
      have := List.all_eq_true.mp hc.2.2 v hv
      simpa using this
    · cases hr
theorem a_inv_in {own idx : Nat} {P : AI → Bool} {e : AI} (h : (a_of a_inv own).find? (fun e => e.1 == idx && P e) = some e) : a_invB own e = true ∧ e.1 = idx ∧ P e = true := by
  have h1 := a_all_of a_inv_ok (List.mem_of_find?_eq_some h)
  have h2 := List.find?_some h
  simp only [Bool.and_eq_true, beq_iff_eq] at h2
  exact ⟨h1, h2.1, h2.2⟩
theorem a_invB_mt {own : Nat} {e : AI} (h : a_invB own e = true) : e.2.2.1 < 301 ∧ Cond.initialized (a_y e.2.2.1).cls ∈ a_wG := by
  unfold a_invB at h
  rw [Bool.and_eq_true, Bool.and_eq_true, decide_eq_true_eq] at h
  exact ⟨h.1, a_at_in h.2.1⟩
theorem a_inv0 {own : Nat} {e : AI} (h : a_invB own e = true) (hk : e.2.1 = 0) : Cond.methodLink (a_cN own) e.1 (a_y e.2.2.1) ∈ a_wG ∧ Cond.instanceMethod (a_y e.2.2.1) ∈ a_wG ∧ Cond.selects (a_y e.2.2.1).cls (a_y e.2.2.1) (a_y e.2.2.1) ∈ a_wG ∧ (a_np e.2.2.1).map (· + 1) = some (a_nrg e.2.2.1) ∧ (a_hnd e.2.2.1).isEmpty = true ∧ a_own e.2.2.1 < 13 := by
  unfold a_invB at h
  rw [hk] at h
  simp only [Bool.and_eq_true, decide_eq_true_eq] at h
  obtain ⟨-, -, h1, h2, h3, h4, h5, h6⟩ := h
  exact ⟨a_at_in h1, a_at_in h2, a_at_in h3, h4, h5, h6⟩
theorem a_inv1 {own : Nat} {e : AI} (h : a_invB own e = true) (hk : e.2.1 = 1) : Cond.methodLink (a_cN own) e.1 (a_y e.2.2.1) ∈ a_wG ∧ Cond.static (a_y e.2.2.1) ∈ a_wG ∧ a_np e.2.2.1 = some (a_nrg e.2.2.1) := by
  unfold a_invB at h
  rw [hk] at h
  simp only [Bool.and_eq_true, decide_eq_true_eq] at h
  obtain ⟨-, -, h1, h2, h3⟩ := h
  exact ⟨a_at_in h1, a_at_in h2, h3⟩
theorem a_inv2 {own : Nat} {e : AI} (h : a_invB own e = true) (hk : e.2.1 = 2) : Cond.methodLink (a_cN own) e.1 (a_y e.2.2.1) ∈ a_wG ∧ Cond.instanceMethod (a_y e.2.2.1) ∈ a_wG ∧ a_nam e.2.2.1 = "<init>" ∧ a_rty e.2.2.1 = none ∧ (a_np e.2.2.1).map (· + 1) = some (a_nrg e.2.2.1) ∧ (a_hnd e.2.2.1).isEmpty = true := by
  unfold a_invB at h
  rw [hk] at h
  simp only [Bool.and_eq_true, decide_eq_true_eq] at h
  obtain ⟨-, -, h1, h2, h3, h4, h5, h6⟩ := h
  exact ⟨a_at_in h1, a_at_in h2, h3, h4, h5, h6⟩
theorem a_inv3 {own : Nat} {e : AI} (h : a_invB own e = true) (hk : e.2.1 = 3) : Cond.methodLinkNest (a_cN own) e.1 (a_y e.2.2.1) "Juryreel" ∈ lw_tbl ∧ Cond.instanceMethod (a_y e.2.2.1) ∈ a_wG ∧ a_nam e.2.2.1 = "<init>" ∧ a_rty e.2.2.1 = none ∧ (a_np e.2.2.1).map (· + 1) = some (a_nrg e.2.2.1) ∧ (a_hnd e.2.2.1).isEmpty = true := by
  unfold a_invB at h
  rw [hk] at h
  simp only [Bool.and_eq_true, decide_eq_true_eq] at h
  obtain ⟨-, -, h1, h2, h3, h4, h5, h6⟩ := h
  exact ⟨a_chs_in (List.mem_of_getElem? h1), a_at_in h2, h3, h4, h5, h6⟩
theorem a_goodM {mt : Nat} (h : mt < 301) : GoodIn a_wG (a_cw mt :: a_wG) := fun w hw => by
  rcases List.mem_cons.mp hw with rfl | hw
  · exact a_wG_good _ (a_cw_in h)
  · exact a_wG_good w hw
theorem a_sig {mt n : Nat} (hn : a_np mt = some n) : ∀ sig, parseMethodDescriptor (a_y mt).desc = some sig → n = sig.parameters.length := by
  intro sig hs
  unfold a_np at hn
  have hs' : parseMethodDescriptor (a_dsc mt) = some sig := hs
  rw [hs'] at hn
  exact (Option.some.inj hn).symm
theorem a_sig1 {mt n : Nat} (hn : (a_np mt).map (· + 1) = some (a_nrg mt)) (h : n + 1 = a_nrg mt) : a_np mt = some n := by
  cases hq : a_np mt with
  | none => rw [hq] at hn; cases hn
  | some k =>
    rw [hq] at hn
    have : k + 1 = a_nrg mt := Option.some.inj hn
    congr 1
    omega
section AC
variable {p : Program} {l : Launch} {e : Env} {R : Room} {s : State} {m : MethodId} {args : Array Value} {below : List Frame} {meth : Method} {c : Code} {H : Heap} {locs : List Loc} {cells slots : Nat} {Q : State → Prop} {pc : Nat} {ls : Array Slot} {D : AD} {B : Nat} {ad : Nat → Nat} {h : AH}
theorem a_pre {as : List Value} (hK : a_K D B s) (hB : B ≤ s.heap.size) (hH : a_H D B ad h H) (hS : va_S (fun x => B ≤ x) s.heap H locs) : ∀ U : State, U.heap = H → s.WarmedH U.vm → a_Pc D B ad as h (as.map (a_ren ad)).toArray U := by
  intro U hU hW
  refine ⟨rfl, by rw [hU]; exact hH, a_K.go hW (fun q h1 h2 => by rw [hU]; exact hS.2.1 q h1 h2) hK, by rw [hU]; exact Nat.le_trans hB hS.1⟩
set_option maxHeartbeats 2000000 in
theorem a_callR {d F mi : Nat} (IH : ∀ (mt : Nat) (as : List Value) (h : AH) (q : AR) (D : AD) (B : Nat) (ad : Nat → Nat), mt < 301 → a_run d F mt as h = some q → a_wh h → (∀ v, v ∈ as → a_ok h.length v) → vx_Met l (a_y mt) (a_cw mt :: a_wG) (a_rm d q) (a_Pc D B ad as h) (a_Qc D B ad h q) (a_XC D B ad h q) q.2.2.1 q.2.2.2 (fun x => B ≤ x))
    (cx : a_Cx p l s m args meth c mi D B) {i : Instr} {len : Nat} {st as rest : List Value} {mt : Nat} {q : AR} (hi : a_ins mi pc = some (i, len)) (hc : a_call (a_own mi) i st h = some (mt, as, rest)) (hq : a_run d F mt as h = some q) (hsp : a_isSp i = true → ∃ v, q.1 = .inl v) (hw : a_wh h) (hok : ∀ v, v ∈ st → a_ok h.length v) (hsz : ls.size = c.maxLocals) (hH : a_H D B ad h H) (hS : va_S (fun x => B ≤ x) s.heap H locs)
    (hRf : d + 6 ≤ R.frames) (hRl : 120 + 60 * d ≤ R.locals) (hRc : cells + q.2.2.1 ≤ R.cells) (hRs : slots + q.2.2.2 ≤ R.slots)
    (k1 : ∀ (v : Option Value) (ad' : Nat → Nat) (H' : Heap) (locs' : List Loc), q.1 = .inl v → a_same h.length ad ad' → a_H D B ad' q.2.1 H' → va_S (fun x => B ≤ x) s.heap H' locs' → W p l e R s m args below meth c H' locs' (cells + q.2.2.1) (slots + q.2.2.2) Q (F0 m (pc + 3) ls ((v.map (a_ren ad')).toList ++ rest.map (a_ren ad))))
    (k2 : ∀ (k : Nat) (ad' : Nat → Nat) (H' : Heap) (locs' : List Loc) (q9 : Nat) (ce : Cell), q.1 = .inr k → a_same h.length ad ad' → a_H D B ad' q.2.1 H' → va_S (fun x => B ≤ x) s.heap H' locs' → H'[q9]? = some ce → ce.vm = .none → s.vm.findClass (a_exN k) = some ce.cls → vx_W p l e R s m args below meth c H' locs' (cells + q.2.2.1) (slots + q.2.2.2) Q (F0 m pc ls (rest.map (a_ren ad))) q9) : W p l e R s m args below meth c H locs cells slots Q (F0 m pc ls (st.map (a_ren ad))) := by
  obtain ⟨hx, hlt, hb, hown, hini, hts, hK, hB, hxt⟩ := cx
  have hdg := a_ins_ok hi
  obtain ⟨i1, i2, i3⟩ := a_call_in hc
  obtain ⟨n1, n2, n3⟩ := a_run_arg hq
  have hM := fun (hm : mt < 301) => IH mt as h q D B ad hm hq hw (fun v hv => hok v (i1 v hv))
  have hfr : (a_rm d q).frames + 1 ≤ R.frames := by show d + 5 + 1 ≤ _; omega
  have hlo : mt < 301 → 8 + (a_mxl mt + 11) + (a_rm d q).locals ≤ R.locals := fun hm => by
    have := (a_plain hm).2.2
    show 8 + (a_mxl mt + 11) + (60 + 60 * d) ≤ _
    omega
  have S : CallFix p m c (a_codeB mi) c.maxLocals s args a_wG (a_cN (a_own mi)) := ⟨hx, hb, rfl, hown, hts⟩
  have hcat := fun (h8 : a_cat rest ≤ 8) => (show 2 * (F0 m pc ls (st.map (a_ren ad))).monitorRoom + ((rest.map (a_ren ad)).map fun v => v.category).sum ≤ 8 by rw [a_cat_ren]; show 2 * 0 + _ ≤ 8; omega)
  have hpre := fun (as : List Value) => a_pre (as := as) hK hB hH hS
  have stk : ∀ {a : Nat} {as' : List Value}, as = .ref a :: as' → st.map (a_ren ad) = (as'.map (a_ren ad)).reverse ++ .ref (ad a) :: rest.map (a_ren ad) := by
    intro a as' ha
    rw [i3, ha, List.map_append, List.reverse_cons, List.map_append, List.map_reverse, List.append_assoc]
    rfl
  unfold a_call at hc
  split at hc
  · -- virtual
    rename_i idx
    obtain rfl : len = 3 := a_ins_len hi rfl
    split at hc
    · rename_i ev hf
      obtain ⟨v1, v2, v3⟩ := a_inv_in (P := fun e => e.2.1 == 0) hf
      have v4 : ev.2.1 = 0 := by simpa using v3
      obtain ⟨u1, u2⟩ := a_invB_mt v1
      obtain ⟨u3, u4, u5, u6, u7, u8⟩ := a_inv0 v1 v4
      rw [v2] at u3
      split at hc
      · rename_i hlen
        split at hc
        · rename_i a as' hrev
          split at hc
          · rename_i t vs ha
            split at hc
            · rename_i ht
              cases hc
              obtain ⟨cell, c1, c2⟩ := hH.1 a _ ha
              obtain ⟨b1, b2, -, -⟩ := c2.obj (show t < 19 by omega)
              have hcw : a_cw ev.2.2.1 = .code (a_y ev.2.2.1) (a_codeB ev.2.2.1) (a_mxl ev.2.2.1) (a_rty ev.2.2.1) := if_pos u7
              have hnp := a_sig1 u6 (n := as'.length) n1
              refine a_runK (vx_runV S (hM u1) ⟨⟨rfl, rfl, hfr, hlo u1, pay_in hts (a_goodM u1), by rw [← hcw]; exact List.mem_cons_self, by rw [← hcw]; exact hts _ (a_cw_in u1), hts _ u2, (a_plain u1).2.1, a_sig hnp, hts _ u3⟩, hts _ u4, hts _ u5⟩
                (b := ad a) (As := as'.map (a_ren ad)) (rest := (st.drop (a_nrg ev.2.2.1)).map (a_ren ad)) ⟨a_Pc_blind, ⟨cell, c1, by rw [b2]; rfl, ?_⟩, hpre (.ref a :: as')⟩ rfl (by rw [List.length_map]) hsz (stk rfl) (hcat hlen.2) hdg ⟨hRc, hRs⟩) hS k1 k2
              rw [b1, ht]
              exact (hK.1 _ u8).2.1
            · cases hc
          · cases hc
        · cases hc
      · cases hc
    · cases hc
  · -- static
    rename_i idx
    obtain rfl : len = 3 := a_ins_len hi rfl
    split at hc
    · rename_i ev hf
      obtain ⟨v1, v2, v3⟩ := a_inv_in (P := fun e => e.2.1 == 1) hf
      have v4 : ev.2.1 = 1 := by simpa using v3
      obtain ⟨u1, u2⟩ := a_invB_mt v1
      obtain ⟨u3, u4, u5⟩ := a_inv1 v1 v4
      rw [v2] at u3
      split at hc
      · rename_i hlen
        cases hc
        have hst : st.map (a_ren ad) = (((st.take (a_nrg ev.2.2.1)).reverse).map (a_ren ad)).reverse ++ (st.drop (a_nrg ev.2.2.1)).map (a_ren ad) := by
          rw [← List.map_reverse, List.reverse_reverse, ← List.map_append, List.take_append_drop]
        have hsig := a_sig (n := a_nrg ev.2.2.1) u5
        by_cases u7 : (a_hnd ev.2.2.1).isEmpty = true
        · have hcw : a_cw ev.2.2.1 = .code (a_y ev.2.2.1) (a_codeB ev.2.2.1) (a_mxl ev.2.2.1) (a_rty ev.2.2.1) := if_pos u7
          exact a_runK (vx_runS S (hM u1) ⟨⟨rfl, rfl, hfr, hlo u1, pay_in hts (a_goodM u1), by rw [← hcw]; exact List.mem_cons_self, by rw [← hcw]; exact hts _ (a_cw_in u1), hts _ u2, (a_plain u1).2.1, hsig, hts _ u3⟩, hts _ u4⟩
            (As := ((st.take (a_nrg ev.2.2.1)).reverse).map (a_ren ad)) (rest := (st.drop (a_nrg ev.2.2.1)).map (a_ren ad)) ⟨a_Pc_blind, hpre _⟩ rfl (by rw [List.length_map]; exact n1) hsz hst (hcat hlen.2) hdg ⟨hRc, hRs⟩) hS k1 k2
        · have hcw : a_cw ev.2.2.1 = .codeWith (a_y ev.2.2.1) (a_codeB ev.2.2.1) (a_mxl ev.2.2.1) (a_rty ev.2.2.1) (a_hh ev.2.2.1) := if_neg u7
          exact a_runK (vx_runSX S (hM u1) ⟨⟨rfl, rfl, hfr, hlo u1, pay_in hts (a_goodM u1), by rw [← hcw]; exact List.mem_cons_self⟩, by rw [← hcw]; exact hts _ (a_cw_in u1), hts _ u2, (a_plain u1).2.1, hsig, hts _ u3, hts _ u4⟩
            (As := ((st.take (a_nrg ev.2.2.1)).reverse).map (a_ren ad)) (rest := (st.drop (a_nrg ev.2.2.1)).map (a_ren ad)) ⟨a_Pc_blind, hpre _⟩ rfl (by rw [List.length_map]; exact n1) hsz hst (hcat hlen.2) hdg ⟨hRc, hRs⟩) hS k1 k2
      · cases hc
    · cases hc
  · -- special
    rename_i idx
    obtain rfl : len = 3 := a_ins_len hi rfl
    obtain ⟨v, hv⟩ := hsp rfl
    split at hc
    · rename_i ev hf
      obtain ⟨v1, v2, v3⟩ := a_inv_in (P := fun e => e.2.1 == 2 || e.2.1 == 3) hf
      obtain ⟨u1, u2⟩ := a_invB_mt v1
      split at hc
      · rename_i hlen
        split at hc
        · rename_i a as' hrev
          cases hc
          rw [Bool.or_eq_true, beq_iff_eq, beq_iff_eq] at v3
          rcases v3 with v4 | v4
          · obtain ⟨u3, u4, u5, u6, u7, u8⟩ := a_inv2 v1 v4
            rw [v2] at u3
            have hcw : a_cw ev.2.2.1 = .code (a_y ev.2.2.1) (a_codeB ev.2.2.1) (a_mxl ev.2.2.1) none := by rw [← u6]; exact if_pos u8
            have hnp := a_sig1 u7 (n := as'.length) n1
            exact a_runM (va_runI S (a_toMet (hM u1) hv) ⟨⟨rfl, rfl, hfr, hlo u1, pay_in hts (a_goodM u1), by rw [← hcw]; exact List.mem_cons_self, by rw [← hcw]; exact hts _ (a_cw_in u1), hts _ u2, (a_plain u1).2.1, a_sig hnp, hts _ u3⟩, u5, hts _ u4⟩
                (b := ad a) (As := as'.map (a_ren ad)) (rest := (st.drop (a_nrg ev.2.2.1)).map (a_ren ad)) ⟨a_Pc_blind, hpre (.ref a :: as')⟩ rfl (by rw [List.length_map]) hsz (stk rfl) (hcat hlen.2) hdg ⟨hRc, hRs⟩) hS k1
          · obtain ⟨u3, u4, u5, u6, u7, u8⟩ := a_inv3 v1 v4
            rw [v2] at u3
            have hcw : a_cw ev.2.2.1 = .code (a_y ev.2.2.1) (a_codeB ev.2.2.1) (a_mxl ev.2.2.1) none := by rw [← u6]; exact if_pos u8
            have hnp := a_sig1 u7 (n := as'.length) n1
            exact a_runM (va_runIN S (a_toMet (hM u1) hv) ⟨⟨⟨rfl, rfl, hfr, hlo u1, pay_in hts (a_goodM u1), by rw [← hcw]; exact List.mem_cons_self⟩, by rw [← hcw]; exact hts _ (a_cw_in u1), hts _ u2, (a_plain u1).2.1, a_sig hnp, va_Nw.use rfl (hK.2.2.2.1.1 _ u3 rfl)⟩, u5, hts _ u4⟩
                (b := ad a) (As := as'.map (a_ren ad)) (rest := (st.drop (a_nrg ev.2.2.1)).map (a_ren ad)) ⟨a_Pc_blind, hpre (.ref a :: as')⟩ rfl (by rw [List.length_map]) hsz (stk rfl) (hcat hlen.2) hdg ⟨hRc, hRs⟩) hS k1
        · cases hc
      · cases hc
    · cases hc
  · cases hc
end AC
end
section
/-! A body's walk, and every method's contract -/
theorem a_ncs_in0 : ∀ i, i < 6 → ∀ j, j < 6 → i = j ∨ (a_exN i, a_exN j) ∈ a_ncs := by decide +kernel
theorem a_ncs_in : ∀ i, i < 6 → ∀ j, j < 6 → i ≠ j → (a_exN i, a_exN j) ∈ a_ncs := fun i hi j hj h => (a_ncs_in0 i hi j hj).resolve_left h
theorem a_cast_in : ∀ i, i < 6 → Cond.castable (a_exN i) (a_exN i) ∈ lw_tbl := by decide +kernel
theorem a_hnd_law : a_hnd 301 = [] := by decide +kernel
theorem a_L.drop {ad ad' : Nat → Nat} {al : AL} {ls : Array Slot} {n k : Nat} (hs : a_same k ad ad') (hok : ∀ (i : Nat) (v : Value), a_get al i = some v → a_ok k v) (hl : a_L ad' (a_set1 al n (.ref k)) ls) : a_L ad (a_drop al n) ls := by
  refine ⟨by rw [hl.1]; simp [a_set1, a_drop, a_kill_len], hl.2.1, fun i v hi => ?_⟩
  have hg := a_drop_get hi
  have h1 : a_get (a_set1 al n (.ref k)) i = some v := by
    unfold a_drop at hi
    unfold a_set1
    rw [a_get_set] at hi ⊢
    split at hi
    · cases hi
    · rename_i h2
      rw [if_neg h2]
      exact hi
  rw [← a_ren_same hs (hok i v hg.1)]
  exact hl.2.2 i v h1
section AG
variable {p : Program} {l : Launch} {e : Env} {R : Room} {s : State} {m : MethodId} {args : Array Value} {below : List Frame} {meth : Method} {c : Code} {Q : State → Prop} {D : AD} {B : Nat}
/-- a handler takes exception k at pc -/
theorem a_catch_ok {mi pc k : Nat} {H : Heap} {locs : List Loc} {cells slots : Nat} {ls : Array Slot} {rest : List Value} {q9 : Nat} {ce : Cell} {x : Nat × Nat × Nat × Nat × Nat × Nat × Nat} (hmi : mi < 301) (cx : a_Cx p l s m args meth c mi D B) (hx : a_cth mi pc k = some x) (hce : H[q9]? = some ce) (hv : ce.vm = .none) (hcl : s.vm.findClass (a_exN k) = some ce.cls)
    (kk : W p l e R s m args below meth c H locs cells slots Q (F0 m x.2.2.1 ls [.ref q9])) : vx_W p l e R s m args below meth c H locs cells slots Q (F0 m pc ls rest) q9 := by
  obtain ⟨hxc, hlt, hb, hown, hini, hts, hK, hB, hxt⟩ := cx
  unfold a_cth at hx
  rw [List.find?_eq_some_iff_append] at hx
  obtain ⟨h1, pre, suf, h2, h3⟩ := hx
  simp only [Bool.and_eq_true, decide_eq_true_eq, beq_iff_eq] at h1
  have hxin : x ∈ a_hnd mi := by rw [h2]; simp
  obtain ⟨x1, x2, x3⟩ := a_hnd_in hmi hxin
  obtain ⟨hcov, hk⟩ := h1
  rw [hk] at x1 x3
  have hsplit : c.exceptionTable.toList = (pre.map fun x => (⟨x.1, x.2.1, x.2.2.1, x.2.2.2.1⟩ : ExceptionTableEntry)) ++ (⟨x.1, x.2.1, x.2.2.1, x.2.2.2.1⟩ : ExceptionTableEntry) :: (suf.map fun x => (⟨x.1, x.2.1, x.2.2.1, x.2.2.2.1⟩ : ExceptionTableEntry)) := by
    rw [hxt hmi]
    unfold tableOf a_hh
    rw [h2, List.map_map, List.map_append, List.map_cons]
    rfl
  refine vx_catch (name := a_exN k) hown _ _ _ hsplit (fun z hz => ?_) (by simp [hcov.1, hcov.2]) x2 (hts _ x1) (va_Nw.use rfl (hK.2.2.2.1.1 _ (a_cast_in k x3) rfl)) hce hv hcl kk
  rw [List.mem_map] at hz
  obtain ⟨y, hy, rfl⟩ := hz
  have h4 := h3 y hy
  obtain ⟨y1, y2, y3⟩ := a_hnd_in hmi (show y ∈ a_hnd mi by rw [h2]; simp [hy])
  by_cases hyc : y.1 ≤ pc ∧ pc < y.2.1
  · refine Or.inr ⟨y2, _, hts _ y1, hK.2.2.2.2.1 (a_exN k, a_exN y.2.2.2.2.1) (a_ncs_in _ x3 _ y3 (fun q => ?_))⟩
    simp [hyc.1, hyc.2, ← q] at h4
  · refine Or.inl ?_
    show (decide (y.1 ≤ pc) && decide (pc < y.2.1)) = false
    rw [Bool.and_eq_false_iff, decide_eq_false_iff_not, decide_eq_false_iff_not]
    by_cases h5 : y.1 ≤ pc
    · exact Or.inr (fun q => hyc ⟨h5, q⟩)
    · exact Or.inl h5
set_option maxHeartbeats 4000000 in
theorem a_go_ok {d F mi : Nat} (hmi : mi ≤ 301) (IH : ∀ (mt : Nat) (as : List Value) (h : AH) (q : AR) (D : AD) (B : Nat) (ad : Nat → Nat), mt < 301 → a_run d F mt as h = some q → a_wh h → (∀ v, v ∈ as → a_ok h.length v) → vx_Met l (a_y mt) (a_cw mt :: a_wG) (a_rm d q) (a_Pc D B ad as h) (a_Qc D B ad h q) (a_XC D B ad h q) q.2.2.1 q.2.2.2 (fun x => B ≤ x))
    (cx : a_Cx p l s m args meth c mi D B) {r : AR} {h0 : AH} {ad0 : Nat → Nat} (hRf : d + 6 ≤ R.frames) (hRl : 120 + 60 * d ≤ R.locals) (hRc : r.2.2.1 ≤ R.cells) (hRs : r.2.2.2 ≤ R.slots)
    (K1 : ∀ (pc : Nat) (i : Instr) (st : List Value) (v : Option Value) (ad : Nat → Nat) (H : Heap) (locs : List Loc) (ls : Array Slot), a_ins mi pc = some (i, a_len i) → a_end mi i st = some v → r.1 = .inl v → a_H D B ad r.2.1 H → va_S (fun x => B ≤ x) s.heap H locs → a_same h0.length ad0 ad → W p l e R s m args below meth c H locs r.2.2.1 r.2.2.2 Q (F0 m pc ls (st.map (a_ren ad))))
    (K2 : ∀ (pc : Nat) (i : Instr) (len : Nat) (st : List Value) (k : Nat) (ad : Nat → Nat) (H : Heap) (locs : List Loc) (ls : Array Slot) (cells slots : Nat), a_ins mi pc = some (i, len) → a_trw mi pc i st = some k → r.1 = .inr k → cells + 1 = r.2.2.1 → slots + 6 = r.2.2.2 → a_H D B ad r.2.1 H → va_S (fun x => B ≤ x) s.heap H locs → a_same h0.length ad0 ad → ls.size = c.maxLocals → W p l e R s m args below meth c H locs cells slots Q (F0 m pc ls (st.map (a_ren ad))))
    (K3 : ∀ (pc k : Nat) (rest : List Value) (ad : Nat → Nat) (H : Heap) (locs : List Loc) (ls : Array Slot) (q9 : Nat) (ce : Cell), (a_hnd mi).isEmpty = true → r.1 = .inr k → a_H D B ad r.2.1 H → va_S (fun x => B ≤ x) s.heap H locs → a_same h0.length ad0 ad → H[q9]? = some ce → ce.vm = .none → s.vm.findClass (a_exN k) = some ce.cls → vx_W p l e R s m args below meth c H locs r.2.2.1 r.2.2.2 Q (F0 m pc ls rest) q9) :
    ∀ (f pc : Nat) (al : AL) (st : List Value) (h : AH) (mc ms : Nat) (ad : Nat → Nat) (ls : Array Slot) (H : Heap) (locs : List Loc), a_go (a_run d F) mi f pc al st h mc ms = some r → a_wf al st h → a_L ad al ls → al.length = c.maxLocals → a_H D B ad h H → va_S (fun x => B ≤ x) s.heap H locs → a_same h0.length ad0 ad → h0.length ≤ h.length →
      W p l e R s m args below meth c H locs mc ms Q (F0 m pc ls (st.map (a_ren ad)))
  | 0, pc, al, st, h, mc, ms, ad, ls, H, locs, hr, _, _, _, _, _, _, _ => by cases hr
  | f + 1, pc, al, st, h, mc, ms, ad, ls, H, locs, hr, hw, hl, hsz, hH, hS, hsame, hle => by
    rw [a_go] at hr
    split at hr
    · cases hr
    · rename_i i len hi
      split at hr
      · rename_i v hv
        have hlen : len = a_len i := a_ins_len hi (by
          cases i <;> first | rfl | (simp [a_end] at hv))
        subst hlen
        cases hr
        exact K1 pc i st v ad H locs ls hi hv rfl hH hS hsame
      · split at hr
        · rename_i k hk
          cases hr
          exact K2 pc i len st k ad H locs ls mc ms hi hk rfl rfl rfl hH hS hsame (hl.1.trans hsz)
        · split at hr
          · rename_i mt as rest hc
            obtain ⟨i1, i2, i3⟩ := a_call_in hc
            split at hr
            · rename_i v h' c' s' hq
              obtain ⟨w1, w2, w3⟩ := a_run_wf F d mt as h _ hq hw.2.2 (fun v hv => hw.2.1 v (i1 v hv))
              obtain ⟨m1, m2⟩ := a_go_mono f _ _ _ _ _ _ r hr
              refine a_callR IH cx hi hc hq (fun _ => ⟨v, rfl⟩) hw.2.2 hw.2.1 (hl.1.trans hsz) hH hS hRf hRl (Nat.le_trans m1 hRc) (Nat.le_trans m2 hRs) (fun v' ad' H' locs' e1 g1 g2 g3 => ?_) (fun k ad' H' locs' q9 ce e1 => by cases e1)
              cases e1
              have hwf : a_wf al (v.toList ++ rest) h' := ⟨fun i u hi => a_ok_mono w2 (hw.1 i u hi), fun u hu => by
                rcases List.mem_append.mp hu with g | g
                · cases v with
                  | none => cases g
                  | some v =>
                    simp only [Option.toList, List.mem_cons, List.not_mem_nil, or_false] at g
                    rw [g]; exact w3 v rfl
                · exact a_ok_mono w2 (hw.2.1 u (i2 u g)), w1⟩
              have k1 := a_go_ok hmi IH cx hRf hRl hRc hRs K1 K2 K3 f (pc + 3) al (v.toList ++ rest) h' (mc + c') (ms + s') ad' ls H' locs' hr hwf (hl.same g1 hw.1) hsz g2 g3 (hsame.tr g1 hle) (Nat.le_trans hle w2)
              rw [List.map_append, a_map_same g1 (fun u hu => hw.2.1 u (i2 u hu))] at k1
              cases v with
              | none => exact k1
              | some v => exact k1
            · rename_i k h' c' s' hq
              obtain ⟨w1, w2, w3⟩ := a_run_wf F d mt as h _ hq hw.2.2 (fun v hv => hw.2.1 v (i1 v hv))
              split at hr
              · cases hr
              · rename_i hnsp
                split at hr
                · rename_i hemp
                  cases hr
                  refine a_callR IH cx hi hc hq (fun q => absurd q hnsp) hw.2.2 hw.2.1 (hl.1.trans hsz) hH hS hRf hRl hRc hRs (fun v' ad' H' locs' e1 => by cases e1) (fun k' ad' H' locs' q9 ce e1 g1 g2 g3 g4 g5 g6 => ?_)
                  cases e1
                  exact K3 pc k _ ad' H' locs' ls q9 ce hemp rfl g2 g3 (hsame.tr g1 hle) g4 g5 g6
                · rename_i hemp
                  have hmi' : mi < 301 := by
                    rcases Nat.lt_or_ge mi 301 with q | q
                    · exact q
                    · exfalso
                      have e : mi = 301 := Nat.le_antisymm hmi q
                      subst e
                      rw [a_hnd_law] at hemp
                      exact hemp rfl
                  split at hr
                  · rename_i x hx
                    split at hr
                    · rename_i hp n hh
                      split at hr
                      · rename_i hn
                        obtain ⟨m1, m2⟩ := a_go_mono f _ _ _ _ _ _ r hr
                        refine a_callR IH cx hi hc hq (fun q => absurd q hnsp) hw.2.2 hw.2.1 (hl.1.trans hsz) hH hS hRf hRl (Nat.le_trans m1 hRc) (Nat.le_trans m2 hRs) (fun v' ad' H' locs' e1 => by cases e1) (fun k' ad' H' locs' q9 ce e1 g1 g2 g3 g4 g5 g6 => ?_)
                        cases e1
                        refine a_catch_ok hmi' cx hx g4 g5 g6 ?_
                        unfold a_hdl at hh
                        split at hh
                        · rename_i i2 len2 hi2
                          split at hh
                          · rename_i hl2
                            subst hl2
                            split at hh
                            · rename_i n2 kd hst
                              split at hh
                              · rename_i hkd
                                subst hkd
                                cases hh
                                have hs3 : a_same h'.length ad' (a_up ad' h'.length q9) := fun k hk => a_up_lt hk
                                have hok3 : ∀ (i : Nat) (v : Value), a_get al i = some v → a_ok h'.length v := fun i v hi => a_ok_mono w2 (hw.1 i v hi)
                                have hl3 : a_L (a_up ad' h'.length q9) al ls := (hl.same g1 hw.1).same hs3 hok3
                                have hst2 : a_sto al n (.ref h'.length) = some (a_set1 al n (.ref h'.length)) := by
                                  unfold a_sto
                                  rw [if_neg (show ¬ (Value.ref h'.length).category = 2 from (by decide : ¬ (1 : Nat) = 2)), if_pos hn]
                                have k1 := a_store_ok (ad := a_up ad' h'.length q9) (v := .ref h'.length) (rest := []) (al := al) (p := p) (l := l) (e := e) (R := R) (s := s) (m := m) (args := args) (below := below) (meth := meth) (H := H') (locs := locs') (cells := mc + c') (slots := ms + s') (Q := Q) cx.1 cx.2.2.1 (a_ins_ok hi2) hst rfl hst2 hl3 (fun ls' hl' =>
                                  a_go_ok hmi IH cx hRf hRl hRc hRs K1 K2 K3 f _ (a_drop al n) [] h' (mc + c') (ms + s') ad' ls' H' locs' hr ⟨fun i u hi => hok3 i u (a_drop_get hi).1, fun u hu => absurd hu List.not_mem_nil, w1⟩ (hl'.drop hs3 hok3) (by simp [a_drop, a_kill_len, hsz]) g2 g3 (hsame.tr g1 hle) (Nat.le_trans hle w2))
                                have e9 : a_ren (a_up ad' h'.length q9) (.ref h'.length) = .ref q9 := by
                                  show Value.ref _ = _
                                  rw [a_up_n]
                                rw [e9] at k1
                                exact k1
                              · cases hh
                            · cases hh
                          · cases hh
                        · cases hh
                      · cases hr
                    · cases hr
                  · cases hr
            · cases hr
          · split at hr
            · rename_i pc' al' st' h' c' s' hq
              obtain ⟨w1, w2⟩ := a_stp_wf hq hw
              obtain ⟨m1, m2⟩ := a_go_mono f _ _ _ _ _ _ r hr
              exact a_stp_ok cx hi hq hw hl hsz hH hS (by omega) (by omega) (Nat.le_trans m1 hRc) (Nat.le_trans m2 hRs) (fun ad' H' locs' ls' g1 g2 g3 g4 g5 =>
                a_go_ok hmi IH cx hRf hRl hRc hRs K1 K2 K3 f pc' al' st' h' (mc + c') (ms + s') ad' ls' H' locs' hr w1 g4 (g5.trans hsz) g2 g3 (hsame.tr g1 hle) (Nat.le_trans hle w2))
            · split at hr
              · rename_i st' h' hq
                obtain ⟨w1, w2⟩ := a_acp_wf hq hw
                exact a_acp_ok cx.1 cx.2.2.1 (hl.1.trans hsz) cx.2.2.2.1 cx.2.2.2.2.2.1 cx.2.2.2.2.2.2.1.2.1 hH hS (a_ins_ok hi) hq (by omega) (by omega) (fun H' locs' g2 g3 =>
                  a_go_ok hmi IH cx hRf hRl hRc hRs K1 K2 K3 f (pc + 3) al st' h' mc ms ad ls H' locs' hr w1 hl hsz g2 g3 hsame (Nat.le_trans hle w2))
              · cases hr
/-- every method's contract -/
theorem a_entry {as : List Value} {ad : Nat → Nat} {mi : Nat} (h1 : ∀ v ∈ as, v.category = 1) (h2 : as.length ≤ a_mxl mi) : ∃ ls : Array Slot, entryFrame m (as.map (a_ren ad)).toArray (a_mxl mi) = F0 m 0 ls [] ∧ a_L ad (a_args mi as) ls := by
  have hsl : lg_sl (as.map (a_ren ad)) = (as.map (a_ren ad)).map Slot.val := by
    unfold lg_sl
    have : ∀ vs : List Value, (∀ v ∈ vs, v.category = 1) → (vs.flatMap fun v => if v.category = 2 then [Slot.val v, .second] else [.val v]) = vs.map Slot.val := by
      intro vs
      induction vs with
      | nil => intro _; rfl
      | cons v t ih =>
        intro hv
        rw [List.flatMap_cons, ih (fun u hu => hv u (List.mem_cons_of_mem _ hu)), if_neg (by rw [hv v List.mem_cons_self]; decide)]
        rfl
    refine this _ (fun v hv => ?_)
    obtain ⟨u, hu, rfl⟩ := List.mem_map.mp hv
    rw [a_ren_cat]; exact h1 u hu
  have hlen : (lg_sl (as.map (a_ren ad))).length = as.length := by rw [hsl]; simp
  refine ⟨_, lg_entry_eq m (as.map (a_ren ad)) (a_mxl mi), ?_⟩
  obtain ⟨e1, e2, -⟩ := lv_entry (as.map (a_ren ad)) (n := a_mxl mi) (by rw [hlen]; exact h2)
  refine ⟨by rw [e1]; simp [a_args]; omega, e2, fun i v hi => ?_⟩
  have h3 := a_args_get hi
  have h4 := (List.getElem?_eq_some_iff.mp h3).1
  rw [hsl]
  simp only [List.getElem?_toArray]
  rw [List.getElem?_append_left (by simpa using h4)]
  simp [h3]
theorem a_cxOf {p : Program} {l : Launch} {e : Env} {s : State} {m : MethodId} {args : Array Value} {below : List Frame} {meth : Method} {c : Code} {s₁ : State} {mi : Nat} {rm : Room} {ws : List Cond} (hlt : l.stackTraces = false)
    (B' : BodyLoose p l (a_y mi) (headSpec ws rm) (a_codeB mi) (a_mxl mi) (a_rty mi) e s m args below meth c s₁) (hts : ∀ w ∈ a_wG, w.before args s = true) (hK : a_K D B s) (hB : B ≤ s.heap.size) (hxt : mi < 301 → c.exceptionTable.toList = tableOf (a_hh mi)) : a_Cx p l s m args meth c mi D B :=
  ⟨B'.exec, hlt, B'.bytes, findClass_of_methodNamed B'.named, fun q => by
    rw [(name_of_methodNamed B'.named B'.method).1]
    show a_nam mi = "<init>"
    simpa [a_ini] using q, hts, hK, hB, hxt⟩
theorem a_thr_at {mi pc : Nat} {i : Instr} {st : List Value} {k : Nat} (h : a_trw mi pc i st = some k) : ∃ r ∈ a_thr, r.1 = mi ∧ r.2.1 = pc ∧ r.2.2.2.2.2.2.2.1 = k ∧ a_cat st ≤ 8 := by
  unfold a_trw at h
  split at h
  · split at h
    · rename_i hc
      rw [Option.map_eq_some_iff] at h
      obtain ⟨r, h1, h2⟩ := h
      have h3 := List.find?_some h1
      simp only [Bool.and_eq_true, beq_iff_eq] at h3
      exact ⟨r, List.mem_of_find?_eq_some h1, h3.1, h3.2, h2, hc⟩
    · cases h
  · cases h
set_option maxHeartbeats 4000000 in
theorem a_throw_ok {p : Program} {l : Launch} {e : Env} {R : Room} {s : State} {m : MethodId} {args : Array Value} {below : List Frame} {meth : Method} {c : Code} {D : AD} {B : Nat} {mi pc : Nat} {i : Instr} {st : List Value} {k : Nat} {ad ad0 : Nat → Nat} {h0 : AH} {H : Heap} {locs : List Loc} {ls : Array Slot} {cells slots : Nat} {q : AR} (hmi : mi < 301) (cx : a_Cx p l s m args meth c mi D B) (hlocks : meth.locks = false)
    (ht : a_trw mi pc i st = some k) (hq : q.1 = .inr k) (hc : cells + 1 = q.2.2.1) (hs : slots + 6 = q.2.2.2) (hH : a_H D B ad q.2.1 H) (hS : va_S (fun x => B ≤ x) s.heap H locs) (hsame : a_same h0.length ad0 ad) (hsz : ls.size = c.maxLocals) (hRf : 5 < R.frames) (hRl : 90 ≤ R.locals) (hRc : q.2.2.1 ≤ R.cells) (hRs : q.2.2.2 ≤ R.slots) :
    W p l e R s m args below meth c H locs cells slots (vx_MQ below (a_Qc D B ad0 h0 q) (a_XC D B ad0 h0 q) args s q.2.2.1 q.2.2.2 (fun x => B ≤ x)) (F0 m pc ls (st.map (a_ren ad))) := by
  obtain ⟨hx, hlt, hb, hown, hini, hts, hK, hB, hxt⟩ := cx
  obtain ⟨r, hr, rfl, rfl, rfl, hcat⟩ := a_thr_at ht
  have h1 := List.all_eq_true.mp a_thr_ok r hr
  unfold a_thrB at h1
  simp only [Bool.and_eq_true, decide_eq_true_eq] at h1
  obtain ⟨hk, ho, hemp, d0, d3, dd⟩ := h1
  obtain ⟨t, ht5⟩ := Option.isSome_iff_exists.mp hk
  have ht6 := List.find?_some ht5
  have htin := List.mem_of_find?_eq_some ht5
  simp only [Bool.and_eq_true, beq_iff_eq] at ht6
  obtain ⟨t1, t2, t3, t4⟩ := ht6
  obtain ⟨b0, b1, b2, b5, b6⟩ := a_byt_ok t htin
  have hwt := a_thx_in htin
  have hwb := List.all_eq_true.mp (List.all_eq_true.mp a_thx_ok t htin)
  have hall : ∀ w ∈ a_thxW t, w.before args s = true := fun w hw => by
    have g := hwb w hw
    simp only [Bool.and_eq_true, Bool.or_eq_true] at g
    rcases g.2 with g2 | g2
    · exact hts w (a_wG_of (hwt w hw) g2)
    · have hn := hK.2.2.2.1.1 w (hwt w hw) g2
      cases w <;> first
        | exact va_Nw.use rfl hn
        | cases g2
  have hot : ∀ w ∈ a_thxW t, vx_ot w = true := fun w hw => by
    have g := hwb w hw
    simp only [Bool.and_eq_true] at g
    exact g.1
  obtain ⟨sa, hsa⟩ := hK.2.2.2.2.2.1 r hr
  have hout : ∀ x ∈ c.exceptionTable.toList, ∀ pc, covers x pc = false := by
    intro x hx2
    rw [hxt hmi] at hx2
    have : a_hnd r.1 = [] := List.isEmpty_iff.mp hemp
    unfold tableOf a_hh at hx2
    rw [this] at hx2
    cases hx2
  unfold a_thxW at hall hot
  rw [t1, t2, t3, t4] at hall hot
  rw [ho] at hown
  have hx' : ∀ t : State, s.vm.Alike t.vm → H.size ≤ t.heap.size → (∀ q : Nat, q < H.size → t.heap[q]? = H[q]?) → a_XC D B ad0 h0 q (a_exN r.2.2.2.2.2.2.2.1) s t := fun t _ g1 g2 =>
    ⟨_, ad, hq, rfl, hsame, hH.keep g2, ⟨Nat.le_trans hS.1 g1, fun x h1 h2 => by rw [g2 x (Nat.lt_of_lt_of_le h1 hS.1)]; exact hS.2.1 x h1 h2⟩⟩
  have hcr := a_cat_ren (ad := ad) st
  have hK7 := hK.2.2.2.2.2.2
  split at dd
  · simp only [Bool.and_eq_true, decide_eq_true_eq] at dd
    obtain ⟨e4, e6, e9⟩ := dd
    exact a_throw5 (w := 3) hx hb hlt b0 b1 b2 b5 hown (a_fit _ (by rw [← t4]; exact b6)) (hall _ List.mem_cons_self) (hall _ (List.mem_cons_of_mem _ List.mem_cons_self)) hsa (fun w hw => hall w (List.mem_cons_of_mem _ (List.mem_cons_of_mem _ hw))) hot hK7.1 hK7.2 hS hsz (a_ins_ok d0) (a_ins_ok d3) (Or.inr ⟨rfl, rfl⟩) (a_ins_ok e4) (a_ins_ok e6) (a_ins_ok e9) (fun x hx => hout x hx _) hRf (by rw [hcr]; omega) (by omega) (by omega) hlocks hx' hS.2.2 (Nat.le_of_eq hc) (Nat.le_of_eq hs)
  · simp only [Bool.and_eq_true, decide_eq_true_eq] at dd
    obtain ⟨e4, e6, e9⟩ := dd
    exact a_throw5 (w := 2) hx hb hlt b0 b1 b2 b5 hown (a_fit _ (by rw [← t4]; exact b6)) (hall _ List.mem_cons_self) (hall _ (List.mem_cons_of_mem _ List.mem_cons_self)) hsa (fun w hw => hall w (List.mem_cons_of_mem _ (List.mem_cons_of_mem _ hw))) hot hK7.1 hK7.2 hS hsz (a_ins_ok d0) (a_ins_ok d3) (Or.inl ⟨rfl, rfl⟩) (a_ins_ok e4) (a_ins_ok e6) (a_ins_ok e9) (fun x hx => hout x hx _) hRf (by rw [hcr]; omega) (by omega) (by omega) hlocks hx' hS.2.2 (Nat.le_of_eq hc) (Nat.le_of_eq hs)
set_option maxHeartbeats 4000000 in
theorem a_body {d F : Nat} (hlt : l.stackTraces = false) (IH : ∀ (mt : Nat) (as : List Value) (h : AH) (q : AR) (D : AD) (B : Nat) (ad : Nat → Nat), mt < 301 → a_run d F mt as h = some q → a_wh h → (∀ v, v ∈ as → a_ok h.length v) → vx_Met l (a_y mt) (a_cw mt :: a_wG) (a_rm d q) (a_Pc D B ad as h) (a_Qc D B ad h q) (a_XC D B ad h q) q.2.2.1 q.2.2.2 (fun x => B ≤ x))
    {mt : Nat} {as : List Value} {h : AH} {q : AR} {ad : Nat → Nat} (hmt : mt < 301) (h1 : ∀ v ∈ as, v.category = 1) (h2 : as.length ≤ a_mxl mt) (hr : a_go (a_run d F) mt F 0 (a_args mt as) [] h 0 0 = some q) (hw : a_wh h) (hv : ∀ v, v ∈ as → a_ok h.length v) {s₁ : State} {ws : List Cond}
    (B' : BodyLoose p l (a_y mt) (headSpec ws (a_rm (d + 1) q)) (a_codeB mt) (a_mxl mt) (a_rty mt) e s m args below meth c s₁) (hml : c.maxLocals = a_mxl mt) (hws : ∀ w ∈ a_wG, w ∈ ws) (hxt : c.exceptionTable.toList = tableOf (a_hh mt)) (hP : a_Pc D B ad as h args s) :
    W p l e (headSpec ws (a_rm (d + 1) q)).room s m args below meth c s.heap [] 0 0 (vx_MQ below (a_Qc D B ad h q) (a_XC D B ad h q) args s q.2.2.1 q.2.2.2 (fun x => B ≤ x)) (entryFrame m args (a_mxl mt)) := by
  obtain ⟨hA, hH, hK, hB⟩ := hP
  have hts : ∀ w ∈ a_wG, w.before args s = true := fun w hw => atoms_spec (ws := ws) B'.pre w (hws w hw)
  have cx := a_cxOf hlt B' hts hK hB (fun _ => hxt)
  obtain ⟨ls, e1, hl⟩ := a_entry (m := m) (ad := ad) (mi := mt) h1 h2
  have hR : (headSpec ws (a_rm (d + 1) q)).room = a_rm (d + 1) q := rfl
  rw [hR, hA, e1, ← hA]
  have hgo := a_go_ok (R := a_rm (d + 1) q) (e := e) (below := below) (Q := vx_MQ below (a_Qc D B ad h q) (a_XC D B ad h q) args s q.2.2.1 q.2.2.2 (fun x => B ≤ x)) (Nat.le_of_lt hmt) IH cx (r := q) (h0 := h) (ad0 := ad) (by show d + 6 ≤ d + 1 + 5; omega) (by show 120 + 60 * d ≤ 60 + 60 * (d + 1); omega) (Nat.le_refl _) (Nat.le_refl _) ?_ ?_ ?_ F 0 (a_args mt as) [] h 0 0 ad ls s.heap [] hr ⟨fun i v hi => hv v (List.mem_of_getElem? (a_args_get hi)), fun v hv => absurd hv List.not_mem_nil, hw⟩ hl (by rw [hml]; simp [a_args]; omega) hH va_S.rf a_same.rf (Nat.le_refl _)
  · exact hgo
  · intro pc i st v ad' H locs ls' hi hend hq hH' hS' hsame
    have hdg := a_ins_ok hi
    refine vx_ret ?_
    have hQ : ∀ t : State, t.heap = H → s.WarmedH t.vm → a_Qc D B ad h q args s (.returned (v.map (a_ren ad'))) t := fun t ht _ => ⟨v, ad', hq, rfl, hsame, by rw [ht]; exact hH', hS'.F ht⟩
    have hlk := B'.notSynchronized
    unfold a_end at hend
    split at hend
    · split at hend
      · rename_i hrt
        cases hend
        exact W.vret cx.1 cx.2.2.1 (B'.returns.trans hrt) hQ hS'.2.2 hdg hlk
      · cases hend
    · split at hend
      · rename_i ty hrt
        split at hend
        · rename_i hn
          cases hend
          exact W.zret cx.1 cx.2.2.1 (B'.returns.trans hrt) hn hQ hS'.2.2 hdg hlk
        · cases hend
      · cases hend
    · split at hend
      · rename_i hrt
        cases hend
        exact W.lret cx.1 cx.2.2.1 (B'.returns.trans hrt) hQ hS'.2.2 hdg hlk
      · cases hend
    · split at hend
      · rename_i hrt
        cases hend
        exact W.fret cx.1 cx.2.2.1 (B'.returns.trans hrt) hQ hS'.2.2 hdg hlk
      · cases hend
    · split at hend
      · rename_i hrt
        cases hend
        exact W.dret cx.1 cx.2.2.1 (B'.returns.trans hrt) hQ hS'.2.2 hdg hlk
      · cases hend
    · cases hend
  · intro pc i len st k ad' H locs ls' cells slots hi ht hq hc hs hH' hS' hsame hsz
    exact a_throw_ok hmt cx B'.notSynchronized ht hq hc hs hH' hS' hsame hsz (by show 5 < d + 1 + 5; omega) (by show 90 ≤ 60 + 60 * (d + 1); omega) (Nat.le_refl _) (Nat.le_refl _)
  · intro pc k rest ad' H locs ls' q9 ce hemp hq hH' hS' hsame hce hcv hcl
    refine vx_out (fun x hx => ?_) B'.notSynchronized hce hcv hcl (fun t ht _ => ⟨k, ad', hq, rfl, hsame, by rw [ht]; exact hH', hS'.F ht⟩) hS'.2.2 (Nat.le_refl _) (Nat.le_refl _)
    rw [hxt] at hx
    have : a_hnd mt = [] := List.isEmpty_iff.mp hemp
    unfold tableOf a_hh at hx
    rw [this] at hx
    cases hx
theorem a_met {l : Launch} (hlt : l.stackTraces = false) (F : Nat) : ∀ (d mt : Nat) (as : List Value) (h : AH) (q : AR) (D : AD) (B : Nat) (ad : Nat → Nat), mt < 301 → a_run d F mt as h = some q → a_wh h → (∀ v, v ∈ as → a_ok h.length v) → vx_Met l (a_y mt) (a_cw mt :: a_wG) (a_rm d q) (a_Pc D B ad as h) (a_Qc D B ad h q) (a_XC D B ad h q) q.2.2.1 q.2.2.2 (fun x => B ≤ x)
  | 0, mt, as, h, q, D, B, ad, hmt, hr, hw, hv => by cases hr
  | d + 1, mt, as, h, q, D, B, ad, hmt, hr, hw, hv => by
    obtain ⟨n1, n2, n3⟩ := a_run_arg hr
    rw [a_run] at hr
    split at hr
    · have IH := a_met hlt F d
      by_cases u7 : (a_hnd mt).isEmpty = true
      · have hcw : a_cw mt = .code (a_y mt) (a_codeB mt) (a_mxl mt) (a_rty mt) := if_pos u7
        refine vx_ofW (cc := a_codeB mt) (maxL := a_mxl mt) (ret := a_rty mt) (ws' := a_wG) (a_plain hmt).1 (by rw [hcw]) ?_
        intro p e s m args below meth c s₁ B' hml hno hP
        refine a_body hlt IH hmt n3 n2 hr hw hv B' hml (fun w hw => List.mem_cons_of_mem _ hw) ?_ hP
        have e1 : a_hnd mt = [] := List.isEmpty_iff.mp u7
        unfold tableOf a_hh
        rw [e1]
        exact List.eq_nil_iff_forall_not_mem.mpr hno
      · have hcw : a_cw mt = .codeWith (a_y mt) (a_codeB mt) (a_mxl mt) (a_rty mt) (a_hh mt) := if_neg u7
        refine vx_ofWH (cc := a_codeB mt) (maxL := a_mxl mt) (ret := a_rty mt) (hh := a_hh mt) (ws' := a_wG) (a_plain hmt).1 (by rw [hcw]) ?_
        intro p e s m args below meth c s₁ B' hml hP
        refine a_body hlt IH hmt n3 n2 hr hw hv B' hml (fun w hw => List.mem_cons_of_mem _ hw) ?_ hP
        refine vx_table (x := a_y mt) B' (bytes := a_codeB mt) (maxL' := a_mxl mt) (ret' := a_rty mt) ?_
        rw [← hcw]
        exact atoms_spec (ws := a_cw mt :: a_wG) B'.pre _ List.mem_cons_self
    · cases hr
end AG
end
section
/-! What the Statement gives at the start -/
def a_flat : List Cond := flatC (Jvm.Cond.and given_1 narrow_1)
theorem a_rt_ins : ∀ k, k < 13 → Cond.instantiable (a_cN k) (a_cl k) ∈ lw_tbl := by decide +kernel
theorem a_rt_obj : ∀ C ∈ a_objs, Cond.arrayOver (.object C) ∈ lw_tbl := by decide +kernel
def a_prims : List FieldType := [.int, .boolean, .char, .long, .double]
theorem a_rt_prim : ∀ ty ∈ a_prims, Cond.arrayClass ty ∈ lw_tbl := by decide +kernel
def a_inner : List FieldType := [.int, .boolean, .array .int, .array .boolean]
theorem a_rt_inner : ∀ ty ∈ a_inner, Cond.arrayOver (.array ty) ∈ lw_tbl := by decide +kernel
theorem a_rt_tys : ∀ t, t < 14 → 1 ≤ t → ∀ ty, a_atys[t]? = some ty → ty ∈ a_prims ∨ (∃ C ∈ a_objs, ty = .object C) ∨ ∃ u ∈ a_inner, ty = .array u := by
  intro t h1 h2 ty h
  have key : ∀ k, k < 14 → 1 ≤ k → (match a_atys[k]? with
    | some ty => decide (ty ∈ a_prims) || (a_objs.any (fun C => decide (ty = .object C)) || a_inner.any (fun u => decide (ty = .array u)))
    | none => true) = true := by decide +kernel
  have := key t h1 h2
  rw [h] at this
  simp only [Bool.or_eq_true, decide_eq_true_eq, List.any_eq_true] at this
  rcases this with q | ⟨C, q1, q2⟩ | ⟨u, q1, q2⟩
  · exact Or.inl q
  · exact Or.inr (Or.inl ⟨C, q1, q2⟩)
  · exact Or.inr (Or.inr ⟨u, q1, q2⟩)
theorem a_rt_nc : (a_ncs.all fun q => decide (Cond.not (.castable q.1 q.2) ∈ a_flat)) = true := by decide +kernel
theorem a_rt_st : Cond.laysStatic Bundle.tN "UNASSIGNED_STACK" Bundle.steD ∈ lw_tbl ∧ Cond.laysStatic Bundle.tN "SUPPRESSED_SENTINEL" Bundle.listD ∈ lw_tbl ∧ Cond.initialized Bundle.tN ∈ lw_tbl := by decide +kernel
theorem a_rt_sr : Cond.isRef (.static Bundle.tN "UNASSIGNED_STACK" Bundle.steD) ∈ a_flat ∧ Cond.isRef (.static Bundle.tN "SUPPRESSED_SENTINEL" Bundle.listD) ∈ a_flat := by decide +kernel
theorem a_rt_str : (a_thr.all fun r => decide ((a_chs r.2.2.2.2.2.2.2.2.2.2.1)[r.2.2.2.2.2.2.2.2.2.2.2]? = some (.stringRef (a_cN r.2.2.1) r.2.2.2.2.1 r.2.2.2.2.2.2.2.2.1))) = true := by decide +kernel
theorem a_rt_exa : (a_thr.all fun r => decide (Cond.exactly (.string (a_cN r.2.2.1) r.2.2.2.2.1) "java/lang/String" ∈ a_flat)) = true := by decide +kernel
theorem a_ng_tab {w : Cond} (h : a_ng w = true) : w.onTables = true := by
  cases w <;> first
    | rfl
    | cases h
theorem a_root {s : State} {b : Nat} {tS : Nat} (hts : ∀ w ∈ lw_tbl, w.before #[Value.ref b] s = true) (hgv : (Jvm.Cond.and given_1 narrow_1).before #[Value.ref b] s = true) (hS : ∃ (kA : Class) (comp : ClassId), s.vm.classes[tS]? = some kA ∧ kA.kind = .array comp .int) : ∃ D : AD, a_K D s.heap.size s ∧ D.2.2 19 = tS := by
  have hfl : ∀ w ∈ a_flat, w.before #[Value.ref b] s = true := flat_of_before _ hgv
  have hC : ∀ k, ∃ (cC : ClassId) (iS : Nat → Nat), k < 13 → u_Kn s (a_cN k) (a_cT k) (a_cl k) cC iS := by
    intro k
    by_cases hk : k < 13
    · obtain ⟨cC, iS, h⟩ := u_known (n := a_cl k) hts (fun w hw => (a_wsC_ok k hk w hw).1) (hts _ (a_rt_ins k hk))
      exact ⟨cC, iS, fun _ => h⟩
    · exact ⟨0, fun _ => 0, fun h => absurd h hk⟩
  have hA : ∀ t, ∃ cA : ClassId, (t = 19 → cA = tS) ∧ ∀ ty, 20 ≤ t → a_aty t = some ty → s.vm.findClass ("[" ++ ty.toString) = some cA ∧ ∃ (kA : Class) (comp : ClassId), s.vm.classes[cA]? = some kA ∧ kA.kind = .array comp ty ∧ (∀ C, ty = .object C → s.vm.findClass C = some comp) ∧ ∀ t', ty = .array t' → s.vm.findClass ("[" ++ t'.toString) = some comp := by
    intro t
    by_cases h19 : t = 19
    · exact ⟨tS, fun _ => rfl, fun ty h _ => by omega⟩
    · cases hty : a_aty t with
      | none => exact ⟨0, fun h => absurd h h19, fun ty _ h => by cases h⟩
      | some ty =>
        have hge := a_aty_ge hty
        have hty2 : a_atys[t - 19]? = some ty := by
          unfold a_aty at hty
          rw [if_neg (by omega)] at hty
          exact hty
        have hlt : t - 19 < 14 := (List.getElem?_eq_some_iff.mp hty2).1
        rcases a_rt_tys (t - 19) hlt (by omega) ty hty2 with q | ⟨C, q1, rfl⟩ | ⟨u, q1, rfl⟩
        · obtain ⟨cA, kA, comp, f1, f2, f3⟩ := Cond.arrayClass_spec (hts _ (a_rt_prim ty q))
          refine ⟨cA, fun h => absurd h h19, fun ty' _ h => ?_⟩
          cases h
          refine ⟨f1, kA, comp, f2, f3, fun C hC => ?_, fun t' hC => ?_⟩
          · subst hC; simp [a_prims] at q
          · subst hC; simp [a_prims] at q
        · obtain ⟨comp, cA, kA, f0, -, f2, f3, f1⟩ := Cond.arrayOver_spec (hts _ (a_rt_obj C q1))
          refine ⟨cA, fun h => absurd h h19, fun ty' _ h => ?_⟩
          cases h
          refine ⟨f1, kA, comp, f2, f3, fun C' hC => ?_, fun t' hC => by cases hC⟩
          cases hC
          exact f0
        · obtain ⟨comp, cA, kA, f0, -, f2, f3, f1⟩ := arrayOverA_spec (hts _ (a_rt_inner u q1))
          refine ⟨cA, fun h => absurd h h19, fun ty' _ h => ?_⟩
          cases h
          refine ⟨f1, kA, comp, f2, f3, (fun C' hC => by cases hC), fun t' hC => ?_⟩
          cases hC
          exact f0
  refine ⟨(fun k => Classical.choose (hC k), fun k => Classical.choose (Classical.choose_spec (hC k)), fun t => Classical.choose (hA t)), ⟨fun k hk => Classical.choose_spec (Classical.choose_spec (hC k)) hk, fun t ty hty => ?_, fun t ty h20 hty => (Classical.choose_spec (hA t)).2 ty h20 hty, ⟨fun w hw g => va_Nw.of (a_ng_tab g) (hts w hw), fun C hC' => va_AO.of (hts _ (a_rt_obj C hC'))⟩, fun q hq => va_Nc.of (hfl _ (of_decide_eq_true (List.all_eq_true.mp a_rt_nc q hq))), fun r hr => ?_, ?_, ?_⟩, (Classical.choose_spec (hA 19)).1 rfl⟩
  · by_cases h19 : t = 19
    · subst h19
      have hty' : ty = .int := by
        have : a_aty 19 = some .int := by decide +kernel
        rw [this] at hty
        exact (Option.some.inj hty).symm
      subst hty'
      show ∃ (kA : Class) (comp : ClassId), s.vm.classes[Classical.choose (hA 19)]? = some kA ∧ _
      rw [(Classical.choose_spec (hA 19)).1 rfl]
      exact hS
    · have h20 : 20 ≤ t := by have := a_aty_ge hty; omega
      obtain ⟨-, kA, comp, g1, g2, -⟩ := (Classical.choose_spec (hA t)).2 ty h20 hty
      exact ⟨kA, comp, g1, g2⟩
  · have h1 := hts _ (a_chs_in (List.mem_of_getElem? (of_decide_eq_true (List.all_eq_true.mp a_rt_str r hr))))
    obtain ⟨a, -, -, -, h2, -⟩ := Cond.exactly_spec (hfl _ (of_decide_eq_true (List.all_eq_true.mp a_rt_exa r hr)))
    exact ⟨a, vk_R.of h1 h2⟩
  · exact vx_Zqof (hts _ a_rt_st.1) (hts _ a_rt_st.2.2) (hfl _ a_rt_sr.1) (fun a h1 h2 => absurd h2 (Nat.not_le.mpr h1))
  · exact vx_Zqof (hts _ a_rt_st.2.1) (hts _ a_rt_st.2.2) (hfl _ a_rt_sr.2) (fun a h1 h2 => absurd h2 (Nat.not_le.mpr h1))
end
section
/-! Symbols: a value .retAddr n stands for an unknown int; the abstract machine's steps don't look at it -/
/-- the symbols' values, and a cell that no step may look into (its tag is 99) -/
abbrev GV : Type := (Nat → Int32) × AC
def g_v (ρ : GV) (v : Value) : Value := match v with
  | .retAddr n => .int (ρ.1 n)
  | v => v
def g_A (ρ : GV) (al : AL) : AL := al.map (Option.map (g_v ρ))
def g_S (ρ : GV) (st : List Value) : List Value := st.map (g_v ρ)
def g_c (ρ : GV) (x : AC) : AC := if x.1 = 99 then ρ.2 else (x.1, x.2.map (g_v ρ))
def g_H (ρ : GV) (h : AH) : AH := h.map (g_c ρ)
def g_R (ρ : GV) (r : AS) : AS := (r.1, g_A ρ r.2.1, g_S ρ r.2.2.1, g_H ρ r.2.2.2.1, r.2.2.2.2.1, r.2.2.2.2.2)
section GN
variable {ρ : GV}
theorem g_cat (v : Value) : (g_v ρ v).category = v.category := by cases v <;> rfl
theorem g_kind {v : Value} {k : Nat} (h : a_kind v = k) (hk : k < 5) : g_v ρ v = v := by
  cases v <;> first
    | rfl
    | (exfalso; subst h; exact absurd hk (by decide : ¬ (5 : Nat) < 5))
theorem g_get (al : AL) (i : Nat) : a_get (g_A ρ al) i = (a_get al i).map (g_v ρ) := by
  unfold a_get g_A
  rw [List.getElem?_map]
  cases al[i]? <;> rfl
theorem g_len (al : AL) : (g_A ρ al).length = al.length := by simp [g_A]
theorem g_Hlen (h : AH) : (g_H ρ h).length = h.length := by simp [g_H]
theorem g_get_some {al : AL} {i : Nat} {v : Value} (h : a_get al i = some v) : a_get (g_A ρ al) i = some (g_v ρ v) := by rw [g_get, h]; rfl
theorem g_setA (al : AL) (i : Nat) (o : Option Value) : g_A ρ (al.set i o) = (g_A ρ al).set i (o.map (g_v ρ)) := by simp [g_A, List.map_set]
theorem g_kill (al : AL) (i : Nat) : g_A ρ (a_kill al i) = a_kill (g_A ρ al) i := by
  unfold a_kill
  cases i with
  | zero => rfl
  | succ j =>
    dsimp only
    rw [g_get]
    have e : ((a_get al j).map (g_v ρ)).any (fun v => v.category == 2) = (a_get al j).any (fun v => v.category == 2) := by
      cases a_get al j with
      | none => rfl
      | some v => simp [g_cat]
    rw [e]
    split
    · rw [g_setA]; rfl
    · rfl
theorem g_drop (al : AL) (n : Nat) : g_A ρ (a_drop al n) = a_drop (g_A ρ al) n := by
  unfold a_drop
  rw [g_setA, g_kill]; rfl
theorem g_set1 (al : AL) (i : Nat) (v : Value) : g_A ρ (a_set1 al i v) = a_set1 (g_A ρ al) i (g_v ρ v) := by
  unfold a_set1
  rw [g_setA, g_kill]; rfl
theorem g_sto {al al' : AL} {i : Nat} {v : Value} (h : a_sto al i v = some al') : a_sto (g_A ρ al) i (g_v ρ v) = some (g_A ρ al') := by
  unfold a_sto at h ⊢
  rw [g_cat, g_len]
  split at h
  · rename_i hc
    rw [if_pos hc]
    split at h
    · rename_i hl
      rw [if_pos hl]
      cases h
      simp only [a_set2, g_setA, g_kill]; rfl
    · cases h
  · rename_i hc
    rw [if_neg hc]
    split at h
    · rename_i hl
      rw [if_pos hl]
      cases h
      simp only [a_set1, g_setA, g_kill]; rfl
    · cases h
theorem g_cel {h : AH} {a t : Nat} {vs : List Value} (ha : h[a]? = some (t, vs)) (ht : t ≠ 99) : (g_H ρ h)[a]? = some (t, vs.map (g_v ρ)) := by
  unfold g_H
  rw [List.getElem?_map, ha]
  show some (if t = 99 then _ else _) = _
  rw [if_neg ht]
theorem g_celN {h : AH} {a : Nat} (ha : h[a]? = none) : (g_H ρ h)[a]? = none := by
  unfold g_H
  rw [List.getElem?_map, ha]; rfl
theorem g_setH (h : AH) (a t n : Nat) (vs : List Value) (v : Value) (ht : t ≠ 99) : g_H ρ (h.set a (t, vs.set n v)) = (g_H ρ h).set a (t, (vs.map (g_v ρ)).set n (g_v ρ v)) := by
  simp [g_H, List.map_set, g_c, ht]
theorem g_app (h : AH) (x : AC) : g_H ρ (h ++ [x]) = g_H ρ h ++ [g_c ρ x] := by simp [g_H]
theorem g_def (ty : FieldType) : g_v ρ (defaultValue ty) = defaultValue ty := by cases ty <;> rfl
theorem g_obj {c : Nat} (hc : c ≠ 99) : g_c ρ (a_obj c) = a_obj c := by
  unfold g_c
  rw [if_neg (show ¬ (a_obj c).1 = 99 from hc)]
  simp only [a_obj, List.map_map]
  congr 1
  exact List.map_congr_left fun k _ => g_def _
theorem g_tag (ty : FieldType) : a_atag ty ≠ 99 := by
  have h : a_atys.tail.idxOf ty ≤ a_atys.tail.length := List.idxOf_le_length
  have h2 : a_atys.tail.length = 13 := rfl
  unfold a_atag
  omega
theorem g_row (ty : FieldType) (n : Nat) : g_c ρ (a_row ty n) = a_row ty n := by
  unfold g_c
  rw [if_neg (show ¬ (a_row ty n).1 = 99 from g_tag ty)]
  simp only [a_row, List.map_replicate, g_def]
theorem g_ty99 {t : Nat} {ty : FieldType} (h : a_aty t = some ty) : t ≠ 99 := by
  rintro rfl
  rw [show a_aty 99 = none from rfl] at h
  cases h
theorem g_ald99 {i : Instr} {t : Nat} (h : a_ald i t = true) : t ≠ 99 := by
  unfold a_ald at h
  split at h <;> first
    | (exact g_ty99 (of_decide_eq_true h))
    | (cases h; done)
    | (rintro rfl; rw [show a_aty 99 = none from rfl] at h; cases h)
theorem g_ast99 {i : Instr} {t : Nat} {x v : Value} (h : a_ast i t x = some v) : t ≠ 99 := by
  unfold a_ast at h
  split at h <;> first
    | (cases h; done)
    | (split at h
       · rename_i hc
         first
           | exact g_ty99 hc
           | exact g_ty99 hc.2
       · cases h)
theorem g_catS (st : List Value) : a_cat (g_S ρ st) = a_cat st := by
  unfold a_cat g_S
  rw [List.map_map]
  congr 1
  exact List.map_congr_left fun v _ => g_cat v
theorem g_st1 {i : Instr} {pc : Nat} {al : AL} {st : List Value} {h : AH} {r : AS} (hr : a_st1 i pc al st h = some r) : a_st1 i pc (g_A ρ al) (g_S ρ st) (g_H ρ h) = some (g_R ρ r) := by
  unfold a_st1 at hr
  split at hr
  · rename_i v hv
    cases hr
    unfold a_st1
    rw [hv]
    have e : g_v ρ v = v := by
      cases i <;> simp only [a_const] at hv <;> (try (cases hv; done))
      all_goals first
        | (cases hv; rfl)
        | (split at hv <;> cases hv <;> rfl)
    show some (_, _, v :: _, _, _) = some (_, _, g_v ρ v :: _, _, _)
    rw [e]; rfl
  rename_i hc0
  split at hr
  · rename_i j kd hv
    split at hr
    · rename_i v hg
      split at hr
      · rename_i hk
        cases hr
        have hkd : kd < 5 := by
          cases i <;> simp only [a_load] at hv <;> (try (cases hv; done)) <;> cases hv <;> decide
        have e := g_kind (ρ := ρ) hk hkd
        unfold a_st1
        rw [hc0]
        dsimp only
        rw [hv]
        dsimp only
        rw [g_get_some hg]
        dsimp only
        rw [e, if_pos hk]
        show some (_, _, v :: _, _, _) = some (_, _, g_v ρ v :: _, _, _)
        rw [e]; rfl
      · cases hr
    · cases hr
  rename_i hl0
  split at hr
  · rename_i j kd hv
    split at hr
    · rename_i v st'
      split at hr
      · rename_i hk
        rw [Option.map_eq_some_iff] at hr
        obtain ⟨al', h1, rfl⟩ := hr
        have hkd : kd < 5 := by
          cases i <;> simp only [a_store] at hv <;> (try (cases hv; done)) <;> cases hv <;> decide
        have e := g_kind (ρ := ρ) hk hkd
        unfold a_st1
        rw [hc0]
        dsimp only
        rw [hl0]
        dsimp only
        rw [hv]
        show (if a_kind (g_v ρ v) = kd then _ else _) = _
        rw [e, if_pos hk]
        have h2 := g_sto (ρ := ρ) h1
        rw [e] at h2
        rw [h2]
        rfl
      · cases hr
    · cases hr
  rename_i hs0
  have key : ∀ {X Y : Option AS}, (a_const i = none → a_load i = none → a_store i = none → X = Y) → X = Y := fun f => f hc0 hl0 hs0
  split at hr
  · rename_i k n
    split at hr
    · rename_i x hg
      rw [Option.map_eq_some_iff] at hr
      obtain ⟨al', h1, rfl⟩ := hr
      have h2 := g_sto (ρ := ρ) h1
      have h3 : g_v ρ (.int (x + Int32.ofInt n)) = .int (x + Int32.ofInt n) := rfl
      rw [h3] at h2
      show (match a_get (g_A ρ al) k with
        | some (.int x) => (a_sto (g_A ρ al) k (.int (x + Int32.ofInt n))).map (fun al' => (pc + 3, al', g_S ρ st, g_H ρ h, 0, 0))
        | _ => none) = _
      rw [g_get_some hg]
      show (a_sto (g_A ρ al) k (.int (x + Int32.ofInt n))).map _ = _
      rw [h2]; rfl
    · cases hr
  · rw [Option.map_eq_some_iff] at hr; obtain ⟨t, h1, rfl⟩ := hr; show (a_tgt _ _).map _ = _; rw [h1]; rfl
  · rw [Option.map_eq_some_iff] at hr; obtain ⟨t, h1, rfl⟩ := hr; show (a_br _ _ _).map _ = _; rw [h1]; rfl
  · rw [Option.map_eq_some_iff] at hr; obtain ⟨t, h1, rfl⟩ := hr; show (a_br _ _ _).map _ = _; rw [h1]; rfl
  · rename_i off y x st'
    split at hr
    · rename_i hxy
      rw [Option.map_eq_some_iff] at hr
      obtain ⟨t, h1, rfl⟩ := hr
      show (if x < (g_H ρ h).length ∧ y < (g_H ρ h).length then (a_br pc (decide (x = y)) off).map _ else none) = _
      rw [g_Hlen, if_pos hxy, h1]; rfl
    · cases hr
  · rename_i v st'
    split at hr
    · rename_i hc
      cases hr
      show (if (g_v ρ v).category = 1 then _ else _) = _
      rw [g_cat, if_pos hc]; rfl
    · cases hr
  · rename_i v u st'
    split at hr
    · rename_i hc
      cases hr
      show (if (g_v ρ v).category = 1 ∧ (g_v ρ u).category = 1 then _ else _) = _
      rw [g_cat, g_cat, if_pos hc]; rfl
    · cases hr
  · rename_i v st'
    split at hr
    · rename_i hc
      cases hr
      show (if (g_v ρ v).category = 1 then _ else _) = _
      rw [g_cat, if_pos hc]; rfl
    · cases hr
  · cases hr
theorem g_bin {i : Instr} {x y v : Int32} (h1 : a_bin i x y = some v) {pc : Nat} {al : AL} {st : List Value} {h : AH} : a_st2 i pc al (.int y :: .int x :: st) h = some (pc + 1, al, .int v :: st, h, 0, 0) := by
  cases i <;> simp only [a_bin] at h1 <;> (try (cases h1; done)) <;> simp [a_st2, a_bin, h1]
theorem g_st2 {i : Instr} {pc : Nat} {al : AL} {st : List Value} {h : AH} {r : AS} (hr : a_st2 i pc al st h = some r) : a_st2 i pc (g_A ρ al) (g_S ρ st) (g_H ρ h) = some (g_R ρ r) := by
  unfold a_st2 at hr
  split at hr
  · cases hr; rfl
  · cases hr; rfl
  · cases hr; rfl
  · cases hr; rfl
  · split at hr
    · rename_i hn; cases hr; show (if _ then _ else _) = _; rw [if_pos hn]; rfl
    · cases hr
  · cases hr; rfl
  · cases hr; rfl
  · cases hr; rfl
  · split at hr
    · rename_i hn; cases hr; show (if _ then _ else _) = _; rw [if_pos hn]; rfl
    · cases hr
  · split at hr
    · rename_i hn; cases hr; show (if _ then _ else _) = _; rw [if_pos hn]; rfl
    · cases hr
  · cases hr; rfl
  · cases hr; rfl
  · rw [Option.map_eq_some_iff] at hr
    obtain ⟨v, h1, rfl⟩ := hr
    exact g_bin h1
  · cases hr
end GN
end
section
section GN2
variable {ρ : GV}
theorem g_st3 {i : Instr} {pc : Nat} {al : AL} {st : List Value} {h : AH} {r : AS} (hr : a_st3 i pc al st h = some r) : a_st3 i pc (g_A ρ al) (g_S ρ st) (g_H ρ h) = some (g_R ρ r) := by
  unfold a_st3 at hr
  split at hr
  · rename_i j a st'
    split at hr
    · rename_i t vs ha
      split at hr
      · rename_i ht
        rw [Option.bind_eq_some_iff] at hr
        obtain ⟨n, h1, hr⟩ := hr
        rw [Option.map_eq_some_iff] at hr
        obtain ⟨v, h2, rfl⟩ := hr
        show (match (g_H ρ h)[a]? with
          | some (t, vs) => if a_ald i t = true then (a_ix j vs.length).bind (fun n => (vs[n]?).map (fun v => (pc + 1, g_A ρ al, v :: g_S ρ st', g_H ρ h, 0, 0))) else none
          | none => none) = _
        rw [g_cel ha (g_ald99 ht)]
        dsimp only
        rw [if_pos ht, List.length_map, h1]
        show ((vs.map (g_v ρ))[n]?).map _ = _
        rw [List.getElem?_map, h2]; rfl
      · cases hr
    · cases hr
  · cases hr
theorem g_fit {ty : FieldType} {v : Value} (h : fits ty v = true) : g_v ρ v = v := by
  cases v <;> first
    | rfl
    | (exfalso; cases ty <;> cases h)
theorem g_ast {i : Instr} {t : Nat} {x v : Value} (h : a_ast i t x = some v) : g_v ρ x = x ∧ g_v ρ v = v := by
  unfold a_ast at h
  split at h
  all_goals first
    | (cases h; done)
    | (split at h <;> first
        | (cases h; done)
        | (cases h; exact ⟨rfl, rfl⟩)
        | (cases h; refine ⟨rfl, ?_⟩; unfold narrow; first | rfl | (split <;> rfl)))
theorem g_st4 {own : Nat} {ini : Bool} {i : Instr} {pc : Nat} {al : AL} {st : List Value} {h : AH} {r : AS} (hr : a_st4 own ini i pc al st h = some r) : a_st4 own ini i pc (g_A ρ al) (g_S ρ st) (g_H ρ h) = some (g_R ρ r) := by
  unfold a_st4 at hr
  split at hr
  · split at hr
    · rename_i a st' _ t vs ha
      split at hr
      · rename_i ht
        cases hr
        show (match (g_H ρ h)[a]? with
          | some (t, vs) => if (a_aty t).isSome then some (pc + 1, g_A ρ al, Value.int vs.length.toInt32 :: g_S ρ st', g_H ρ h, 0, 0) else none
          | none => none) = _
        rw [g_cel ha (by obtain ⟨ty, hty⟩ := Option.isSome_iff_exists.mp ht; exact g_ty99 hty)]
        dsimp only
        rw [if_pos ht, List.length_map]; rfl
      · cases hr
    · cases hr
  · rw [Option.map_eq_some_iff] at hr; obtain ⟨q, h1, rfl⟩ := hr; show Option.map _ (List.find? _ _) = _; rw [h1]; rfl
  · rw [Option.map_eq_some_iff] at hr; obtain ⟨q, h1, rfl⟩ := hr; show Option.map _ (List.find? _ _) = _; rw [h1]; rfl
  · rw [Option.map_eq_some_iff] at hr; obtain ⟨q, h1, rfl⟩ := hr; show Option.map _ (List.find? _ _) = _; rw [h1]; rfl
  · split at hr
    · rename_i idx a st' _ ci k hf
      split at hr
      · rename_i t vs ha
        split at hr
        · rename_i ht
          rw [Option.map_eq_some_iff] at hr
          obtain ⟨v, h2, rfl⟩ := hr
          show (match a_field own idx with
            | some (ci, k) => match (g_H ρ h)[a]? with
              | some (t, vs) => if t = ci then (vs[k]?).map (fun v => (pc + 3, g_A ρ al, v :: g_S ρ st', g_H ρ h, 0, 0)) else none
              | none => none
            | none => none) = _
          rw [hf]
          dsimp only
          rw [g_cel ha (by have := (a_field_in hf).2.2; omega)]
          dsimp only
          rw [if_pos ht, List.getElem?_map, h2]; rfl
        · cases hr
      · cases hr
    · cases hr
  · split at hr
    · rename_i idx v a st' _ ci k hf
      split at hr
      · rename_i t vs ha
        split at hr
        · rename_i ht
          cases hr
          have e := g_fit (ρ := ρ) ht.2.2.2.1
          show (match a_field own idx with
            | some (ci, k) => match (g_H ρ h)[a]? with
              | some (t, vs) => if t = ci ∧ k < vs.length ∧ narrow (a_fty ci k) (g_v ρ v) = g_v ρ v ∧ fits (a_fty ci k) (g_v ρ v) = true ∧ ((a_cT ci k).2.2.2 = false ∨ (ini = true ∧ own = ci)) then some (pc + 3, g_A ρ al, g_S ρ st', (g_H ρ h).set a (t, vs.set k (g_v ρ v)), 0, 0) else none
              | none => none
            | none => none) = _
          rw [hf]
          dsimp only
          rw [g_cel ha (by have := (a_field_in hf).2.2; have := ht.1; omega)]
          dsimp only
          rw [e, List.length_map, if_pos ht]
          show _ = some (_, _, _, g_H ρ (h.set a (t, vs.set k v)), _, _)
          rw [g_setH _ _ _ _ _ _ (by have := (a_field_in hf).2.2; have := ht.1; omega), e]
        · cases hr
      · cases hr
    · cases hr
  · split at hr
    · rename_i x j a st' c1 c2 c3 c4 c5 c6 t vs ha
      split at hr
      · rename_i v hv
        rw [Option.map_eq_some_iff] at hr
        obtain ⟨n, h1, rfl⟩ := hr
        obtain ⟨e1, e2⟩ := g_ast (ρ := ρ) hv
        have key : ∀ (x : Value) (st : List Value), a_st4 own ini i pc (g_A ρ al) (x :: .int j :: .ref a :: st) (g_H ρ h) = (match (g_H ρ h)[a]? with
          | some (t, vs) => match a_ast i t x with
            | some v => (a_ix j vs.length).map (fun n => (pc + 1, g_A ρ al, st, (g_H ρ h).set a (t, vs.set n v), 0, 0))
            | none => none
          | none => none) := by
          intro x st
          have hi : ∃ k, i = .iastore ∨ i = .bastore ∨ i = .castore ∨ i = .lastore ∨ i = .dastore ∨ k = 0 := ⟨0, by simp⟩
          unfold a_ast at hv
          split at hv <;> first | (cases hv; done) | rfl
        show a_st4 own ini i pc (g_A ρ al) (g_v ρ x :: .int j :: .ref a :: g_S ρ st') (g_H ρ h) = _
        rw [key, g_cel ha (g_ast99 hv)]
        dsimp only
        rw [e1, hv]
        dsimp only
        rw [List.length_map, h1]
        show some (_, _, _, _, _, _) = some (_, _, _, g_H ρ (h.set a (t, vs.set n v)), _, _)
        rw [g_setH _ _ _ _ _ _ (g_ast99 hv), e2]
      · cases hr
    · cases hr
  · cases hr
theorem g_st5 {own : Nat} {i : Instr} {pc : Nat} {al : AL} {st : List Value} {h : AH} {r : AS} (hr : a_st5 own i pc al st h = some r) : a_st5 own i pc (g_A ρ al) (g_S ρ st) (g_H ρ h) = some (g_R ρ r) := by
  unfold a_st5 at hr
  split at hr
  · rw [Option.map_eq_some_iff] at hr
    obtain ⟨q, h1, rfl⟩ := hr
    show Option.map _ (List.find? _ _) = _
    rw [h1]
    show some (_, _, Value.ref (g_H ρ h).length :: _, _, _, _) = some (_, _, Value.ref h.length :: _, g_H ρ (h ++ [a_obj q.2.1]), _, _)
    rw [g_Hlen, g_app, g_obj (by
      have h3 := a_all_of a_new_ok (List.mem_of_find?_eq_some h1)
      simp only [Bool.and_eq_true, decide_eq_true_eq] at h3
      have := h3.2.2.2
      omega)]; rfl
  · split at hr
    · rename_i ht
      rw [Option.map_eq_some_iff] at hr
      obtain ⟨k, h1, rfl⟩ := hr
      show (if _ then Option.map _ _ else none) = _
      rw [if_pos ht, h1]
      show some (_, _, Value.ref (g_H ρ h).length :: _, _, _, _) = some (_, _, Value.ref h.length :: _, g_H ρ (h ++ [_]), _, _)
      rw [g_Hlen, g_app, g_row]
    · cases hr
  · split at hr
    · rename_i q hq
      split at hr
      · rename_i ht
        rw [Option.map_eq_some_iff] at hr
        obtain ⟨k, h1, rfl⟩ := hr
        show a_st5 own (.anewarray _) pc _ (Value.int _ :: g_S ρ _) _ = _
        unfold a_st5
        dsimp only
        rw [hq]
        dsimp only
        rw [if_pos ht, h1]
        show some (_, _, Value.ref (g_H ρ h).length :: _, _, _, _) = some (_, _, Value.ref h.length :: _, g_H ρ (h ++ [_]), _, _)
        rw [g_Hlen, g_app, g_row]; rfl
      · cases hr
    · cases hr
  · rename_i v j a st'
    split at hr
    · rename_i t vs ha
      split at hr
      · rename_i u us hv
        split at hr
        · rename_i hc
          rw [Option.map_eq_some_iff] at hr
          obtain ⟨n, h1, rfl⟩ := hr
          show (match (g_H ρ h)[a]? with
            | some (t, vs) => match (g_H ρ h)[v]? with
              | some (u, _) => if u < 13 ∧ t ≠ 19 ∧ a_aty t = some (FieldType.object (a_cN u)) then (a_ix j vs.length).map (fun n => (pc + 1, g_A ρ al, g_S ρ st', (g_H ρ h).set a (t, vs.set n (.ref v)), 0, 0)) else none
              | none => none
            | none => none) = _
          rw [g_cel ha (g_ty99 hc.2.2), g_cel hv (by have := hc.1; omega)]
          dsimp only
          rw [if_pos hc, List.length_map, h1]
          show some (_, _, _, _, _, _) = some (_, _, _, g_H ρ (h.set a (t, vs.set n (Value.ref v))), _, _)
          rw [g_setH _ _ _ _ _ _ (g_ty99 hc.2.2)]; rfl
        · cases hr
      · cases hr
    · cases hr
  · split at hr
    · rename_i hc
      cases hr
      show (if _ ∧ a_cat (g_S ρ _) ≤ 8 then _ else _) = _
      exact (if_pos ⟨hc.1, by rw [g_catS]; exact hc.2⟩).trans rfl
    · cases hr
  · split at hr
    · rename_i q hq
      split at hr
      · rename_i hc
        cases hr
        show a_st5 own (.invokestatic _) pc _ (Value.int _ :: Value.int _ :: g_S ρ _) _ = _
        unfold a_st5
        dsimp only
        rw [hq]
        exact (if_pos (by rw [g_catS]; exact hc)).trans rfl
      · cases hr
    · cases hr
  · cases hr
/-- the cell at a is not the one that no step may look into -/
def g_N (a : Nat) (h : AH) : Prop := ∀ (t : Nat) (vs : List Value), h[a]? = some (t, vs) → t ≠ 99
theorem g_setR {h : AH} {a : Nat} (hN : g_N a h) (i b : Nat) : g_H ρ (a_setR h a i b) = a_setR (g_H ρ h) a i b := by
  unfold a_setR
  cases ha : h[a]? with
  | none => rw [g_celN ha]
  | some x =>
    obtain ⟨t, vs⟩ := x
    have ht := hN t vs ha
    rw [g_cel ha ht]
    dsimp only
    rw [g_setH _ _ _ _ _ _ ht]; rfl
theorem g_setN {h : AH} {a c : Nat} (hN : g_N c h) (i b : Nat) : g_N c (a_setR h a i b) ∧ (a_setR h a i b).length = h.length := by
  unfold a_setR
  cases ha : h[a]? with
  | none => exact ⟨hN, rfl⟩
  | some x =>
    obtain ⟨t, vs⟩ := x
    dsimp only
    refine ⟨fun t' vs' h' => ?_, List.length_set⟩
    rw [List.getElem?_set] at h'
    split at h'
    · rename_i e
      subst e
      split at h'
      · cases h'; exact hN t vs ha
      · cases h'
    · exact hN _ _ h'
def g_F (ρ : GV) (f : AH → AH) : Prop := (∀ h, g_H ρ (f h) = f (g_H ρ h)) ∧ ∀ h, h.length ≤ (f h).length ∧ ∀ c, c < h.length → g_N c h → g_N c (f h)
theorem g_appN {h : AH} {c : Nat} (hc : c < h.length) (hN : g_N c h) (x : AC) : g_N c (h ++ [x]) := by
  intro t vs h'
  rw [List.getElem?_append_left hc] at h'
  exact hN t vs h'
theorem g_rowN (h : AH) (ty : FieldType) (n : Nat) : g_N h.length (h ++ [a_row ty n]) := by
  intro t vs h'
  rw [List.getElem?_concat_length] at h'
  cases h'
  exact g_tag ty
theorem g_mkL {f : AH → AH} (hf : g_F ρ f) (a : Nat) : ∀ (k i : Nat) (h : AH), a < h.length → g_N a h → g_H ρ (a_mkL f a k i h) = a_mkL f a k i (g_H ρ h) ∧ h.length ≤ (a_mkL f a k i h).length ∧ ∀ c, c < h.length → g_N c h → g_N c (a_mkL f a k i h)
  | 0, i, h, hl, hN => ⟨rfl, Nat.le_refl _, fun c _ h => h⟩
  | k + 1, i, h, hl, hN => by
    obtain ⟨f1, f2⟩ := hf
    obtain ⟨f3, f4⟩ := f2 h
    have hN1 := f4 a hl hN
    obtain ⟨hN2, hl2⟩ := g_setN (a := a) hN1 i h.length
    obtain ⟨r1, r2, r3⟩ := g_mkL ⟨f1, f2⟩ a k (i + 1) (a_setR (f h) a i h.length) (by omega) hN2
    refine ⟨?_, ?_, fun c hc hNc => r3 c (by omega) (g_setN (f4 c hc hNc) i h.length).1⟩
    · show g_H ρ (a_mkL f a k (i + 1) (a_setR (f h) a i h.length)) = a_mkL f a k (i + 1) (a_setR (f (g_H ρ h)) a i (g_H ρ h).length)
      rw [r1, g_setR hN1, f1 h, g_Hlen]
    · show h.length ≤ (a_mkL f a k (i + 1) (a_setR (f h) a i h.length)).length
      omega
theorem g_mk : ∀ (ns : List Nat) (tys : List FieldType), g_F ρ (a_mk tys ns)
  | [], tys => by
    have e : ∀ h, a_mk tys [] h = h := fun h => by rcases tys with _ | ⟨_, _ | ⟨_, _⟩⟩ <;> rfl
    exact ⟨fun h => by rw [e, e], fun h => by rw [e]; exact ⟨Nat.le_refl _, fun c _ h => h⟩⟩
  | [n], [] => ⟨fun h => rfl, fun h => ⟨Nat.le_refl _, fun c _ h => h⟩⟩
  | [n], ty :: tys => by
    have e : ∀ h, a_mk (ty :: tys) [n] h = h ++ [a_row ty n] := fun h => by cases tys <;> rfl
    exact ⟨fun h => by rw [e, e, g_app, g_row], fun h => by rw [e]; exact ⟨by simp, fun c hc hN => g_appN hc hN _⟩⟩
  | n :: n' :: ns, [] => ⟨fun h => rfl, fun h => ⟨Nat.le_refl _, fun c _ h => h⟩⟩
  | n :: n' :: ns, ty :: tys => by
    have hl : ∀ h : AH, (h ++ [a_row ty n]).length = h.length + 1 := fun h => by simp
    refine ⟨fun h => ?_, fun h => ?_⟩
    · show g_H ρ (a_mkL (a_mk tys (n' :: ns)) h.length n 0 (h ++ [a_row ty n])) = a_mkL (a_mk tys (n' :: ns)) (g_H ρ h).length n 0 (g_H ρ h ++ [a_row ty n])
      rw [(g_mkL (g_mk (n' :: ns) tys) h.length n 0 (h ++ [a_row ty n]) (by rw [hl]; omega) (g_rowN h ty n)).1, g_app, g_row, g_Hlen]
    · obtain ⟨-, r2, r3⟩ := g_mkL (ρ := ρ) (g_mk (n' :: ns) tys) h.length n 0 (h ++ [a_row ty n]) (by rw [hl]; omega) (g_rowN h ty n)
      rw [hl] at r2 r3
      exact ⟨Nat.le_trans (Nat.le_succ _) r2, fun c hc hN => r3 c (by omega) (g_appN hc hN _)⟩
theorem g_st6 {own : Nat} {i : Instr} {pc : Nat} {al : AL} {st : List Value} {h : AH} {r : AS} (hr : a_st6 own i pc al st h = some r) : a_st6 own i pc (g_A ρ al) (g_S ρ st) (g_H ρ h) = some (g_R ρ r) := by
  unfold a_st6 at hr
  split at hr
  · split at hr
    · rename_i t hmt
      split at hr
      · rename_i hc
        cases hr
        show (match a_mty own _ with
          | some t => if a_tys (a_comps t) [_, _] = true ∧ _ ∧ _ then _ else _
          | none => none) = _
        rw [hmt]
        dsimp only
        rw [if_pos hc]
        show some (_, _, Value.ref (g_H ρ h).length :: _, _, _, _) = some (_, _, Value.ref h.length :: _, g_H ρ (a_mk _ _ h), _, _)
        rw [g_Hlen, (g_mk _ _).1 h]
      · cases hr
    · cases hr
  · split at hr
    · rename_i t hmt
      split at hr
      · rename_i hc
        cases hr
        show (match a_mty own _ with
          | some t => if a_tys (a_comps t) [_, _, _] = true ∧ _ ∧ _ ∧ _ then _ else _
          | none => none) = _
        rw [hmt]
        dsimp only
        rw [if_pos hc]
        show some (_, _, Value.ref (g_H ρ h).length :: _, _, _, _) = some (_, _, Value.ref h.length :: _, g_H ρ (a_mk _ _ h), _, _)
        rw [g_Hlen, (g_mk _ _).1 h]
      · cases hr
    · cases hr
  · cases hr
theorem g_sw {i : Instr} {pc : Nat} {al : AL} {st : List Value} {h : AH} {r : AS} (hr : a_sw i pc al st h = some r) : a_sw i pc (g_A ρ al) (g_S ρ st) (g_H ρ h) = some (g_R ρ r) := by
  unfold a_sw at hr
  split at hr
  · split at hr
    · rename_i hc
      rw [Option.map_eq_some_iff] at hr
      obtain ⟨t, h1, rfl⟩ := hr
      show (if _ then Option.map _ _ else _) = _
      rw [if_pos hc, h1]; rfl
    · rename_i hc
      rw [Option.bind_eq_some_iff] at hr
      obtain ⟨off, h0, hr⟩ := hr
      rw [Option.map_eq_some_iff] at hr
      obtain ⟨t, h1, rfl⟩ := hr
      show (if _ then _ else Option.bind _ _) = _
      rw [if_neg hc, h0]
      show Option.map _ _ = _
      rw [h1]; rfl
  · cases hr
/-- which stage takes an instruction -/
def a_stage (i : Instr) : Nat := match i with
  | .tableswitch .. => 7
  | .iinc .. | .goto _ | .ifCond .. | .if_icmp .. | .if_acmp .. | .dup | .dup2 | .pop => 1
  | .iconst _ | .bipush _ | .sipush _ | .lconst _ | .fconst _ | .dconst _ => 1
  | .iload _ | .iload_n _ | .lload _ | .lload_n _ | .fload _ | .dload _ | .aload _ | .aload_n _ => 1
  | .istore _ | .istore_n _ | .lstore _ | .lstore_n _ | .fstore _ | .dstore _ | .astore _ | .astore_n _ => 1
  | .arraylength | .ldc _ | .ldc_w _ | .ldc2_w _ | .getfield _ | .putfield _ | .iastore | .bastore | .castore | .lastore | .dastore => 4
  | .i2l | .i2c | .i2f | .i2d | .f2d | .ladd | .lmul | .lcmp | .fdiv | .ddiv | .fcmp _ | .dcmp _ | .iadd | .isub | .imul | .iand | .ior | .idiv | .irem => 2
  | .iaload | .baload | .caload | .laload | .daload | .aaload => 3
  | .new _ | .newarray _ | .anewarray _ | .aastore | .invokespecial _ | .invokestatic _ => 5
  | .multianewarray .. => 6
  | _ => 0
theorem a_n1 {i : Instr} {pc : Nat} {al : AL} {st : List Value} {h : AH} {r : AS} (hr : a_st1 i pc al st h = some r) : a_stage i = 1 := by
  unfold a_st1 at hr
  split at hr
  · rename_i v hv
    cases i <;> first | rfl | (simp only [a_const] at hv; cases hv; done)
  split at hr
  · rename_i j kd hv
    cases i <;> first | rfl | (simp only [a_load] at hv; cases hv; done)
  split at hr
  · rename_i j kd hv
    cases i <;> first | rfl | (simp only [a_store] at hv; cases hv; done)
  split at hr <;> first | rfl | (cases hr; done)
theorem a_n2 {i : Instr} {pc : Nat} {al : AL} {st : List Value} {h : AH} {r : AS} (hr : a_st2 i pc al st h = some r) : a_stage i = 2 := by
  unfold a_st2 at hr
  split at hr <;> first
    | rfl
    | (cases hr; done)
    | (rw [Option.map_eq_some_iff] at hr
       obtain ⟨v, h1, -⟩ := hr
       unfold a_bin at h1
       split at h1 <;> first | rfl | (cases h1; done))
theorem a_n3 {i : Instr} {pc : Nat} {al : AL} {st : List Value} {h : AH} {r : AS} (hr : a_st3 i pc al st h = some r) : a_stage i = 3 := by
  unfold a_st3 at hr
  split at hr
  · split at hr
    · split at hr
      · rename_i ht
        unfold a_ald at ht
        split at ht <;> first | rfl | (cases ht; done)
      · cases hr
    · cases hr
  · cases hr
theorem a_n4 {own : Nat} {ini : Bool} {i : Instr} {pc : Nat} {al : AL} {st : List Value} {h : AH} {r : AS} (hr : a_st4 own ini i pc al st h = some r) : a_stage i = 4 := by
  unfold a_st4 at hr
  split at hr <;> first
    | rfl
    | (cases hr; done)
    | (split at hr
       · split at hr
         · rename_i hv
           unfold a_ast at hv
           split at hv <;> first | rfl | (cases hv; done)
         · cases hr
       · cases hr)
theorem a_n5 {own : Nat} {i : Instr} {pc : Nat} {al : AL} {st : List Value} {h : AH} {r : AS} (hr : a_st5 own i pc al st h = some r) : a_stage i = 5 := by
  unfold a_st5 at hr
  split at hr <;> first | rfl | (cases hr; done)
theorem a_n6 {own : Nat} {i : Instr} {pc : Nat} {al : AL} {st : List Value} {h : AH} {r : AS} (hr : a_st6 own i pc al st h = some r) : a_stage i = 6 := by
  unfold a_st6 at hr
  split at hr <;> first | rfl | (cases hr; done)
theorem a_n7 {i : Instr} {pc : Nat} {al : AL} {st : List Value} {h : AH} {r : AS} (hr : a_sw i pc al st h = some r) : a_stage i = 7 := by
  unfold a_sw at hr
  split at hr <;> first | rfl | (cases hr; done)
theorem a_opt {α : Type} {o : Option α} (h : ∀ r, o ≠ some r) : o = none := by
  cases o with
  | none => rfl
  | some r => exact absurd rfl (h r)
/-- the stage that takes the instruction takes the step -/
theorem a_by7 {own : Nat} {ini : Bool} {i : Instr} {len pc : Nat} {al : AL} {st : List Value} {h : AH} {r : AS} (hr : a_sw i pc al st h = some r) : a_stp own ini i len pc al st h = some r := by
  unfold a_stp
  rw [hr]
theorem a_by0 {own : Nat} {ini : Bool} {i : Instr} {len pc : Nat} {al : AL} {st : List Value} {h : AH} {r : AS} (hs : a_stage i ≠ 7) (hl : len = a_len i)
    (hr : (match a_st1 i pc al st h with
    | some r => some r
    | none => match a_st4 own ini i pc al st h with
    | some r => some r
    | none => match a_st2 i pc al st h with
    | some r => some r
    | none => match a_st3 i pc al st h with
    | some r => some r
    | none => match a_st5 own i pc al st h with
    | some r => some r
    | none => a_st6 own i pc al st h) = some r) : a_stp own ini i len pc al st h = some r := by
  unfold a_stp
  rw [a_opt (fun r hr => hs (a_n7 hr))]
  dsimp only
  rw [if_pos hl]
  exact hr
theorem a_by1 {own : Nat} {ini : Bool} {i : Instr} {len pc : Nat} {al : AL} {st : List Value} {h : AH} {r : AS} (hl : len = a_len i) (hr : a_st1 i pc al st h = some r) : a_stp own ini i len pc al st h = some r := by
  have e := a_n1 hr
  exact a_by0 (by rw [e]; decide) hl (by rw [hr])
theorem a_by4 {own : Nat} {ini : Bool} {i : Instr} {len pc : Nat} {al : AL} {st : List Value} {h : AH} {r : AS} (hl : len = a_len i) (hr : a_st4 own ini i pc al st h = some r) : a_stp own ini i len pc al st h = some r := by
  have e := a_n4 hr
  refine a_by0 (by rw [e]; decide) hl ?_
  rw [a_opt (o := a_st1 i pc al st h) (fun r hr => by have := a_n1 hr; rw [e] at this; cases this), hr]
theorem a_by2 {own : Nat} {ini : Bool} {i : Instr} {len pc : Nat} {al : AL} {st : List Value} {h : AH} {r : AS} (hl : len = a_len i) (hr : a_st2 i pc al st h = some r) : a_stp own ini i len pc al st h = some r := by
  have e := a_n2 hr
  refine a_by0 (by rw [e]; decide) hl ?_
  rw [a_opt (o := a_st1 i pc al st h) (fun r hr => by have := a_n1 hr; rw [e] at this; cases this), a_opt (o := a_st4 own ini i pc al st h) (fun r hr => by have := a_n4 hr; rw [e] at this; cases this), hr]
theorem a_by3 {own : Nat} {ini : Bool} {i : Instr} {len pc : Nat} {al : AL} {st : List Value} {h : AH} {r : AS} (hl : len = a_len i) (hr : a_st3 i pc al st h = some r) : a_stp own ini i len pc al st h = some r := by
  have e := a_n3 hr
  refine a_by0 (by rw [e]; decide) hl ?_
  rw [a_opt (o := a_st1 i pc al st h) (fun r hr => by have := a_n1 hr; rw [e] at this; cases this), a_opt (o := a_st4 own ini i pc al st h) (fun r hr => by have := a_n4 hr; rw [e] at this; cases this), a_opt (o := a_st2 i pc al st h) (fun r hr => by have := a_n2 hr; rw [e] at this; cases this), hr]
theorem a_by5 {own : Nat} {ini : Bool} {i : Instr} {len pc : Nat} {al : AL} {st : List Value} {h : AH} {r : AS} (hl : len = a_len i) (hr : a_st5 own i pc al st h = some r) : a_stp own ini i len pc al st h = some r := by
  have e := a_n5 hr
  refine a_by0 (by rw [e]; decide) hl ?_
  rw [a_opt (o := a_st1 i pc al st h) (fun r hr => by have := a_n1 hr; rw [e] at this; cases this), a_opt (o := a_st4 own ini i pc al st h) (fun r hr => by have := a_n4 hr; rw [e] at this; cases this), a_opt (o := a_st2 i pc al st h) (fun r hr => by have := a_n2 hr; rw [e] at this; cases this), a_opt (o := a_st3 i pc al st h) (fun r hr => by have := a_n3 hr; rw [e] at this; cases this), hr]
theorem a_by6 {own : Nat} {ini : Bool} {i : Instr} {len pc : Nat} {al : AL} {st : List Value} {h : AH} {r : AS} (hl : len = a_len i) (hr : a_st6 own i pc al st h = some r) : a_stp own ini i len pc al st h = some r := by
  have e := a_n6 hr
  refine a_by0 (by rw [e]; decide) hl ?_
  rw [a_opt (o := a_st1 i pc al st h) (fun r hr => by have := a_n1 hr; rw [e] at this; cases this), a_opt (o := a_st4 own ini i pc al st h) (fun r hr => by have := a_n4 hr; rw [e] at this; cases this), a_opt (o := a_st2 i pc al st h) (fun r hr => by have := a_n2 hr; rw [e] at this; cases this), a_opt (o := a_st3 i pc al st h) (fun r hr => by have := a_n3 hr; rw [e] at this; cases this), a_opt (o := a_st5 own i pc al st h) (fun r hr => by have := a_n5 hr; rw [e] at this; cases this)]
  exact hr
/-- a step that the symbols let be -/
theorem g_stp {own : Nat} {ini : Bool} {i : Instr} {len pc : Nat} {al : AL} {st : List Value} {h : AH} {r : AS} (hr : a_stp own ini i len pc al st h = some r) : a_stp own ini i len pc (g_A ρ al) (g_S ρ st) (g_H ρ h) = some (g_R ρ r) := by
  unfold a_stp at hr
  split at hr
  · rename_i h1; cases hr; exact a_by7 (g_sw h1)
  · split at hr
    · rename_i hl
      split at hr
      · rename_i h1; cases hr; exact a_by1 hl (g_st1 h1)
      · split at hr
        · rename_i h1; cases hr; exact a_by4 hl (g_st4 h1)
        · split at hr
          · rename_i h1; cases hr; exact a_by2 hl (g_st2 h1)
          · split at hr
            · rename_i h1; cases hr; exact a_by3 hl (g_st3 h1)
            · split at hr
              · rename_i h1; cases hr; exact a_by5 hl (g_st5 h1)
              · exact a_by6 hl (g_st6 hr)
    · cases hr
end GN2
end
section
/-! The symbolic machine: a symbol's values lie in a set of intervals; a branch on a symbol splits. Symbols below 8 are free; 8 + n is n as a char; 16 + n is n & 63. -/
abbrev SS : Type := List (Int × Int)
abbrev SE : Type := List SS
def s_in (S : SS) (x : Int) : Prop := ∃ q ∈ S, q.1 ≤ x ∧ x ≤ q.2
def s_sat (E : SE) (ρ : GV) : Prop := ∀ (k : Nat) (S : SS), E[k]? = some S → s_in S (ρ.1 k).toInt
def s_i2c (x : Int32) : Int32 := (x.toUInt32 % 65536).toInt32
def s_fix (ρ : GV) : Prop := ∀ n, n < 8 → ρ.1 (8 + n) = s_i2c (ρ.1 n) ∧ ρ.1 (16 + n) = ρ.1 n &&& 63
def s_get (E : SE) (k : Nat) : SS := (E[k]?).getD []
theorem s_sat.get {E : SE} {ρ : GV} (h : s_sat E ρ) {k : Nat} (hk : k < E.length) : s_in (s_get E k) (ρ.1 k).toInt := by
  unfold s_get
  rw [List.getElem?_eq_getElem hk]
  exact h k _ (List.getElem?_eq_getElem hk)
theorem s_sat.upd {E : SE} {ρ : GV} (h : s_sat E ρ) {k : Nat} {S : SS} (hS : s_in S (ρ.1 k).toInt) : s_sat (E.set k S) ρ := by
  intro j T hj
  rw [List.getElem?_set] at hj
  split at hj
  · rename_i e
    subst e
    split at hj
    · cases hj; exact hS
    · cases hj
  · exact h j T hj
def s_le (S : SS) (c : Int) : SS := S.filterMap (fun q => if q.1 ≤ c then some (q.1, if q.2 ≤ c then q.2 else c) else none)
def s_ge (S : SS) (c : Int) : SS := S.filterMap (fun q => if c ≤ q.2 then some (if c ≤ q.1 then q.1 else c, q.2) else none)
def s_eqs (S : SS) (c : Int) : SS := if (S.any fun q => decide (q.1 ≤ c) && decide (c ≤ q.2)) = true then [(c, c)] else []
def s_nes (S : SS) (c : Int) : SS := S.flatMap (fun q => if q.1 ≤ c ∧ c ≤ q.2 then (if q.1 < c then [(q.1, c - 1)] else []) ++ (if c < q.2 then [(c + 1, q.2)] else []) else [q])
theorem s_le_ok {S : SS} {c x : Int} (h : s_in S x) (hx : x ≤ c) : s_in (s_le S c) x := by
  obtain ⟨q, hq, h1, h2⟩ := h
  refine ⟨(q.1, if q.2 ≤ c then q.2 else c), List.mem_filterMap.mpr ⟨q, hq, if_pos (by omega)⟩, h1, ?_⟩
  dsimp only
  split <;> omega
theorem s_ge_ok {S : SS} {c x : Int} (h : s_in S x) (hx : c ≤ x) : s_in (s_ge S c) x := by
  obtain ⟨q, hq, h1, h2⟩ := h
  refine ⟨(if c ≤ q.1 then q.1 else c, q.2), List.mem_filterMap.mpr ⟨q, hq, if_pos (by omega)⟩, ?_, h2⟩
  dsimp only
  split <;> omega
theorem s_eqs_ok {S : SS} {c x : Int} (h : s_in S x) (hx : x = c) : s_in (s_eqs S c) x := by
  obtain ⟨q, hq, h1, h2⟩ := h
  unfold s_eqs
  rw [if_pos (List.any_eq_true.mpr ⟨q, hq, by rw [Bool.and_eq_true, decide_eq_true_eq, decide_eq_true_eq]; omega⟩)]
  exact ⟨(c, c), List.mem_cons_self, by dsimp only; omega, by dsimp only; omega⟩
theorem s_nes_ok {S : SS} {c x : Int} (h : s_in S x) (hx : ¬ x = c) : s_in (s_nes S c) x := by
  obtain ⟨q, hq, h1, h2⟩ := h
  unfold s_nes
  by_cases hc : q.1 ≤ c ∧ c ≤ q.2
  · rcases Int.lt_or_gt_of_ne hx with g | g
    · exact ⟨(q.1, c - 1), List.mem_flatMap.mpr ⟨q, hq, by rw [if_pos hc, if_pos (by omega)]; simp⟩, h1, by dsimp only; omega⟩
    · exact ⟨(c + 1, q.2), List.mem_flatMap.mpr ⟨q, hq, by rw [if_pos hc, if_pos (show c < q.2 by omega)]; simp⟩, by dsimp only; omega, h2⟩
  · exact ⟨q, List.mem_flatMap.mpr ⟨q, hq, by rw [if_neg hc]; simp⟩, h1, h2⟩
/-- where a symbol of S stands to c: the values for yes, for no -/
def s_cnd (k : Jvm.ClassFile.Cond) (S : SS) (c : Int) : SS × SS := match k with
  | .eq => (s_eqs S c, s_nes S c)
  | .ne => (s_nes S c, s_eqs S c)
  | .lt => (s_le S (c - 1), s_ge S c)
  | .ge => (s_ge S c, s_le S (c - 1))
  | .gt => (s_ge S (c + 1), s_le S c)
  | .le => (s_le S c, s_ge S (c + 1))
theorem s_cnd_ok {k : Jvm.ClassFile.Cond} {S : SS} {x c : Int32} (h : s_in S x.toInt) : (a_if2 k x c = true → s_in (s_cnd k S c.toInt).1 x.toInt) ∧ (a_if2 k x c = false → s_in (s_cnd k S c.toInt).2 x.toInt) := by
  have e1 : (x = c) ↔ x.toInt = c.toInt := Int32.toInt_inj.symm
  have e2 : (x < c) ↔ x.toInt < c.toInt := Int32.lt_iff_toInt_lt
  have e3 : (c ≤ x) ↔ c.toInt ≤ x.toInt := Int32.le_iff_toInt_le
  have e4 : (c < x) ↔ c.toInt < x.toInt := Int32.lt_iff_toInt_lt
  have e5 : (x ≤ c) ↔ x.toInt ≤ c.toInt := Int32.le_iff_toInt_le
  cases k <;> simp only [a_if2, s_cnd, decide_eq_true_eq, decide_eq_false_iff_not, Bool.not_eq_true', Bool.not_eq_false', e1, e2, e3, e4, e5]
  · exact ⟨s_eqs_ok h, s_nes_ok h⟩
  · exact ⟨s_nes_ok h, s_eqs_ok h⟩
  · exact ⟨fun g => s_le_ok h (by omega), fun g => s_ge_ok h (by omega)⟩
  · exact ⟨fun g => s_ge_ok h g, fun g => s_le_ok h (by omega)⟩
  · exact ⟨fun g => s_ge_ok h (by omega), fun g => s_le_ok h (by omega)⟩
  · exact ⟨fun g => s_le_ok h g, fun g => s_ge_ok h (by omega)⟩
def s_flip (k : Jvm.ClassFile.Cond) : Jvm.ClassFile.Cond := match k with
  | .eq => .eq
  | .ne => .ne
  | .lt => .gt
  | .ge => .le
  | .gt => .lt
  | .le => .ge
theorem s_flip_ok (k : Jvm.ClassFile.Cond) (x y : Int32) : a_if2 k x y = a_if2 (s_flip k) y x := by
  have e : decide (x = y) = decide (y = x) := by simp [eq_comm]
  cases k <;> simp only [a_if2, s_flip, e]
theorem s_if1 (k : Jvm.ClassFile.Cond) (x : Int32) : a_if1 k x = a_if2 k x 0 := by cases k <;> rfl
/-- the two ways of a branch, those that can be -/
def s_two (E : SE) (n : Nat) (q : SS × SS) (T F : AS) : List (SE × AS) := (if q.1.isEmpty = true then [] else [(E.set n q.1, T)]) ++ (if q.2.isEmpty = true then [] else [(E.set n q.2, F)])
theorem s_ne {S : SS} {x : Int} (h : s_in S x) : ¬ S.isEmpty = true := by
  obtain ⟨q, hq, -⟩ := h
  intro hn
  rw [List.isEmpty_iff.mp hn] at hq
  cases hq
theorem s_two_ok {E : SE} {ρ : GV} (hs : s_sat E ρ) {n : Nat} {q : SS × SS} {T F : AS} {b : Bool} (h1 : b = true → s_in q.1 (ρ.1 n).toInt) (h2 : b = false → s_in q.2 (ρ.1 n).toInt) : ∃ o ∈ s_two E n q T F, s_sat o.1 ρ ∧ o.2 = if b = true then T else F := by
  cases b with
  | true =>
    have h := h1 rfl
    exact ⟨(E.set n q.1, T), by unfold s_two; rw [if_neg (s_ne h)]; simp, hs.upd h, rfl⟩
  | false =>
    have h := h2 rfl
    exact ⟨(E.set n q.2, F), by unfold s_two; rw [if_neg (show ¬ q.2.isEmpty = true from s_ne h)]; simp, hs.upd h, rfl⟩
/-- all values of a set, if they are few -/
def s_vals (S : SS) : List Int := S.flatMap fun q => (List.range (q.2 - q.1 + 1).toNat).map fun (k : Nat) => q.1 + (k : Int)
theorem s_vals_ok {S : SS} {x : Int} (h : s_in S x) : x ∈ s_vals S := by
  obtain ⟨q, hq, h1, h2⟩ := h
  exact List.mem_flatMap.mpr ⟨q, hq, List.mem_map.mpr ⟨(x - q.1).toNat, List.mem_range.mpr (by omega), by omega⟩⟩
def s_few (S : SS) : Bool := decide ((S.map fun q => q.2 - q.1 + 1).sum ≤ 128)
/-- all values lie from a to b -/
def s_sub (S : SS) (a b : Int) : Bool := S.all fun q => decide (a ≤ q.1) && decide (q.2 ≤ b)
theorem s_sub_ok {S : SS} {a b x : Int} (h : s_in S x) (hs : s_sub S a b = true) : a ≤ x ∧ x ≤ b := by
  obtain ⟨q, hq, h1, h2⟩ := h
  have := List.all_eq_true.mp hs q hq
  rw [Bool.and_eq_true, decide_eq_true_eq, decide_eq_true_eq] at this
  omega
/-- a type takes all values of a set as they are -/
def s_fit (ty : FieldType) (S : SS) : Bool := match ty with
  | .int => true
  | .char => s_sub S 0 65535
  | .boolean => s_sub S 0 1
  | _ => false
theorem s_nat {x : Int32} {n : Nat} (h1 : 0 ≤ x.toInt) (h2 : x.toInt ≤ (n : Int)) (hn : n < 2 ^ 31) : ∃ j : Nat, j ≤ n ∧ x = nI j := by
  refine ⟨x.toInt.toNat, by omega, Int32.toInt_inj.mp ?_⟩
  rw [nI_toInt (by omega)]
  omega
theorem s_bv (y : Int32) : nI y.toBitVec.toNat = y := by
  apply Int32.toBitVec_inj.mp
  simp [nI]
theorem s_bvn {j : Nat} (h : j < 2 ^ 31) : (nI j).toBitVec.toNat = j := by
  simp [nI]
  omega
theorem s_i2c_in (x : Int32) : s_in [(0, 65535)] (s_i2c x).toInt := by
  have h : (s_i2c x).toInt = ((x.toBitVec.toNat % 65536 : Nat) : Int) := by
    unfold s_i2c
    rw [pk_char, nI_toInt (by omega)]
  exact ⟨(0, 65535), List.mem_cons_self, by rw [h]; omega, by rw [h]; dsimp only; omega⟩
theorem s_i2c_id {x : Int32} (h1 : 0 ≤ x.toInt) (h2 : x.toInt ≤ 65535) : s_i2c x = x := by
  obtain ⟨j, hj, rfl⟩ := s_nat (n := 65535) h1 h2 (by decide)
  unfold s_i2c
  rw [pk_char, s_bvn (by omega), Nat.mod_eq_of_lt (by omega)]
theorem s_and_in (x : Int32) : s_in [(0, 63)] (x &&& 63).toInt := by
  have h1 : (x &&& 63).toBitVec.toNat ≤ 63 := by
    have : (x &&& 63).toBitVec.toNat = x.toBitVec.toNat &&& 63 := by simp
    rw [this]
    exact Nat.and_le_right
  have h : (x &&& 63).toInt = (((x &&& 63).toBitVec.toNat : Nat) : Int) := by
    conv => lhs; rw [← s_bv (x &&& 63)]
    rw [nI_toInt (by omega)]
  exact ⟨(0, 63), List.mem_cons_self, by rw [h]; omega, by rw [h]; dsimp only; omega⟩
theorem s_fit_ok {ty : FieldType} {S : SS} {x : Int32} (h : s_in S x.toInt) (hf : s_fit ty S = true) : narrow ty (.int x) = .int x ∧ fits ty (.int x) = true := by
  cases ty <;> simp only [s_fit] at hf <;> first | (cases hf; done) | skip
  · obtain ⟨h1, h2⟩ := s_sub_ok h hf
    obtain ⟨j, hj, rfl⟩ := s_nat (n := 65535) h1 h2 (by decide)
    exact pk_charN (q := j) (by omega)
  · exact ⟨rfl, rfl⟩
  · obtain ⟨h1, h2⟩ := s_sub_ok h hf
    obtain ⟨j, hj, rfl⟩ := s_nat (n := 1) h1 h2 (by decide)
    have : j = 0 ∨ j = 1 := by omega
    rcases this with rfl | rfl <;> exact ⟨by decide, by decide⟩
/-- which symbol on the stack must be made a number: the top one (false), the second (true) -/
def s_con (i : Instr) (st : List Value) : Option (Nat × Bool) := match i, st with
  | .tableswitch .., .retAddr n :: _ => some (n, false)
  | .iadd, .retAddr n :: _ => some (n, false)
  | .isub, .retAddr n :: _ => some (n, false)
  | .imul, .retAddr n :: _ => some (n, false)
  | .i2l, .retAddr n :: _ => some (n, false)
  | .iaload, .retAddr n :: _ => some (n, false)
  | .baload, .retAddr n :: _ => some (n, false)
  | .caload, .retAddr n :: _ => some (n, false)
  | .aaload, .retAddr n :: _ => some (n, false)
  | .iadd, .int _ :: .retAddr n :: _ => some (n, true)
  | .isub, .int _ :: .retAddr n :: _ => some (n, true)
  | .imul, .int _ :: .retAddr n :: _ => some (n, true)
  | .idiv, .retAddr n :: _ => some (n, false)
  | .irem, .retAddr n :: _ => some (n, false)
  | .idiv, .int _ :: .retAddr n :: _ => some (n, true)
  | .irem, .int _ :: .retAddr n :: _ => some (n, true)
  | .iastore, _ :: .retAddr n :: _ => some (n, true)
  | .bastore, _ :: .retAddr n :: _ => some (n, true)
  | .castore, _ :: .retAddr n :: _ => some (n, true)
  | .aastore, _ :: .retAddr n :: _ => some (n, true)
  | _, _ => none
def s_put (b : Bool) (v : Value) (st : List Value) : List Value := match b, st with
  | false, _ :: st => v :: st
  | true, u :: _ :: st => u :: v :: st
  | _, st => st
def s_seq {α : Type} : List (Option α) → Option (List α)
  | [] => some []
  | none :: _ => none
  | some a :: l => (s_seq l).map (a :: ·)
theorem s_seq_in {α : Type} : ∀ {l : List (Option α)} {r : List α}, s_seq l = some r → ∀ {o : Option α}, o ∈ l → ∃ a ∈ r, o = some a
  | [], r, h, o, ho => absurd ho List.not_mem_nil
  | none :: l, r, h, o, ho => by cases h
  | some a :: l, r, h, o, ho => by
    rw [s_seq, Option.map_eq_some_iff] at h
    obtain ⟨r', h1, rfl⟩ := h
    rcases List.mem_cons.mp ho with rfl | ho
    · exact ⟨a, List.mem_cons_self, rfl⟩
    · obtain ⟨b, hb, e⟩ := s_seq_in h1 ho
      exact ⟨b, List.mem_cons_of_mem _ hb, e⟩
def s_gen (E : SE) (own : Nat) (ini : Bool) (i : Instr) (len pc : Nat) (al : AL) (st : List Value) (h : AH) : Option (List (SE × AS)) :=
  match a_load i with
  | some (k, kd) => (match a_get al k with
    | some (.retAddr n) => if kd = 0 then some [(E, (pc + len, al, .retAddr n :: st, h, 0, 0))] else none
    | _ => (a_stp own ini i len pc al st h).map fun r => [(E, r)])
  | none => match a_store i, st with
    | some (k, kd), .retAddr n :: st => if kd = 0 ∧ k < al.length then some [(E, (pc + len, a_set1 al k (.retAddr n), st, h, 0, 0))] else none
    | _, st => (a_stp own ini i len pc al st h).map fun r => [(E, r)]
def s_stp (E : SE) (own : Nat) (ini : Bool) (i : Instr) (len pc : Nat) (al : AL) (st : List Value) (h : AH) : Option (List (SE × AS)) :=
  match s_con i st with
  | some (n, b) => if n < E.length ∧ s_few (s_get E n) = true then s_seq ((s_vals (s_get E n)).map fun v => (a_stp own ini i len pc al (s_put b (.int (Int32.ofInt v)) st) h).map fun r => (E.set n [(v, v)], r)) else none
  | none => match i, st with
    | .ifCond c off, .retAddr n :: st => if n < E.length then (a_tgt pc off).map (fun t => s_two E n (s_cnd c (s_get E n) 0) (t, al, st, h, 0, 0) (pc + 3, al, st, h, 0, 0)) else none
    | .if_icmp c off, .int y :: .retAddr n :: st => if n < E.length then (a_tgt pc off).map (fun t => s_two E n (s_cnd c (s_get E n) y.toInt) (t, al, st, h, 0, 0) (pc + 3, al, st, h, 0, 0)) else none
    | .if_icmp c off, .retAddr n :: .int x :: st => if n < E.length then (a_tgt pc off).map (fun t => s_two E n (s_cnd (s_flip c) (s_get E n) x.toInt) (t, al, st, h, 0, 0) (pc + 3, al, st, h, 0, 0)) else none
    | .if_icmp _ off, .retAddr _ :: .retAddr _ :: st => (a_tgt pc off).map (fun t => [(E, (t, al, st, h, 0, 0)), (E, (pc + 3, al, st, h, 0, 0))])
    | .i2c, .retAddr n :: st => if n < 8 then some [(E, (pc + 1, al, .retAddr (8 + n) :: st, h, 0, 0))] else if n < E.length ∧ s_sub (s_get E n) 0 65535 = true then some [(E, (pc + 1, al, .retAddr n :: st, h, 0, 0))] else none
    | .iand, .int c :: .retAddr n :: st => if n < 8 ∧ c = 63 then some [(E, (pc + 1, al, .retAddr (16 + n) :: st, h, 0, 0))] else none
    | .putfield idx, .retAddr n :: .ref a :: st => match a_field own idx with
      | some (ci, k) => match h[a]? with
        | some (t, vs) => if t = ci ∧ k < vs.length ∧ n < E.length ∧ s_fit (a_fty ci k) (s_get E n) = true ∧ ((a_cT ci k).2.2.2 = false ∨ (ini = true ∧ own = ci)) then some [(E, (pc + 3, al, st, h.set a (t, vs.set k (.retAddr n)), 0, 0))] else none
        | none => none
      | none => none
    | .iastore, .retAddr n :: .int j :: .ref a :: st => match h[a]? with
      | some (t, vs) => if t ≠ 19 ∧ a_aty t = some .int then (a_ix j vs.length).map (fun k => [(E, (pc + 1, al, st, h.set a (t, vs.set k (.retAddr n)), 0, 0))]) else none
      | none => none
    | .castore, .retAddr n :: .int j :: .ref a :: st => match h[a]? with
      | some (t, vs) => if a_aty t = some .char ∧ n < E.length ∧ s_fit .char (s_get E n) = true then (a_ix j vs.length).map (fun k => [(E, (pc + 1, al, st, h.set a (t, vs.set k (.retAddr n)), 0, 0))]) else none
      | none => none
    | i, st => s_gen E own ini i len pc al st h
/-! its steps are the abstract machine's -/
section SY
variable {ρ : GV} {E : SE}
theorem s_put_g {i : Instr} {st : List Value} {n : Nat} {b : Bool} (hc : s_con i st = some (n, b)) : g_S ρ (s_put b (.int (ρ.1 n)) st) = g_S ρ st := by
  unfold s_con at hc
  split at hc <;> cases hc <;> rfl
theorem s_gen_ok (hs : s_sat E ρ) {own : Nat} {ini : Bool} {i : Instr} {len pc : Nat} {al : AL} {st : List Value} {h : AH} {outs : List (SE × AS)} (hlen : a_isSw i = false → len = a_len i) (hr : s_gen E own ini i len pc al st h = some outs) : ∃ o ∈ outs, s_sat o.1 ρ ∧ a_stp own ini i len pc (g_A ρ al) (g_S ρ st) (g_H ρ h) = some (g_R ρ o.2) := by
  have gen : ∀ {X : Option (List (SE × AS))}, X = ((a_stp own ini i len pc al st h).map fun r => [(E, r)]) → X = some outs → ∃ o ∈ outs, s_sat o.1 ρ ∧ a_stp own ini i len pc (g_A ρ al) (g_S ρ st) (g_H ρ h) = some (g_R ρ o.2) := by
    intro X e1 e2
    rw [e1, Option.map_eq_some_iff] at e2
    obtain ⟨r, h1, rfl⟩ := e2
    exact ⟨(E, r), List.mem_cons_self, hs, g_stp h1⟩
  unfold s_gen at hr
  split at hr
  · rename_i k kd hl
    split at hr
    · rename_i n hg
      split at hr
      · rename_i hk
        subst hk
        cases hr
        have hst : a_stage i = 1 := by
          cases i <;> first | rfl | (simp only [a_load] at hl; cases hl; done)
        have hsw : a_isSw i = false := by
          cases i <;> first | rfl | cases hst
        have hl2 := hlen hsw
        refine ⟨_, List.mem_cons_self, hs, a_by1 hl2 ?_⟩
        have hc0 : a_const i = none := by
          cases i <;> first | rfl | (simp only [a_load] at hl; cases hl; done)
        unfold a_st1
        rw [hc0]
        dsimp only
        rw [hl]
        dsimp only
        rw [g_get_some hg]
        show (if a_kind (Value.int (ρ.1 n)) = 0 then _ else _) = _
        rw [if_pos (show a_kind (Value.int (ρ.1 n)) = 0 from rfl), hl2]; rfl
      · cases hr
    · exact gen rfl hr
  · rename_i hl
    split at hr
    · rename_i k kd n st' hst0
      split at hr
      · rename_i hk
        obtain ⟨hk, hkl⟩ := hk
        subst hk
        cases hr
        have hst : a_stage i = 1 := by
          cases i <;> first | rfl | (simp only [a_store] at hst0; cases hst0; done)
        have hsw : a_isSw i = false := by
          cases i <;> first | rfl | cases hst
        have hl2 := hlen hsw
        refine ⟨_, List.mem_cons_self, hs, a_by1 hl2 ?_⟩
        have hc0 : a_const i = none := by
          cases i <;> first | rfl | (simp only [a_store] at hst0; cases hst0; done)
        unfold a_st1
        rw [hc0]
        dsimp only
        rw [hl]
        dsimp only
        rw [hst0]
        show (if a_kind (Value.int (ρ.1 n)) = 0 then (a_sto (g_A ρ al) k (.int (ρ.1 n))).map _ else _) = _
        have e : a_sto (g_A ρ al) k (.int (ρ.1 n)) = some (a_set1 (g_A ρ al) k (.int (ρ.1 n))) := by
          unfold a_sto
          rw [if_neg (show ¬ (Value.int (ρ.1 n)).category = 2 from (by decide : ¬ (1 : Nat) = 2)), if_pos (by rw [g_len]; exact hkl)]
        rw [if_pos (show a_kind (Value.int (ρ.1 n)) = 0 from rfl), e, hl2]
        show some (_, _, _, _, _, _) = some (_, g_A ρ (a_set1 al k (.retAddr n)), _, _, _, _)
        rw [g_set1]; rfl
      · cases hr
    · exact gen rfl hr
set_option maxHeartbeats 2000000 in
theorem s_stp_ok (hρ : s_fix ρ) (hs : s_sat E ρ) {own : Nat} {ini : Bool} {i : Instr} {len pc : Nat} {al : AL} {st : List Value} {h : AH} {outs : List (SE × AS)} (hlen : a_isSw i = false → len = a_len i) (hr : s_stp E own ini i len pc al st h = some outs) : ∃ o ∈ outs, s_sat o.1 ρ ∧ a_stp own ini i len pc (g_A ρ al) (g_S ρ st) (g_H ρ h) = some (g_R ρ o.2) := by
  unfold s_stp at hr
  split at hr
  · rename_i n b hc
    split at hr
    · rename_i hn
      have hin := hs.get hn.1
      obtain ⟨a, ha, e⟩ := s_seq_in hr (List.mem_map.mpr ⟨(ρ.1 n).toInt, s_vals_ok hin, rfl⟩)
      rw [Option.map_eq_some_iff] at e
      obtain ⟨r, h1, rfl⟩ := e
      have e2 : Int32.ofInt (ρ.1 n).toInt = ρ.1 n := Int32.ofInt_toInt _
      rw [e2] at h1
      have h2 := g_stp (ρ := ρ) h1
      rw [s_put_g hc] at h2
      exact ⟨_, ha, hs.upd ⟨((ρ.1 n).toInt, (ρ.1 n).toInt), List.mem_cons_self, Int.le_refl _, Int.le_refl _⟩, h2⟩
    · cases hr
  · split at hr
    · -- ifCond
      rename_i c off n st' _
      split at hr
      · rename_i hn
        rw [Option.map_eq_some_iff] at hr
        obtain ⟨t, h1, rfl⟩ := hr
        have hin := hs.get hn
        have hc := s_cnd_ok (k := c) (c := 0) hin
        obtain ⟨o, ho, h2, h3⟩ := s_two_ok (T := (t, al, st', h, 0, 0)) (F := (pc + 3, al, st', h, 0, 0)) hs hc.1 hc.2
        refine ⟨o, ho, h2, a_by1 (hlen rfl) ?_⟩
        show (a_br pc (a_if1 c (ρ.1 n)) off).map _ = _
        rw [s_if1]
        unfold a_br
        rw [h1, h3]
        cases a_if2 c (ρ.1 n) 0 <;> rfl
      · cases hr
    · -- if_icmp, the symbol first
      rename_i c off y n st' _
      split at hr
      · rename_i hn
        rw [Option.map_eq_some_iff] at hr
        obtain ⟨t, h1, rfl⟩ := hr
        have hin := hs.get hn
        have hc := s_cnd_ok (k := c) (c := y) hin
        obtain ⟨o, ho, h2, h3⟩ := s_two_ok (T := (t, al, st', h, 0, 0)) (F := (pc + 3, al, st', h, 0, 0)) hs hc.1 hc.2
        refine ⟨o, ho, h2, a_by1 (hlen rfl) ?_⟩
        show (a_br pc (a_if2 c (ρ.1 n) y) off).map _ = _
        unfold a_br
        rw [h1, h3]
        cases a_if2 c (ρ.1 n) y <;> rfl
      · cases hr
    · -- if_icmp, the symbol second
      rename_i c off n x st' _
      split at hr
      · rename_i hn
        rw [Option.map_eq_some_iff] at hr
        obtain ⟨t, h1, rfl⟩ := hr
        have hin := hs.get hn
        have hc := s_cnd_ok (k := s_flip c) (c := x) hin
        obtain ⟨o, ho, h2, h3⟩ := s_two_ok (T := (t, al, st', h, 0, 0)) (F := (pc + 3, al, st', h, 0, 0)) hs hc.1 hc.2
        refine ⟨o, ho, h2, a_by1 (hlen rfl) ?_⟩
        show (a_br pc (a_if2 c x (ρ.1 n)) off).map _ = _
        rw [s_flip_ok]
        unfold a_br
        rw [h1, h3]
        cases a_if2 (s_flip c) (ρ.1 n) x <;> rfl
      · cases hr
    · -- if_icmp, both
      rename_i c off m n st' _
      rw [Option.map_eq_some_iff] at hr
      obtain ⟨t, h1, rfl⟩ := hr
      have key : a_st1 (.if_icmp c off) pc (g_A ρ al) (.int (ρ.1 m) :: .int (ρ.1 n) :: g_S ρ st') (g_H ρ h) = some (g_R ρ (if a_if2 c (ρ.1 n) (ρ.1 m) = true then (t, al, st', h, 0, 0) else (pc + 3, al, st', h, 0, 0))) := by
        show (a_br pc (a_if2 c (ρ.1 n) (ρ.1 m)) off).map _ = _
        unfold a_br
        rw [h1]
        cases a_if2 c (ρ.1 n) (ρ.1 m) <;> rfl
      have key2 := a_by1 (own := own) (ini := ini) (hlen rfl) key
      cases hb : a_if2 c (ρ.1 n) (ρ.1 m) with
      | true => rw [hb] at key2; exact ⟨_, List.mem_cons_self, hs, key2⟩
      | false => rw [hb] at key2; exact ⟨_, List.mem_cons_of_mem _ List.mem_cons_self, hs, key2⟩
    · -- i2c
      rename_i n st' _
      split at hr
      · rename_i hn
        cases hr
        refine ⟨_, List.mem_cons_self, hs, a_by2 (hlen rfl) ?_⟩
        show some (_, _, Value.int (s_i2c (ρ.1 n)) :: _, _, _, _) = some (_, _, Value.int (ρ.1 (8 + n)) :: _, _, _, _)
        rw [(hρ n hn).1]
      · split at hr
        · rename_i hn
          cases hr
          refine ⟨_, List.mem_cons_self, hs, a_by2 (hlen rfl) ?_⟩
          obtain ⟨g1, g2⟩ := s_sub_ok (hs.get hn.1) hn.2
          show some (_, _, Value.int (s_i2c (ρ.1 n)) :: _, _, _, _) = some (_, _, Value.int (ρ.1 n) :: _, _, _, _)
          rw [s_i2c_id g1 g2]
        · cases hr
    · -- iand
      rename_i c n st' _
      split at hr
      · rename_i hn
        cases hr
        refine ⟨_, List.mem_cons_self, hs, a_by2 (hlen rfl) ?_⟩
        show some (_, _, Value.int (ρ.1 n &&& c) :: _, _, _, _) = some (_, _, Value.int (ρ.1 (16 + n)) :: _, _, _, _)
        rw [(hρ n hn.1).2, hn.2]
      · cases hr
    · -- putfield
      rename_i idx n a st' _
      split at hr
      · rename_i ci k hf
        split at hr
        · rename_i t vs ha
          split at hr
          · rename_i ht
            cases hr
            obtain ⟨f1, f2⟩ := s_fit_ok (hs.get ht.2.2.1) ht.2.2.2.1
            refine ⟨_, List.mem_cons_self, hs, a_by4 (hlen rfl) ?_⟩
            show (match a_field own idx with
              | some (ci, k) => match (g_H ρ h)[a]? with
                | some (t, vs) => if t = ci ∧ k < vs.length ∧ narrow (a_fty ci k) (Value.int (ρ.1 n)) = Value.int (ρ.1 n) ∧ fits (a_fty ci k) (Value.int (ρ.1 n)) = true ∧ ((a_cT ci k).2.2.2 = false ∨ (ini = true ∧ own = ci)) then some (pc + 3, g_A ρ al, g_S ρ st', (g_H ρ h).set a (t, vs.set k (Value.int (ρ.1 n))), 0, 0) else none
                | none => none
              | none => none) = _
            rw [hf]
            dsimp only
            rw [g_cel ha (by have := (a_field_in hf).2.2; have := ht.1; omega)]
            dsimp only
            rw [List.length_map, if_pos ⟨ht.1, ht.2.1, f1, f2, ht.2.2.2.2⟩]
            show _ = some (_, _, _, g_H ρ (h.set a (t, vs.set k (.retAddr n))), _, _)
            rw [g_setH _ _ _ _ _ _ (by have := (a_field_in hf).2.2; have := ht.1; omega)]; rfl
          · cases hr
        · cases hr
      · cases hr
    · -- iastore
      rename_i n j a st' _
      split at hr
      · rename_i t vs ha
        split at hr
        · rename_i ht
          rw [Option.map_eq_some_iff] at hr
          obtain ⟨k, h1, rfl⟩ := hr
          refine ⟨_, List.mem_cons_self, hs, a_by4 (hlen rfl) ?_⟩
          show (match (g_H ρ h)[a]? with
            | some (t, vs) => match (if t ≠ 19 ∧ a_aty t = some FieldType.int then some (Value.int (ρ.1 n)) else none) with
              | some v => (a_ix j vs.length).map (fun n => (pc + 1, g_A ρ al, g_S ρ st', (g_H ρ h).set a (t, vs.set n v), 0, 0))
              | none => none
            | none => none) = _
          rw [g_cel ha (g_ty99 ht.2)]
          dsimp only
          rw [if_pos ht]
          dsimp only
          rw [List.length_map, h1]
          show some (_, _, _, _, _, _) = some (_, _, _, g_H ρ (h.set a (t, vs.set k (.retAddr n))), _, _)
          rw [g_setH _ _ _ _ _ _ (g_ty99 ht.2)]; rfl
        · cases hr
      · cases hr
    · -- castore
      rename_i n j a st' _
      split at hr
      · rename_i t vs ha
        split at hr
        · rename_i ht
          rw [Option.map_eq_some_iff] at hr
          obtain ⟨k, h1, rfl⟩ := hr
          obtain ⟨f1, f2⟩ := s_fit_ok (hs.get ht.2.1) ht.2.2
          refine ⟨_, List.mem_cons_self, hs, a_by4 (hlen rfl) ?_⟩
          show (match (g_H ρ h)[a]? with
            | some (t, vs) => match (if a_aty t = some FieldType.char then some (narrow .char (.int (ρ.1 n))) else none) with
              | some v => (a_ix j vs.length).map (fun n => (pc + 1, g_A ρ al, g_S ρ st', (g_H ρ h).set a (t, vs.set n v), 0, 0))
              | none => none
            | none => none) = _
          rw [g_cel ha (g_ty99 ht.1), f1]
          dsimp only
          rw [if_pos ht.1]
          dsimp only
          rw [List.length_map, h1]
          show some (_, _, _, _, _, _) = some (_, _, _, g_H ρ (h.set a (t, vs.set k (.retAddr n))), _, _)
          rw [g_setH _ _ _ _ _ _ (g_ty99 ht.1)]; rfl
        · cases hr
      · cases hr
    · exact s_gen_ok hs hlen hr
end SY
end
section
/-! The symbolic machine's run -/
def g_r (ρ : GV) (r : AR) : AR := (match r.1 with
  | .inl v => .inl (v.map (g_v ρ))
  | .inr k => .inr k, g_H ρ r.2.1, r.2.2.1, r.2.2.2)
def s_end (E : SE) (mi : Nat) (i : Instr) (st : List Value) : Option (Option Value) := match i, st with
  | .ireturn, [.retAddr n] => match a_rty mi with
    | some ty => if n < E.length ∧ s_fit ty (s_get E n) = true then some (some (.retAddr n)) else none
    | none => none
  | i, st => a_end mi i st
noncomputable def s_go (call : SE → Nat → List Value → AH → Option (List (SE × AR))) (mi : Nat) : Nat → SE → Nat → AL → List Value → AH → Nat → Nat → Option (List (SE × AR))
  | 0, _, _, _, _, _, _, _ => none
  | f + 1, E, pc, al, st, h, mc, ms =>
    match a_ins mi pc with
    | none => none
    | some (i, len) => match s_end E mi i st with
      | some v => some [(E, .inl v, h, mc, ms)]
      | none => match a_trw mi pc i st with
        | some k => some [(E, .inr k, h, mc + 1, ms + 6)]
        | none => match a_call (a_own mi) i st h with
          | some (mt, as, rest) => (match call E mt as h with
            | none => none
            | some outs => (s_seq (outs.map fun o => match o.2.1 with
              | .inl v => s_go call mi f o.1 (pc + 3) al (v.toList ++ rest) o.2.2.1 (mc + o.2.2.2.1) (ms + o.2.2.2.2)
              | .inr k => if a_isSp i = true then none else if (a_hnd mi).isEmpty = true then some [(o.1, .inr k, o.2.2.1, mc + o.2.2.2.1, ms + o.2.2.2.2)] else (match a_cth mi pc k with
                | some x => (match a_hdl mi x.2.2.1 with
                  | some (hp, n) => if n < al.length then s_go call mi f o.1 hp (a_drop al n) [] o.2.2.1 (mc + o.2.2.2.1) (ms + o.2.2.2.2) else none
                  | none => none)
                | none => none))).map List.flatten)
          | none => match s_stp E (a_own mi) (a_ini mi) i len pc al st h with
            | none => none
            | some outs => (s_seq (outs.map fun o => s_go call mi f o.1 o.2.1 o.2.2.1 o.2.2.2.1 o.2.2.2.2.1 (mc + o.2.2.2.2.2.1) (ms + o.2.2.2.2.2.2))).map List.flatten
noncomputable def s_run : Nat → Nat → SE → Nat → List Value → AH → Option (List (SE × AR))
  | 0, _, _, _, _, _ => none
  | d + 1, F, E, mi, as, h => if as.length = a_nrg mi ∧ as.length ≤ a_mxl mi ∧ (as.all fun v => v.category == 1) = true then s_go (s_run d F) mi F E 0 (a_args mi as) [] h 0 0 else none
theorem a_end_stage {mi : Nat} {i : Instr} {st : List Value} {v : Option Value} (h : a_end mi i st = some v) : a_stage i = 0 := by
  unfold a_end at h
  split at h <;> first | rfl | (cases h; done)
theorem a_stp_stage {own : Nat} {ini : Bool} {i : Instr} {len pc : Nat} {al : AL} {st : List Value} {h : AH} {r : AS} (hr : a_stp own ini i len pc al st h = some r) : a_stage i ≠ 0 := by
  unfold a_stp at hr
  split at hr
  · rename_i h1; rw [a_n7 h1]; decide
  · split at hr
    · split at hr
      · rename_i h1; rw [a_n1 h1]; decide
      · split at hr
        · rename_i h1; rw [a_n4 h1]; decide
        · split at hr
          · rename_i h1; rw [a_n2 h1]; decide
          · split at hr
            · rename_i h1; rw [a_n3 h1]; decide
            · split at hr
              · rename_i h1; rw [a_n5 h1]; decide
              · rw [a_n6 hr]; decide
    · cases hr
theorem a_trw_stage {mi pc : Nat} {i : Instr} {st : List Value} {k : Nat} (h : a_trw mi pc i st = some k) : a_stage i = 5 := by
  unfold a_trw at h
  split at h
  · rfl
  · cases h
theorem a_call_end {own mi : Nat} {i : Instr} {st st' : List Value} {h : AH} {q : Nat × List Value × List Value} (hc : a_call own i st h = some q) : a_end mi i st' = none := by
  refine a_opt (fun v hv => ?_)
  have h0 := a_end_stage hv
  unfold a_call at hc
  split at hc
  · rw [show a_end mi (.invokevirtual _) st' = none from rfl] at hv; cases hv
  · cases h0
  · cases h0
  · cases hc
theorem a_call_stage {own : Nat} {i : Instr} {st : List Value} {h : AH} {q : Nat × List Value × List Value} (hc : a_call own i st h = some q) : a_stage i = 0 ∨ a_stage i = 5 := by
  unfold a_call at hc
  split at hc
  · exact Or.inl rfl
  · exact Or.inr rfl
  · exact Or.inr rfl
  · cases hc
section SG
variable {ρ : GV}
theorem g_own (mi : Nat) : a_own mi ≠ 99 := by
  have h : (a_mth.all fun m => decide (m.1 < 14)) = true := by decide +kernel
  unfold a_own a_mrow
  rw [List.getD_eq_getElem?_getD]
  cases hg : a_mth[mi]? with
  | none => exact (by decide : ¬ (0 : Nat) = 99)
  | some m =>
    have := of_decide_eq_true (List.all_eq_true.mp h _ (List.mem_of_getElem? hg))
    show ¬ m.1 = 99
    omega
theorem g_Slen (st : List Value) : (g_S ρ st).length = st.length := by simp [g_S]
theorem g_Sdrop (n : Nat) (st : List Value) : (g_S ρ st).drop n = g_S ρ (st.drop n) := by simp [g_S, List.map_drop]
theorem g_Srev (n : Nat) (st : List Value) : ((g_S ρ st).take n).reverse = g_S ρ (st.take n).reverse := by simp [g_S, List.map_take, List.map_reverse]
theorem g_trw (mi pc : Nat) (i : Instr) (st : List Value) : a_trw mi pc i (g_S ρ st) = a_trw mi pc i st := by
  unfold a_trw
  split
  · rw [g_catS]
  · rfl
theorem g_head (l : List Value) : (∃ a as, l = .ref a :: as) ∨ ((∀ a as, l ≠ .ref a :: as) ∧ ∀ a as, g_S ρ l ≠ .ref a :: as) := by
  cases l with
  | nil => exact Or.inr ⟨(fun a as h => by cases h), (fun a as h => by cases h)⟩
  | cons v as =>
    cases v <;> first
      | exact Or.inl ⟨_, _, rfl⟩
      | exact Or.inr ⟨(fun a as h => by cases h), (fun a as h => by cases h)⟩
theorem g_call (own : Nat) (i : Instr) (st : List Value) (h : AH) (hi : a_stage i ≠ 0) : a_call own i (g_S ρ st) (g_H ρ h) = (a_call own i st h).map (fun q => (q.1, g_S ρ q.2.1, g_S ρ q.2.2)) := by
  unfold a_call
  split
  · exact absurd rfl hi
  · split
    · rename_i e he
      rw [g_Slen, g_Sdrop, g_catS, g_Srev]
      split <;> rfl
    · rfl
  · split
    · rename_i e he
      rw [g_Slen, g_Sdrop, g_catS, g_Srev]
      split
      · rename_i hc
        rcases g_head (ρ := ρ) (st.take (a_nrg e.2.2.1)).reverse with ⟨a, as, hl⟩ | ⟨n1, n2⟩
        · rw [hl]; rfl
        · split
          · rename_i hq; exact absurd hq (n2 _ _)
          · first
              | rfl
              | (split
                 · rename_i hq; exact absurd hq (n1 _ _)
                 · rfl)
      · rfl
    · rfl
  · rfl
theorem g_call_none {own : Nat} {i : Instr} {st : List Value} {h : AH} (hc : a_call own i st h = none) (hi : a_stage i ≠ 0) : a_call own i (g_S ρ st) (g_H ρ h) = none := by
  rw [g_call _ _ _ _ hi, hc]; rfl
theorem g_call_some {own : Nat} {i : Instr} {st : List Value} {h : AH} {q : Nat × List Value × List Value} (hc : a_call own i st h = some q) : a_call own i (g_S ρ st) (g_H ρ h) = some (q.1, g_S ρ q.2.1, g_S ρ q.2.2) := by
  rcases a_call_stage hc with h0 | h5
  · unfold a_call at hc
    split at hc
    · split at hc
      · rename_i e he
        split at hc
        · rename_i hcond
          split at hc
          · rename_i a as hl
            split at hc
            · rename_i t vs ha
              split at hc
              · rename_i ht
                cases hc
                unfold a_call
                dsimp only
                rw [he]
                dsimp only
                rw [g_Slen, g_Sdrop, g_catS, g_Srev, if_pos hcond, hl]
                show (match (g_H ρ h)[a]? with
                  | some (t, _) => if t = a_own e.2.2.1 then some (e.2.2.1, Value.ref a :: g_S ρ as, g_S ρ (st.drop (a_nrg e.2.2.1))) else none
                  | none => none) = _
                rw [g_cel ha (by rw [ht]; exact g_own _)]
                dsimp only
                rw [if_pos ht]; rfl
              · cases hc
            · cases hc
          · cases hc
        · cases hc
      · cases hc
    · cases h0
    · cases h0
    · cases hc
  · rw [g_call _ _ _ _ (by rw [h5]; decide), hc]; rfl
theorem s_end_ok {E : SE} (hs : s_sat E ρ) {mi : Nat} {i : Instr} {st : List Value} {v : Option Value} (h : s_end E mi i st = some v) : a_end mi i (g_S ρ st) = some (v.map (g_v ρ)) := by
  unfold s_end at h
  split at h
  · rename_i n
    split at h
    · rename_i ty hty
      split at h
      · rename_i hc
        cases h
        obtain ⟨f1, f2⟩ := s_fit_ok (hs.get hc.1) hc.2
        show (match a_rty mi with
          | some ty => if narrow ty (Value.int (ρ.1 n)) = Value.int (ρ.1 n) then some (some (Value.int (ρ.1 n))) else none
          | none => none) = _
        rw [hty]
        dsimp only
        rw [if_pos f1]; rfl
      · cases h
    · cases h
  · have h' := h
    unfold a_end at h
    split at h
    · split at h
      · cases h; exact h'
      · cases h
    · split at h
      · split at h
        · cases h; exact h'
        · cases h
      · cases h
    · split at h
      · cases h; exact h'
      · cases h
    · split at h
      · cases h; exact h'
      · cases h
    · split at h
      · cases h; exact h'
      · cases h
    · cases h
theorem s_fl {α : Type} {l : List (Option (List α))} {r : List α} (h : (s_seq l).map List.flatten = some r) {o : Option (List α)} (ho : o ∈ l) : ∃ a, o = some a ∧ ∀ x ∈ a, x ∈ r := by
  rw [Option.map_eq_some_iff] at h
  obtain ⟨q, h1, rfl⟩ := h
  obtain ⟨a, ha, e⟩ := s_seq_in h1 ho
  exact ⟨a, e, fun x hx => List.mem_flatten.mpr ⟨a, ha, hx⟩⟩
set_option maxHeartbeats 2000000 in
theorem s_go_ok (hρ : s_fix ρ) {mi : Nat} {cS : SE → Nat → List Value → AH → Option (List (SE × AR))} {cA : Nat → List Value → AH → Option AR} (hcall : ∀ (E : SE) (mt : Nat) (as : List Value) (h : AH) (outs : List (SE × AR)), cS E mt as h = some outs → s_sat E ρ → ∃ o ∈ outs, s_sat o.1 ρ ∧ cA mt (g_S ρ as) (g_H ρ h) = some (g_r ρ o.2)) :
    ∀ (f : Nat) (E : SE) (pc : Nat) (al : AL) (st : List Value) (h : AH) (mc ms : Nat) (outs : List (SE × AR)), s_go cS mi f E pc al st h mc ms = some outs → s_sat E ρ → ∃ o ∈ outs, s_sat o.1 ρ ∧ a_go cA mi f pc (g_A ρ al) (g_S ρ st) (g_H ρ h) mc ms = some (g_r ρ o.2)
  | 0, E, pc, al, st, h, mc, ms, outs, hr, hs => by cases hr
  | f + 1, E, pc, al, st, h, mc, ms, outs, hr, hs => by
    rw [s_go] at hr
    rw [a_go]
    split at hr
    · cases hr
    · rename_i i len hi
      rw [hi]
      dsimp only
      split at hr
      · rename_i v hv
        cases hr
        refine ⟨_, List.mem_cons_self, hs, ?_⟩
        rw [s_end_ok hs hv]; rfl
      · split at hr
        · rename_i k hk
          cases hr
          refine ⟨_, List.mem_cons_self, hs, ?_⟩
          have e0 : a_end mi i (g_S ρ st) = none := a_opt (fun v hv => by
            have h1 := a_end_stage hv
            rw [a_trw_stage hk] at h1
            cases h1)
          rw [e0, g_trw, hk]; rfl
        · rename_i htr
          split at hr
          · rename_i mt as rest hc
            split at hr
            · cases hr
            · rename_i os hos
              obtain ⟨o, ho, hso, hco⟩ := hcall E mt as h os hos hs
              obtain ⟨a, ea, hin⟩ := s_fl hr (List.mem_map.mpr ⟨o, ho, rfl⟩)
              have e1 : a_call (a_own mi) i (g_S ρ st) (g_H ρ h) = some (mt, g_S ρ as, g_S ρ rest) := g_call_some hc
              rw [a_call_end hc, g_trw, htr, e1]
              dsimp only
              rw [hco]
              obtain ⟨E', res, h', c', s'⟩ := o
              cases res with
              | inl v =>
                dsimp only at ea hso
                obtain ⟨o2, ho2, hs2, h2⟩ := s_go_ok hρ hcall f E' (pc + 3) al (v.toList ++ rest) h' (mc + c') (ms + s') a ea hso
                refine ⟨o2, hin o2 ho2, hs2, ?_⟩
                have e2 : (v.map (g_v ρ)).toList ++ g_S ρ rest = g_S ρ (v.toList ++ rest) := by cases v <;> simp [g_S]
                show a_go cA mi f (pc + 3) (g_A ρ al) ((v.map (g_v ρ)).toList ++ g_S ρ rest) (g_H ρ h') (mc + c') (ms + s') = _
                rw [e2]
                exact h2
              | inr k =>
                dsimp only at ea hso
                dsimp only [g_r]
                by_cases hsp : a_isSp i = true
                · rw [if_pos hsp] at ea; cases ea
                · rw [if_neg hsp] at ea
                  rw [if_neg hsp]
                  by_cases hemp : (a_hnd mi).isEmpty = true
                  · rw [if_pos hemp] at ea
                    rw [if_pos hemp]
                    cases ea
                    exact ⟨_, hin _ List.mem_cons_self, hso, rfl⟩
                  · rw [if_neg hemp] at ea
                    rw [if_neg hemp]
                    split at ea
                    · rename_i x hx
                      rw [hx]
                      dsimp only
                      split at ea
                      · rename_i hp n hh
                        rw [hh]
                        dsimp only
                        split at ea
                        · rename_i hn
                          rw [g_len, if_pos hn, ← g_drop]
                          obtain ⟨o2, ho2, hs2, h2⟩ := s_go_ok hρ hcall f E' hp (a_drop al n) [] h' (mc + c') (ms + s') a ea hso
                          exact ⟨o2, hin o2 ho2, hs2, h2⟩
                        · cases ea
                      · cases ea
                    · cases ea
          · rename_i hc
            split at hr
            · cases hr
            · rename_i os hos
              obtain ⟨o, ho, hso, hst⟩ := s_stp_ok hρ hs (fun q => a_ins_len hi q) hos
              obtain ⟨a, ea, hin⟩ := s_fl hr (List.mem_map.mpr ⟨o, ho, rfl⟩)
              have e0 : a_end mi i (g_S ρ st) = none := a_opt (fun v hv => a_stp_stage hst (a_end_stage hv))
              have e1 : a_call (a_own mi) i (g_S ρ st) (g_H ρ h) = none := g_call_none hc (a_stp_stage hst)
              rw [e0, g_trw, htr, e1]
              dsimp only
              rw [hst]
              obtain ⟨o2, ho2, hs2, h2⟩ := s_go_ok hρ hcall f o.1 o.2.1 o.2.2.1 o.2.2.2.1 o.2.2.2.2.1 (mc + o.2.2.2.2.2.1) (ms + o.2.2.2.2.2.2) a ea hso
              exact ⟨o2, hin o2 ho2, hs2, h2⟩
end SG
end
section
/-! The rows that multianewarray makes, at once -/
def t_refs (m : Nat) : Nat → Nat → Nat → List Value → List Value
  | 0, _, _, vs => vs
  | k + 1, i, b, vs => t_refs m k (i + 1) (b + m) (vs.set i (.ref b))
def t_mkS (g : Nat → List AC) (m : Nat) : Nat → Nat → List AC
  | 0, _ => []
  | k + 1, b => g b ++ t_mkS g m k (b + m)
def t_mkG : List FieldType → List Nat → Nat → List AC
  | ty :: tys, n :: n' :: ns, b => (a_atag ty, t_refs (t_mkG tys (n' :: ns) 0).length n 0 (b + 1) (List.replicate n (defaultValue ty))) :: t_mkS (t_mkG tys (n' :: ns)) (t_mkG tys (n' :: ns) 0).length n (b + 1)
  | ty :: _, [n], _ => [a_row ty n]
  | _, _, _ => []
theorem t_mkS_len {g : Nat → List AC} {m : Nat} (hg : ∀ b, (g b).length = m) : ∀ (k b c : Nat), (t_mkS g m k b).length = (t_mkS g m k c).length
  | 0, b, c => rfl
  | k + 1, b, c => by
    simp only [t_mkS, List.length_append, hg]
    rw [t_mkS_len hg k (b + m) (c + m)]
theorem t_mkG_len : ∀ (ns : List Nat) (tys : List FieldType) (b c : Nat), (t_mkG tys ns b).length = (t_mkG tys ns c).length
  | [], tys, b, c => by cases tys <;> rfl
  | [n], [], b, c => rfl
  | [n], ty :: tys, b, c => by cases tys <;> rfl
  | n :: n' :: ns, [], b, c => rfl
  | n :: n' :: ns, ty :: tys, b, c => by
    have h := t_mkS_len (g := t_mkG tys (n' :: ns)) (m := (t_mkG tys (n' :: ns) 0).length) (fun b => t_mkG_len (n' :: ns) tys b 0) n (b + 1) (c + 1)
    simp only [t_mkG, List.length_cons]
    rw [h]
theorem t_setR (H0 R : AH) (t : Nat) (vs : List Value) (i b : Nat) : a_setR (H0 ++ (t, vs) :: R) H0.length i b = H0 ++ (t, vs.set i (.ref b)) :: R := by
  unfold a_setR
  rw [List.getElem?_append_right (Nat.le_refl _), Nat.sub_self]
  show (H0 ++ (t, vs) :: R).set H0.length (t, vs.set i (.ref b)) = _
  rw [List.set_append_right _ _ (Nat.le_refl _), Nat.sub_self]
  rfl
theorem t_mkL {f : AH → AH} {g : Nat → List AC} {m : Nat} (hf : ∀ h, f h = h ++ g h.length) (hg : ∀ b, (g b).length = m) (H0 : AH) (t : Nat) : ∀ (k i : Nat) (vs : List Value) (R : AH), a_mkL f H0.length k i (H0 ++ (t, vs) :: R) = H0 ++ (t, t_refs m k i (H0 ++ (t, vs) :: R).length vs) :: (R ++ t_mkS g m k (H0 ++ (t, vs) :: R).length)
  | 0, i, vs, R => by simp [a_mkL, t_refs, t_mkS]
  | k + 1, i, vs, R => by
    have e1 : f (H0 ++ (t, vs) :: R) = H0 ++ (t, vs) :: (R ++ g (H0 ++ (t, vs) :: R).length) := by
      rw [hf, List.append_assoc]; rfl
    show a_mkL f H0.length k (i + 1) (a_setR (f (H0 ++ (t, vs) :: R)) H0.length i (H0 ++ (t, vs) :: R).length) = _
    rw [e1, t_setR, t_mkL hf hg H0 t k (i + 1)]
    have e2 : (H0 ++ (t, vs.set i (.ref (H0 ++ (t, vs) :: R).length)) :: (R ++ g (H0 ++ (t, vs) :: R).length)).length = (H0 ++ (t, vs) :: R).length + m := by
      simp only [List.length_append, List.length_cons, hg]
      omega
    rw [e2]
    show H0 ++ (t, t_refs m k (i + 1) _ _) :: _ = H0 ++ (t, t_refs m k (i + 1) _ _) :: (R ++ (g _ ++ t_mkS g m k _))
    rw [List.append_assoc]
theorem t_mkE : ∀ (ns : List Nat) (tys : List FieldType) (h : AH), a_mk tys ns h = h ++ t_mkG tys ns h.length
  | [], tys, h => by
    have e : a_mk tys [] h = h := by rcases tys with _ | ⟨_, _ | ⟨_, _⟩⟩ <;> rfl
    have e2 : ∀ b, t_mkG tys [] b = [] := fun b => by rcases tys with _ | ⟨_, _ | ⟨_, _⟩⟩ <;> rfl
    rw [e, e2, List.append_nil]
  | [n], [], h => (List.append_nil h).symm
  | [n], ty :: tys, h => by cases tys <;> rfl
  | n :: n' :: ns, [], h => (List.append_nil h).symm
  | n :: n' :: ns, ty :: tys, h => by
    show a_mkL (a_mk tys (n' :: ns)) h.length n 0 (h ++ [a_row ty n]) = _
    have hm := t_mkL (f := a_mk tys (n' :: ns)) (g := t_mkG tys (n' :: ns)) (m := (t_mkG tys (n' :: ns) 0).length) (fun h => t_mkE (n' :: ns) tys h) (fun b => t_mkG_len (n' :: ns) tys b 0) h (a_atag ty) n 0 (List.replicate n (defaultValue ty)) []
    refine hm.trans ?_
    have e : (h ++ [(a_atag ty, List.replicate n (defaultValue ty))]).length = h.length + 1 := by simp
    rw [e]
    rfl
def t_st6 (own : Nat) (i : Instr) (pc : Nat) (al : AL) (st : List Value) (h : AH) : Option AS := match i, st with
  | .multianewarray idx 2, .int k :: .int n :: st => match a_mty own idx with
    | some t => if a_tys (a_comps t) [n.toNatClampNeg, k.toNatClampNeg] = true ∧ ¬ n < 0 ∧ ¬ k < 0 then some (pc + 4, al, .ref h.length :: st, h ++ t_mkG (a_comps t) [n.toNatClampNeg, k.toNatClampNeg] h.length, a_mkC [n.toNatClampNeg, k.toNatClampNeg], a_mkS [n.toNatClampNeg, k.toNatClampNeg]) else none
    | none => none
  | .multianewarray idx 3, .int k :: .int o :: .int n :: st => match a_mty own idx with
    | some t => if a_tys (a_comps t) [n.toNatClampNeg, o.toNatClampNeg, k.toNatClampNeg] = true ∧ ¬ n < 0 ∧ ¬ o < 0 ∧ ¬ k < 0 then some (pc + 4, al, .ref h.length :: st, h ++ t_mkG (a_comps t) [n.toNatClampNeg, o.toNatClampNeg, k.toNatClampNeg] h.length, a_mkC [n.toNatClampNeg, o.toNatClampNeg, k.toNatClampNeg], a_mkS [n.toNatClampNeg, o.toNatClampNeg, k.toNatClampNeg]) else none
    | none => none
  | _, _ => none
theorem t_st6_eq {own : Nat} {i : Instr} {pc : Nat} {al : AL} {st : List Value} {h : AH} {r : AS} (hr : t_st6 own i pc al st h = some r) : a_st6 own i pc al st h = some r := by
  unfold t_st6 at hr
  split at hr
  · simp only [← t_mkE] at hr
    exact hr
  · simp only [← t_mkE] at hr
    exact hr
  · cases hr
end
section
/-! The symbolic run with hints: the code goes by as a list, and a number beside each instruction says which kind of step to try first. The numbers prove nothing: a wrong one only costs. -/
abbrev CL : Type := List (Nat × Instr × Nat)
def t_kind (v : Value) : Nat := match v with
  | .retAddr _ => 0
  | v => a_kind v
def t_fast (mi own : Nat) (ini : Bool) (i : Instr) (len pc : Nat) (al : AL) (st : List Value) (h : AH) : Nat → Option AS
  | 0 => none
  | 1 => match a_load i with
    | some (n, kd) => (match a_get al n with
      | some v => bif Nat.beq (t_kind v) kd then some (pc + len, al, v :: st, h, 0, 0) else none
      | none => none)
    | none => none
  | 2 => match a_const i with
    | some v => some (pc + len, al, v :: st, h, 0, 0)
    | none => none
  | 3 => match a_store i, st with
    | some (n, kd), v :: st => bif Nat.beq (t_kind v) kd then (a_sto al n v).map (fun al' => (pc + len, al', st, h, 0, 0)) else none
    | _, _ => none
  | 4 => a_st1 i pc al st h
  | 5 => a_st4 own ini i pc al st h
  | 6 => a_st2 i pc al st h
  | 7 => a_st3 i pc al st h
  | 8 => match a_trw mi pc i st, a_call own i st h with
    | none, none => a_st5 own i pc al st h
    | _, _ => none
  | 9 => t_st6 own i pc al st h
  | _ => none
section TR
variable {ρ : GV}
theorem t_kind_g (v : Value) : a_kind (g_v ρ v) = t_kind v := by cases v <;> rfl
theorem t_side {mi own pc : Nat} {i : Instr} {st : List Value} {h : AH} (h0 : a_stage i ≠ 0) (h5 : a_stage i ≠ 5) : a_trw mi pc i st = none ∧ a_call own i st h = none :=
  ⟨a_opt (fun _ hk => h5 (a_trw_stage hk)), a_opt (fun _ hk => (a_call_stage hk).elim h0 h5)⟩
theorem t_beq {a b : Nat} (h : Nat.beq a b = true) : a = b := Nat.eq_of_beq_eq_true h
theorem t_bif {α : Type} {b : Bool} {x : Option α} {r : α} (h : (bif b then x else none) = some r) : b = true ∧ x = some r := by
  cases b with
  | true => exact ⟨rfl, h⟩
  | false => cases h
theorem t_fast_ok {mi own : Nat} {ini : Bool} {i : Instr} {len pc : Nat} {al : AL} {st : List Value} {h : AH} {r : AS} (hlen : a_isSw i = false → len = a_len i) : ∀ {k : Nat}, t_fast mi own ini i len pc al st h k = some r →
    a_stp own ini i len pc (g_A ρ al) (g_S ρ st) (g_H ρ h) = some (g_R ρ r) ∧ a_trw mi pc i (g_S ρ st) = none ∧ a_call own i (g_S ρ st) (g_H ρ h) = none := by
  intro k hr
  have hsw : ∀ {n : Nat}, a_stage i = n → n ≠ 7 → a_isSw i = false := by
    intro n h1 h2
    cases i <;> first | rfl | (subst h1; exact absurd rfl h2)
  unfold t_fast at hr
  split at hr
  · cases hr
  · -- load
    split at hr
    · rename_i n kd hl
      split at hr
      · rename_i v hg
        obtain ⟨hk, e⟩ := t_bif hr
        cases e
        have hs : a_stage i = 1 := by
          cases i <;> first | rfl | (simp only [a_load] at hl; cases hl; done)
        have hc0 : a_const i = none := by
          cases i <;> first | rfl | (simp only [a_load] at hl; cases hl; done)
        have hl2 := hlen (hsw hs (by decide))
        refine ⟨a_by1 hl2 ?_, t_side (by rw [hs]; decide) (by rw [hs]; decide)⟩
        unfold a_st1
        rw [hc0]
        dsimp only
        rw [hl]
        dsimp only
        rw [g_get_some hg]
        dsimp only
        rw [if_pos ((t_kind_g v).trans (t_beq hk)), hl2]; rfl
      · cases hr
    · cases hr
  · -- constant
    split at hr
    · rename_i v hv
      cases hr
      have hs : a_stage i = 1 := by
        cases i <;> first | rfl | (simp only [a_const] at hv; cases hv; done)
      have hl2 := hlen (hsw hs (by decide))
      refine ⟨a_by1 hl2 ?_, t_side (by rw [hs]; decide) (by rw [hs]; decide)⟩
      have h1 : a_st1 i pc al st h = some (pc + a_len i, al, v :: st, h, 0, 0) := by
        unfold a_st1
        rw [hv]
      rw [g_st1 h1, hl2]
    · cases hr
  · -- store
    split at hr
    · rename_i n kd v st' hl
      obtain ⟨hk, e⟩ := t_bif hr
      rw [Option.map_eq_some_iff] at e
      obtain ⟨al', e1, rfl⟩ := e
      have hs : a_stage i = 1 := by
        cases i <;> first | rfl | (simp only [a_store] at hl; cases hl; done)
      have hc0 : a_const i = none := by
        cases i <;> first | rfl | (simp only [a_store] at hl; cases hl; done)
      have hc1 : a_load i = none := by
        cases i <;> first | rfl | (simp only [a_store] at hl; cases hl; done)
      have hl2 := hlen (hsw hs (by decide))
      refine ⟨a_by1 hl2 ?_, t_side (by rw [hs]; decide) (by rw [hs]; decide)⟩
      unfold a_st1
      rw [hc0]
      dsimp only
      rw [hc1]
      dsimp only
      rw [hl]
      show (if a_kind (g_v ρ v) = kd then (a_sto (g_A ρ al) n (g_v ρ v)).map _ else _) = _
      rw [if_pos ((t_kind_g v).trans (t_beq hk)), g_sto e1, hl2]; rfl
    · cases hr
  · have hs := a_n1 hr
    exact ⟨a_by1 (hlen (hsw hs (by decide))) (g_st1 hr), t_side (by rw [hs]; decide) (by rw [hs]; decide)⟩
  · have hs := a_n4 hr
    exact ⟨a_by4 (hlen (hsw hs (by decide))) (g_st4 hr), t_side (by rw [hs]; decide) (by rw [hs]; decide)⟩
  · have hs := a_n2 hr
    exact ⟨a_by2 (hlen (hsw hs (by decide))) (g_st2 hr), t_side (by rw [hs]; decide) (by rw [hs]; decide)⟩
  · have hs := a_n3 hr
    exact ⟨a_by3 (hlen (hsw hs (by decide))) (g_st3 hr), t_side (by rw [hs]; decide) (by rw [hs]; decide)⟩
  · split at hr
    · rename_i e1 e2
      have hs := a_n5 hr
      exact ⟨a_by5 (hlen (hsw hs (by decide))) (g_st5 hr), by rw [g_trw]; exact e1, g_call_none e2 (by rw [hs]; decide)⟩
    · cases hr
  · have hr := t_st6_eq hr
    have hs := a_n6 hr
    exact ⟨a_by6 (hlen (hsw hs (by decide))) (g_st6 hr), t_side (by rw [hs]; decide) (by rw [hs]; decide)⟩
  · cases hr
end TR
end
section
/-! Hints: which kind of step to try first, by program (wip/genhint.py). They prove nothing. -/
set_option maxRecDepth 100000 in
def t_hints : List (List Nat) := [
  [1, 8, 1, 2, 8, 5, 1, 2, 8, 5, 1, 2, 5, 1, 2, 5, 0],
  [1, 5, 1, 5, 1, 5, 1, 5, 1, 5, 1, 5, 1, 1, 5, 2, 6, 2, 6, 5, 1, 1, 5, 2, 6, 2, 8, 5, 0],
  [1, 5, 2, 6, 1, 6, 2, 6, 2, 6, 0],
  [1, 8, 1, 2, 8, 5, 1, 2, 8, 5, 1, 2, 8, 5, 1, 2, 2, 9, 5, 0],
  [1, 1, 0, 1, 5, 2, 4, 1, 1, 2, 0, 0, 1, 5, 2, 4, 1, 1, 0, 0, 1, 5, 2, 4, 1, 1, 0, 4, 1, 1, 2, 0, 0],
  [2, 3, 1, 2, 4, 1, 1, 5, 4, 1, 5, 1, 1, 1, 7, 5, 5, 4, 4, 0],
  [2, 3, 1, 1, 5, 4, 1, 5, 1, 7, 1, 4, 1, 0, 4, 4, 2, 0],
  [2, 3, 1, 1, 5, 4, 1, 5, 1, 5, 1, 7, 7, 4, 1, 5, 1, 7, 0, 4, 4, 2, 0],
  [2, 3, 1, 1, 5, 4, 1, 5, 1, 7, 4, 1, 1, 5, 1, 7, 1, 0, 2, 4, 2, 0, 4, 4, 2, 0],
  [2, 3, 2, 3, 1, 1, 5, 4, 1, 1, 5, 1, 7, 0, 1, 4, 4, 4, 4, 1, 0],
  [2, 3, 2, 3, 1, 1, 5, 4, 1, 5, 1, 7, 3, 1, 1, 1, 0, 3, 1, 2, 6, 3, 1, 2, 4, 1, 1, 5, 4, 1, 5, 1, 5, 1, 7, 7, 4, 4, 4, 4, 4, 4, 1, 0],
  [2, 3, 2, 3, 2, 3, 1, 2, 4, 1, 1, 1, 0, 4, 1, 4, 1, 1, 1, 0, 4, 1, 1, 1, 0, 3, 1, 1, 4, 1, 3, 1, 3, 4, 4, 1, 0],
  [2, 3, 1, 2, 4, 1, 1, 1, 0, 4, 1, 1, 1, 0, 4, 1, 0, 4, 4, 1, 1, 2, 0, 0],
  [2, 3, 1, 2, 4, 1, 1, 4, 1, 1, 1, 0, 4, 1, 1, 1, 1, 0, 4, 2, 0, 4, 4, 2, 0],
  [2, 3, 2, 3, 1, 1, 5, 4, 1, 1, 5, 1, 7, 1, 0, 3, 1, 1, 5, 1, 7, 1, 0, 3, 1, 2, 4, 1, 2, 4, 1, 1, 1, 4, 2, 4, 2, 6, 3, 4, 4, 1, 0],
  [2, 3, 1, 2, 4, 2, 3, 2, 3, 1, 1, 5, 4, 1, 1, 5, 1, 7, 0, 2, 4, 4, 4, 4, 1, 1, 2, 0, 3, 1, 2, 4, 2, 1, 1, 1, 0, 6, 1, 4, 1, 0, 1, 5, 1, 1, 0, 2, 5, 4, 4, 2, 0],
  [2, 3, 2, 3, 2, 3, 1, 2, 4, 1, 1, 1, 0, 4, 1, 1, 1, 0, 1, 4, 1, 3, 1, 1, 1, 0, 3, 4, 4, 1, 0],
  [1, 1, 0, 1, 5, 2, 4, 1, 1, 0, 0, 1, 1, 1, 5, 2, 4, 2, 4, 2, 0, 4, 1, 5, 2, 4, 1, 0, 3, 1, 2, 4, 1, 0, 4, 1, 0, 1, 0, 0],
  [2, 3, 2, 3, 1, 2, 4, 1, 5, 1, 2, 5, 1, 5, 1, 2, 5, 2, 3, 1, 2, 4, 1, 5, 1, 7, 1, 2, 5, 4, 4, 4, 4, 2, 3, 1, 1, 5, 4, 1, 1, 5, 1, 7, 1, 0, 4, 4, 4, 4, 1, 0],
  [2, 3, 2, 3, 1, 5, 2, 6, 3, 1, 4, 1, 5, 1, 7, 3, 1, 5, 1, 7, 4, 1, 5, 1, 2, 5, 1, 3, 1, 5, 1, 4, 7, 1, 4, 1, 4, 2, 6, 5, 4, 2, 3, 1, 1, 4, 1, 5, 1, 5, 1, 7, 7, 1, 4, 7, 2, 6, 5, 1, 5, 1, 7, 1, 5, 1, 7, 4, 7, 2, 6, 5, 4, 4, 4, 4, 1, 2, 4, 1, 4, 1, 5, 1, 4, 7, 2, 6, 5, 1, 2, 4, 2, 4, 2, 0],
  [2, 3, 2, 3, 1, 4, 1, 5, 1, 7, 4, 1, 2, 4, 1, 5, 1, 7, 1, 5, 1, 7, 4, 1, 3, 4, 4, 1, 0],
  [2, 3, 1, 2, 4, 1, 5, 1, 7, 3, 2, 3, 1, 2, 4, 1, 1, 4, 1, 5, 1, 7, 4, 1, 5, 1, 7, 1, 7, 4, 2, 3, 4, 4, 1, 4, 1, 0, 4, 4, 2, 0],
  [2, 3, 1, 2, 4, 1, 1, 2, 0, 3, 1, 0, 3, 1, 2, 4, 2, 1, 5, 1, 7, 6, 1, 4, 1, 0, 1, 3, 2, 3, 1, 2, 4, 1, 5, 1, 7, 4, 1, 5, 1, 7, 1, 5, 1, 7, 4, 1, 5, 1, 7, 1, 5, 1, 7, 4, 1, 1, 4, 1, 3, 4, 4, 1, 5, 1, 2, 5, 4, 4, 2, 0],
  [1, 8, 1, 2, 5, 1, 2, 5, 1, 2, 5, 1, 2, 5, 1, 2, 5, 1, 2, 5, 1, 2, 5, 1, 2, 5, 1, 2, 5, 0],
  [1, 1, 5, 1, 1, 5, 1, 1, 5, 0],
  [2, 3, 1, 2, 4, 2, 3, 4, 1, 2, 4, 2, 3, 1, 1, 5, 1, 8, 5, 0],
  [1, 1, 5, 1, 1, 5, 0],
  [1, 2, 5, 1, 2, 5, 1, 2, 5, 0],
  [1, 5, 1, 5, 4, 2, 4, 2, 0],
  [1, 5, 2, 4, 2, 4, 2, 0],
  [1, 8, 1, 2, 8, 5, 1, 8, 4, 0, 5, 1, 8, 4, 0, 5, 1, 2, 8, 5, 1, 2, 5, 1, 2, 5, 1, 2, 8, 5, 1, 2, 8, 5, 1, 2, 5, 2, 3, 1, 2, 4, 1, 5, 1, 8, 4, 0, 8, 4, 4, 2, 3, 1, 2, 4, 1, 5, 1, 8, 4, 0, 8, 4, 4, 0],
  [1, 5, 2, 4, 1, 5, 0, 1, 5, 1, 5, 4, 2, 0, 1, 5, 1, 5, 1, 5, 6, 4, 2, 4, 2, 0],
  [1, 5, 1, 7, 5, 3, 1, 2, 4, 1, 1, 4, 2, 0, 1, 2, 4, 1, 5, 5, 1, 7, 4, 1, 5, 1, 1, 1, 0, 0],
  [1, 1, 5, 1, 7, 0, 6, 3, 1, 3, 1, 1, 4, 1, 1, 1, 1, 1, 0, 4, 2, 0, 4, 4, 2, 0],
  [1, 5, 1, 7, 0, 3, 1, 1, 5, 4, 1, 2, 4, 1, 2, 6, 1, 6, 2, 4, 2, 0, 1, 5, 1, 2, 6, 7, 4, 2, 0, 1, 1, 1, 1, 1, 5, 1, 7, 5, 0, 4, 1, 1, 1, 1, 0, 4, 2, 4, 2, 0],
  [1, 5, 1, 7, 0, 3, 1, 5, 1, 7, 5, 3, 2, 3, 1, 1, 5, 4, 1, 5, 1, 7, 3, 1, 1, 1, 0, 4, 1, 5, 1, 4, 1, 5, 1, 4, 1, 5, 1, 5, 7, 5, 1, 4, 2, 0, 4, 4, 2, 0],
  [1, 5, 2, 4, 2, 0, 1, 5, 1, 5, 7, 1, 1, 1, 1, 5, 1, 7, 0, 0, 1, 4, 5, 2, 6, 5, 1, 5, 2, 1, 0, 1, 5, 2, 6, 0],
  [1, 5, 3, 1, 2, 4, 2, 3, 1, 1, 5, 5, 4, 1, 1, 1, 1, 0, 4, 1, 1, 1, 1, 0, 0, 4, 4, 4, 4, 2, 0],
  [2, 3, 1, 1, 5, 4, 1, 5, 1, 7, 5, 1, 4, 1, 5, 1, 7, 1, 2, 0, 4, 1, 0, 4, 4, 2, 0],
  [2, 3, 1, 1, 5, 4, 1, 5, 1, 7, 5, 1, 4, 1, 1, 5, 1, 7, 0, 2, 4, 2, 0, 4, 4, 2, 0],
  [2, 3, 1, 1, 5, 4, 1, 5, 1, 7, 5, 1, 4, 1, 5, 1, 7, 5, 2, 4, 2, 0, 4, 4, 2, 0],
  [1, 2, 5, 2, 3, 1, 1, 5, 4, 1, 1, 5, 1, 7, 0, 2, 4, 1, 5, 1, 7, 5, 2, 6, 1, 4, 1, 1, 0, 4, 4, 1, 5, 0],
  [1, 2, 5, 2, 3, 1, 1, 5, 4, 1, 5, 1, 7, 3, 1, 5, 1, 4, 1, 1, 0, 2, 4, 1, 1, 1, 5, 1, 5, 1, 0, 4, 1, 1, 0, 4, 4, 1, 5, 0],
  [1, 2, 5, 2, 3, 1, 1, 5, 4, 1, 5, 1, 7, 5, 1, 4, 1, 1, 5, 1, 7, 0, 2, 4, 1, 1, 0, 4, 4, 1, 5, 0],
  [1, 5, 2, 4, 1, 5, 1, 5, 1, 5, 1, 4, 5, 2, 6, 5, 0],
  [2, 3, 1, 1, 5, 4, 1, 5, 1, 5, 1, 7, 7, 3, 1, 1, 5, 1, 5, 2, 1, 5, 0, 4, 4, 0],
  [2, 3, 1, 1, 5, 4, 1, 5, 1, 5, 1, 7, 7, 3, 1, 1, 5, 0, 3, 1, 2, 4, 2, 3, 1, 1, 5, 4, 1, 5, 1, 7, 1, 5, 1, 7, 0, 4, 4, 4, 4, 0],
  [2, 3, 1, 1, 5, 4, 1, 5, 1, 7, 3, 1, 1, 4, 1, 5, 1, 7, 4, 1, 1, 5, 1, 5, 0, 4, 2, 0, 4, 4, 2, 0],
  [2, 3, 1, 1, 5, 4, 2, 3, 1, 1, 4, 1, 5, 1, 7, 5, 2, 4, 1, 5, 1, 7, 1, 5, 1, 7, 5, 1, 5, 1, 7, 5, 0, 4, 1, 5, 1, 7, 5, 1, 5, 1, 7, 5, 4, 1, 1, 5, 1, 7, 1, 5, 1, 7, 0, 4, 2, 0, 4, 4, 4, 4, 2, 0],
  [1, 5, 1, 5, 7, 5, 3, 1, 2, 4, 1, 5, 1, 5, 7, 5, 1, 4, 2, 4, 2, 0],
  [2, 3, 1, 1, 5, 4, 1, 5, 1, 7, 0, 1, 5, 5, 1, 5, 1, 7, 5, 7, 4, 2, 0, 2, 3, 1, 1, 4, 1, 5, 1, 7, 5, 2, 4, 1, 5, 1, 7, 5, 1, 7, 4, 1, 1, 1, 5, 1, 7, 0, 4, 2, 0, 4, 4, 4, 4, 2, 0],
  [1, 8, 1, 2, 5, 1, 2, 8, 5, 1, 2, 5, 1, 2, 5, 1, 2, 8, 5, 1, 2, 5, 0],
  [1, 5, 1, 4, 1, 5, 1, 4, 2, 4, 2, 0],
  [1, 1, 5, 1, 1, 5, 1, 5, 1, 2, 5, 0],
  [1, 1, 1, 5, 2, 8, 8, 5, 2, 3, 1, 1, 5, 4, 1, 5, 1, 1, 1, 7, 5, 4, 4, 0],
  [1, 8, 1, 2, 8, 5, 1, 2, 5, 0],
  [1, 5, 1, 5, 1, 5, 1, 4, 5, 2, 6, 5, 1, 5, 2, 6, 0],
  [2, 3, 2, 3, 1, 2, 4, 2, 3, 1, 1, 5, 4, 1, 5, 1, 7, 3, 1, 1, 4, 1, 5, 1, 7, 1, 4, 1, 1, 1, 0, 4, 1, 5, 1, 2, 5, 4, 4, 4, 4, 4, 1, 0],
  [1, 8, 1, 2, 8, 5, 1, 2, 8, 5, 1, 2, 8, 5, 1, 2, 8, 5, 1, 2, 2, 9, 5, 1, 2, 5, 2, 3, 1, 2, 4, 2, 3, 1, 2, 4, 1, 5, 1, 7, 1, 2, 5, 4, 4, 4, 4, 0],
  [1, 5, 1, 5, 1, 5, 1, 4, 5, 2, 6, 5, 1, 5, 2, 6, 0],
  [1, 5, 1, 7, 1, 4, 1, 5, 1, 7, 1, 7, 2, 4, 2, 4, 2, 0],
  [2, 3, 2, 3, 1, 1, 5, 4, 1, 1, 1, 1, 0, 4, 4, 4, 4, 1, 0],
  [2, 3, 2, 3, 1, 1, 5, 4, 1, 1, 1, 1, 0, 4, 1, 2, 4, 1, 5, 1, 7, 1, 5, 1, 7, 4, 1, 3, 4, 4, 1, 2, 4, 1, 5, 1, 7, 1, 2, 5, 1, 5, 1, 4, 7, 2, 6, 5, 0],
  [2, 3, 2, 3, 1, 1, 5, 4, 1, 5, 1, 7, 1, 7, 2, 4, 4, 4, 4, 1, 0],
  [1, 5, 1, 7, 1, 1, 5, 1, 5, 1, 4, 7, 2, 6, 5, 1, 5, 1, 4, 7, 1, 6, 5, 0],
  [2, 3, 2, 3, 1, 1, 5, 4, 1, 5, 1, 7, 1, 7, 4, 4, 4, 4, 1, 0],
  [1, 5, 1, 7, 4, 2, 4, 1, 5, 1, 7, 1, 5, 1, 7, 6, 3, 1, 5, 1, 7, 1, 7, 1, 6, 2, 6, 0],
  [2, 3, 2, 3, 2, 3, 1, 1, 5, 4, 1, 5, 1, 7, 1, 7, 4, 1, 1, 1, 1, 0, 6, 3, 4, 4, 4, 1, 4, 2, 4, 1, 1, 6, 0],
  [2, 3, 2, 3, 2, 3, 2, 3, 1, 1, 5, 4, 1, 5, 1, 7, 1, 7, 4, 1, 1, 1, 0, 3, 1, 4, 1, 1, 8, 4, 1, 3, 1, 4, 1, 1, 8, 4, 1, 3, 2, 3, 4, 4, 1, 1, 6, 0],
  [1, 8, 1, 2, 8, 5, 1, 2, 8, 5, 1, 2, 8, 5, 1, 2, 8, 5, 1, 2, 8, 5, 1, 2, 5, 0],
  [1, 5, 1, 5, 1, 5, 1, 5, 1, 5, 1, 5, 1, 5, 1, 5, 1, 5, 1, 5, 1, 5, 1, 5, 1, 5, 1, 5, 1, 5, 1, 4, 5, 2, 6, 5, 1, 5, 0],
  [1, 5, 1, 7, 1, 4, 1, 5, 1, 7, 1, 4, 1, 5, 1, 7, 1, 4, 1, 1, 5, 1, 7, 4, 2, 4, 2, 0],
  [2, 3, 1, 1, 5, 4, 1, 1, 1, 1, 1, 1, 0, 4, 2, 0, 4, 4, 2, 0],
  [2, 3, 1, 1, 5, 4, 1, 1, 1, 1, 1, 1, 0, 4, 1, 5, 1, 7, 0, 4, 4, 2, 0],
  [2, 3, 1, 1, 5, 4, 2, 3, 1, 1, 4, 1, 1, 1, 5, 1, 7, 1, 5, 1, 7, 1, 5, 1, 7, 1, 5, 1, 7, 0, 4, 2, 0, 4, 4, 4, 4, 2, 0],
  [1, 8, 1, 2, 5, 1, 2, 5, 1, 2, 5, 1, 2, 5, 1, 2, 5, 1, 2, 5, 1, 2, 5, 1, 2, 8, 5, 1, 2, 5, 2, 3, 1, 2, 4, 1, 5, 1, 8, 4, 0, 8, 4, 4, 0],
  [1, 1, 5, 1, 1, 5, 1, 1, 5, 1, 1, 5, 1, 1, 5, 0],
  [1, 5, 1, 5, 7, 1, 5, 1, 4, 5, 2, 6, 5, 1, 5, 2, 6, 0],
  [2, 3, 2, 3, 1, 1, 5, 4, 1, 5, 1, 7, 5, 4, 4, 4, 4, 1, 0],
  [1, 8, 1, 2, 5, 1, 2, 5, 1, 2, 5, 1, 2, 5, 1, 2, 5, 1, 2, 5, 1, 2, 8, 5, 1, 2, 5, 1, 2, 8, 5, 0],
  [1, 1, 5, 1, 1, 5, 1, 1, 5, 1, 1, 5, 0],
  [1, 5, 2, 4, 1, 5, 1, 1, 6, 4, 1, 1, 5, 1, 5, 6, 4, 2, 4, 2, 0],
  [2, 3, 1, 1, 5, 4, 1, 5, 1, 7, 1, 4, 2, 0, 4, 4, 2, 0],
  [1, 5, 2, 4, 1, 5, 1, 5, 1, 5, 1, 4, 5, 2, 6, 5, 0],
  [2, 3, 2, 3, 1, 2, 4, 1, 5, 1, 7, 4, 4, 4, 4, 1, 0],
  [1, 8, 1, 2, 8, 5, 1, 2, 8, 5, 1, 2, 5, 1, 2, 8, 5, 1, 2, 8, 5, 1, 2, 8, 5, 1, 2, 8, 5, 1, 2, 5, 0],
  [1, 5, 1, 5, 1, 5, 1, 5, 1, 5, 1, 5, 1, 4, 5, 2, 6, 5, 1, 5, 2, 6, 0],
  [1, 5, 1, 5, 1, 5, 1, 5, 1, 5, 1, 5, 1, 5, 1, 5, 1, 5, 1, 5, 1, 5, 1, 5, 1, 4, 5, 2, 6, 5, 1, 5, 0],
  [2, 3, 1, 1, 5, 4, 1, 5, 1, 7, 1, 4, 1, 5, 1, 7, 1, 4, 1, 1, 5, 1, 7, 4, 1, 1, 5, 1, 7, 4, 2, 0, 4, 4, 2, 0],
  [1, 8, 1, 8, 4, 0, 5, 1, 1, 5, 5, 5, 1, 1, 5, 5, 5, 1, 1, 5, 5, 5, 1, 2, 5, 1, 2, 8, 5, 1, 2, 5, 1, 8, 4, 0, 5, 1, 8, 4, 0, 5, 1, 8, 4, 0, 5, 1, 8, 4, 0, 5, 1, 2, 8, 5, 1, 2, 5, 1, 2, 8, 5, 1, 2, 8, 5, 2, 3, 1, 2, 4, 1, 5, 1, 8, 4, 0, 8, 4, 4, 0],
  [1, 0, 4, 1, 2, 2, 0, 4, 1, 2, 2, 0, 4, 8, 4, 5, 0, 0, 1, 5, 2, 4, 8, 4, 5, 0, 0, 1, 5, 1, 5, 7, 1, 1, 1, 0, 1, 4, 5, 2, 6, 5, 1, 5, 2, 6, 0],
  [1, 2, 2, 0, 4, 8, 4, 5, 0, 0, 1, 5, 5, 2, 4, 8, 4, 5, 0, 0, 1, 5, 1, 0, 0],
  [1, 1, 0, 1, 2, 2, 0, 4, 8, 4, 5, 0, 0, 1, 5, 1, 7, 5, 3, 1, 5, 1, 1, 0, 1, 4, 8, 4, 5, 0, 0, 2, 3, 1, 1, 4, 1, 5, 1, 1, 0, 4, 4, 1, 5, 1, 0, 0],
  [1, 1, 0, 1, 1, 0, 1, 5, 5, 1, 7, 1, 7, 2, 4, 2, 4, 2, 0],
  [1, 1, 0, 1, 1, 0, 1, 2, 2, 0, 4, 8, 4, 5, 0, 0, 1, 5, 5, 1, 7, 1, 7, 2, 4, 8, 4, 5, 0, 0, 1, 5, 1, 1, 1, 0, 1, 5, 1, 0, 0],
  [1, 1, 0, 1, 1, 0, 1, 5, 5, 1, 7, 1, 7, 4, 8, 4, 5, 0, 0, 1, 5, 1, 1, 0, 0],
  [1, 1, 0, 1, 5, 1, 0, 4, 8, 4, 5, 0, 0, 1, 5, 1, 0, 0],
  [1, 1, 0, 1, 5, 1, 0, 2, 4, 2, 4, 2, 0],
  [1, 1, 0, 1, 2, 4, 1, 2, 4, 1, 2, 4, 8, 4, 5, 0, 0, 1, 5, 1, 7, 1, 0, 1, 5, 1, 7, 5, 0, 0],
  [1, 2, 2, 0, 4, 1, 2, 2, 0, 4, 1, 2, 2, 0, 4, 8, 4, 5, 0, 0, 1, 2, 4, 1, 0, 4, 1, 0, 2, 4, 8, 4, 5, 0, 0, 1, 5, 2, 4, 8, 4, 5, 0, 0, 1, 5, 1, 5, 7, 1, 1, 1, 1, 1, 0, 0, 1, 4, 5, 2, 6, 5, 1, 5, 2, 6, 0],
  [1, 1, 0, 1, 0, 3, 2, 3, 2, 3, 1, 1, 4, 1, 5, 1, 7, 3, 1, 1, 1, 5, 1, 7, 1, 0, 4, 1, 5, 1, 7, 1, 1, 5, 1, 7, 5, 0, 1, 5, 2, 1, 0, 4, 4, 4, 1, 0],
  [1, 1, 0, 1, 5, 1, 7, 5, 2, 4, 8, 4, 5, 0, 0, 1, 5, 1, 7, 5, 0],
  [1, 1, 0, 1, 1, 0, 0],
  [1, 1, 0, 1, 5, 1, 7, 5, 3, 1, 4, 8, 4, 5, 0, 0, 1, 5, 1, 7, 2, 5, 1, 5, 2, 1, 0, 1, 0, 0],
  [1, 1, 0, 1, 5, 1, 7, 0, 0],
  [1, 2, 2, 0, 4, 8, 4, 5, 0, 0, 1, 5, 5, 2, 4, 8, 4, 5, 0, 0, 1, 5, 1, 1, 0, 0],
  [1, 1, 0, 1, 2, 4, 1, 2, 4, 8, 4, 5, 0, 0, 1, 1, 0, 1, 5, 1, 7, 5, 2, 4, 2, 4, 2, 3, 1, 5, 1, 7, 1, 5, 1, 5, 1, 7, 1, 5, 1, 0],
  [1, 1, 0, 1, 1, 0, 1, 1, 0, 1, 1, 0, 1, 1, 4, 8, 4, 5, 0, 0, 1, 5, 5, 2, 4, 8, 4, 5, 0, 0, 1, 5, 1, 1, 1, 1, 0, 0],
  [1, 1, 0, 1, 1, 0, 1, 1, 0, 1, 5, 1, 1, 1, 1, 5, 1, 7, 5, 0, 0],
  [1, 1, 0, 1, 1, 0, 1, 1, 0, 1, 5, 1, 7, 5, 2, 4, 1, 5, 1, 1, 1, 0, 4, 8, 4, 5, 0, 0, 1, 5, 5, 2, 4, 8, 4, 5, 0, 0, 1, 5, 1, 1, 1, 0, 0],
  [1, 1, 0, 1, 1, 0, 3, 1, 5, 5, 1, 6, 2, 4, 8, 4, 5, 0, 0, 2, 3, 2, 3, 1, 1, 4, 1, 5, 1, 5, 1, 7, 0, 2, 4, 4, 4, 4, 1, 0],
  [1, 1, 0, 1, 5, 5, 1, 7, 3, 1, 2, 4, 1, 5, 0, 1, 2, 4, 1, 5, 0, 1, 2, 4, 1, 5, 0, 1, 2, 4, 1, 5, 0, 8, 4, 5, 0, 0],
  [1, 1, 0, 1, 5, 1, 5, 5, 1, 7, 0, 0],
  [1, 1, 0, 1, 1, 0, 1, 5, 1, 1, 0, 3, 1, 2, 4, 8, 4, 5, 0, 0, 1, 0],
  [1, 2, 2, 0, 4, 8, 4, 5, 0, 0, 1, 5, 5, 1, 6, 2, 4, 8, 4, 5, 0, 0, 1, 5, 4, 5, 1, 6, 5, 1, 5, 5, 0],
  [1, 5, 5, 0],
  [1, 2, 2, 0, 4, 8, 4, 5, 0, 0, 1, 5, 5, 1, 7, 4, 8, 4, 5, 0, 0, 1, 5, 1, 0, 3, 1, 5, 5, 1, 6, 2, 4, 8, 4, 5, 0, 0, 1, 5, 5, 1, 2, 5, 1, 5, 2, 0, 1, 5, 0, 1, 0],
  [1, 1, 0, 1, 5, 1, 7, 5, 2, 4, 2, 4, 2, 3, 1, 2, 4, 1, 4, 1, 1, 5, 1, 7, 5, 4, 8, 4, 5, 0, 0, 1, 4, 8, 4, 5, 0, 0, 1, 5, 1, 1, 0, 3, 1, 5, 5, 1, 6, 2, 4, 8, 4, 5, 0, 0, 1, 5, 1, 7, 1, 5, 1, 5, 2, 0, 1, 5, 0, 1, 0],
  [1, 1, 0, 1, 5, 1, 7, 5, 4, 8, 4, 5, 0, 0, 1, 5, 1, 0, 3, 1, 5, 2, 0, 1, 5, 1, 7, 0, 1, 0],
  [1, 2, 2, 0, 4, 8, 4, 5, 0, 0, 1, 5, 5, 2, 4, 8, 4, 5, 0, 0, 1, 5, 1, 0, 0],
  [1, 1, 0, 1, 1, 0, 1, 5, 5, 1, 7, 3, 1, 5, 1, 0, 2, 4, 1, 5, 4, 1, 1, 0, 4, 8, 4, 5, 0, 0, 1, 1, 0, 1, 5, 0],
  [1, 1, 0, 1, 5, 5, 1, 7, 3, 1, 5, 1, 0, 3, 1, 2, 4, 1, 2, 4, 1, 5, 4, 1, 5, 1, 5, 5, 4, 8, 4, 5, 0, 0, 1, 2, 5, 1, 5, 2, 1, 5, 0, 1, 5, 1, 5, 1, 1, 5, 5, 1, 5, 7, 0, 0],
  [1, 1, 0, 1, 1, 0, 1, 5, 5, 1, 7, 5, 1, 7, 0],
  [1, 1, 0, 1, 2, 2, 0, 4, 8, 4, 5, 0, 0, 1, 5, 1, 7, 5, 2, 4, 8, 4, 5, 0, 0, 1, 5, 1, 7, 1, 0, 0],
  [1, 1, 0, 1, 2, 4, 1, 2, 4, 1, 2, 4, 1, 2, 4, 8, 4, 5, 0, 0, 1, 5, 1, 7, 5, 3, 1, 5, 1, 7, 1, 5, 1, 0],
  [1, 1, 0, 1, 1, 1, 0, 1, 1, 0, 1, 5, 5, 1, 7, 3, 1, 5, 1, 7, 5, 1, 7, 3, 1, 5, 1, 0, 2, 4, 1, 5, 1, 5, 7, 5, 1, 4, 1, 1, 1, 5, 5, 0, 4, 8, 4, 5, 0, 0, 1, 1, 1, 5, 1, 5, 5, 0, 1, 1, 1, 0, 0],
  [1, 1, 0, 1, 5, 2, 4, 8, 4, 5, 0, 0, 1, 5, 1, 5, 1, 5, 1, 4, 5, 2, 6, 5, 1, 5, 0],
  [1, 5, 3, 1, 2, 5, 1, 0],
  [1, 1, 0, 1, 1, 1, 0, 1, 5, 1, 7, 5, 1, 7, 3, 1, 1, 1, 0, 4, 8, 4, 5, 0, 0, 1, 1, 5, 1, 5, 0, 1, 2, 5, 1, 5, 1, 7, 0, 0],
  [1, 1, 0, 1, 5, 1, 5, 1, 5, 1, 7, 0, 3, 1, 2, 4, 8, 4, 5, 0, 0, 1, 0],
  [1, 1, 0, 1, 5, 1, 7, 5, 4, 8, 4, 5, 0, 0, 1, 5, 1, 5, 1, 5, 1, 7, 0, 3, 1, 2, 4, 8, 4, 5, 0, 0, 1, 5, 1, 7, 0, 4, 8, 4, 5, 0, 0, 1, 5, 1, 7, 2, 5, 1, 5, 2, 1, 0, 1, 0],
  [1, 1, 0, 1, 2, 2, 0, 4, 1, 2, 2, 0, 4, 8, 4, 5, 0, 0, 1, 2, 2, 0, 4, 1, 1, 2, 0, 4, 8, 4, 5, 0, 0, 1, 5, 1, 7, 5, 4, 1, 5, 1, 1, 1, 1, 0, 4, 8, 4, 5, 0, 0, 1, 5, 5, 2, 4, 8, 4, 5, 0, 0, 1, 5, 2, 1, 0, 1, 5, 1, 1, 1, 1, 1, 0, 0],
  [1, 1, 0, 1, 2, 2, 0, 4, 1, 2, 2, 0, 4, 8, 4, 5, 0, 0, 1, 5, 1, 1, 1, 0, 3, 1, 2, 4, 8, 4, 5, 0, 0, 1, 0],
  [1, 2, 1, 5, 5, 2, 6, 0, 4, 8, 4, 5, 0, 0, 1, 5, 1, 0, 3, 1, 4, 1, 5, 5, 1, 7, 4, 1, 5, 5, 1, 7, 0],
  [5, 3, 2, 3, 1, 1, 5, 5, 4, 1, 5, 5, 1, 7, 3, 5, 1, 6, 1, 5, 6, 6, 3, 5, 1, 6, 1, 5, 6, 6, 2, 1, 5, 6, 6, 6, 3, 5, 1, 6, 1, 5, 1, 0, 6, 6, 3, 4, 4, 1, 0],
  [2, 3, 2, 3, 2, 3, 1, 1, 5, 4, 1, 5, 1, 7, 5, 2, 4, 4, 1, 5, 1, 0, 4, 4, 4, 4, 1, 4, 8, 4, 5, 0, 0, 1, 6, 1, 6, 6, 0],
  [2, 3, 2, 3, 2, 3, 1, 1, 5, 4, 1, 5, 1, 0, 4, 4, 1, 1, 5, 1, 0, 6, 3, 4, 4, 1, 4, 8, 4, 5, 0, 0, 1, 6, 1, 6, 6, 0],
  [1, 5, 0, 4, 1, 5, 1, 5, 5, 0, 4, 1, 0, 4, 1, 0, 4, 1, 5, 0, 4, 2, 4, 2, 0],
  [1, 1, 4, 1, 1, 4, 2, 4, 2, 0],
  [1, 2, 4, 1, 2, 4, 1, 2, 4, 2, 4, 2, 0],
  [1, 2, 4, 2, 0, 1, 2, 4, 2, 0, 1, 2, 4, 2, 0, 1, 2, 4, 2, 4, 2, 0],
  [1, 2, 4, 2, 0, 1, 2, 4, 2, 0, 1, 2, 4, 2, 4, 2, 0],
  [1, 2, 1, 2, 6, 0, 4, 8, 4, 5, 0, 0, 0],
  [1, 1, 5, 0, 0],
  [1, 1, 5, 5, 0, 0],
  [1, 1, 5, 0, 0],
  [1, 1, 5, 1, 7, 5, 0, 0],
  [1, 1, 5, 5, 0, 0],
  [1, 1, 5, 5, 0, 0],
  [1, 1, 5, 5, 0, 0],
  [1, 2, 2, 0, 4, 8, 4, 5, 0, 0, 0],
  [1, 3, 1, 4, 1, 5, 1, 2, 6, 7, 1, 4, 1, 5, 1, 1, 5, 1, 2, 6, 7, 5, 1, 5, 1, 1, 5, 1, 2, 6, 7, 5, 4, 4, 1, 5, 1, 1, 5, 1, 5, 1, 1, 5, 0],
  [2, 3, 2, 3, 1, 1, 5, 4, 1, 5, 1, 0, 4, 1, 1, 1, 1, 5, 1, 0, 0, 4, 4, 4, 1, 0],
  [2, 3, 2, 3, 1, 1, 5, 4, 1, 5, 1, 7, 5, 1, 4, 1, 5, 1, 0, 4, 1, 1, 1, 1, 5, 1, 7, 5, 0, 4, 4, 4, 1, 0],
  [1, 5, 1, 7, 3, 1, 5, 1, 7, 3, 1, 5, 2, 4, 1, 5, 4, 1, 5, 1, 0, 2, 4, 1, 5, 2, 4, 1, 5, 1, 5, 4, 1, 1, 5, 4, 1, 5, 1, 5, 4, 1, 1, 0, 1, 5, 4, 1, 1, 0, 1, 5, 6, 1, 5, 4, 2, 4, 2, 0],
  [2, 3, 2, 3, 1, 1, 5, 4, 1, 5, 1, 7, 5, 1, 4, 4, 4, 4, 1, 0],
  [2, 3, 2, 3, 1, 1, 5, 4, 1, 5, 1, 7, 5, 1, 4, 1, 1, 5, 1, 7, 5, 6, 3, 4, 4, 1, 0],
  [2, 3, 2, 3, 1, 1, 5, 4, 1, 5, 1, 7, 5, 1, 4, 1, 5, 1, 7, 4, 4, 4, 4, 1, 0],
  [2, 3, 1, 1, 5, 4, 1, 5, 1, 7, 1, 4, 2, 0, 4, 4, 2, 0],
  [2, 3, 2, 3, 1, 1, 5, 4, 1, 5, 1, 7, 5, 1, 4, 1, 5, 1, 7, 5, 1, 5, 4, 4, 1, 5, 1, 7, 4, 1, 1, 0, 4, 2, 0, 4, 4, 1, 4, 1, 1, 5, 4, 2, 4, 2, 0],
  [2, 3, 1, 1, 5, 4, 1, 1, 0, 1, 5, 1, 7, 5, 4, 1, 1, 0, 1, 5, 1, 7, 5, 4, 2, 0, 4, 4, 2, 0],
  [2, 3, 1, 1, 5, 4, 1, 5, 1, 5, 1, 5, 1, 7, 0, 1, 5, 1, 5, 1, 5, 1, 7, 0, 4, 2, 0, 4, 4, 2, 0],
  [1, 8, 1, 2, 8, 5, 1, 2, 8, 5, 1, 2, 8, 5, 1, 2, 8, 5, 1, 2, 8, 5, 1, 2, 8, 5, 1, 2, 8, 5, 1, 2, 8, 5, 1, 2, 8, 5, 1, 2, 8, 5, 1, 2, 8, 5, 1, 2, 2, 9, 5, 1, 2, 2, 9, 5, 1, 2, 8, 5, 1, 2, 8, 5, 1, 2, 8, 5, 1, 2, 8, 5, 1, 2, 8, 5, 1, 2, 8, 5, 1, 2, 8, 5, 1, 2, 8, 5, 1, 2, 8, 5, 1, 2, 2, 9, 5, 1, 2, 8, 5, 1, 2, 8, 5, 1, 2, 8, 5, 1, 2, 8, 5, 1, 2, 8, 5, 1, 2, 2, 9, 5, 1, 2, 8, 5, 1, 2, 2, 9, 5, 1, 2, 8, 5, 1, 2, 8, 5, 1, 2, 8, 5, 1, 2, 2, 9, 5, 1, 2, 2, 2, 9, 5, 1, 2, 2, 2, 9, 5, 1, 2, 2, 9, 5, 1, 2, 2, 2, 9, 5, 1, 2, 8, 5, 1, 2, 2, 9, 5, 1, 2, 8, 5, 1, 2, 8, 5, 1, 2, 8, 5, 0],
  [1, 1, 4, 1, 4, 2, 5, 1, 0],
  [1, 1, 4, 1, 1, 4, 2, 4, 2, 0],
  [1, 2, 4, 1, 2, 4, 1, 2, 4, 2, 4, 2, 0],
  [1, 2, 1, 5, 2, 6, 0, 4, 2, 4, 2, 0],
  [1, 5, 2, 4, 1, 5, 2, 1, 5, 2, 2, 0, 1, 5, 2, 1, 5, 2, 2, 0, 1, 4, 5, 2, 6, 5, 1, 5, 1, 5, 1, 5, 1, 5, 1, 5, 1, 5, 1, 4, 5, 2, 6, 5, 0],
  [1, 1, 0, 4, 1, 2, 2, 0, 4, 1, 2, 2, 0, 4, 2, 4, 2, 2, 0, 4, 1, 1, 5, 2, 4, 2, 4, 2, 2, 0, 4, 2, 0, 1, 5, 1, 5, 1, 5, 1, 5, 1, 5, 1, 5, 1, 5, 1, 5, 1, 5, 1, 5, 1, 5, 2, 5, 1, 5, 1, 5, 2, 5, 2, 3, 1, 2, 4, 1, 5, 1, 5, 7, 1, 2, 5, 4, 4, 1, 4, 5, 2, 6, 5, 1, 5, 2, 6, 0],
  [1, 1, 2, 2, 0, 4, 2, 4, 2, 2, 0, 4, 1, 1, 5, 2, 4, 2, 4, 2, 2, 0, 4, 2, 0, 1, 5, 1, 5, 1, 5, 1, 4, 5, 2, 6, 5, 1, 5, 2, 6, 0],
  [1, 5, 1, 7, 1, 5, 1, 7, 4, 1, 5, 1, 7, 1, 7, 4, 2, 4, 2, 0],
  [1, 1, 1, 0, 2, 0, 4, 1, 1, 2, 2, 0, 4, 2, 4, 2, 2, 0, 4, 2, 0, 2, 3, 2, 3, 1, 1, 5, 4, 1, 1, 1, 1, 0, 4, 2, 4, 2, 6, 3, 4, 4, 1, 1, 1, 4, 2, 4, 2, 2, 0, 4, 2, 0, 2, 3, 1, 1, 4, 2, 3, 2, 3, 1, 1, 5, 4, 1, 1, 1, 0, 4, 1, 4, 1, 5, 1, 7, 1, 5, 1, 7, 4, 1, 4, 1, 3, 4, 4, 1, 5, 1, 7, 1, 2, 5, 1, 5, 1, 4, 7, 2, 6, 5, 4, 4, 2, 3, 2, 3, 1, 1, 5, 4, 1, 1, 5, 1, 7, 1, 7, 4, 2, 4, 2, 6, 3, 4, 4, 1, 0],
  [1, 1, 1, 0, 4, 1, 2, 1, 5, 2, 6, 0, 4, 2, 4, 2, 2, 0, 0],
  [1, 1, 1, 0, 4, 1, 5, 1, 7, 1, 7, 4, 2, 4, 2, 0],
  [2, 3, 2, 3, 1, 1, 5, 4, 1, 1, 5, 1, 7, 1, 7, 4, 2, 4, 2, 6, 3, 4, 4, 1, 0],
  [1, 1, 1, 0, 4, 1, 1, 2, 2, 0, 4, 2, 4, 2, 2, 0, 4, 1, 1, 5, 1, 7, 1, 7, 4, 1, 5, 1, 7, 1, 7, 4, 2, 4, 2, 2, 0, 4, 2, 0, 1, 5, 1, 7, 1, 1, 5, 1, 1, 0, 0],
  [2, 3, 2, 3, 2, 3, 1, 1, 5, 4, 1, 2, 1, 5, 1, 7, 1, 7, 8, 6, 3, 1, 1, 5, 1, 7, 1, 7, 4, 2, 4, 2, 6, 3, 4, 4, 1, 5, 1, 7, 1, 7, 1, 1, 6, 6, 2, 6, 0],
  [1, 1, 1, 0, 4, 1, 1, 5, 1, 7, 1, 7, 4, 2, 4, 2, 2, 0, 4, 2, 4, 1, 1, 1, 0, 0],
  [2, 3, 2, 3, 1, 1, 5, 4, 1, 1, 5, 1, 7, 1, 7, 4, 1, 1, 1, 0, 4, 2, 6, 3, 4, 4, 1, 1, 1, 0, 6, 0],
  [1, 1, 1, 0, 2, 0, 4, 1, 1, 1, 0, 4, 2, 4, 2, 2, 0, 4, 2, 4, 1, 1, 0, 0],
  [5, 3, 5, 3, 2, 3, 1, 1, 5, 4, 1, 5, 1, 7, 1, 7, 4, 1, 1, 1, 1, 0, 8, 3, 1, 1, 1, 1, 0, 8, 3, 4, 4, 1, 1, 0, 4, 1, 1, 6, 2, 4, 2, 4, 2, 0],
  [1, 1, 1, 0, 2, 0, 4, 1, 1, 0, 4, 2, 4, 2, 0],
  [1, 2, 4, 2, 4, 1, 2, 4, 2, 4, 1, 2, 4, 2, 4, 2, 0],
  [1, 2, 4, 2, 4, 1, 2, 4, 2, 4, 1, 2, 4, 2, 4, 1, 2, 4, 2, 4, 2, 0],
  [1, 2, 4, 2, 4, 1, 2, 4, 2, 4, 1, 2, 4, 2, 4, 2, 3, 1, 1, 1, 0, 2, 0, 4, 1, 1, 4, 2, 4, 2, 2, 0, 4, 2, 0, 1, 5, 1, 1, 5, 1, 7, 1, 8, 5, 1, 5, 1, 7, 0, 0],
  [1, 2, 2, 0, 4, 1, 2, 2, 0, 4, 1, 2, 2, 0, 4, 1, 0, 4, 1, 2, 4, 1, 0, 4, 2, 4, 2, 3, 1, 1, 4, 2, 4, 2, 2, 0, 4, 1, 1, 5, 2, 4, 2, 4, 2, 2, 0, 4, 2, 0, 1, 5, 1, 5, 1, 5, 1, 5, 1, 5, 1, 5, 1, 5, 1, 5, 1, 5, 1, 5, 1, 5, 1, 5, 1, 5, 1, 5, 1, 0, 5, 1, 5, 1, 5, 2, 5, 1, 4, 5, 2, 6, 5, 1, 5, 2, 6, 0],
  [1, 2, 1, 5, 2, 6, 0, 4, 2, 4, 2, 0],
  [2, 3, 2, 3, 1, 1, 5, 4, 1, 1, 5, 1, 7, 1, 4, 1, 5, 1, 7, 4, 2, 6, 3, 4, 4, 1, 0],
  [2, 3, 2, 3, 1, 1, 5, 4, 1, 1, 5, 1, 7, 1, 4, 2, 4, 2, 6, 3, 4, 4, 1, 0],
  [1, 5, 1, 7, 2, 4, 1, 5, 1, 7, 1, 5, 1, 7, 4, 2, 4, 2, 3, 1, 5, 1, 7, 4, 1, 5, 1, 7, 4, 1, 1, 0, 4, 1, 4, 2, 4, 2, 3, 1, 4, 1, 1, 0, 1, 5, 1, 7, 4, 1, 5, 1, 7, 1, 5, 1, 7, 4, 2, 4, 2, 3, 1, 4, 1, 1, 0, 1, 5, 1, 7, 4, 1, 1, 0, 1, 5, 1, 7, 6, 1, 5, 1, 7, 4, 2, 4, 2, 0],
  [1, 1, 1, 0, 2, 0, 4, 2, 0, 2, 3, 1, 1, 5, 4, 1, 5, 1, 1, 1, 0, 4, 2, 4, 2, 5, 4, 4, 2, 3, 2, 3, 1, 4, 2, 3, 2, 3, 1, 1, 5, 4, 1, 5, 1, 7, 4, 1, 4, 1, 1, 0, 1, 1, 0, 4, 1, 4, 1, 3, 4, 4, 1, 4, 1, 5, 1, 2, 5, 1, 1, 1, 0, 4, 1, 5, 1, 1, 5, 1, 5, 1, 1, 5, 1, 7, 5, 1, 2, 1, 0, 4, 4, 1, 0],
  [1, 1, 1, 0, 2, 0, 4, 1, 1, 5, 1, 7, 4, 2, 4, 2, 2, 0, 4, 2, 4, 1, 5, 1, 7, 0],
  [1, 1, 1, 0, 2, 0, 4, 2, 4, 1, 1, 0, 0],
  [1, 1, 1, 0, 2, 0, 4, 1, 1, 5, 1, 7, 4, 2, 4, 2, 2, 0, 4, 2, 0, 1, 5, 1, 7, 0, 3, 1, 5, 1, 2, 5, 1, 2, 1, 0, 1, 0],
  [1, 1, 1, 0, 2, 0, 4, 1, 5, 1, 7, 1, 5, 1, 7, 4, 2, 4, 2, 0],
  [1, 1, 2, 2, 0, 4, 2, 4, 2, 2, 0, 4, 1, 1, 5, 2, 4, 2, 4, 2, 2, 0, 4, 2, 0, 1, 5, 1, 5, 1, 5, 1, 5, 1, 5, 1, 5, 1, 4, 5, 2, 6, 5, 1, 5, 2, 6, 0],
  [1, 2, 1, 5, 2, 6, 0, 4, 2, 4, 2, 0],
  [1, 2, 2, 0, 0],
  [1, 1, 1, 0, 2, 0, 4, 1, 1, 2, 4, 1, 2, 4, 1, 0, 4, 2, 4, 2, 2, 0, 4, 2, 0, 1, 5, 1, 7, 4, 2, 4, 2, 3, 1, 5, 1, 1, 5, 1, 5, 1, 1, 5, 1, 0],
  [1, 1, 1, 0, 4, 1, 1, 0, 4, 2, 4, 2, 2, 0, 4, 1, 1, 0, 4, 1, 1, 2, 0, 4, 2, 4, 2, 2, 0, 4, 1, 1, 5, 2, 4, 2, 4, 2, 2, 0, 4, 2, 0, 2, 8, 4, 2, 1, 5, 4, 2, 1, 5, 4, 2, 1, 5, 4, 2, 1, 5, 3, 1, 2, 1, 5, 1, 5, 7, 2, 2, 0, 1, 4, 5, 2, 6, 5, 1, 5, 0],
  [1, 5, 1, 7, 4, 1, 5, 1, 7, 1, 4, 2, 0, 1, 5, 1, 7, 2, 4, 1, 5, 1, 7, 4, 2, 4, 2, 3, 2, 3, 1, 1, 5, 4, 1, 5, 1, 7, 2, 4, 1, 1, 5, 1, 7, 2, 7, 1, 4, 1, 5, 1, 7, 2, 7, 1, 4, 1, 1, 5, 1, 7, 2, 7, 1, 5, 1, 7, 2, 7, 0, 4, 2, 4, 2, 6, 3, 4, 4, 1, 0],
  [1, 1, 1, 0, 4, 1, 1, 0, 4, 2, 4, 2, 2, 0, 4, 1, 1, 0, 4, 2, 4, 2, 2, 0, 4, 1, 1, 1, 1, 0, 4, 2, 4, 2, 0],
  [1, 5, 1, 7, 2, 4, 2, 4, 2, 0],
  [1, 5, 1, 7, 1, 1, 5, 1, 7, 0, 6, 2, 6, 0],
  [1, 5, 1, 7, 4, 1, 5, 1, 7, 0, 1, 1, 0, 1, 5, 4, 2, 4, 1, 5, 1, 7, 1, 5, 4, 2, 4, 2, 0],
  [1, 5, 1, 7, 4, 1, 1, 5, 1, 7, 1, 1, 0, 0, 4, 2, 4, 2, 0],
  [1, 1, 0, 3, 1, 1, 5, 4, 1, 2, 6, 1, 6, 2, 4, 1, 5, 1, 2, 6, 7, 4, 2, 4, 2, 3, 1, 3, 1, 1, 1, 6, 4, 1, 4, 1, 1, 1, 1, 0, 3, 2, 3, 1, 1, 5, 4, 1, 5, 1, 7, 1, 4, 1, 5, 1, 7, 1, 4, 1, 5, 1, 5, 1, 7, 7, 1, 5, 1, 7, 4, 1, 5, 1, 7, 4, 2, 4, 2, 3, 1, 1, 1, 1, 0, 4, 1, 4, 2, 4, 2, 6, 3, 4, 4, 4, 4, 1, 0],
  [1, 5, 1, 5, 1, 5, 1, 5, 1, 5, 1, 5, 1, 5, 1, 5, 1, 5, 1, 2, 1, 0, 1, 4, 5, 2, 6, 5, 1, 5, 2, 6, 0],
  [1, 5, 3, 1, 2, 4, 2, 3, 1, 1, 5, 4, 1, 1, 1, 1, 0, 4, 1, 1, 1, 1, 0, 0, 4, 4, 4, 4, 2, 0],
  [1, 1, 1, 0, 4, 1, 1, 0, 4, 2, 4, 2, 2, 0, 4, 1, 1, 0, 4, 2, 4, 2, 2, 0, 4, 2, 0, 1, 1, 5, 1, 7, 4, 1, 1, 1, 1, 0, 4, 2, 4, 2, 2, 0, 4, 1, 1, 5, 2, 4, 2, 4, 2, 2, 0, 4, 2, 0, 1, 1, 1, 1, 0, 0],
  [2, 3, 2, 3, 1, 1, 5, 4, 1, 1, 5, 1, 7, 1, 4, 1, 1, 0, 2, 4, 2, 4, 2, 6, 3, 4, 4, 1, 0],
  [1, 1, 1, 0, 2, 0, 4, 2, 0, 2, 3, 2, 3, 1, 1, 5, 4, 1, 5, 1, 1, 5, 1, 7, 1, 4, 1, 1, 0, 4, 2, 4, 2, 5, 1, 1, 5, 1, 7, 4, 2, 4, 2, 6, 3, 4, 4, 1, 1, 5, 1, 6, 2, 4, 2, 4, 2, 2, 0, 4, 2, 0, 2, 3, 2, 3, 1, 1, 4, 2, 3, 2, 3, 1, 1, 5, 4, 1, 5, 1, 7, 4, 1, 4, 1, 5, 1, 7, 1, 5, 1, 7, 4, 1, 4, 1, 3, 4, 4, 1, 5, 1, 2, 5, 1, 1, 1, 0, 4, 2, 4, 2, 6, 3, 4, 4, 1, 0],
  [1, 2, 1, 5, 2, 6, 0, 4, 2, 4, 2, 0],
  [1, 1, 1, 0, 2, 0, 4, 1, 1, 2, 4, 1, 2, 4, 1, 2, 4, 1, 2, 4, 2, 4, 2, 2, 0, 4, 2, 0, 1, 2, 4, 1, 5, 1, 7, 4, 1, 2, 4, 1, 5, 1, 7, 4, 1, 2, 4, 1, 5, 1, 7, 4, 1, 1, 5, 1, 7, 0, 0],
  [1, 1, 1, 0, 2, 0, 4, 2, 4, 1, 1, 0, 0],
  [1, 1, 1, 0, 2, 0, 4, 1, 1, 0, 4, 2, 4, 2, 2, 0, 4, 2, 0, 2, 3, 2, 3, 1, 1, 5, 4, 1, 5, 1, 7, 1, 4, 1, 1, 1, 0, 4, 1, 4, 1, 3, 4, 4, 1, 1, 4, 2, 4, 2, 2, 0, 4, 2, 4, 1, 0],
  [1, 1, 2, 2, 0, 4, 2, 4, 2, 2, 0, 4, 1, 1, 5, 1, 6, 2, 4, 2, 4, 2, 2, 0, 4, 2, 0, 1, 4, 5, 1, 6, 5, 1, 5, 0],
  [1, 2, 5, 1, 5, 0],
  [1, 1, 0, 2, 4, 2, 0, 1, 4, 1, 5, 1, 7, 2, 6, 1, 4, 2, 4, 2, 0, 2, 3, 1, 5, 1, 7, 3, 1, 1, 1, 0, 4, 1, 1, 1, 1, 5, 1, 7, 1, 0, 6, 3, 4, 4, 1, 5, 1, 7, 1, 4, 1, 4, 2, 4, 2, 0],
  [1, 5, 3, 2, 3, 2, 8, 3, 2, 3, 1, 1, 4, 1, 1, 1, 1, 1, 1, 0, 5, 4, 4, 2, 3, 1, 1, 4, 1, 1, 7, 4, 1, 5, 1, 1, 5, 1, 2, 1, 5, 1, 7, 0, 4, 4, 4, 2, 3, 1, 1, 4, 1, 1, 7, 4, 1, 1, 5, 1, 7, 0, 4, 2, 3, 1, 4, 1, 5, 1, 7, 2, 1, 5, 1, 7, 2, 2, 0, 1, 5, 1, 1, 5, 1, 7, 5, 4, 4, 1, 0],
  [2, 3, 2, 3, 1, 1, 5, 4, 1, 1, 1, 1, 1, 0, 4, 2, 4, 2, 6, 3, 4, 4, 1, 0],
  [1, 1, 2, 2, 0, 4, 2, 4, 2, 2, 0, 4, 1, 1, 5, 1, 7, 2, 0, 4, 1, 1, 5, 1, 1, 2, 0, 6, 2, 4, 2, 4, 2, 2, 0, 4, 2, 0, 1, 5, 1, 2, 5, 1, 2, 1, 2, 0, 0],
  [1, 1, 1, 0, 2, 0, 4, 1, 1, 2, 4, 1, 5, 1, 7, 4, 1, 1, 5, 1, 7, 4, 2, 4, 2, 2, 0, 4, 1, 1, 5, 1, 7, 4, 2, 4, 2, 2, 0, 4, 2, 0, 1, 5, 1, 7, 3, 1, 5, 1, 1, 5, 1, 1, 5, 1, 2, 1, 0, 6, 2, 4, 2, 4, 2, 2, 0, 4, 1, 5, 1, 1, 5, 2, 0, 1, 2, 2, 1, 0, 0],
  [1, 1, 1, 0, 2, 0, 4, 1, 1, 5, 1, 7, 2, 0, 4, 2, 0, 2, 3, 2, 3, 1, 1, 5, 4, 1, 5, 1, 7, 1, 4, 1, 1, 0, 2, 4, 1, 5, 1, 2, 5, 1, 2, 1, 0, 4, 4, 4, 1, 5, 1, 2, 5, 1, 5, 1, 2, 5, 1, 5, 1, 2, 5, 1, 0],
  [1, 1, 2, 2, 0, 4, 2, 4, 2, 2, 0, 4, 1, 1, 5, 2, 4, 2, 4, 2, 2, 0, 4, 2, 0, 1, 5, 1, 5, 1, 5, 1, 4, 5, 2, 6, 5, 1, 5, 2, 6, 0],
  [2, 3, 2, 3, 1, 1, 5, 1, 7, 4, 1, 1, 5, 1, 7, 1, 7, 1, 4, 2, 4, 2, 6, 3, 4, 4, 1, 0],
  [1, 1, 2, 1, 5, 2, 6, 0, 4, 1, 1, 0, 4, 2, 4, 2, 2, 0, 4, 1, 1, 1, 0, 2, 4, 1, 5, 1, 7, 4, 1, 1, 1, 0, 4, 2, 4, 2, 2, 0, 4, 2, 0, 1, 5, 1, 7, 1, 5, 1, 7, 1, 5, 1, 5, 1, 4, 7, 2, 6, 5, 1, 5, 1, 7, 0],
  [2, 3, 2, 3, 1, 1, 5, 4, 1, 5, 1, 7, 3, 1, 1, 1, 0, 4, 1, 1, 1, 4, 1, 5, 1, 7, 1, 7, 4, 1, 1, 1, 0, 4, 2, 4, 2, 6, 3, 4, 4, 4, 4, 1, 0],
  [1, 1, 1, 0, 2, 0, 4, 1, 1, 5, 1, 7, 4, 1, 5, 1, 7, 4, 1, 5, 1, 7, 1, 5, 4, 2, 4, 2, 2, 0, 4, 2, 0, 2, 3, 2, 3, 1, 2, 4, 2, 3, 1, 1, 5, 1, 7, 4, 1, 5, 1, 7, 1, 7, 3, 1, 5, 1, 7, 1, 4, 1, 1, 5, 1, 5, 1, 7, 7, 4, 1, 1, 1, 0, 4, 1, 5, 1, 7, 1, 2, 5, 4, 4, 4, 4, 4, 1, 5, 1, 2, 5, 1, 2, 1, 5, 1, 7, 0, 1, 0],
  [1, 1, 2, 1, 5, 2, 6, 0, 4, 1, 1, 0, 4, 2, 4, 2, 2, 0, 4, 1, 5, 1, 7, 4, 1, 5, 1, 7, 1, 7, 4, 2, 4, 2, 0],
  [1, 1, 1, 0, 2, 0, 4, 1, 1, 2, 2, 0, 4, 2, 4, 2, 2, 0, 4, 1, 1, 5, 1, 7, 2, 4, 2, 4, 2, 2, 0, 4, 2, 0, 1, 5, 1, 7, 3, 1, 5, 1, 7, 1, 1, 5, 2, 3, 1, 2, 4, 1, 5, 1, 7, 1, 7, 1, 2, 5, 4, 4, 1, 5, 1, 4, 7, 2, 6, 5, 1, 0],
  [1, 1, 1, 0, 2, 0, 4, 1, 1, 2, 4, 1, 2, 4, 1, 2, 4, 1, 2, 4, 2, 4, 2, 2, 0, 4, 2, 0, 1, 5, 1, 7, 3, 1, 5, 1, 1, 5, 1, 0],
  [1, 1, 0, 4, 1, 2, 1, 5, 1, 7, 2, 6, 0, 4, 2, 4, 2, 0],
  [1, 1, 1, 1, 0, 4, 1, 1, 0, 4, 2, 4, 2, 2, 0, 4, 2, 0, 1, 5, 1, 7, 1, 7, 3, 1, 1, 0, 2, 4, 1, 5, 1, 5, 1, 7, 7, 1, 4, 2, 4, 2, 3, 1, 1, 4, 1, 1, 5, 7, 4, 1, 1, 5, 7, 1, 4, 2, 4, 2, 2, 0, 4, 2, 0, 1, 1, 5, 1, 5, 1, 5, 1, 7, 1, 7, 1, 5, 1, 7, 2, 5, 2, 3, 2, 3, 1, 1, 5, 4, 1, 1, 5, 1, 7, 1, 4, 1, 5, 1, 7, 1, 7, 1, 7, 4, 2, 4, 2, 6, 3, 4, 4, 1, 0],
  [1, 1, 1, 0, 2, 0, 4, 1, 1, 5, 2, 4, 2, 4, 2, 2, 0, 4, 2, 0, 1, 5, 1, 5, 1, 5, 1, 4, 5, 2, 6, 5, 1, 5, 0],
  [1, 2, 5, 1, 5, 3, 1, 2, 5, 1, 0],
  [2, 3, 2, 3, 1, 1, 5, 1, 7, 4, 1, 1, 5, 1, 7, 1, 7, 4, 2, 4, 2, 6, 3, 4, 4, 1, 0],
  [1, 1, 1, 1, 0, 2, 0, 4, 2, 0, 1, 5, 4, 2, 4, 2, 3, 2, 3, 1, 1, 5, 4, 2, 3, 2, 3, 1, 1, 5, 4, 1, 1, 5, 1, 7, 1, 4, 2, 4, 2, 6, 3, 4, 4, 1, 5, 1, 7, 1, 4, 1, 5, 1, 7, 1, 5, 1, 7, 1, 7, 4, 2, 4, 2, 3, 1, 1, 1, 4, 2, 4, 2, 4, 1, 4, 1, 5, 1, 7, 1, 7, 1, 7, 4, 2, 4, 2, 6, 3, 4, 4, 1, 1, 4, 2, 4, 2, 2, 0, 4, 2, 0, 1, 5, 2, 1, 5, 1, 7, 1, 7, 2, 2, 0, 1, 5, 1, 7, 1, 1, 5, 5, 1, 2, 5, 1, 1, 0, 0],
  [2, 3, 1, 1, 5, 1, 7, 1, 7, 4, 1, 5, 1, 5, 1, 7, 1, 7, 1, 7, 7, 4, 1, 5, 1, 7, 1, 7, 1, 7, 0, 4, 4, 2, 0],
  [2, 3, 2, 3, 1, 1, 5, 1, 7, 4, 1, 1, 1, 1, 0, 1, 4, 2, 4, 2, 6, 3, 4, 4, 1, 0],
  [2, 3, 2, 3, 1, 1, 5, 1, 7, 1, 7, 4, 1, 5, 1, 7, 1, 7, 1, 7, 1, 4, 1, 4, 1, 3, 4, 4, 1, 0],
  [2, 3, 2, 3, 1, 1, 5, 1, 7, 4, 1, 1, 1, 1, 0, 3, 1, 2, 6, 3, 1, 1, 5, 1, 7, 1, 7, 4, 1, 4, 1, 1, 5, 1, 5, 1, 7, 1, 7, 1, 7, 7, 4, 2, 4, 2, 6, 3, 4, 4, 4, 4, 1, 0],
  [2, 3, 2, 3, 1, 1, 5, 1, 7, 4, 1, 1, 1, 1, 0, 3, 1, 1, 1, 1, 0, 3, 1, 1, 4, 1, 4, 2, 4, 1, 1, 4, 2, 4, 2, 6, 3, 4, 4, 1, 4, 2, 4, 2, 0],
  [2, 3, 2, 3, 1, 1, 5, 4, 1, 5, 1, 7, 4, 1, 4, 1, 1, 1, 0, 4, 1, 1, 1, 0, 3, 1, 4, 2, 4, 1, 4, 1, 1, 1, 0, 4, 1, 1, 1, 0, 3, 1, 1, 4, 1, 4, 1, 3, 4, 4, 1, 0],
  [2, 3, 1, 1, 5, 4, 1, 5, 1, 7, 3, 2, 3, 1, 1, 5, 4, 1, 4, 1, 1, 4, 1, 5, 1, 7, 4, 1, 1, 1, 1, 0, 4, 2, 4, 2, 3, 4, 4, 1, 4, 1, 0, 4, 4, 1, 1, 2, 0, 0],
  [2, 3, 2, 3, 1, 1, 5, 1, 7, 4, 1, 1, 1, 1, 0, 4, 2, 4, 2, 6, 3, 4, 4, 2, 3, 2, 3, 1, 1, 5, 4, 1, 5, 1, 7, 4, 2, 1, 1, 1, 0, 6, 1, 4, 1, 0, 1, 4, 1, 1, 1, 0, 1, 1, 1, 0, 4, 1, 4, 1, 3, 4, 4, 1, 5, 1, 2, 5, 4],
  [2, 3, 2, 3, 1, 1, 5, 4, 1, 5, 1, 2, 5, 2, 3, 1, 1, 5, 1, 7, 4, 1, 5, 1, 4, 7, 1, 1, 1, 1, 0, 4, 1, 5, 1, 7, 4, 2, 4, 2, 6, 5, 4, 4, 1, 1, 5, 1, 7, 6, 3, 4, 4, 1, 4, 2, 0, 1, 5, 1, 7, 3, 1, 2, 4, 1, 1, 0, 4, 1, 2, 4, 1, 1, 0, 4, 1, 1, 1, 2, 4, 2, 4, 2, 0, 0],
  [1, 1, 1, 0, 2, 0, 4, 2, 0, 1, 1, 0, 3, 1, 1, 4, 2, 4, 2, 2, 0, 4, 2, 4, 1, 0],
  [1, 1, 1, 0, 2, 0, 4, 2, 0, 1, 1, 0, 3, 1, 1, 5, 1, 7, 4, 1, 4, 1, 5, 1, 7, 1, 5, 1, 7, 4, 2, 4, 2, 2, 0, 4, 1, 1, 4, 2, 4, 2, 2, 0, 4, 2, 0, 1, 5, 1, 2, 5, 1, 2, 1, 0, 1, 0],
  [1, 2, 2, 0, 4, 1, 2, 2, 0, 4, 1, 1, 2, 0, 4, 1, 2, 2, 0, 4, 2, 4, 2, 3, 1, 1, 1, 0, 2, 0, 4, 1, 1, 4, 2, 4, 2, 2, 0, 4, 2, 0, 1, 5, 1, 7, 3, 2, 3, 1, 1, 5, 4, 1, 1, 5, 1, 7, 2, 7, 1, 4, 1, 5, 1, 7, 2, 7, 1, 4, 1, 5, 1, 7, 2, 7, 1, 4, 1, 1, 5, 1, 7, 2, 7, 4, 2, 4, 2, 6, 3, 4, 4, 1, 1, 2, 0, 4, 1, 1, 5, 2, 4, 2, 4, 2, 2, 0, 4, 2, 0, 2, 8, 4, 2, 1, 5, 4, 2, 1, 5, 4, 2, 1, 5, 4, 2, 1, 5, 4, 2, 1, 5, 3, 1, 2, 1, 5, 1, 5, 7, 2, 2, 0, 1, 4, 5, 2, 6, 5, 1, 2, 1, 0, 1, 5, 0],
  [1, 1, 1, 0, 2, 0, 4, 1, 1, 2, 2, 0, 4, 1, 2, 2, 0, 4, 2, 4, 2, 2, 0, 4, 2, 0, 2, 3, 2, 3, 1, 1, 5, 4, 1, 5, 1, 7, 2, 7, 1, 4, 1, 5, 1, 7, 2, 7, 1, 4, 1, 1, 5, 1, 7, 2, 7, 1, 5, 1, 7, 2, 7, 0, 4, 2, 4, 2, 3, 1, 4, 1, 5, 1, 7, 2, 7, 4, 1, 3, 4, 4, 1, 1, 4, 2, 4, 2, 2, 0, 4, 2, 4, 1, 0],
  [1, 1, 2, 1, 5, 2, 6, 0, 4, 2, 4, 2, 2, 0, 4, 2, 0, 1, 5, 2, 6, 1, 6, 3, 1, 4, 1, 5, 1, 7, 4, 1, 5, 1, 7, 0],
  [1, 2, 5, 5, 3, 2, 3, 1, 1, 5, 4, 5, 1, 6, 1, 5, 1, 7, 6, 6, 3, 5, 1, 6, 1, 5, 1, 7, 2, 1, 5, 1, 7, 6, 6, 6, 6, 3, 5, 1, 6, 1, 1, 0, 6, 6, 3, 4, 4, 1, 0],
  [2, 3, 2, 3, 2, 3, 1, 1, 5, 4, 2, 3, 2, 3, 1, 1, 5, 4, 1, 1, 5, 1, 7, 1, 4, 1, 5, 1, 7, 4, 2, 4, 2, 6, 3, 4, 4, 1, 1, 5, 1, 7, 4, 2, 4, 2, 6, 3, 1, 1, 5, 1, 7, 4, 1, 4, 2, 4, 2, 6, 3, 4, 4, 1, 1, 4, 2, 4, 2, 2, 0, 4, 2, 4, 1, 6, 1, 6, 6, 0],
  [2, 3, 2, 3, 2, 3, 1, 1, 5, 4, 1, 1, 0, 4, 1, 1, 1, 0, 6, 3, 4, 4, 4, 1, 1, 4, 2, 4, 2, 2, 0, 4, 2, 4, 1, 6, 1, 6, 6, 0],
  [1, 2, 5, 2, 0],
  [1, 2, 1, 1, 1, 1, 0, 6, 5, 4, 3, 2, 0, 3, 2, 0, 2, 0],
  [1, 2, 1, 1, 0, 6, 5, 4, 3, 2, 0, 3, 2, 0, 2, 0],
  [1, 2, 1, 1, 1, 0, 6, 5, 4, 3, 2, 0, 3, 2, 0, 3, 2, 0, 2, 0],
  [1, 2, 1, 1, 1, 0, 4, 2, 4, 2, 5, 4, 3, 2, 0, 2, 0],
  [1, 2, 1, 1, 1, 1, 0, 6, 5, 4, 3, 2, 0, 3, 2, 0, 3, 2, 0, 2, 0],
  [1, 2, 1, 1, 1, 0, 6, 5, 4, 3, 2, 0, 3, 2, 0, 2, 0],
  [1, 2, 1, 1, 0, 6, 5, 4, 3, 2, 0, 3, 2, 0, 2, 0],
  [1, 2, 1, 1, 0, 4, 2, 4, 2, 5, 4, 3, 2, 0, 2, 0],
  [1, 2, 1, 1, 1, 0, 6, 5, 4, 3, 2, 0, 3, 2, 0, 2, 0],
  [1, 2, 1, 1, 1, 1, 1, 1, 0, 6, 5, 4, 3, 2, 0, 3, 2, 0, 2, 0],
  [1, 2, 1, 1, 0, 6, 5, 4, 3, 2, 0, 2, 0],
  [1, 2, 1, 1, 0, 6, 5, 4, 3, 2, 0, 3, 2, 0, 2, 0],
  [1, 2, 1, 1, 0, 6, 5, 4, 3, 2, 0, 2, 0],
  [1, 2, 1, 1, 0, 6, 5, 4, 3, 2, 0, 3, 2, 0, 2, 0],
  [1, 2, 1, 1, 0, 4, 2, 4, 2, 5, 4, 3, 2, 0, 2, 0],
  [1, 2, 1, 1, 1, 0, 6, 5, 4, 3, 2, 0, 3, 2, 0, 2, 0],
  [1, 2, 1, 1, 1, 1, 0, 4, 2, 4, 2, 5, 4, 3, 2, 0, 3, 2, 0, 2, 0],
  [1, 2, 1, 1, 1, 1, 1, 0, 6, 5, 4, 3, 2, 0, 3, 2, 0, 3, 2, 0, 2, 0],
  [1, 2, 1, 1, 1, 1, 0, 4, 2, 4, 2, 5, 4, 3, 2, 0, 3, 2, 0, 2, 0],
  [1, 2, 1, 1, 1, 1, 0, 6, 5, 4, 3, 2, 0, 3, 2, 0, 3, 2, 0, 3, 2, 0, 2, 0],
  [1, 2, 1, 1, 0, 6, 5, 4, 3, 2, 0, 3, 2, 0, 2, 0],
  [1, 2, 1, 1, 1, 0, 6, 5, 4, 3, 2, 0, 3, 2, 0, 2, 0],
  [1, 2, 1, 1, 0, 6, 5, 4, 3, 2, 0, 2, 0],
  [1, 2, 1, 1, 1, 0, 6, 5, 4, 3, 2, 0, 3, 2, 0, 3, 2, 0, 2, 0],
  [1, 2, 1, 1, 0, 6, 5, 4, 3, 2, 0, 3, 2, 0, 2, 0],
  [1, 2, 1, 1, 0, 6, 5, 4, 3, 2, 0, 3, 2, 0, 3, 2, 0, 2, 0],
  [1, 2, 1, 1, 1, 0, 6, 5, 4, 3, 2, 0, 3, 2, 0, 3, 2, 0, 3, 2, 0, 2, 0],
  [1, 2, 1, 1, 0, 6, 5, 4, 3, 2, 0, 3, 2, 0, 2, 0],
  [1, 2, 1, 1, 0, 6, 5, 4, 3, 2, 0, 3, 2, 0, 2, 0],
  [1, 2, 1, 1, 1, 0, 6, 5, 4, 3, 2, 0, 3, 2, 0, 2, 0],
  [1, 2, 1, 1, 0, 6, 5, 4, 3, 2, 0, 3, 2, 0, 2, 0],
  [1, 2, 1, 1, 1, 0, 4, 2, 4, 2, 5, 4, 3, 2, 0, 2, 0],
  [1, 2, 1, 1, 1, 0, 6, 5, 4, 3, 2, 0, 3, 2, 0, 3, 2, 0, 2, 0],
  [1, 2, 1, 1, 1, 0, 6, 5, 4, 3, 2, 0, 3, 2, 0, 2, 0],
  [1, 2, 1, 1, 1, 1, 0, 6, 5, 4, 3, 2, 0, 3, 2, 0, 2, 0],
  [1, 2, 1, 1, 0, 6, 5, 4, 3, 2, 0, 3, 2, 0, 2, 0],
  [1, 2, 1, 1, 1, 0, 6, 5, 4, 3, 2, 0, 3, 2, 0, 2, 0],
  [1, 2, 1, 1, 0, 6, 5, 4, 3, 2, 0, 3, 2, 0, 2, 0],
  [1, 2, 1, 1, 0, 6, 5, 4, 3, 2, 0, 3, 2, 0, 3, 2, 0, 2, 0],
  [1, 2, 1, 1, 1, 1, 1, 1, 0, 6, 5, 4, 3, 2, 0, 3, 2, 0, 3, 2, 0, 3, 2, 0, 2, 0],
  [1, 2, 1, 1, 1, 1, 0, 6, 5, 4, 3, 2, 0, 3, 2, 0, 3, 2, 0, 2, 0],
  [1, 2, 1, 1, 1, 0, 6, 5, 4, 3, 2, 0, 2, 0],
  [1, 2, 1, 0, 6, 5, 4, 3, 2, 0, 2, 0],
  [1, 2, 1, 0, 5, 4, 3, 2, 0, 2, 0],
  [8, 4, 0, 3, 8, 4, 0, 3, 2, 8, 3, 2, 8, 3, 2, 3, 1, 1, 5, 2, 6, 4, 1, 1, 7, 2, 6, 0, 1, 1, 1, 2, 6, 7, 6, 1, 1, 2, 6, 7, 1, 1, 2, 6, 7, 1, 0, 3, 1, 1, 1, 2, 6, 7, 6, 1, 1, 2, 6, 7, 1, 1, 2, 6, 7, 0, 3, 4, 1, 1, 1, 2, 6, 7, 1, 0, 3, 1, 1, 1, 2, 6, 7, 0, 3, 4, 1, 1, 1, 2, 6, 7, 1, 1, 2, 6, 7, 1, 0, 3, 1, 1, 1, 2, 6, 7, 1, 1, 2, 6, 7, 0, 3, 4, 1, 1, 1, 2, 6, 7, 1, 1, 2, 6, 7, 1, 0, 3, 1, 1, 1, 2, 6, 7, 1, 1, 2, 6, 7, 0, 3, 4, 1, 1, 1, 2, 6, 7, 1, 1, 2, 6, 7, 1, 1, 2, 6, 7, 1, 0, 3, 1, 1, 1, 2, 6, 7, 1, 1, 2, 6, 7, 1, 1, 2, 6, 7, 0, 3, 4, 1, 1, 1, 2, 6, 7, 1, 1, 2, 6, 7, 1, 0, 3, 1, 1, 1, 2, 6, 7, 1, 1, 2, 6, 7, 0, 3, 4, 1, 1, 1, 2, 6, 7, 1, 0, 3, 1, 1, 1, 2, 6, 7, 0, 3, 4, 1, 1, 1, 2, 6, 7, 1, 0, 3, 1, 1, 1, 2, 6, 7, 0, 3, 4, 1, 1, 1, 2, 6, 7, 1, 1, 2, 6, 7, 6, 1, 0, 3, 1, 1, 1, 2, 6, 7, 1, 1, 2, 6, 7, 6, 0, 3, 4, 1, 1, 1, 2, 6, 7, 1, 1, 2, 6, 7, 1, 1, 2, 6, 7, 1, 1, 2, 6, 7, 6, 1, 1, 2, 6, 7, 6, 1, 0, 3, 1, 1, 1, 2, 6, 7, 1, 1, 2, 6, 7, 1, 1, 2, 6, 7, 1, 1, 2, 6, 7, 6, 1, 1, 2, 6, 7, 6, 0, 3, 4, 1, 1, 1, 2, 6, 7, 1, 0, 3, 1, 1, 1, 2, 6, 7, 0, 3, 4, 1, 1, 1, 2, 6, 7, 1, 0, 3, 1, 1, 1, 2, 6, 7, 0, 3, 4, 1, 1, 1, 2, 6, 7, 1, 0, 3, 1, 1, 1, 2, 6, 7, 0, 3, 4, 1, 1, 1, 2, 6, 7, 1, 0, 3, 1, 1, 1, 2, 6, 7, 0, 3, 4, 1, 1, 1, 2, 6, 7, 1, 0, 3, 1, 1, 1, 2, 6, 7, 0, 3, 4, 1, 1, 1, 2, 6, 7, 1, 1, 2, 6, 7, 4, 2, 4, 2, 1, 0, 3, 1, 1, 1, 2, 6, 7, 1, 1, 2, 6, 7, 4, 2, 4, 2, 0, 3, 4, 1, 1, 1, 2, 6, 7, 1, 1, 2, 6, 7, 6, 1, 1, 2, 6, 7, 1, 0, 3, 1, 1, 1, 2, 6, 7, 1, 1, 2, 6, 7, 6, 1, 1, 2, 6, 7, 0, 3, 4, 1, 1, 1, 2, 6, 7, 1, 1, 2, 6, 7, 1, 1, 2, 6, 7, 1, 1, 2, 6, 7, 1, 0, 3, 1, 1, 1, 2, 6, 7, 1, 1, 2, 6, 7, 1, 1, 2, 6, 7, 1, 1, 2, 6, 7, 0, 3, 4, 1, 1, 1, 2, 6, 7, 1, 1, 2, 6, 7, 1, 1, 2, 6, 7, 1, 0, 3, 1, 1, 1, 2, 6, 7, 1, 1, 2, 6, 7, 1, 1, 2, 6, 7, 0, 3, 4, 1, 1, 1, 2, 6, 7, 1, 1, 2, 6, 7, 1, 1, 2, 6, 7, 1, 0, 3, 1, 1, 1, 2, 6, 7, 1, 1, 2, 6, 7, 1, 1, 2, 6, 7, 0, 3, 4, 1, 1, 1, 2, 6, 7, 1, 0, 3, 1, 1, 1, 2, 6, 7, 0, 3, 4, 1, 1, 1, 2, 6, 7, 1, 1, 2, 6, 7, 6, 1, 0, 3, 1, 1, 1, 2, 6, 7, 1, 1, 2, 6, 7, 6, 0, 3, 4, 1, 1, 1, 2, 6, 7, 1, 0, 3, 1, 1, 1, 2, 6, 7, 0, 3, 4, 1, 1, 1, 2, 6, 7, 1, 1, 2, 6, 7, 1, 0, 3, 1, 1, 1, 2, 6, 7, 1, 1, 2, 6, 7, 0, 3, 4, 1, 1, 1, 2, 6, 7, 1, 0, 3, 1, 1, 1, 2, 6, 7, 0, 3, 4, 1, 0, 1, 0, 4, 2, 0, 1, 1, 1, 2, 6, 7, 1, 0, 3, 1, 1, 1, 2, 6, 7, 0, 3, 4, 1, 1, 1, 2, 6, 7, 1, 1, 2, 6, 7, 1, 0, 3, 1, 1, 1, 2, 6, 7, 1, 1, 2, 6, 7, 0, 3, 4, 1, 1, 1, 2, 6, 7, 1, 0, 3, 1, 1, 1, 2, 6, 7, 0, 3, 4, 1, 1, 1, 2, 6, 7, 1, 0, 3, 1, 1, 1, 2, 6, 7, 0, 3, 4, 1, 1, 1, 2, 6, 7, 1, 1, 2, 6, 7, 1, 0, 3, 1, 1, 1, 2, 6, 7, 1, 1, 2, 6, 7, 0, 3, 4, 1, 1, 1, 2, 6, 7, 1, 0, 3, 1, 1, 1, 2, 6, 7, 0, 3, 4, 1, 1, 1, 2, 6, 7, 1, 1, 2, 6, 7, 1, 0, 3, 1, 1, 1, 2, 6, 7, 1, 1, 2, 6, 7, 0, 3, 4, 1, 1, 1, 2, 6, 7, 1, 1, 2, 6, 7, 1, 0, 3, 1, 1, 1, 2, 6, 7, 1, 1, 2, 6, 7, 0, 3, 4, 1, 1, 1, 2, 6, 7, 1, 1, 2, 6, 7, 6, 1, 0, 3, 1, 1, 1, 2, 6, 7, 1, 1, 2, 6, 7, 6, 0, 3, 4, 1, 1, 1, 2, 6, 7, 1, 1, 2, 6, 7, 1, 1, 2, 6, 7, 1, 0, 3, 1, 1, 1, 2, 6, 7, 1, 1, 2, 6, 7, 1, 1, 2, 6, 7, 0, 3, 4, 1, 1, 1, 2, 6, 7, 1, 0, 3, 1, 1, 1, 2, 6, 7, 0, 3, 4, 1, 0, 4, 1, 0, 4, 4, 1, 1, 1, 2, 6, 7, 1, 1, 2, 6, 7, 1, 0, 3, 1, 1, 1, 2, 6, 7, 1, 1, 2, 6, 7, 0, 3, 4, 1, 1, 1, 2, 6, 7, 1, 0, 3, 1, 1, 1, 2, 6, 7, 0, 3, 4, 1, 1, 1, 2, 6, 7, 1, 0, 3, 1, 1, 1, 2, 6, 7, 0, 3, 4, 1, 1, 1, 2, 6, 7, 1, 1, 2, 6, 7, 1, 1, 2, 6, 7, 1, 1, 2, 6, 7, 1, 1, 2, 6, 7, 1, 0, 3, 1, 1, 1, 2, 6, 7, 1, 1, 2, 6, 7, 1, 1, 2, 6, 7, 1, 1, 2, 6, 7, 1, 1, 2, 6, 7, 0, 3, 4, 1, 1, 1, 2, 6, 7, 1, 1, 2, 6, 7, 1, 1, 2, 6, 7, 1, 0, 3, 1, 1, 1, 2, 6, 7, 1, 1, 2, 6, 7, 1, 1, 2, 6, 7, 0, 3, 4, 1, 1, 1, 2, 6, 7, 1, 1, 2, 6, 7, 4, 2, 4, 2, 1, 0, 3, 1, 1, 1, 2, 6, 7, 1, 1, 2, 6, 7, 4, 2, 4, 2, 0, 3, 4, 1, 0, 0, 1, 0, 0, 4, 1, 1, 0, 3, 1, 0, 3, 4, 1, 1, 0, 3, 1, 0, 3, 4, 1, 0, 4, 1, 0, 4, 4, 4, 4, 2, 0]]
end
section
/-! The run with hints is a run -/
def t_srt : Nat → CL → Bool
  | _, [] => true
  | lo, e :: l => Nat.ble lo e.1 && t_srt (e.1 + 1) l
theorem t_srt_le : ∀ {L : CL} {lo : Nat}, t_srt lo L = true → ∀ {e : Nat × Instr × Nat}, e ∈ L → lo ≤ e.1
  | [], lo, h, e, he => absurd he List.not_mem_nil
  | x :: l, lo, h, e, he => by
    rw [t_srt, Bool.and_eq_true] at h
    have h1 := Nat.le_of_ble_eq_true h.1
    rcases List.mem_cons.mp he with rfl | he
    · exact h1
    · have := t_srt_le h.2 he; omega
theorem t_srt_find : ∀ {L : CL} {lo : Nat}, t_srt lo L = true → ∀ {e : Nat × Instr × Nat}, e ∈ L → L.find? (fun x => x.1 == e.1) = some e
  | [], lo, h, e, he => absurd he List.not_mem_nil
  | x :: l, lo, h, e, he => by
    rw [t_srt, Bool.and_eq_true] at h
    rw [List.find?_cons]
    rcases List.mem_cons.mp he with rfl | he
    · rw [beq_self_eq_true]
    · have h1 := t_srt_le h.2 he
      rw [show (x.1 == e.1) = false from beq_false_of_ne (by omega)]
      exact t_srt_find h.2 he
theorem t_srt_prog : (a_prog.all fun m => t_srt 0 m.2) = true := by decide +kernel
theorem t_srt_law : t_srt 0 a_lawP = true := by decide +kernel
theorem t_ins {mi pc : Nat} {i : Instr} {len : Nat} (h : (pc, i, len) ∈ a_codeL mi) : a_ins mi pc = some (i, len) := by
  have key : t_srt 0 (a_codeL mi) = true := by
    by_cases hm : mi = 301
    · subst hm
      have e1 : a_codeL 301 = a_lawP := if_pos rfl
      rw [e1]; exact t_srt_law
    · have e1 : a_codeL mi = (a_prog.getD mi (⟨#[]⟩, [])).2 := if_neg hm
      rw [e1] at h ⊢
      rw [List.getD_eq_getElem?_getD] at h ⊢
      cases hg : a_prog[mi]? with
      | none => rw [hg] at h; cases h
      | some m => exact List.all_eq_true.mp t_srt_prog _ (List.mem_of_getElem? hg)
  unfold a_ins
  rw [t_srt_find key h]; rfl
def t_drop (t : Nat) : CL → List Nat → CL × List Nat
  | e :: l, k :: ks => bif Nat.beq e.1 t then (e :: l, k :: ks) else t_drop t l ks
  | _, _ => ([], [])
def t_pos (pc : Nat) (cs : CL) (ks : List Nat) (fc : CL) (fk : List Nat) : CL × List Nat := match cs, ks with
  | e :: l, k :: ks => bif Nat.beq e.1 pc then (e :: l, k :: ks) else t_drop pc fc fk
  | _, _ => t_drop pc fc fk
theorem t_drop_in {t : Nat} : ∀ {l : CL} {ks : List Nat} {e : Nat × Instr × Nat}, e ∈ (t_drop t l ks).1 → e ∈ l
  | [], ks, e, h => by cases ks <;> cases h
  | x :: l, [], e, h => by cases h
  | x :: l, k :: ks, e, h => by
    rw [t_drop] at h
    cases hb : Nat.beq x.1 t with
    | true => rw [hb] at h; exact h
    | false => rw [hb] at h; exact List.mem_cons_of_mem _ (t_drop_in h)
theorem t_pos_in {pc : Nat} {cs fc : CL} {ks fk : List Nat} {P : Nat × Instr × Nat → Prop} (h1 : ∀ e ∈ cs, P e) (h2 : ∀ e ∈ fc, P e) : ∀ e ∈ (t_pos pc cs ks fc fk).1, P e := by
  intro e h
  unfold t_pos at h
  split at h
  · rename_i x l k ks'
    cases hb : Nat.beq x.1 pc with
    | true => rw [hb] at h; exact h1 e h
    | false => rw [hb] at h; exact h2 e (t_drop_in h)
  · exact h2 e (t_drop_in h)
def t_frc {α : Type} (n : Nat) (f : Nat → α) : α := match n with
  | 0 => f 0
  | Nat.succ n => f (Nat.succ n)
theorem t_frc_eq {α : Type} (n : Nat) (f : Nat → α) : t_frc n f = f n := by cases n <;> rfl
noncomputable def t_go (call : SE → Nat → List Value → AH → Option (List (SE × AR))) (mi : Nat) (fc : CL) (fk : List Nat) : Nat → SE → Nat → CL → List Nat → AL → List Value → AH → Nat → Nat → Option (List (SE × AR))
  | 0, _, _, _, _, _, _, _, _, _ => none
  | f + 1, E, pc, cs, ks, al, st, h, mc, ms =>
    match t_pos pc cs ks fc fk with
    | ((p, i, len) :: cs', k :: ks') => bif Nat.beq p pc then
      (match t_fast mi (a_own mi) (a_ini mi) i len p al st h k with
      | some r => t_frc (mc + r.2.2.2.2.1) fun mc' => t_frc (ms + r.2.2.2.2.2) fun ms' => t_go call mi fc fk f E r.1 cs' ks' r.2.1 r.2.2.1 r.2.2.2.1 mc' ms'
      | none => match s_end E mi i st with
        | some v => some [(E, .inl v, h, mc, ms)]
        | none => match a_trw mi p i st with
          | some k => some [(E, .inr k, h, mc + 1, ms + 6)]
          | none => match a_call (a_own mi) i st h with
            | some (mt, as, rest) => (match call E mt as h with
              | none => none
              | some outs => (s_seq (outs.map fun o => match o.2.1 with
                | .inl v => t_frc (mc + o.2.2.2.1) fun mc' => t_frc (ms + o.2.2.2.2) fun ms' => t_go call mi fc fk f o.1 (p + 3) cs' ks' al (v.toList ++ rest) o.2.2.1 mc' ms'
                | .inr k => if a_isSp i = true then none else if (a_hnd mi).isEmpty = true then some [(o.1, .inr k, o.2.2.1, mc + o.2.2.2.1, ms + o.2.2.2.2)] else (match a_cth mi p k with
                  | some x => (match a_hdl mi x.2.2.1 with
                    | some (hp, n) => if n < al.length then t_frc (mc + o.2.2.2.1) fun mc' => t_frc (ms + o.2.2.2.2) fun ms' => t_go call mi fc fk f o.1 hp cs' ks' (a_drop al n) [] o.2.2.1 mc' ms' else none
                    | none => none)
                  | none => none))).map List.flatten)
            | none => match s_stp E (a_own mi) (a_ini mi) i len p al st h with
              | none => none
              | some outs => (s_seq (outs.map fun o => t_frc (mc + o.2.2.2.2.2.1) fun mc' => t_frc (ms + o.2.2.2.2.2.2) fun ms' => t_go call mi fc fk f o.1 o.2.1 cs' ks' o.2.2.1 o.2.2.2.1 o.2.2.2.2.1 mc' ms')).map List.flatten)
      else none
    | _ => none
def t_hint (mi : Nat) : List Nat := t_hints.getD mi []
noncomputable def t_run : Nat → Nat → SE → Nat → List Value → AH → Option (List (SE × AR))
  | 0, _, _, _, _, _ => none
  | d + 1, F, E, mi, as, h => if as.length = a_nrg mi ∧ as.length ≤ a_mxl mi ∧ (as.all fun v => v.category == 1) = true then t_go (t_run d F) mi (a_codeL mi) (t_hint mi) F E 0 [] [] (a_args mi as) [] h 0 0 else none
section TG
variable {ρ : GV}
set_option maxHeartbeats 2000000 in
theorem t_go_ok (hρ : s_fix ρ) {mi : Nat} {fc : CL} {fk : List Nat} {cS : SE → Nat → List Value → AH → Option (List (SE × AR))} {cA : Nat → List Value → AH → Option AR} (hcall : ∀ (E : SE) (mt : Nat) (as : List Value) (h : AH) (outs : List (SE × AR)), cS E mt as h = some outs → s_sat E ρ → ∃ o ∈ outs, s_sat o.1 ρ ∧ cA mt (g_S ρ as) (g_H ρ h) = some (g_r ρ o.2)) (hfc : ∀ e ∈ fc, e ∈ a_codeL mi) :
    ∀ (f : Nat) (E : SE) (pc : Nat) (cs : CL) (ks : List Nat) (al : AL) (st : List Value) (h : AH) (mc ms : Nat) (outs : List (SE × AR)), (∀ e ∈ cs, e ∈ a_codeL mi) → t_go cS mi fc fk f E pc cs ks al st h mc ms = some outs → s_sat E ρ → ∃ o ∈ outs, s_sat o.1 ρ ∧ a_go cA mi f pc (g_A ρ al) (g_S ρ st) (g_H ρ h) mc ms = some (g_r ρ o.2)
  | 0, E, pc, cs, ks, al, st, h, mc, ms, outs, hcs, hr, hs => by cases hr
  | f + 1, E, pc, cs, ks, al, st, h, mc, ms, outs, hcs, hr, hs => by
    rw [t_go] at hr
    rw [a_go]
    have hpos := t_pos_in (pc := pc) (ks := ks) (fk := fk) hcs hfc
    split at hr
    · rename_i p i len cs' k ks' hp
      rw [hp] at hpos
      obtain ⟨hb, hr1⟩ := t_bif hr
      clear hr
      have hb1 := t_beq hb
      clear hb
      subst hb1
      have hr := hr1
      clear hr1
      have hi := t_ins (hpos _ List.mem_cons_self)
      have hcs' : ∀ e ∈ cs', e ∈ a_codeL mi := fun e he => hpos e (List.mem_cons_of_mem _ he)
      rw [hi]
      dsimp only
      split at hr
      · rename_i r hf
        rw [t_frc_eq, t_frc_eq] at hr
        obtain ⟨h1, h2, h3⟩ := t_fast_ok (ρ := ρ) (fun q => a_ins_len hi q) hf
        have e0 : a_end mi i (g_S ρ st) = none := a_opt (fun v hv => a_stp_stage h1 (a_end_stage hv))
        rw [e0, h2, h3, h1]
        exact t_go_ok hρ hcall hfc f E r.1 cs' ks' r.2.1 r.2.2.1 r.2.2.2.1 _ _ outs hcs' hr hs
      · split at hr
        · rename_i v hv
          cases hr
          refine ⟨_, List.mem_cons_self, hs, ?_⟩
          rw [s_end_ok hs hv]; rfl
        · split at hr
          · rename_i k hk
            cases hr
            refine ⟨_, List.mem_cons_self, hs, ?_⟩
            have e0 : a_end mi i (g_S ρ st) = none := a_opt (fun v hv => by
              have h1 := a_end_stage hv
              rw [a_trw_stage hk] at h1
              cases h1)
            rw [e0, g_trw, hk]; rfl
          · rename_i htr
            split at hr
            · rename_i mt as rest hc
              split at hr
              · cases hr
              · rename_i os hos
                obtain ⟨o, ho, hso, hco⟩ := hcall E mt as h os hos hs
                obtain ⟨a, ea, hin⟩ := s_fl hr (List.mem_map.mpr ⟨o, ho, rfl⟩)
                have e1 : a_call (a_own mi) i (g_S ρ st) (g_H ρ h) = some (mt, g_S ρ as, g_S ρ rest) := g_call_some hc
                rw [a_call_end hc, g_trw, htr, e1]
                dsimp only
                rw [hco]
                obtain ⟨E', res, h', c', s'⟩ := o
                cases res with
                | inl v =>
                  dsimp only at ea hso
                  rw [t_frc_eq, t_frc_eq] at ea
                  obtain ⟨o2, ho2, hs2, h2⟩ := t_go_ok hρ hcall hfc f E' (p + 3) cs' ks' al (v.toList ++ rest) h' (mc + c') (ms + s') a hcs' ea hso
                  refine ⟨o2, hin o2 ho2, hs2, ?_⟩
                  have e2 : (v.map (g_v ρ)).toList ++ g_S ρ rest = g_S ρ (v.toList ++ rest) := by cases v <;> simp [g_S]
                  show a_go cA mi f (p + 3) (g_A ρ al) ((v.map (g_v ρ)).toList ++ g_S ρ rest) (g_H ρ h') (mc + c') (ms + s') = _
                  rw [e2]
                  exact h2
                | inr k =>
                  dsimp only at ea hso
                  dsimp only [g_r]
                  by_cases hsp : a_isSp i = true
                  · rw [if_pos hsp] at ea; cases ea
                  · rw [if_neg hsp] at ea
                    rw [if_neg hsp]
                    by_cases hemp : (a_hnd mi).isEmpty = true
                    · rw [if_pos hemp] at ea
                      rw [if_pos hemp]
                      cases ea
                      exact ⟨_, hin _ List.mem_cons_self, hso, rfl⟩
                    · rw [if_neg hemp] at ea
                      rw [if_neg hemp]
                      split at ea
                      · rename_i x hx
                        rw [hx]
                        dsimp only
                        split at ea
                        · rename_i hp n hh
                          rw [hh]
                          dsimp only
                          split at ea
                          · rename_i hn
                            rw [t_frc_eq, t_frc_eq] at ea
                            rw [g_len, if_pos hn, ← g_drop]
                            obtain ⟨o2, ho2, hs2, h2⟩ := t_go_ok hρ hcall hfc f E' hp cs' ks' (a_drop al n) [] h' (mc + c') (ms + s') a hcs' ea hso
                            exact ⟨o2, hin o2 ho2, hs2, h2⟩
                          · cases ea
                        · cases ea
                      · cases ea
            · rename_i hc
              split at hr
              · cases hr
              · rename_i os hos
                obtain ⟨o, ho, hso, hst⟩ := s_stp_ok hρ hs (fun q => a_ins_len hi q) hos
                obtain ⟨a, ea, hin⟩ := s_fl hr (List.mem_map.mpr ⟨o, ho, rfl⟩)
                have e0 : a_end mi i (g_S ρ st) = none := a_opt (fun v hv => a_stp_stage hst (a_end_stage hv))
                have e1 : a_call (a_own mi) i (g_S ρ st) (g_H ρ h) = none := g_call_none hc (a_stp_stage hst)
                rw [e0, g_trw, htr, e1]
                dsimp only
                rw [hst]
                rw [t_frc_eq, t_frc_eq] at ea
                obtain ⟨o2, ho2, hs2, h2⟩ := t_go_ok hρ hcall hfc f o.1 o.2.1 cs' ks' o.2.2.1 o.2.2.2.1 o.2.2.2.2.1 (mc + o.2.2.2.2.2.1) (ms + o.2.2.2.2.2.2) a hcs' ea hso
                exact ⟨o2, hin o2 ho2, hs2, h2⟩
    · cases hr
theorem g_args (mi : Nat) (as : List Value) : g_A ρ (a_args mi as) = a_args mi (g_S ρ as) := by
  unfold a_args g_A g_S
  simp [List.map_append, List.map_map, Function.comp_def, List.map_replicate]
theorem t_run_ok (hρ : s_fix ρ) : ∀ (d F : Nat) (E : SE) (mi : Nat) (as : List Value) (h : AH) (outs : List (SE × AR)), t_run d F E mi as h = some outs → s_sat E ρ → ∃ o ∈ outs, s_sat o.1 ρ ∧ a_run d F mi (g_S ρ as) (g_H ρ h) = some (g_r ρ o.2)
  | 0, F, E, mi, as, h, outs, hr, hs => by cases hr
  | d + 1, F, E, mi, as, h, outs, hr, hs => by
    rw [t_run] at hr
    split at hr
    · rename_i hc
      obtain ⟨o, ho, hs2, h2⟩ := t_go_ok hρ (fun E mt as h outs => t_run_ok hρ d F E mt as h outs) (fun e he => he) F E 0 [] [] (a_args mi as) [] h 0 0 outs (fun e he => absurd he List.not_mem_nil) hr hs
      refine ⟨o, ho, hs2, ?_⟩
      have hc2 : (g_S ρ as).length = a_nrg mi ∧ (g_S ρ as).length ≤ a_mxl mi ∧ ((g_S ρ as).all fun v => v.category == 1) = true := by
        refine ⟨by rw [g_Slen]; exact hc.1, by rw [g_Slen]; exact hc.2.1, ?_⟩
        rw [List.all_eq_true]
        intro v hv
        obtain ⟨u, hu, rfl⟩ := List.mem_map.mp hv
        rw [g_cat]
        exact List.all_eq_true.mp hc.2.2 u hu
      show (if _ then _ else _) = _
      rw [if_pos hc2, ← g_args]
      exact h2
    · cases hr
end TG
end
section
/-! A run that uses the results of earlier runs: (method, the object, the heap behind the first cell before and after, cells, slots) -/
abbrev XE : Type := Nat × Nat × AH × AH × Nat × Nat
def x_vp (v : Value) : Bool := match v with
  | .retAddr _ => false
  | _ => true
def x_pure (h : AH) : Bool := h.all fun x => !(Nat.beq x.1 99) && x.2.all x_vp
noncomputable def x_call (tab : List XE) (c : SE → Nat → List Value → AH → Option (List (SE × AR))) (E : SE) (mt : Nat) (as : List Value) (h : AH) : Option (List (SE × AR)) := match h with
  | [] => c E mt as []
  | c0 :: t => match tab.find? (fun e => Nat.beq e.1 mt && Nat.beq e.2.2.1.length t.length) with
    | some e => if as = [.ref e.2.1] ∧ t = e.2.2.1 then some [(E, .inl none, c0 :: e.2.2.2.1, e.2.2.2.2.1, e.2.2.2.2.2)] else none
    | none => c E mt as (c0 :: t)
def x_P (d F : Nat) (e : XE) : Prop := (x_pure e.2.2.1 = true ∧ x_pure e.2.2.2.1 = true) ∧ ∀ c0 : AC, a_run d F e.1 [.ref e.2.1] (c0 :: e.2.2.1) = some (.inl none, c0 :: e.2.2.2.1, e.2.2.2.2.1, e.2.2.2.2.2)
noncomputable def x_run (tab : List XE) (d F : Nat) (E : SE) (mi : Nat) (as : List Value) (h : AH) : Option (List (SE × AR)) := if as.length = a_nrg mi ∧ as.length ≤ a_mxl mi ∧ (as.all fun v => v.category == 1) = true then t_go (x_call tab (t_run d F)) mi (a_codeL mi) (t_hint mi) F E 0 [] [] (a_args mi as) [] h 0 0 else none
section XR
variable {ρ : GV}
theorem x_pure_g {h : AH} (hp : x_pure h = true) : g_H ρ h = h := by
  unfold g_H
  conv => rhs; rw [← List.map_id h]
  refine List.map_congr_left fun x hx => ?_
  have h1 := List.all_eq_true.mp hp x hx
  rw [Bool.and_eq_true] at h1
  have h2 : ¬ x.1 = 99 := by
    intro e
    rw [e] at h1
    exact absurd h1.1 (by decide)
  unfold g_c
  rw [if_neg h2]
  have h3 : x.2.map (g_v ρ) = x.2 := by
    conv => rhs; rw [← List.map_id x.2]
    refine List.map_congr_left fun v hv => ?_
    have h4 := List.all_eq_true.mp h1.2 v hv
    cases v <;> first | rfl | (cases h4; done)
  rw [h3]; rfl
theorem x_call_ok (hρ : s_fix ρ) {tab : List XE} {d F : Nat} (ht : ∀ e ∈ tab, x_P d F e) (E : SE) (mt : Nat) (as : List Value) (h : AH) (outs : List (SE × AR)) (hr : x_call tab (t_run d F) E mt as h = some outs) (hs : s_sat E ρ) : ∃ o ∈ outs, s_sat o.1 ρ ∧ a_run d F mt (g_S ρ as) (g_H ρ h) = some (g_r ρ o.2) := by
  unfold x_call at hr
  split at hr
  · exact t_run_ok hρ d F E mt as [] outs hr hs
  · rename_i c0 t
    split at hr
    · rename_i e he
      split at hr
      · rename_i hc
        cases hr
        obtain ⟨⟨p1, p2⟩, p3⟩ := ht e (List.mem_of_find?_eq_some he)
        have h1 := List.find?_some he
        rw [Bool.and_eq_true] at h1
        have h2 := t_beq h1.1
        refine ⟨_, List.mem_cons_self, hs, ?_⟩
        rw [hc.1, hc.2, ← h2]
        have e1 : g_H ρ (c0 :: e.2.2.1) = g_c ρ c0 :: e.2.2.1 := by
          show g_c ρ c0 :: g_H ρ e.2.2.1 = _
          rw [x_pure_g p1]
        have e2 : g_H ρ (c0 :: e.2.2.2.1) = g_c ρ c0 :: e.2.2.2.1 := by
          show g_c ρ c0 :: g_H ρ e.2.2.2.1 = _
          rw [x_pure_g p2]
        rw [e1]
        show a_run d F e.1 [.ref e.2.1] _ = some (.inl none, g_H ρ (c0 :: e.2.2.2.1), _, _)
        rw [e2]
        exact p3 _
      · cases hr
    · exact t_run_ok hρ d F E mt as _ outs hr hs
theorem x_run_ok (hρ : s_fix ρ) {tab : List XE} {d F : Nat} (ht : ∀ e ∈ tab, x_P d F e) {E : SE} {mi : Nat} {as : List Value} {h : AH} {outs : List (SE × AR)} (hr : x_run tab d F E mi as h = some outs) (hs : s_sat E ρ) : ∃ o ∈ outs, s_sat o.1 ρ ∧ a_run (d + 1) F mi (g_S ρ as) (g_H ρ h) = some (g_r ρ o.2) := by
  unfold x_run at hr
  split at hr
  · rename_i hc
    obtain ⟨o, ho, hs2, h2⟩ := t_go_ok hρ (x_call_ok hρ ht) (fun e he => he) F E 0 [] [] (a_args mi as) [] h 0 0 outs (fun e he => absurd he List.not_mem_nil) hr hs
    refine ⟨o, ho, hs2, ?_⟩
    have hc2 : (g_S ρ as).length = a_nrg mi ∧ (g_S ρ as).length ≤ a_mxl mi ∧ ((g_S ρ as).all fun v => v.category == 1) = true := by
      refine ⟨by rw [g_Slen]; exact hc.1, by rw [g_Slen]; exact hc.2.1, ?_⟩
      rw [List.all_eq_true]
      intro v hv
      obtain ⟨u, hu, rfl⟩ := List.mem_map.mp hv
      rw [g_cat]
      exact List.all_eq_true.mp hc.2.2 u hu
    show (if _ then _ else _) = _
    rw [if_pos hc2, ← g_args]
    exact h2
  · cases hr
end XR
def x_rv (c0 : AC) : GV := (fun _ => 0, c0)
theorem x_rv_fix (c0 : AC) : s_fix (x_rv c0) := fun n _ => ⟨show (0 : Int32) = s_i2c 0 by decide, show (0 : Int32) = 0 &&& 63 by decide⟩
def x_is (o : Option (List (SE × AR))) (h : AH) (mc ms : Nat) : Bool := match o with
  | some [([], .inl none, (99, []) :: t, c, s)] => decide (t = h) && (Nat.beq c mc && Nat.beq s ms)
  | _ => false
theorem x_is_eq {o : Option (List (SE × AR))} {h : AH} {mc ms : Nat} (hx : x_is o h mc ms = true) : o = some [([], .inl none, (99, []) :: h, mc, ms)] := by
  unfold x_is at hx
  split at hx
  · rw [Bool.and_eq_true, Bool.and_eq_true, decide_eq_true_eq] at hx
    rw [hx.1, t_beq hx.2.1, t_beq hx.2.2]
  · cases hx
/-- a run gives an entry of the next table -/
theorem x_entry {tab : List XE} {d F mt a mc ms : Nat} {tin tout : AH} (ht : ∀ e ∈ tab, x_P d F e) (h1 : x_pure tin = true) (h2 : x_pure tout = true) (hx : x_is (x_run tab d F [] mt [.ref a] ((99, []) :: tin)) tout mc ms = true) : x_P (d + 1) F (mt, a, tin, tout, mc, ms) := by
  have hr := x_is_eq hx
  refine ⟨⟨h1, h2⟩, fun c0 => ?_⟩
  obtain ⟨o, ho, -, h⟩ := x_run_ok (x_rv_fix c0) ht hr (fun k S hk => by cases hk)
  cases List.mem_singleton.mp ho
  have e1 : ∀ t, x_pure t = true → g_H (x_rv c0) ((99, []) :: t) = c0 :: t := by
    intro t hp
    show g_c (x_rv c0) (99, []) :: g_H (x_rv c0) t = _
    rw [x_pure_g hp]; rfl
  rw [e1 tin h1] at h
  rw [show g_S (x_rv c0) [.ref a] = [.ref a] from rfl] at h
  refine h.trans ?_
  show some ((Sum.inl none : Option Value ⊕ Nat), g_H (x_rv c0) ((99, []) :: tout), mc, ms) = _
  rw [e1 tout h2]
end
section
/-! The run of Juryreel$Grid.<init>, by program (wip/genev.py) -/
def x_iX3 : AH := [
  (11, [.null, .null, .null, .null, .int 0, .null, .int 0, .null, .null, .null, .null, .null, .int 0, .null, .null]),
  (3, [.null, .null, .null, .null, .int 0, .int 0, .null, .null, .int 0])]
def x_oX3_0 : AH := [
  (11, [.null, .null, .null, .null, .int 0, .null, .int 0, .null, .null, .null, .null, .null, .int 0, .null, .null]),
  (3, [.ref 3, .ref 4, .ref 11, .ref 14, .int 0, .int 0, .ref 15, .ref 16, .int 0]),
  (25, [.ref 17, .ref 18, .ref 19, .ref 20, .ref 21, .ref 22, .ref 23, .ref 24, .ref 25, .ref 26, .ref 27, .ref 28, .ref 29, .ref 30, .ref 31, .ref 32, .ref 33, .ref 34, .ref 35, .ref 36]),
  (10, [.ref 5, .ref 6, .int 0, .ref 7, .ref 8, .ref 9, .ref 10, .int 0]),
  (20, List.replicate 4 (.int 0)),
  (21, List.replicate 4 (.int 0)),
  (20, List.replicate 60 (.int 0)),
  (20, List.replicate 60 (.int 0)),
  (20, List.replicate 60 (.int 0)),
  (20, List.replicate 60 (.int 0)),
  (0, [.ref 12, .ref 13, .int 0, .int 0]),
  (22, List.replicate 400 (.int 0)),
  (20, List.replicate 400 (.int 0)),
  (26, [.ref 37, .ref 40, .ref 43, .ref 46, .ref 49, .ref 52, .ref 55, .ref 58, .ref 61, .ref 64, .ref 67, .ref 70, .ref 73, .ref 76, .ref 79, .ref 82, .ref 85, .ref 88, .ref 91, .ref 94, .ref 97, .ref 100, .ref 103, .ref 106, .ref 109, .ref 112, .ref 115, .ref 118, .ref 121, .ref 124, .ref 127, .ref 130, .ref 133, .ref 136, .ref 139, .ref 142, .ref 145, .ref 148, .ref 151, .ref 154, .ref 157, .ref 160, .ref 163, .ref 166, .ref 169, .ref 172, .ref 175, .ref 178, .ref 181, .ref 184, .ref 187, .ref 190, .ref 193, .ref 196, .ref 199, .ref 202, .ref 205, .ref 208, .ref 211, .ref 214]),
  (21, List.replicate 10 (.int 0)),
  (20, List.replicate 60 (.int 0)),
  (2, [.int 45, .int 0, .int 0, .int (-1), .int 0, .int 3, .int 0, .int 45, .int 0]),
  (2, [.int 45, .int 0, .int 0, .int (-1), .int 0, .int 3, .int 0, .int 45, .int 0]),
  (2, [.int 45, .int 0, .int 0, .int (-1), .int 0, .int 3, .int 0, .int 45, .int 0]),
  (2, [.int 45, .int 0, .int 0, .int (-1), .int 0, .int 3, .int 0, .int 45, .int 0]),
  (2, [.int 45, .int 0, .int 0, .int (-1), .int 0, .int 3, .int 0, .int 45, .int 0]),
  (2, [.int 45, .int 0, .int 0, .int (-1), .int 0, .int 3, .int 0, .int 45, .int 0]),
  (2, [.int 45, .int 0, .int 0, .int (-1), .int 0, .int 3, .int 0, .int 45, .int 0]),
  (2, [.int 45, .int 0, .int 0, .int (-1), .int 0, .int 3, .int 0, .int 45, .int 0]),
  (2, [.int 45, .int 0, .int 0, .int (-1), .int 0, .int 3, .int 0, .int 45, .int 0]),
  (2, [.int 45, .int 0, .int 0, .int (-1), .int 0, .int 3, .int 0, .int 45, .int 0]),
  (2, [.int 45, .int 0, .int 0, .int (-1), .int 0, .int 3, .int 0, .int 45, .int 0]),
  (2, [.int 45, .int 0, .int 0, .int (-1), .int 0, .int 3, .int 0, .int 45, .int 0]),
  (2, [.int 45, .int 0, .int 0, .int (-1), .int 0, .int 3, .int 0, .int 45, .int 0]),
  (2, [.int 45, .int 0, .int 0, .int (-1), .int 0, .int 3, .int 0, .int 45, .int 0]),
  (2, [.int 45, .int 0, .int 0, .int (-1), .int 0, .int 3, .int 0, .int 45, .int 0]),
  (2, [.int 45, .int 0, .int 0, .int (-1), .int 0, .int 3, .int 0, .int 45, .int 0]),
  (2, [.int 45, .int 0, .int 0, .int (-1), .int 0, .int 3, .int 0, .int 45, .int 0]),
  (2, [.int 45, .int 0, .int 0, .int (-1), .int 0, .int 3, .int 0, .int 45, .int 0]),
  (2, [.int 45, .int 0, .int 0, .int (-1), .int 0, .int 3, .int 0, .int 45, .int 0]),
  (2, [.int 45, .int 0, .int 0, .int (-1), .int 0, .int 3, .int 0, .int 45, .int 0]),
  (9, [.int 0, .int 0, .int 0, .int 0, .int 45, .int 0, .ref 38, .int 0, .ref 39]),
  (20, List.replicate 16 (.int 0)),
  (21, List.replicate 16 (.int 0)),
  (9, [.int 0, .int 0, .int 0, .int 0, .int 45, .int 0, .ref 41, .int 0, .ref 42]),
  (20, List.replicate 16 (.int 0)),
  (21, List.replicate 16 (.int 0)),
  (9, [.int 0, .int 0, .int 0, .int 0, .int 45, .int 0, .ref 44, .int 0, .ref 45]),
  (20, List.replicate 16 (.int 0)),
  (21, List.replicate 16 (.int 0)),
  (9, [.int 0, .int 0, .int 0, .int 0, .int 45, .int 0, .ref 47, .int 0, .ref 48]),
  (20, List.replicate 16 (.int 0)),
  (21, List.replicate 16 (.int 0)),
  (9, [.int 0, .int 0, .int 0, .int 0, .int 45, .int 0, .ref 50, .int 0, .ref 51]),
  (20, List.replicate 16 (.int 0)),
  (21, List.replicate 16 (.int 0)),
  (9, [.int 0, .int 0, .int 0, .int 0, .int 45, .int 0, .ref 53, .int 0, .ref 54]),
  (20, List.replicate 16 (.int 0)),
  (21, List.replicate 16 (.int 0)),
  (9, [.int 0, .int 0, .int 0, .int 0, .int 45, .int 0, .ref 56, .int 0, .ref 57]),
  (20, List.replicate 16 (.int 0)),
  (21, List.replicate 16 (.int 0)),
  (9, [.int 0, .int 0, .int 0, .int 0, .int 45, .int 0, .ref 59, .int 0, .ref 60]),
  (20, List.replicate 16 (.int 0)),
  (21, List.replicate 16 (.int 0)),
  (9, [.int 0, .int 0, .int 0, .int 0, .int 45, .int 0, .ref 62, .int 0, .ref 63]),
  (20, List.replicate 16 (.int 0)),
  (21, List.replicate 16 (.int 0)),
  (9, [.int 0, .int 0, .int 0, .int 0, .int 45, .int 0, .ref 65, .int 0, .ref 66]),
  (20, List.replicate 16 (.int 0)),
  (21, List.replicate 16 (.int 0)),
  (9, [.int 0, .int 0, .int 0, .int 0, .int 45, .int 0, .ref 68, .int 0, .ref 69]),
  (20, List.replicate 16 (.int 0)),
  (21, List.replicate 16 (.int 0)),
  (9, [.int 0, .int 0, .int 0, .int 0, .int 45, .int 0, .ref 71, .int 0, .ref 72]),
  (20, List.replicate 16 (.int 0)),
  (21, List.replicate 16 (.int 0)),
  (9, [.int 0, .int 0, .int 0, .int 0, .int 45, .int 0, .ref 74, .int 0, .ref 75]),
  (20, List.replicate 16 (.int 0)),
  (21, List.replicate 16 (.int 0)),
  (9, [.int 0, .int 0, .int 0, .int 0, .int 45, .int 0, .ref 77, .int 0, .ref 78]),
  (20, List.replicate 16 (.int 0)),
  (21, List.replicate 16 (.int 0)),
  (9, [.int 0, .int 0, .int 0, .int 0, .int 45, .int 0, .ref 80, .int 0, .ref 81]),
  (20, List.replicate 16 (.int 0)),
  (21, List.replicate 16 (.int 0)),
  (9, [.int 0, .int 0, .int 0, .int 0, .int 45, .int 0, .ref 83, .int 0, .ref 84]),
  (20, List.replicate 16 (.int 0)),
  (21, List.replicate 16 (.int 0)),
  (9, [.int 0, .int 0, .int 0, .int 0, .int 45, .int 0, .ref 86, .int 0, .ref 87]),
  (20, List.replicate 16 (.int 0)),
  (21, List.replicate 16 (.int 0)),
  (9, [.int 0, .int 0, .int 0, .int 0, .int 45, .int 0, .ref 89, .int 0, .ref 90]),
  (20, List.replicate 16 (.int 0)),
  (21, List.replicate 16 (.int 0)),
  (9, [.int 0, .int 0, .int 0, .int 0, .int 45, .int 0, .ref 92, .int 0, .ref 93]),
  (20, List.replicate 16 (.int 0)),
  (21, List.replicate 16 (.int 0)),
  (9, [.int 0, .int 0, .int 0, .int 0, .int 45, .int 0, .ref 95, .int 0, .ref 96]),
  (20, List.replicate 16 (.int 0)),
  (21, List.replicate 16 (.int 0)),
  (9, [.int 0, .int 0, .int 0, .int 0, .int 45, .int 0, .ref 98, .int 0, .ref 99]),
  (20, List.replicate 16 (.int 0)),
  (21, List.replicate 16 (.int 0)),
  (9, [.int 0, .int 0, .int 0, .int 0, .int 45, .int 0, .ref 101, .int 0, .ref 102])]
def x_oX3_1 : AH := [
  (20, List.replicate 16 (.int 0)),
  (21, List.replicate 16 (.int 0)),
  (9, [.int 0, .int 0, .int 0, .int 0, .int 45, .int 0, .ref 104, .int 0, .ref 105]),
  (20, List.replicate 16 (.int 0)),
  (21, List.replicate 16 (.int 0)),
  (9, [.int 0, .int 0, .int 0, .int 0, .int 45, .int 0, .ref 107, .int 0, .ref 108]),
  (20, List.replicate 16 (.int 0)),
  (21, List.replicate 16 (.int 0)),
  (9, [.int 0, .int 0, .int 0, .int 0, .int 45, .int 0, .ref 110, .int 0, .ref 111]),
  (20, List.replicate 16 (.int 0)),
  (21, List.replicate 16 (.int 0)),
  (9, [.int 0, .int 0, .int 0, .int 0, .int 45, .int 0, .ref 113, .int 0, .ref 114]),
  (20, List.replicate 16 (.int 0)),
  (21, List.replicate 16 (.int 0)),
  (9, [.int 0, .int 0, .int 0, .int 0, .int 45, .int 0, .ref 116, .int 0, .ref 117]),
  (20, List.replicate 16 (.int 0)),
  (21, List.replicate 16 (.int 0)),
  (9, [.int 0, .int 0, .int 0, .int 0, .int 45, .int 0, .ref 119, .int 0, .ref 120]),
  (20, List.replicate 16 (.int 0)),
  (21, List.replicate 16 (.int 0)),
  (9, [.int 0, .int 0, .int 0, .int 0, .int 45, .int 0, .ref 122, .int 0, .ref 123]),
  (20, List.replicate 16 (.int 0)),
  (21, List.replicate 16 (.int 0)),
  (9, [.int 0, .int 0, .int 0, .int 0, .int 45, .int 0, .ref 125, .int 0, .ref 126]),
  (20, List.replicate 16 (.int 0)),
  (21, List.replicate 16 (.int 0)),
  (9, [.int 0, .int 0, .int 0, .int 0, .int 45, .int 0, .ref 128, .int 0, .ref 129]),
  (20, List.replicate 16 (.int 0)),
  (21, List.replicate 16 (.int 0)),
  (9, [.int 0, .int 0, .int 0, .int 0, .int 45, .int 0, .ref 131, .int 0, .ref 132]),
  (20, List.replicate 16 (.int 0)),
  (21, List.replicate 16 (.int 0)),
  (9, [.int 0, .int 0, .int 0, .int 0, .int 45, .int 0, .ref 134, .int 0, .ref 135]),
  (20, List.replicate 16 (.int 0)),
  (21, List.replicate 16 (.int 0)),
  (9, [.int 0, .int 0, .int 0, .int 0, .int 45, .int 0, .ref 137, .int 0, .ref 138]),
  (20, List.replicate 16 (.int 0)),
  (21, List.replicate 16 (.int 0)),
  (9, [.int 0, .int 0, .int 0, .int 0, .int 45, .int 0, .ref 140, .int 0, .ref 141]),
  (20, List.replicate 16 (.int 0)),
  (21, List.replicate 16 (.int 0)),
  (9, [.int 0, .int 0, .int 0, .int 0, .int 45, .int 0, .ref 143, .int 0, .ref 144]),
  (20, List.replicate 16 (.int 0)),
  (21, List.replicate 16 (.int 0)),
  (9, [.int 0, .int 0, .int 0, .int 0, .int 45, .int 0, .ref 146, .int 0, .ref 147]),
  (20, List.replicate 16 (.int 0)),
  (21, List.replicate 16 (.int 0)),
  (9, [.int 0, .int 0, .int 0, .int 0, .int 45, .int 0, .ref 149, .int 0, .ref 150]),
  (20, List.replicate 16 (.int 0)),
  (21, List.replicate 16 (.int 0)),
  (9, [.int 0, .int 0, .int 0, .int 0, .int 45, .int 0, .ref 152, .int 0, .ref 153]),
  (20, List.replicate 16 (.int 0)),
  (21, List.replicate 16 (.int 0)),
  (9, [.int 0, .int 0, .int 0, .int 0, .int 45, .int 0, .ref 155, .int 0, .ref 156]),
  (20, List.replicate 16 (.int 0)),
  (21, List.replicate 16 (.int 0)),
  (9, [.int 0, .int 0, .int 0, .int 0, .int 45, .int 0, .ref 158, .int 0, .ref 159]),
  (20, List.replicate 16 (.int 0)),
  (21, List.replicate 16 (.int 0)),
  (9, [.int 0, .int 0, .int 0, .int 0, .int 45, .int 0, .ref 161, .int 0, .ref 162]),
  (20, List.replicate 16 (.int 0)),
  (21, List.replicate 16 (.int 0)),
  (9, [.int 0, .int 0, .int 0, .int 0, .int 45, .int 0, .ref 164, .int 0, .ref 165]),
  (20, List.replicate 16 (.int 0)),
  (21, List.replicate 16 (.int 0)),
  (9, [.int 0, .int 0, .int 0, .int 0, .int 45, .int 0, .ref 167, .int 0, .ref 168]),
  (20, List.replicate 16 (.int 0)),
  (21, List.replicate 16 (.int 0)),
  (9, [.int 0, .int 0, .int 0, .int 0, .int 45, .int 0, .ref 170, .int 0, .ref 171]),
  (20, List.replicate 16 (.int 0)),
  (21, List.replicate 16 (.int 0)),
  (9, [.int 0, .int 0, .int 0, .int 0, .int 45, .int 0, .ref 173, .int 0, .ref 174]),
  (20, List.replicate 16 (.int 0)),
  (21, List.replicate 16 (.int 0)),
  (9, [.int 0, .int 0, .int 0, .int 0, .int 45, .int 0, .ref 176, .int 0, .ref 177]),
  (20, List.replicate 16 (.int 0)),
  (21, List.replicate 16 (.int 0)),
  (9, [.int 0, .int 0, .int 0, .int 0, .int 45, .int 0, .ref 179, .int 0, .ref 180]),
  (20, List.replicate 16 (.int 0)),
  (21, List.replicate 16 (.int 0)),
  (9, [.int 0, .int 0, .int 0, .int 0, .int 45, .int 0, .ref 182, .int 0, .ref 183]),
  (20, List.replicate 16 (.int 0)),
  (21, List.replicate 16 (.int 0)),
  (9, [.int 0, .int 0, .int 0, .int 0, .int 45, .int 0, .ref 185, .int 0, .ref 186]),
  (20, List.replicate 16 (.int 0)),
  (21, List.replicate 16 (.int 0)),
  (9, [.int 0, .int 0, .int 0, .int 0, .int 45, .int 0, .ref 188, .int 0, .ref 189]),
  (20, List.replicate 16 (.int 0)),
  (21, List.replicate 16 (.int 0)),
  (9, [.int 0, .int 0, .int 0, .int 0, .int 45, .int 0, .ref 191, .int 0, .ref 192]),
  (20, List.replicate 16 (.int 0)),
  (21, List.replicate 16 (.int 0)),
  (9, [.int 0, .int 0, .int 0, .int 0, .int 45, .int 0, .ref 194, .int 0, .ref 195]),
  (20, List.replicate 16 (.int 0)),
  (21, List.replicate 16 (.int 0)),
  (9, [.int 0, .int 0, .int 0, .int 0, .int 45, .int 0, .ref 197, .int 0, .ref 198]),
  (20, List.replicate 16 (.int 0)),
  (21, List.replicate 16 (.int 0)),
  (9, [.int 0, .int 0, .int 0, .int 0, .int 45, .int 0, .ref 200, .int 0, .ref 201]),
  (20, List.replicate 16 (.int 0))]
def x_oX3_2 : AH := [
  (21, List.replicate 16 (.int 0)),
  (9, [.int 0, .int 0, .int 0, .int 0, .int 45, .int 0, .ref 203, .int 0, .ref 204]),
  (20, List.replicate 16 (.int 0)),
  (21, List.replicate 16 (.int 0)),
  (9, [.int 0, .int 0, .int 0, .int 0, .int 45, .int 0, .ref 206, .int 0, .ref 207]),
  (20, List.replicate 16 (.int 0)),
  (21, List.replicate 16 (.int 0)),
  (9, [.int 0, .int 0, .int 0, .int 0, .int 45, .int 0, .ref 209, .int 0, .ref 210]),
  (20, List.replicate 16 (.int 0)),
  (21, List.replicate 16 (.int 0)),
  (9, [.int 0, .int 0, .int 0, .int 0, .int 45, .int 0, .ref 212, .int 0, .ref 213]),
  (20, List.replicate 16 (.int 0)),
  (21, List.replicate 16 (.int 0)),
  (9, [.int 0, .int 0, .int 0, .int 0, .int 45, .int 0, .ref 215, .int 0, .ref 216]),
  (20, List.replicate 16 (.int 0)),
  (21, List.replicate 16 (.int 0))]
def x_oX3 : AH := x_oX3_0 ++ (x_oX3_1 ++ (x_oX3_2))
def x_eX3 : XE := (30, 2, x_iX3, x_oX3, 214, 3850)
theorem x_piX3 : x_pure x_iX3 = true := by decide +kernel
theorem x_poX3 : x_pure x_oX3 = true := by decide +kernel
theorem x_rX3 : x_is (x_run [] 11 3000 [] 30 [.ref 2] ((99, []) :: x_iX3)) x_oX3 214 3850 = true := by decide +kernel
theorem x_qX3 : x_P 12 3000 x_eX3 :=
  x_entry (fun e he => by cases he) x_piX3 x_poX3 x_rX3
end
section
/-! The run of Juryreel$Readings.<init>, by program (wip/genev.py) -/
def x_iX6_0 : AH := [
  (11, [.ref 2, .ref 3, .ref 4, .ref 11, .int 0, .ref 217, .int 0, .null, .null, .null, .null, .null, .int 0, .null, .null]),
  (3, [.ref 3, .ref 4, .ref 11, .ref 14, .int 0, .int 0, .ref 15, .ref 16, .int 0]),
  (25, [.ref 17, .ref 18, .ref 19, .ref 20, .ref 21, .ref 22, .ref 23, .ref 24, .ref 25, .ref 26, .ref 27, .ref 28, .ref 29, .ref 30, .ref 31, .ref 32, .ref 33, .ref 34, .ref 35, .ref 36]),
  (10, [.ref 5, .ref 6, .int 0, .ref 7, .ref 8, .ref 9, .ref 10, .int 0]),
  (20, List.replicate 4 (.int 0)),
  (21, List.replicate 4 (.int 0)),
  (20, List.replicate 60 (.int 0)),
  (20, List.replicate 60 (.int 0)),
  (20, List.replicate 60 (.int 0)),
  (20, List.replicate 60 (.int 0)),
  (0, [.ref 12, .ref 13, .int 0, .int 0]),
  (22, List.replicate 400 (.int 0)),
  (20, List.replicate 400 (.int 0)),
  (26, [.ref 37, .ref 40, .ref 43, .ref 46, .ref 49, .ref 52, .ref 55, .ref 58, .ref 61, .ref 64, .ref 67, .ref 70, .ref 73, .ref 76, .ref 79, .ref 82, .ref 85, .ref 88, .ref 91, .ref 94, .ref 97, .ref 100, .ref 103, .ref 106, .ref 109, .ref 112, .ref 115, .ref 118, .ref 121, .ref 124, .ref 127, .ref 130, .ref 133, .ref 136, .ref 139, .ref 142, .ref 145, .ref 148, .ref 151, .ref 154, .ref 157, .ref 160, .ref 163, .ref 166, .ref 169, .ref 172, .ref 175, .ref 178, .ref 181, .ref 184, .ref 187, .ref 190, .ref 193, .ref 196, .ref 199, .ref 202, .ref 205, .ref 208, .ref 211, .ref 214]),
  (21, List.replicate 10 (.int 0)),
  (20, List.replicate 60 (.int 0)),
  (2, [.int 45, .int 0, .int 0, .int (-1), .int 0, .int 3, .int 0, .int 45, .int 0]),
  (2, [.int 45, .int 0, .int 0, .int (-1), .int 0, .int 3, .int 0, .int 45, .int 0]),
  (2, [.int 45, .int 0, .int 0, .int (-1), .int 0, .int 3, .int 0, .int 45, .int 0]),
  (2, [.int 45, .int 0, .int 0, .int (-1), .int 0, .int 3, .int 0, .int 45, .int 0]),
  (2, [.int 45, .int 0, .int 0, .int (-1), .int 0, .int 3, .int 0, .int 45, .int 0]),
  (2, [.int 45, .int 0, .int 0, .int (-1), .int 0, .int 3, .int 0, .int 45, .int 0]),
  (2, [.int 45, .int 0, .int 0, .int (-1), .int 0, .int 3, .int 0, .int 45, .int 0]),
  (2, [.int 45, .int 0, .int 0, .int (-1), .int 0, .int 3, .int 0, .int 45, .int 0]),
  (2, [.int 45, .int 0, .int 0, .int (-1), .int 0, .int 3, .int 0, .int 45, .int 0]),
  (2, [.int 45, .int 0, .int 0, .int (-1), .int 0, .int 3, .int 0, .int 45, .int 0]),
  (2, [.int 45, .int 0, .int 0, .int (-1), .int 0, .int 3, .int 0, .int 45, .int 0]),
  (2, [.int 45, .int 0, .int 0, .int (-1), .int 0, .int 3, .int 0, .int 45, .int 0]),
  (2, [.int 45, .int 0, .int 0, .int (-1), .int 0, .int 3, .int 0, .int 45, .int 0]),
  (2, [.int 45, .int 0, .int 0, .int (-1), .int 0, .int 3, .int 0, .int 45, .int 0]),
  (2, [.int 45, .int 0, .int 0, .int (-1), .int 0, .int 3, .int 0, .int 45, .int 0]),
  (2, [.int 45, .int 0, .int 0, .int (-1), .int 0, .int 3, .int 0, .int 45, .int 0]),
  (2, [.int 45, .int 0, .int 0, .int (-1), .int 0, .int 3, .int 0, .int 45, .int 0]),
  (2, [.int 45, .int 0, .int 0, .int (-1), .int 0, .int 3, .int 0, .int 45, .int 0]),
  (2, [.int 45, .int 0, .int 0, .int (-1), .int 0, .int 3, .int 0, .int 45, .int 0]),
  (2, [.int 45, .int 0, .int 0, .int (-1), .int 0, .int 3, .int 0, .int 45, .int 0]),
  (9, [.int 0, .int 0, .int 0, .int 0, .int 45, .int 0, .ref 38, .int 0, .ref 39]),
  (20, List.replicate 16 (.int 0)),
  (21, List.replicate 16 (.int 0)),
  (9, [.int 0, .int 0, .int 0, .int 0, .int 45, .int 0, .ref 41, .int 0, .ref 42]),
  (20, List.replicate 16 (.int 0)),
  (21, List.replicate 16 (.int 0)),
  (9, [.int 0, .int 0, .int 0, .int 0, .int 45, .int 0, .ref 44, .int 0, .ref 45]),
  (20, List.replicate 16 (.int 0)),
  (21, List.replicate 16 (.int 0)),
  (9, [.int 0, .int 0, .int 0, .int 0, .int 45, .int 0, .ref 47, .int 0, .ref 48]),
  (20, List.replicate 16 (.int 0)),
  (21, List.replicate 16 (.int 0)),
  (9, [.int 0, .int 0, .int 0, .int 0, .int 45, .int 0, .ref 50, .int 0, .ref 51]),
  (20, List.replicate 16 (.int 0)),
  (21, List.replicate 16 (.int 0)),
  (9, [.int 0, .int 0, .int 0, .int 0, .int 45, .int 0, .ref 53, .int 0, .ref 54]),
  (20, List.replicate 16 (.int 0)),
  (21, List.replicate 16 (.int 0)),
  (9, [.int 0, .int 0, .int 0, .int 0, .int 45, .int 0, .ref 56, .int 0, .ref 57]),
  (20, List.replicate 16 (.int 0)),
  (21, List.replicate 16 (.int 0)),
  (9, [.int 0, .int 0, .int 0, .int 0, .int 45, .int 0, .ref 59, .int 0, .ref 60]),
  (20, List.replicate 16 (.int 0)),
  (21, List.replicate 16 (.int 0)),
  (9, [.int 0, .int 0, .int 0, .int 0, .int 45, .int 0, .ref 62, .int 0, .ref 63]),
  (20, List.replicate 16 (.int 0)),
  (21, List.replicate 16 (.int 0)),
  (9, [.int 0, .int 0, .int 0, .int 0, .int 45, .int 0, .ref 65, .int 0, .ref 66]),
  (20, List.replicate 16 (.int 0)),
  (21, List.replicate 16 (.int 0)),
  (9, [.int 0, .int 0, .int 0, .int 0, .int 45, .int 0, .ref 68, .int 0, .ref 69]),
  (20, List.replicate 16 (.int 0)),
  (21, List.replicate 16 (.int 0)),
  (9, [.int 0, .int 0, .int 0, .int 0, .int 45, .int 0, .ref 71, .int 0, .ref 72]),
  (20, List.replicate 16 (.int 0)),
  (21, List.replicate 16 (.int 0)),
  (9, [.int 0, .int 0, .int 0, .int 0, .int 45, .int 0, .ref 74, .int 0, .ref 75]),
  (20, List.replicate 16 (.int 0)),
  (21, List.replicate 16 (.int 0)),
  (9, [.int 0, .int 0, .int 0, .int 0, .int 45, .int 0, .ref 77, .int 0, .ref 78]),
  (20, List.replicate 16 (.int 0)),
  (21, List.replicate 16 (.int 0)),
  (9, [.int 0, .int 0, .int 0, .int 0, .int 45, .int 0, .ref 80, .int 0, .ref 81]),
  (20, List.replicate 16 (.int 0)),
  (21, List.replicate 16 (.int 0)),
  (9, [.int 0, .int 0, .int 0, .int 0, .int 45, .int 0, .ref 83, .int 0, .ref 84]),
  (20, List.replicate 16 (.int 0)),
  (21, List.replicate 16 (.int 0)),
  (9, [.int 0, .int 0, .int 0, .int 0, .int 45, .int 0, .ref 86, .int 0, .ref 87]),
  (20, List.replicate 16 (.int 0)),
  (21, List.replicate 16 (.int 0)),
  (9, [.int 0, .int 0, .int 0, .int 0, .int 45, .int 0, .ref 89, .int 0, .ref 90]),
  (20, List.replicate 16 (.int 0)),
  (21, List.replicate 16 (.int 0)),
  (9, [.int 0, .int 0, .int 0, .int 0, .int 45, .int 0, .ref 92, .int 0, .ref 93]),
  (20, List.replicate 16 (.int 0)),
  (21, List.replicate 16 (.int 0)),
  (9, [.int 0, .int 0, .int 0, .int 0, .int 45, .int 0, .ref 95, .int 0, .ref 96]),
  (20, List.replicate 16 (.int 0)),
  (21, List.replicate 16 (.int 0)),
  (9, [.int 0, .int 0, .int 0, .int 0, .int 45, .int 0, .ref 98, .int 0, .ref 99]),
  (20, List.replicate 16 (.int 0)),
  (21, List.replicate 16 (.int 0)),
  (9, [.int 0, .int 0, .int 0, .int 0, .int 45, .int 0, .ref 101, .int 0, .ref 102])]
def x_iX6_1 : AH := [
  (20, List.replicate 16 (.int 0)),
  (21, List.replicate 16 (.int 0)),
  (9, [.int 0, .int 0, .int 0, .int 0, .int 45, .int 0, .ref 104, .int 0, .ref 105]),
  (20, List.replicate 16 (.int 0)),
  (21, List.replicate 16 (.int 0)),
  (9, [.int 0, .int 0, .int 0, .int 0, .int 45, .int 0, .ref 107, .int 0, .ref 108]),
  (20, List.replicate 16 (.int 0)),
  (21, List.replicate 16 (.int 0)),
  (9, [.int 0, .int 0, .int 0, .int 0, .int 45, .int 0, .ref 110, .int 0, .ref 111]),
  (20, List.replicate 16 (.int 0)),
  (21, List.replicate 16 (.int 0)),
  (9, [.int 0, .int 0, .int 0, .int 0, .int 45, .int 0, .ref 113, .int 0, .ref 114]),
  (20, List.replicate 16 (.int 0)),
  (21, List.replicate 16 (.int 0)),
  (9, [.int 0, .int 0, .int 0, .int 0, .int 45, .int 0, .ref 116, .int 0, .ref 117]),
  (20, List.replicate 16 (.int 0)),
  (21, List.replicate 16 (.int 0)),
  (9, [.int 0, .int 0, .int 0, .int 0, .int 45, .int 0, .ref 119, .int 0, .ref 120]),
  (20, List.replicate 16 (.int 0)),
  (21, List.replicate 16 (.int 0)),
  (9, [.int 0, .int 0, .int 0, .int 0, .int 45, .int 0, .ref 122, .int 0, .ref 123]),
  (20, List.replicate 16 (.int 0)),
  (21, List.replicate 16 (.int 0)),
  (9, [.int 0, .int 0, .int 0, .int 0, .int 45, .int 0, .ref 125, .int 0, .ref 126]),
  (20, List.replicate 16 (.int 0)),
  (21, List.replicate 16 (.int 0)),
  (9, [.int 0, .int 0, .int 0, .int 0, .int 45, .int 0, .ref 128, .int 0, .ref 129]),
  (20, List.replicate 16 (.int 0)),
  (21, List.replicate 16 (.int 0)),
  (9, [.int 0, .int 0, .int 0, .int 0, .int 45, .int 0, .ref 131, .int 0, .ref 132]),
  (20, List.replicate 16 (.int 0)),
  (21, List.replicate 16 (.int 0)),
  (9, [.int 0, .int 0, .int 0, .int 0, .int 45, .int 0, .ref 134, .int 0, .ref 135]),
  (20, List.replicate 16 (.int 0)),
  (21, List.replicate 16 (.int 0)),
  (9, [.int 0, .int 0, .int 0, .int 0, .int 45, .int 0, .ref 137, .int 0, .ref 138]),
  (20, List.replicate 16 (.int 0)),
  (21, List.replicate 16 (.int 0)),
  (9, [.int 0, .int 0, .int 0, .int 0, .int 45, .int 0, .ref 140, .int 0, .ref 141]),
  (20, List.replicate 16 (.int 0)),
  (21, List.replicate 16 (.int 0)),
  (9, [.int 0, .int 0, .int 0, .int 0, .int 45, .int 0, .ref 143, .int 0, .ref 144]),
  (20, List.replicate 16 (.int 0)),
  (21, List.replicate 16 (.int 0)),
  (9, [.int 0, .int 0, .int 0, .int 0, .int 45, .int 0, .ref 146, .int 0, .ref 147]),
  (20, List.replicate 16 (.int 0)),
  (21, List.replicate 16 (.int 0)),
  (9, [.int 0, .int 0, .int 0, .int 0, .int 45, .int 0, .ref 149, .int 0, .ref 150]),
  (20, List.replicate 16 (.int 0)),
  (21, List.replicate 16 (.int 0)),
  (9, [.int 0, .int 0, .int 0, .int 0, .int 45, .int 0, .ref 152, .int 0, .ref 153]),
  (20, List.replicate 16 (.int 0)),
  (21, List.replicate 16 (.int 0)),
  (9, [.int 0, .int 0, .int 0, .int 0, .int 45, .int 0, .ref 155, .int 0, .ref 156]),
  (20, List.replicate 16 (.int 0)),
  (21, List.replicate 16 (.int 0)),
  (9, [.int 0, .int 0, .int 0, .int 0, .int 45, .int 0, .ref 158, .int 0, .ref 159]),
  (20, List.replicate 16 (.int 0)),
  (21, List.replicate 16 (.int 0)),
  (9, [.int 0, .int 0, .int 0, .int 0, .int 45, .int 0, .ref 161, .int 0, .ref 162]),
  (20, List.replicate 16 (.int 0)),
  (21, List.replicate 16 (.int 0)),
  (9, [.int 0, .int 0, .int 0, .int 0, .int 45, .int 0, .ref 164, .int 0, .ref 165]),
  (20, List.replicate 16 (.int 0)),
  (21, List.replicate 16 (.int 0)),
  (9, [.int 0, .int 0, .int 0, .int 0, .int 45, .int 0, .ref 167, .int 0, .ref 168]),
  (20, List.replicate 16 (.int 0)),
  (21, List.replicate 16 (.int 0)),
  (9, [.int 0, .int 0, .int 0, .int 0, .int 45, .int 0, .ref 170, .int 0, .ref 171]),
  (20, List.replicate 16 (.int 0)),
  (21, List.replicate 16 (.int 0)),
  (9, [.int 0, .int 0, .int 0, .int 0, .int 45, .int 0, .ref 173, .int 0, .ref 174]),
  (20, List.replicate 16 (.int 0)),
  (21, List.replicate 16 (.int 0)),
  (9, [.int 0, .int 0, .int 0, .int 0, .int 45, .int 0, .ref 176, .int 0, .ref 177]),
  (20, List.replicate 16 (.int 0)),
  (21, List.replicate 16 (.int 0)),
  (9, [.int 0, .int 0, .int 0, .int 0, .int 45, .int 0, .ref 179, .int 0, .ref 180]),
  (20, List.replicate 16 (.int 0)),
  (21, List.replicate 16 (.int 0)),
  (9, [.int 0, .int 0, .int 0, .int 0, .int 45, .int 0, .ref 182, .int 0, .ref 183]),
  (20, List.replicate 16 (.int 0)),
  (21, List.replicate 16 (.int 0)),
  (9, [.int 0, .int 0, .int 0, .int 0, .int 45, .int 0, .ref 185, .int 0, .ref 186]),
  (20, List.replicate 16 (.int 0)),
  (21, List.replicate 16 (.int 0)),
  (9, [.int 0, .int 0, .int 0, .int 0, .int 45, .int 0, .ref 188, .int 0, .ref 189]),
  (20, List.replicate 16 (.int 0)),
  (21, List.replicate 16 (.int 0)),
  (9, [.int 0, .int 0, .int 0, .int 0, .int 45, .int 0, .ref 191, .int 0, .ref 192]),
  (20, List.replicate 16 (.int 0)),
  (21, List.replicate 16 (.int 0)),
  (9, [.int 0, .int 0, .int 0, .int 0, .int 45, .int 0, .ref 194, .int 0, .ref 195]),
  (20, List.replicate 16 (.int 0)),
  (21, List.replicate 16 (.int 0)),
  (9, [.int 0, .int 0, .int 0, .int 0, .int 45, .int 0, .ref 197, .int 0, .ref 198]),
  (20, List.replicate 16 (.int 0)),
  (21, List.replicate 16 (.int 0)),
  (9, [.int 0, .int 0, .int 0, .int 0, .int 45, .int 0, .ref 200, .int 0, .ref 201]),
  (20, List.replicate 16 (.int 0))]
def x_iX6_2 : AH := [
  (21, List.replicate 16 (.int 0)),
  (9, [.int 0, .int 0, .int 0, .int 0, .int 45, .int 0, .ref 203, .int 0, .ref 204]),
  (20, List.replicate 16 (.int 0)),
  (21, List.replicate 16 (.int 0)),
  (9, [.int 0, .int 0, .int 0, .int 0, .int 45, .int 0, .ref 206, .int 0, .ref 207]),
  (20, List.replicate 16 (.int 0)),
  (21, List.replicate 16 (.int 0)),
  (9, [.int 0, .int 0, .int 0, .int 0, .int 45, .int 0, .ref 209, .int 0, .ref 210]),
  (20, List.replicate 16 (.int 0)),
  (21, List.replicate 16 (.int 0)),
  (9, [.int 0, .int 0, .int 0, .int 0, .int 45, .int 0, .ref 212, .int 0, .ref 213]),
  (20, List.replicate 16 (.int 0)),
  (21, List.replicate 16 (.int 0)),
  (9, [.int 0, .int 0, .int 0, .int 0, .int 45, .int 0, .ref 215, .int 0, .ref 216]),
  (20, List.replicate 16 (.int 0)),
  (21, List.replicate 16 (.int 0)),
  (28, List.replicate 5 (.null)),
  (6, [.null, .null, .null, .null, .null, .int 0])]
def x_iX6 : AH := x_iX6_0 ++ (x_iX6_1 ++ (x_iX6_2))
def x_oX6_0 : AH := [
  (11, [.ref 2, .ref 3, .ref 4, .ref 11, .int 0, .ref 217, .int 0, .null, .null, .null, .null, .null, .int 0, .null, .null]),
  (3, [.ref 3, .ref 4, .ref 11, .ref 14, .int 0, .int 0, .ref 15, .ref 16, .int 0]),
  (25, [.ref 17, .ref 18, .ref 19, .ref 20, .ref 21, .ref 22, .ref 23, .ref 24, .ref 25, .ref 26, .ref 27, .ref 28, .ref 29, .ref 30, .ref 31, .ref 32, .ref 33, .ref 34, .ref 35, .ref 36]),
  (10, [.ref 5, .ref 6, .int 0, .ref 7, .ref 8, .ref 9, .ref 10, .int 0]),
  (20, List.replicate 4 (.int 0)),
  (21, List.replicate 4 (.int 0)),
  (20, List.replicate 60 (.int 0)),
  (20, List.replicate 60 (.int 0)),
  (20, List.replicate 60 (.int 0)),
  (20, List.replicate 60 (.int 0)),
  (0, [.ref 12, .ref 13, .int 0, .int 0]),
  (22, List.replicate 400 (.int 0)),
  (20, List.replicate 400 (.int 0)),
  (26, [.ref 37, .ref 40, .ref 43, .ref 46, .ref 49, .ref 52, .ref 55, .ref 58, .ref 61, .ref 64, .ref 67, .ref 70, .ref 73, .ref 76, .ref 79, .ref 82, .ref 85, .ref 88, .ref 91, .ref 94, .ref 97, .ref 100, .ref 103, .ref 106, .ref 109, .ref 112, .ref 115, .ref 118, .ref 121, .ref 124, .ref 127, .ref 130, .ref 133, .ref 136, .ref 139, .ref 142, .ref 145, .ref 148, .ref 151, .ref 154, .ref 157, .ref 160, .ref 163, .ref 166, .ref 169, .ref 172, .ref 175, .ref 178, .ref 181, .ref 184, .ref 187, .ref 190, .ref 193, .ref 196, .ref 199, .ref 202, .ref 205, .ref 208, .ref 211, .ref 214]),
  (21, List.replicate 10 (.int 0)),
  (20, List.replicate 60 (.int 0)),
  (2, [.int 45, .int 0, .int 0, .int (-1), .int 0, .int 3, .int 0, .int 45, .int 0]),
  (2, [.int 45, .int 0, .int 0, .int (-1), .int 0, .int 3, .int 0, .int 45, .int 0]),
  (2, [.int 45, .int 0, .int 0, .int (-1), .int 0, .int 3, .int 0, .int 45, .int 0]),
  (2, [.int 45, .int 0, .int 0, .int (-1), .int 0, .int 3, .int 0, .int 45, .int 0]),
  (2, [.int 45, .int 0, .int 0, .int (-1), .int 0, .int 3, .int 0, .int 45, .int 0]),
  (2, [.int 45, .int 0, .int 0, .int (-1), .int 0, .int 3, .int 0, .int 45, .int 0]),
  (2, [.int 45, .int 0, .int 0, .int (-1), .int 0, .int 3, .int 0, .int 45, .int 0]),
  (2, [.int 45, .int 0, .int 0, .int (-1), .int 0, .int 3, .int 0, .int 45, .int 0]),
  (2, [.int 45, .int 0, .int 0, .int (-1), .int 0, .int 3, .int 0, .int 45, .int 0]),
  (2, [.int 45, .int 0, .int 0, .int (-1), .int 0, .int 3, .int 0, .int 45, .int 0]),
  (2, [.int 45, .int 0, .int 0, .int (-1), .int 0, .int 3, .int 0, .int 45, .int 0]),
  (2, [.int 45, .int 0, .int 0, .int (-1), .int 0, .int 3, .int 0, .int 45, .int 0]),
  (2, [.int 45, .int 0, .int 0, .int (-1), .int 0, .int 3, .int 0, .int 45, .int 0]),
  (2, [.int 45, .int 0, .int 0, .int (-1), .int 0, .int 3, .int 0, .int 45, .int 0]),
  (2, [.int 45, .int 0, .int 0, .int (-1), .int 0, .int 3, .int 0, .int 45, .int 0]),
  (2, [.int 45, .int 0, .int 0, .int (-1), .int 0, .int 3, .int 0, .int 45, .int 0]),
  (2, [.int 45, .int 0, .int 0, .int (-1), .int 0, .int 3, .int 0, .int 45, .int 0]),
  (2, [.int 45, .int 0, .int 0, .int (-1), .int 0, .int 3, .int 0, .int 45, .int 0]),
  (2, [.int 45, .int 0, .int 0, .int (-1), .int 0, .int 3, .int 0, .int 45, .int 0]),
  (2, [.int 45, .int 0, .int 0, .int (-1), .int 0, .int 3, .int 0, .int 45, .int 0]),
  (9, [.int 0, .int 0, .int 0, .int 0, .int 45, .int 0, .ref 38, .int 0, .ref 39]),
  (20, List.replicate 16 (.int 0)),
  (21, List.replicate 16 (.int 0)),
  (9, [.int 0, .int 0, .int 0, .int 0, .int 45, .int 0, .ref 41, .int 0, .ref 42]),
  (20, List.replicate 16 (.int 0)),
  (21, List.replicate 16 (.int 0)),
  (9, [.int 0, .int 0, .int 0, .int 0, .int 45, .int 0, .ref 44, .int 0, .ref 45]),
  (20, List.replicate 16 (.int 0)),
  (21, List.replicate 16 (.int 0)),
  (9, [.int 0, .int 0, .int 0, .int 0, .int 45, .int 0, .ref 47, .int 0, .ref 48]),
  (20, List.replicate 16 (.int 0)),
  (21, List.replicate 16 (.int 0)),
  (9, [.int 0, .int 0, .int 0, .int 0, .int 45, .int 0, .ref 50, .int 0, .ref 51]),
  (20, List.replicate 16 (.int 0)),
  (21, List.replicate 16 (.int 0)),
  (9, [.int 0, .int 0, .int 0, .int 0, .int 45, .int 0, .ref 53, .int 0, .ref 54]),
  (20, List.replicate 16 (.int 0)),
  (21, List.replicate 16 (.int 0)),
  (9, [.int 0, .int 0, .int 0, .int 0, .int 45, .int 0, .ref 56, .int 0, .ref 57]),
  (20, List.replicate 16 (.int 0)),
  (21, List.replicate 16 (.int 0)),
  (9, [.int 0, .int 0, .int 0, .int 0, .int 45, .int 0, .ref 59, .int 0, .ref 60]),
  (20, List.replicate 16 (.int 0)),
  (21, List.replicate 16 (.int 0)),
  (9, [.int 0, .int 0, .int 0, .int 0, .int 45, .int 0, .ref 62, .int 0, .ref 63]),
  (20, List.replicate 16 (.int 0)),
  (21, List.replicate 16 (.int 0)),
  (9, [.int 0, .int 0, .int 0, .int 0, .int 45, .int 0, .ref 65, .int 0, .ref 66]),
  (20, List.replicate 16 (.int 0)),
  (21, List.replicate 16 (.int 0)),
  (9, [.int 0, .int 0, .int 0, .int 0, .int 45, .int 0, .ref 68, .int 0, .ref 69]),
  (20, List.replicate 16 (.int 0)),
  (21, List.replicate 16 (.int 0)),
  (9, [.int 0, .int 0, .int 0, .int 0, .int 45, .int 0, .ref 71, .int 0, .ref 72]),
  (20, List.replicate 16 (.int 0)),
  (21, List.replicate 16 (.int 0)),
  (9, [.int 0, .int 0, .int 0, .int 0, .int 45, .int 0, .ref 74, .int 0, .ref 75]),
  (20, List.replicate 16 (.int 0)),
  (21, List.replicate 16 (.int 0)),
  (9, [.int 0, .int 0, .int 0, .int 0, .int 45, .int 0, .ref 77, .int 0, .ref 78]),
  (20, List.replicate 16 (.int 0)),
  (21, List.replicate 16 (.int 0)),
  (9, [.int 0, .int 0, .int 0, .int 0, .int 45, .int 0, .ref 80, .int 0, .ref 81]),
  (20, List.replicate 16 (.int 0)),
  (21, List.replicate 16 (.int 0)),
  (9, [.int 0, .int 0, .int 0, .int 0, .int 45, .int 0, .ref 83, .int 0, .ref 84]),
  (20, List.replicate 16 (.int 0)),
  (21, List.replicate 16 (.int 0)),
  (9, [.int 0, .int 0, .int 0, .int 0, .int 45, .int 0, .ref 86, .int 0, .ref 87]),
  (20, List.replicate 16 (.int 0)),
  (21, List.replicate 16 (.int 0)),
  (9, [.int 0, .int 0, .int 0, .int 0, .int 45, .int 0, .ref 89, .int 0, .ref 90]),
  (20, List.replicate 16 (.int 0)),
  (21, List.replicate 16 (.int 0)),
  (9, [.int 0, .int 0, .int 0, .int 0, .int 45, .int 0, .ref 92, .int 0, .ref 93]),
  (20, List.replicate 16 (.int 0)),
  (21, List.replicate 16 (.int 0)),
  (9, [.int 0, .int 0, .int 0, .int 0, .int 45, .int 0, .ref 95, .int 0, .ref 96]),
  (20, List.replicate 16 (.int 0)),
  (21, List.replicate 16 (.int 0)),
  (9, [.int 0, .int 0, .int 0, .int 0, .int 45, .int 0, .ref 98, .int 0, .ref 99]),
  (20, List.replicate 16 (.int 0)),
  (21, List.replicate 16 (.int 0)),
  (9, [.int 0, .int 0, .int 0, .int 0, .int 45, .int 0, .ref 101, .int 0, .ref 102])]
def x_oX6_1 : AH := [
  (20, List.replicate 16 (.int 0)),
  (21, List.replicate 16 (.int 0)),
  (9, [.int 0, .int 0, .int 0, .int 0, .int 45, .int 0, .ref 104, .int 0, .ref 105]),
  (20, List.replicate 16 (.int 0)),
  (21, List.replicate 16 (.int 0)),
  (9, [.int 0, .int 0, .int 0, .int 0, .int 45, .int 0, .ref 107, .int 0, .ref 108]),
  (20, List.replicate 16 (.int 0)),
  (21, List.replicate 16 (.int 0)),
  (9, [.int 0, .int 0, .int 0, .int 0, .int 45, .int 0, .ref 110, .int 0, .ref 111]),
  (20, List.replicate 16 (.int 0)),
  (21, List.replicate 16 (.int 0)),
  (9, [.int 0, .int 0, .int 0, .int 0, .int 45, .int 0, .ref 113, .int 0, .ref 114]),
  (20, List.replicate 16 (.int 0)),
  (21, List.replicate 16 (.int 0)),
  (9, [.int 0, .int 0, .int 0, .int 0, .int 45, .int 0, .ref 116, .int 0, .ref 117]),
  (20, List.replicate 16 (.int 0)),
  (21, List.replicate 16 (.int 0)),
  (9, [.int 0, .int 0, .int 0, .int 0, .int 45, .int 0, .ref 119, .int 0, .ref 120]),
  (20, List.replicate 16 (.int 0)),
  (21, List.replicate 16 (.int 0)),
  (9, [.int 0, .int 0, .int 0, .int 0, .int 45, .int 0, .ref 122, .int 0, .ref 123]),
  (20, List.replicate 16 (.int 0)),
  (21, List.replicate 16 (.int 0)),
  (9, [.int 0, .int 0, .int 0, .int 0, .int 45, .int 0, .ref 125, .int 0, .ref 126]),
  (20, List.replicate 16 (.int 0)),
  (21, List.replicate 16 (.int 0)),
  (9, [.int 0, .int 0, .int 0, .int 0, .int 45, .int 0, .ref 128, .int 0, .ref 129]),
  (20, List.replicate 16 (.int 0)),
  (21, List.replicate 16 (.int 0)),
  (9, [.int 0, .int 0, .int 0, .int 0, .int 45, .int 0, .ref 131, .int 0, .ref 132]),
  (20, List.replicate 16 (.int 0)),
  (21, List.replicate 16 (.int 0)),
  (9, [.int 0, .int 0, .int 0, .int 0, .int 45, .int 0, .ref 134, .int 0, .ref 135]),
  (20, List.replicate 16 (.int 0)),
  (21, List.replicate 16 (.int 0)),
  (9, [.int 0, .int 0, .int 0, .int 0, .int 45, .int 0, .ref 137, .int 0, .ref 138]),
  (20, List.replicate 16 (.int 0)),
  (21, List.replicate 16 (.int 0)),
  (9, [.int 0, .int 0, .int 0, .int 0, .int 45, .int 0, .ref 140, .int 0, .ref 141]),
  (20, List.replicate 16 (.int 0)),
  (21, List.replicate 16 (.int 0)),
  (9, [.int 0, .int 0, .int 0, .int 0, .int 45, .int 0, .ref 143, .int 0, .ref 144]),
  (20, List.replicate 16 (.int 0)),
  (21, List.replicate 16 (.int 0)),
  (9, [.int 0, .int 0, .int 0, .int 0, .int 45, .int 0, .ref 146, .int 0, .ref 147]),
  (20, List.replicate 16 (.int 0)),
  (21, List.replicate 16 (.int 0)),
  (9, [.int 0, .int 0, .int 0, .int 0, .int 45, .int 0, .ref 149, .int 0, .ref 150]),
  (20, List.replicate 16 (.int 0)),
  (21, List.replicate 16 (.int 0)),
  (9, [.int 0, .int 0, .int 0, .int 0, .int 45, .int 0, .ref 152, .int 0, .ref 153]),
  (20, List.replicate 16 (.int 0)),
  (21, List.replicate 16 (.int 0)),
  (9, [.int 0, .int 0, .int 0, .int 0, .int 45, .int 0, .ref 155, .int 0, .ref 156]),
  (20, List.replicate 16 (.int 0)),
  (21, List.replicate 16 (.int 0)),
  (9, [.int 0, .int 0, .int 0, .int 0, .int 45, .int 0, .ref 158, .int 0, .ref 159]),
  (20, List.replicate 16 (.int 0)),
  (21, List.replicate 16 (.int 0)),
  (9, [.int 0, .int 0, .int 0, .int 0, .int 45, .int 0, .ref 161, .int 0, .ref 162]),
  (20, List.replicate 16 (.int 0)),
  (21, List.replicate 16 (.int 0)),
  (9, [.int 0, .int 0, .int 0, .int 0, .int 45, .int 0, .ref 164, .int 0, .ref 165]),
  (20, List.replicate 16 (.int 0)),
  (21, List.replicate 16 (.int 0)),
  (9, [.int 0, .int 0, .int 0, .int 0, .int 45, .int 0, .ref 167, .int 0, .ref 168]),
  (20, List.replicate 16 (.int 0)),
  (21, List.replicate 16 (.int 0)),
  (9, [.int 0, .int 0, .int 0, .int 0, .int 45, .int 0, .ref 170, .int 0, .ref 171]),
  (20, List.replicate 16 (.int 0)),
  (21, List.replicate 16 (.int 0)),
  (9, [.int 0, .int 0, .int 0, .int 0, .int 45, .int 0, .ref 173, .int 0, .ref 174]),
  (20, List.replicate 16 (.int 0)),
  (21, List.replicate 16 (.int 0)),
  (9, [.int 0, .int 0, .int 0, .int 0, .int 45, .int 0, .ref 176, .int 0, .ref 177]),
  (20, List.replicate 16 (.int 0)),
  (21, List.replicate 16 (.int 0)),
  (9, [.int 0, .int 0, .int 0, .int 0, .int 45, .int 0, .ref 179, .int 0, .ref 180]),
  (20, List.replicate 16 (.int 0)),
  (21, List.replicate 16 (.int 0)),
  (9, [.int 0, .int 0, .int 0, .int 0, .int 45, .int 0, .ref 182, .int 0, .ref 183]),
  (20, List.replicate 16 (.int 0)),
  (21, List.replicate 16 (.int 0)),
  (9, [.int 0, .int 0, .int 0, .int 0, .int 45, .int 0, .ref 185, .int 0, .ref 186]),
  (20, List.replicate 16 (.int 0)),
  (21, List.replicate 16 (.int 0)),
  (9, [.int 0, .int 0, .int 0, .int 0, .int 45, .int 0, .ref 188, .int 0, .ref 189]),
  (20, List.replicate 16 (.int 0)),
  (21, List.replicate 16 (.int 0)),
  (9, [.int 0, .int 0, .int 0, .int 0, .int 45, .int 0, .ref 191, .int 0, .ref 192]),
  (20, List.replicate 16 (.int 0)),
  (21, List.replicate 16 (.int 0)),
  (9, [.int 0, .int 0, .int 0, .int 0, .int 45, .int 0, .ref 194, .int 0, .ref 195]),
  (20, List.replicate 16 (.int 0)),
  (21, List.replicate 16 (.int 0)),
  (9, [.int 0, .int 0, .int 0, .int 0, .int 45, .int 0, .ref 197, .int 0, .ref 198]),
  (20, List.replicate 16 (.int 0)),
  (21, List.replicate 16 (.int 0)),
  (9, [.int 0, .int 0, .int 0, .int 0, .int 45, .int 0, .ref 200, .int 0, .ref 201]),
  (20, List.replicate 16 (.int 0))]
def x_oX6_2 : AH := [
  (21, List.replicate 16 (.int 0)),
  (9, [.int 0, .int 0, .int 0, .int 0, .int 45, .int 0, .ref 203, .int 0, .ref 204]),
  (20, List.replicate 16 (.int 0)),
  (21, List.replicate 16 (.int 0)),
  (9, [.int 0, .int 0, .int 0, .int 0, .int 45, .int 0, .ref 206, .int 0, .ref 207]),
  (20, List.replicate 16 (.int 0)),
  (21, List.replicate 16 (.int 0)),
  (9, [.int 0, .int 0, .int 0, .int 0, .int 45, .int 0, .ref 209, .int 0, .ref 210]),
  (20, List.replicate 16 (.int 0)),
  (21, List.replicate 16 (.int 0)),
  (9, [.int 0, .int 0, .int 0, .int 0, .int 45, .int 0, .ref 212, .int 0, .ref 213]),
  (20, List.replicate 16 (.int 0)),
  (21, List.replicate 16 (.int 0)),
  (9, [.int 0, .int 0, .int 0, .int 0, .int 45, .int 0, .ref 215, .int 0, .ref 216]),
  (20, List.replicate 16 (.int 0)),
  (21, List.replicate 16 (.int 0)),
  (28, List.replicate 5 (.null)),
  (6, [.ref 219, .ref 220, .ref 221, .ref 222, .ref 223, .int 0]),
  (20, List.replicate 8 (.int 0)),
  (20, List.replicate 8 (.int 0)),
  (20, List.replicate 8 (.int 0)),
  (20, List.replicate 8 (.int 0)),
  (29, [.ref 224, .ref 225, .ref 226, .ref 227, .ref 228, .ref 229, .ref 230, .ref 231, .ref 232, .ref 233, .ref 234, .ref 235, .ref 236, .ref 237, .ref 238, .ref 239, .ref 240, .ref 241, .ref 242, .ref 243]),
  (20, List.replicate 8 (.int (-2))),
  (20, List.replicate 8 (.int (-2))),
  (20, List.replicate 8 (.int (-2))),
  (20, List.replicate 8 (.int (-2))),
  (20, List.replicate 8 (.int (-2))),
  (20, List.replicate 8 (.int (-2))),
  (20, List.replicate 8 (.int (-2))),
  (20, List.replicate 8 (.int (-2))),
  (20, List.replicate 8 (.int (-2))),
  (20, List.replicate 8 (.int (-2))),
  (20, List.replicate 8 (.int (-2))),
  (20, List.replicate 8 (.int (-2))),
  (20, List.replicate 8 (.int (-2))),
  (20, List.replicate 8 (.int (-2))),
  (20, List.replicate 8 (.int (-2))),
  (20, List.replicate 8 (.int (-2))),
  (20, List.replicate 8 (.int (-2))),
  (20, List.replicate 8 (.int (-2))),
  (20, List.replicate 8 (.int (-2))),
  (20, List.replicate 8 (.int (-2)))]
def x_oX6 : AH := x_oX6_0 ++ (x_oX6_1 ++ (x_oX6_2))
def x_eX6 : XE := (58, 218, x_iX6, x_oX6, 25, 212)
theorem x_piX6 : x_pure x_iX6 = true := by decide +kernel
theorem x_poX6 : x_pure x_oX6 = true := by decide +kernel
theorem x_rX6 : x_is (x_run [] 11 3000 [] 58 [.ref 218] ((99, []) :: x_iX6)) x_oX6 25 212 = true := by decide +kernel
theorem x_qX6 : x_P 12 3000 x_eX6 :=
  x_entry (fun e he => by cases he) x_piX6 x_poX6 x_rX6
end
section
/-! The run of Juryreel.<init>, by program (wip/genev.py) -/
def x_iX11 : AH := [
  (11, [.null, .null, .null, .null, .int 0, .null, .int 0, .null, .null, .null, .null, .null, .int 0, .null, .null])]
def x_oX11_0 : AH := [
  (11, [.ref 2, .ref 3, .ref 4, .ref 11, .int 0, .ref 217, .int 0, .ref 218, .ref 244, .ref 246, .ref 271, .ref 277, .int 0, .ref 278, .ref 279]),
  (3, [.ref 3, .ref 4, .ref 11, .ref 14, .int 0, .int 0, .ref 15, .ref 16, .int 0]),
  (25, [.ref 17, .ref 18, .ref 19, .ref 20, .ref 21, .ref 22, .ref 23, .ref 24, .ref 25, .ref 26, .ref 27, .ref 28, .ref 29, .ref 30, .ref 31, .ref 32, .ref 33, .ref 34, .ref 35, .ref 36]),
  (10, [.ref 5, .ref 6, .int 0, .ref 7, .ref 8, .ref 9, .ref 10, .int 0]),
  (20, List.replicate 4 (.int 0)),
  (21, List.replicate 4 (.int 0)),
  (20, List.replicate 60 (.int 0)),
  (20, List.replicate 60 (.int 0)),
  (20, List.replicate 60 (.int 0)),
  (20, List.replicate 60 (.int 0)),
  (0, [.ref 12, .ref 13, .int 0, .int 0]),
  (22, List.replicate 400 (.int 0)),
  (20, List.replicate 400 (.int 0)),
  (26, [.ref 37, .ref 40, .ref 43, .ref 46, .ref 49, .ref 52, .ref 55, .ref 58, .ref 61, .ref 64, .ref 67, .ref 70, .ref 73, .ref 76, .ref 79, .ref 82, .ref 85, .ref 88, .ref 91, .ref 94, .ref 97, .ref 100, .ref 103, .ref 106, .ref 109, .ref 112, .ref 115, .ref 118, .ref 121, .ref 124, .ref 127, .ref 130, .ref 133, .ref 136, .ref 139, .ref 142, .ref 145, .ref 148, .ref 151, .ref 154, .ref 157, .ref 160, .ref 163, .ref 166, .ref 169, .ref 172, .ref 175, .ref 178, .ref 181, .ref 184, .ref 187, .ref 190, .ref 193, .ref 196, .ref 199, .ref 202, .ref 205, .ref 208, .ref 211, .ref 214]),
  (21, List.replicate 10 (.int 0)),
  (20, List.replicate 60 (.int 0)),
  (2, [.int 45, .int 0, .int 0, .int (-1), .int 0, .int 3, .int 0, .int 45, .int 0]),
  (2, [.int 45, .int 0, .int 0, .int (-1), .int 0, .int 3, .int 0, .int 45, .int 0]),
  (2, [.int 45, .int 0, .int 0, .int (-1), .int 0, .int 3, .int 0, .int 45, .int 0]),
  (2, [.int 45, .int 0, .int 0, .int (-1), .int 0, .int 3, .int 0, .int 45, .int 0]),
  (2, [.int 45, .int 0, .int 0, .int (-1), .int 0, .int 3, .int 0, .int 45, .int 0]),
  (2, [.int 45, .int 0, .int 0, .int (-1), .int 0, .int 3, .int 0, .int 45, .int 0]),
  (2, [.int 45, .int 0, .int 0, .int (-1), .int 0, .int 3, .int 0, .int 45, .int 0]),
  (2, [.int 45, .int 0, .int 0, .int (-1), .int 0, .int 3, .int 0, .int 45, .int 0]),
  (2, [.int 45, .int 0, .int 0, .int (-1), .int 0, .int 3, .int 0, .int 45, .int 0]),
  (2, [.int 45, .int 0, .int 0, .int (-1), .int 0, .int 3, .int 0, .int 45, .int 0]),
  (2, [.int 45, .int 0, .int 0, .int (-1), .int 0, .int 3, .int 0, .int 45, .int 0]),
  (2, [.int 45, .int 0, .int 0, .int (-1), .int 0, .int 3, .int 0, .int 45, .int 0]),
  (2, [.int 45, .int 0, .int 0, .int (-1), .int 0, .int 3, .int 0, .int 45, .int 0]),
  (2, [.int 45, .int 0, .int 0, .int (-1), .int 0, .int 3, .int 0, .int 45, .int 0]),
  (2, [.int 45, .int 0, .int 0, .int (-1), .int 0, .int 3, .int 0, .int 45, .int 0]),
  (2, [.int 45, .int 0, .int 0, .int (-1), .int 0, .int 3, .int 0, .int 45, .int 0]),
  (2, [.int 45, .int 0, .int 0, .int (-1), .int 0, .int 3, .int 0, .int 45, .int 0]),
  (2, [.int 45, .int 0, .int 0, .int (-1), .int 0, .int 3, .int 0, .int 45, .int 0]),
  (2, [.int 45, .int 0, .int 0, .int (-1), .int 0, .int 3, .int 0, .int 45, .int 0]),
  (2, [.int 45, .int 0, .int 0, .int (-1), .int 0, .int 3, .int 0, .int 45, .int 0]),
  (9, [.int 0, .int 0, .int 0, .int 0, .int 45, .int 0, .ref 38, .int 0, .ref 39]),
  (20, List.replicate 16 (.int 0)),
  (21, List.replicate 16 (.int 0)),
  (9, [.int 0, .int 0, .int 0, .int 0, .int 45, .int 0, .ref 41, .int 0, .ref 42]),
  (20, List.replicate 16 (.int 0)),
  (21, List.replicate 16 (.int 0)),
  (9, [.int 0, .int 0, .int 0, .int 0, .int 45, .int 0, .ref 44, .int 0, .ref 45]),
  (20, List.replicate 16 (.int 0)),
  (21, List.replicate 16 (.int 0)),
  (9, [.int 0, .int 0, .int 0, .int 0, .int 45, .int 0, .ref 47, .int 0, .ref 48]),
  (20, List.replicate 16 (.int 0)),
  (21, List.replicate 16 (.int 0)),
  (9, [.int 0, .int 0, .int 0, .int 0, .int 45, .int 0, .ref 50, .int 0, .ref 51]),
  (20, List.replicate 16 (.int 0)),
  (21, List.replicate 16 (.int 0)),
  (9, [.int 0, .int 0, .int 0, .int 0, .int 45, .int 0, .ref 53, .int 0, .ref 54]),
  (20, List.replicate 16 (.int 0)),
  (21, List.replicate 16 (.int 0)),
  (9, [.int 0, .int 0, .int 0, .int 0, .int 45, .int 0, .ref 56, .int 0, .ref 57]),
  (20, List.replicate 16 (.int 0)),
  (21, List.replicate 16 (.int 0)),
  (9, [.int 0, .int 0, .int 0, .int 0, .int 45, .int 0, .ref 59, .int 0, .ref 60]),
  (20, List.replicate 16 (.int 0)),
  (21, List.replicate 16 (.int 0)),
  (9, [.int 0, .int 0, .int 0, .int 0, .int 45, .int 0, .ref 62, .int 0, .ref 63]),
  (20, List.replicate 16 (.int 0)),
  (21, List.replicate 16 (.int 0)),
  (9, [.int 0, .int 0, .int 0, .int 0, .int 45, .int 0, .ref 65, .int 0, .ref 66]),
  (20, List.replicate 16 (.int 0)),
  (21, List.replicate 16 (.int 0)),
  (9, [.int 0, .int 0, .int 0, .int 0, .int 45, .int 0, .ref 68, .int 0, .ref 69]),
  (20, List.replicate 16 (.int 0)),
  (21, List.replicate 16 (.int 0)),
  (9, [.int 0, .int 0, .int 0, .int 0, .int 45, .int 0, .ref 71, .int 0, .ref 72]),
  (20, List.replicate 16 (.int 0)),
  (21, List.replicate 16 (.int 0)),
  (9, [.int 0, .int 0, .int 0, .int 0, .int 45, .int 0, .ref 74, .int 0, .ref 75]),
  (20, List.replicate 16 (.int 0)),
  (21, List.replicate 16 (.int 0)),
  (9, [.int 0, .int 0, .int 0, .int 0, .int 45, .int 0, .ref 77, .int 0, .ref 78]),
  (20, List.replicate 16 (.int 0)),
  (21, List.replicate 16 (.int 0)),
  (9, [.int 0, .int 0, .int 0, .int 0, .int 45, .int 0, .ref 80, .int 0, .ref 81]),
  (20, List.replicate 16 (.int 0)),
  (21, List.replicate 16 (.int 0)),
  (9, [.int 0, .int 0, .int 0, .int 0, .int 45, .int 0, .ref 83, .int 0, .ref 84]),
  (20, List.replicate 16 (.int 0)),
  (21, List.replicate 16 (.int 0)),
  (9, [.int 0, .int 0, .int 0, .int 0, .int 45, .int 0, .ref 86, .int 0, .ref 87]),
  (20, List.replicate 16 (.int 0)),
  (21, List.replicate 16 (.int 0)),
  (9, [.int 0, .int 0, .int 0, .int 0, .int 45, .int 0, .ref 89, .int 0, .ref 90]),
  (20, List.replicate 16 (.int 0)),
  (21, List.replicate 16 (.int 0)),
  (9, [.int 0, .int 0, .int 0, .int 0, .int 45, .int 0, .ref 92, .int 0, .ref 93]),
  (20, List.replicate 16 (.int 0)),
  (21, List.replicate 16 (.int 0)),
  (9, [.int 0, .int 0, .int 0, .int 0, .int 45, .int 0, .ref 95, .int 0, .ref 96]),
  (20, List.replicate 16 (.int 0)),
  (21, List.replicate 16 (.int 0)),
  (9, [.int 0, .int 0, .int 0, .int 0, .int 45, .int 0, .ref 98, .int 0, .ref 99]),
  (20, List.replicate 16 (.int 0)),
  (21, List.replicate 16 (.int 0)),
  (9, [.int 0, .int 0, .int 0, .int 0, .int 45, .int 0, .ref 101, .int 0, .ref 102])]
def x_oX11_1 : AH := [
  (20, List.replicate 16 (.int 0)),
  (21, List.replicate 16 (.int 0)),
  (9, [.int 0, .int 0, .int 0, .int 0, .int 45, .int 0, .ref 104, .int 0, .ref 105]),
  (20, List.replicate 16 (.int 0)),
  (21, List.replicate 16 (.int 0)),
  (9, [.int 0, .int 0, .int 0, .int 0, .int 45, .int 0, .ref 107, .int 0, .ref 108]),
  (20, List.replicate 16 (.int 0)),
  (21, List.replicate 16 (.int 0)),
  (9, [.int 0, .int 0, .int 0, .int 0, .int 45, .int 0, .ref 110, .int 0, .ref 111]),
  (20, List.replicate 16 (.int 0)),
  (21, List.replicate 16 (.int 0)),
  (9, [.int 0, .int 0, .int 0, .int 0, .int 45, .int 0, .ref 113, .int 0, .ref 114]),
  (20, List.replicate 16 (.int 0)),
  (21, List.replicate 16 (.int 0)),
  (9, [.int 0, .int 0, .int 0, .int 0, .int 45, .int 0, .ref 116, .int 0, .ref 117]),
  (20, List.replicate 16 (.int 0)),
  (21, List.replicate 16 (.int 0)),
  (9, [.int 0, .int 0, .int 0, .int 0, .int 45, .int 0, .ref 119, .int 0, .ref 120]),
  (20, List.replicate 16 (.int 0)),
  (21, List.replicate 16 (.int 0)),
  (9, [.int 0, .int 0, .int 0, .int 0, .int 45, .int 0, .ref 122, .int 0, .ref 123]),
  (20, List.replicate 16 (.int 0)),
  (21, List.replicate 16 (.int 0)),
  (9, [.int 0, .int 0, .int 0, .int 0, .int 45, .int 0, .ref 125, .int 0, .ref 126]),
  (20, List.replicate 16 (.int 0)),
  (21, List.replicate 16 (.int 0)),
  (9, [.int 0, .int 0, .int 0, .int 0, .int 45, .int 0, .ref 128, .int 0, .ref 129]),
  (20, List.replicate 16 (.int 0)),
  (21, List.replicate 16 (.int 0)),
  (9, [.int 0, .int 0, .int 0, .int 0, .int 45, .int 0, .ref 131, .int 0, .ref 132]),
  (20, List.replicate 16 (.int 0)),
  (21, List.replicate 16 (.int 0)),
  (9, [.int 0, .int 0, .int 0, .int 0, .int 45, .int 0, .ref 134, .int 0, .ref 135]),
  (20, List.replicate 16 (.int 0)),
  (21, List.replicate 16 (.int 0)),
  (9, [.int 0, .int 0, .int 0, .int 0, .int 45, .int 0, .ref 137, .int 0, .ref 138]),
  (20, List.replicate 16 (.int 0)),
  (21, List.replicate 16 (.int 0)),
  (9, [.int 0, .int 0, .int 0, .int 0, .int 45, .int 0, .ref 140, .int 0, .ref 141]),
  (20, List.replicate 16 (.int 0)),
  (21, List.replicate 16 (.int 0)),
  (9, [.int 0, .int 0, .int 0, .int 0, .int 45, .int 0, .ref 143, .int 0, .ref 144]),
  (20, List.replicate 16 (.int 0)),
  (21, List.replicate 16 (.int 0)),
  (9, [.int 0, .int 0, .int 0, .int 0, .int 45, .int 0, .ref 146, .int 0, .ref 147]),
  (20, List.replicate 16 (.int 0)),
  (21, List.replicate 16 (.int 0)),
  (9, [.int 0, .int 0, .int 0, .int 0, .int 45, .int 0, .ref 149, .int 0, .ref 150]),
  (20, List.replicate 16 (.int 0)),
  (21, List.replicate 16 (.int 0)),
  (9, [.int 0, .int 0, .int 0, .int 0, .int 45, .int 0, .ref 152, .int 0, .ref 153]),
  (20, List.replicate 16 (.int 0)),
  (21, List.replicate 16 (.int 0)),
  (9, [.int 0, .int 0, .int 0, .int 0, .int 45, .int 0, .ref 155, .int 0, .ref 156]),
  (20, List.replicate 16 (.int 0)),
  (21, List.replicate 16 (.int 0)),
  (9, [.int 0, .int 0, .int 0, .int 0, .int 45, .int 0, .ref 158, .int 0, .ref 159]),
  (20, List.replicate 16 (.int 0)),
  (21, List.replicate 16 (.int 0)),
  (9, [.int 0, .int 0, .int 0, .int 0, .int 45, .int 0, .ref 161, .int 0, .ref 162]),
  (20, List.replicate 16 (.int 0)),
  (21, List.replicate 16 (.int 0)),
  (9, [.int 0, .int 0, .int 0, .int 0, .int 45, .int 0, .ref 164, .int 0, .ref 165]),
  (20, List.replicate 16 (.int 0)),
  (21, List.replicate 16 (.int 0)),
  (9, [.int 0, .int 0, .int 0, .int 0, .int 45, .int 0, .ref 167, .int 0, .ref 168]),
  (20, List.replicate 16 (.int 0)),
  (21, List.replicate 16 (.int 0)),
  (9, [.int 0, .int 0, .int 0, .int 0, .int 45, .int 0, .ref 170, .int 0, .ref 171]),
  (20, List.replicate 16 (.int 0)),
  (21, List.replicate 16 (.int 0)),
  (9, [.int 0, .int 0, .int 0, .int 0, .int 45, .int 0, .ref 173, .int 0, .ref 174]),
  (20, List.replicate 16 (.int 0)),
  (21, List.replicate 16 (.int 0)),
  (9, [.int 0, .int 0, .int 0, .int 0, .int 45, .int 0, .ref 176, .int 0, .ref 177]),
  (20, List.replicate 16 (.int 0)),
  (21, List.replicate 16 (.int 0)),
  (9, [.int 0, .int 0, .int 0, .int 0, .int 45, .int 0, .ref 179, .int 0, .ref 180]),
  (20, List.replicate 16 (.int 0)),
  (21, List.replicate 16 (.int 0)),
  (9, [.int 0, .int 0, .int 0, .int 0, .int 45, .int 0, .ref 182, .int 0, .ref 183]),
  (20, List.replicate 16 (.int 0)),
  (21, List.replicate 16 (.int 0)),
  (9, [.int 0, .int 0, .int 0, .int 0, .int 45, .int 0, .ref 185, .int 0, .ref 186]),
  (20, List.replicate 16 (.int 0)),
  (21, List.replicate 16 (.int 0)),
  (9, [.int 0, .int 0, .int 0, .int 0, .int 45, .int 0, .ref 188, .int 0, .ref 189]),
  (20, List.replicate 16 (.int 0)),
  (21, List.replicate 16 (.int 0)),
  (9, [.int 0, .int 0, .int 0, .int 0, .int 45, .int 0, .ref 191, .int 0, .ref 192]),
  (20, List.replicate 16 (.int 0)),
  (21, List.replicate 16 (.int 0)),
  (9, [.int 0, .int 0, .int 0, .int 0, .int 45, .int 0, .ref 194, .int 0, .ref 195]),
  (20, List.replicate 16 (.int 0)),
  (21, List.replicate 16 (.int 0)),
  (9, [.int 0, .int 0, .int 0, .int 0, .int 45, .int 0, .ref 197, .int 0, .ref 198]),
  (20, List.replicate 16 (.int 0)),
  (21, List.replicate 16 (.int 0)),
  (9, [.int 0, .int 0, .int 0, .int 0, .int 45, .int 0, .ref 200, .int 0, .ref 201]),
  (20, List.replicate 16 (.int 0))]
def x_oX11_2 : AH := [
  (21, List.replicate 16 (.int 0)),
  (9, [.int 0, .int 0, .int 0, .int 0, .int 45, .int 0, .ref 203, .int 0, .ref 204]),
  (20, List.replicate 16 (.int 0)),
  (21, List.replicate 16 (.int 0)),
  (9, [.int 0, .int 0, .int 0, .int 0, .int 45, .int 0, .ref 206, .int 0, .ref 207]),
  (20, List.replicate 16 (.int 0)),
  (21, List.replicate 16 (.int 0)),
  (9, [.int 0, .int 0, .int 0, .int 0, .int 45, .int 0, .ref 209, .int 0, .ref 210]),
  (20, List.replicate 16 (.int 0)),
  (21, List.replicate 16 (.int 0)),
  (9, [.int 0, .int 0, .int 0, .int 0, .int 45, .int 0, .ref 212, .int 0, .ref 213]),
  (20, List.replicate 16 (.int 0)),
  (21, List.replicate 16 (.int 0)),
  (9, [.int 0, .int 0, .int 0, .int 0, .int 45, .int 0, .ref 215, .int 0, .ref 216]),
  (20, List.replicate 16 (.int 0)),
  (21, List.replicate 16 (.int 0)),
  (28, [.ref 280, .ref 297, .ref 314, .ref 331, .ref 348]),
  (6, [.ref 219, .ref 220, .ref 221, .ref 222, .ref 223, .int 0]),
  (20, List.replicate 8 (.int 0)),
  (20, List.replicate 8 (.int 0)),
  (20, List.replicate 8 (.int 0)),
  (20, List.replicate 8 (.int 0)),
  (29, [.ref 224, .ref 225, .ref 226, .ref 227, .ref 228, .ref 229, .ref 230, .ref 231, .ref 232, .ref 233, .ref 234, .ref 235, .ref 236, .ref 237, .ref 238, .ref 239, .ref 240, .ref 241, .ref 242, .ref 243]),
  (20, List.replicate 8 (.int (-2))),
  (20, List.replicate 8 (.int (-2))),
  (20, List.replicate 8 (.int (-2))),
  (20, List.replicate 8 (.int (-2))),
  (20, List.replicate 8 (.int (-2))),
  (20, List.replicate 8 (.int (-2))),
  (20, List.replicate 8 (.int (-2))),
  (20, List.replicate 8 (.int (-2))),
  (20, List.replicate 8 (.int (-2))),
  (20, List.replicate 8 (.int (-2))),
  (20, List.replicate 8 (.int (-2))),
  (20, List.replicate 8 (.int (-2))),
  (20, List.replicate 8 (.int (-2))),
  (20, List.replicate 8 (.int (-2))),
  (20, List.replicate 8 (.int (-2))),
  (20, List.replicate 8 (.int (-2))),
  (20, List.replicate 8 (.int (-2))),
  (20, List.replicate 8 (.int (-2))),
  (20, List.replicate 8 (.int (-2))),
  (20, List.replicate 8 (.int (-2))),
  (5, [.ref 245, .int 0]),
  (20, List.replicate 16 (.int 0)),
  (1, [.ref 247, .ref 248, .ref 249, .ref 250]),
  (21, List.replicate 20 (.int 0)),
  (21, List.replicate 20 (.int 0)),
  (20, List.replicate 20 (.int 0)),
  (29, [.ref 251, .ref 252, .ref 253, .ref 254, .ref 255, .ref 256, .ref 257, .ref 258, .ref 259, .ref 260, .ref 261, .ref 262, .ref 263, .ref 264, .ref 265, .ref 266, .ref 267, .ref 268, .ref 269, .ref 270]),
  (20, List.replicate 20 (.int 0)),
  (20, List.replicate 20 (.int 0)),
  (20, List.replicate 20 (.int 0)),
  (20, List.replicate 20 (.int 0)),
  (20, List.replicate 20 (.int 0)),
  (20, List.replicate 20 (.int 0)),
  (20, List.replicate 20 (.int 0)),
  (20, List.replicate 20 (.int 0)),
  (20, List.replicate 20 (.int 0)),
  (20, List.replicate 20 (.int 0)),
  (20, List.replicate 20 (.int 0)),
  (20, List.replicate 20 (.int 0)),
  (20, List.replicate 20 (.int 0)),
  (20, List.replicate 20 (.int 0)),
  (20, List.replicate 20 (.int 0)),
  (20, List.replicate 20 (.int 0)),
  (20, List.replicate 20 (.int 0)),
  (20, List.replicate 20 (.int 0)),
  (20, List.replicate 20 (.int 0)),
  (20, List.replicate 20 (.int 0)),
  (7, [.ref 272, .ref 273, .ref 274, .ref 275, .ref 276, .int 0]),
  (20, List.replicate 40 (.int 0)),
  (20, List.replicate 40 (.int 0)),
  (20, List.replicate 40 (.int 0)),
  (20, List.replicate 40 (.int 0)),
  (20, List.replicate 40 (.int 0)),
  (20, List.replicate 9 (.int 0)),
  (20, List.replicate 20 (.int 0)),
  (20, List.replicate 20 (.int 0)),
  (8, [.int 0, .int 0, .int 0, .int 45, .int 0, .int 109, .int 0, .ref 281, .int 0]),
  (27, [.ref 282, .ref 285, .ref 288, .ref 291, .ref 294]),
  (4, [.int 0, .ref 283, .int (-1), .int (-1), .ref 284, .int 0]),
  (21, List.replicate 20 (.int 0)),
  (20, List.replicate 9 (.int 0)),
  (4, [.int 0, .ref 286, .int (-1), .int (-1), .ref 287, .int 0]),
  (21, List.replicate 20 (.int 0)),
  (20, List.replicate 9 (.int 0)),
  (4, [.int 0, .ref 289, .int (-1), .int (-1), .ref 290, .int 0]),
  (21, List.replicate 20 (.int 0)),
  (20, List.replicate 9 (.int 0)),
  (4, [.int 0, .ref 292, .int (-1), .int (-1), .ref 293, .int 0]),
  (21, List.replicate 20 (.int 0)),
  (20, List.replicate 9 (.int 0)),
  (4, [.int 0, .ref 295, .int (-1), .int (-1), .ref 296, .int 0]),
  (21, List.replicate 20 (.int 0)),
  (20, List.replicate 9 (.int 0)),
  (8, [.int 0, .int 0, .int 0, .int 45, .int 0, .int 109, .int 0, .ref 298, .int 0]),
  (27, [.ref 299, .ref 302, .ref 305, .ref 308, .ref 311]),
  (4, [.int 0, .ref 300, .int (-1), .int (-1), .ref 301, .int 0]),
  (21, List.replicate 20 (.int 0))]
def x_oX11_3 : AH := [
  (20, List.replicate 9 (.int 0)),
  (4, [.int 0, .ref 303, .int (-1), .int (-1), .ref 304, .int 0]),
  (21, List.replicate 20 (.int 0)),
  (20, List.replicate 9 (.int 0)),
  (4, [.int 0, .ref 306, .int (-1), .int (-1), .ref 307, .int 0]),
  (21, List.replicate 20 (.int 0)),
  (20, List.replicate 9 (.int 0)),
  (4, [.int 0, .ref 309, .int (-1), .int (-1), .ref 310, .int 0]),
  (21, List.replicate 20 (.int 0)),
  (20, List.replicate 9 (.int 0)),
  (4, [.int 0, .ref 312, .int (-1), .int (-1), .ref 313, .int 0]),
  (21, List.replicate 20 (.int 0)),
  (20, List.replicate 9 (.int 0)),
  (8, [.int 0, .int 0, .int 0, .int 45, .int 0, .int 109, .int 0, .ref 315, .int 0]),
  (27, [.ref 316, .ref 319, .ref 322, .ref 325, .ref 328]),
  (4, [.int 0, .ref 317, .int (-1), .int (-1), .ref 318, .int 0]),
  (21, List.replicate 20 (.int 0)),
  (20, List.replicate 9 (.int 0)),
  (4, [.int 0, .ref 320, .int (-1), .int (-1), .ref 321, .int 0]),
  (21, List.replicate 20 (.int 0)),
  (20, List.replicate 9 (.int 0)),
  (4, [.int 0, .ref 323, .int (-1), .int (-1), .ref 324, .int 0]),
  (21, List.replicate 20 (.int 0)),
  (20, List.replicate 9 (.int 0)),
  (4, [.int 0, .ref 326, .int (-1), .int (-1), .ref 327, .int 0]),
  (21, List.replicate 20 (.int 0)),
  (20, List.replicate 9 (.int 0)),
  (4, [.int 0, .ref 329, .int (-1), .int (-1), .ref 330, .int 0]),
  (21, List.replicate 20 (.int 0)),
  (20, List.replicate 9 (.int 0)),
  (8, [.int 0, .int 0, .int 0, .int 45, .int 0, .int 109, .int 0, .ref 332, .int 0]),
  (27, [.ref 333, .ref 336, .ref 339, .ref 342, .ref 345]),
  (4, [.int 0, .ref 334, .int (-1), .int (-1), .ref 335, .int 0]),
  (21, List.replicate 20 (.int 0)),
  (20, List.replicate 9 (.int 0)),
  (4, [.int 0, .ref 337, .int (-1), .int (-1), .ref 338, .int 0]),
  (21, List.replicate 20 (.int 0)),
  (20, List.replicate 9 (.int 0)),
  (4, [.int 0, .ref 340, .int (-1), .int (-1), .ref 341, .int 0]),
  (21, List.replicate 20 (.int 0)),
  (20, List.replicate 9 (.int 0)),
  (4, [.int 0, .ref 343, .int (-1), .int (-1), .ref 344, .int 0]),
  (21, List.replicate 20 (.int 0)),
  (20, List.replicate 9 (.int 0)),
  (4, [.int 0, .ref 346, .int (-1), .int (-1), .ref 347, .int 0]),
  (21, List.replicate 20 (.int 0)),
  (20, List.replicate 9 (.int 0)),
  (8, [.int 0, .int 0, .int 0, .int 45, .int 0, .int 109, .int 0, .ref 349, .int 0]),
  (27, [.ref 350, .ref 353, .ref 356, .ref 359, .ref 362]),
  (4, [.int 0, .ref 351, .int (-1), .int (-1), .ref 352, .int 0]),
  (21, List.replicate 20 (.int 0)),
  (20, List.replicate 9 (.int 0)),
  (4, [.int 0, .ref 354, .int (-1), .int (-1), .ref 355, .int 0]),
  (21, List.replicate 20 (.int 0)),
  (20, List.replicate 9 (.int 0)),
  (4, [.int 0, .ref 357, .int (-1), .int (-1), .ref 358, .int 0]),
  (21, List.replicate 20 (.int 0)),
  (20, List.replicate 9 (.int 0)),
  (4, [.int 0, .ref 360, .int (-1), .int (-1), .ref 361, .int 0]),
  (21, List.replicate 20 (.int 0)),
  (20, List.replicate 9 (.int 0)),
  (4, [.int 0, .ref 363, .int (-1), .int (-1), .ref 364, .int 0]),
  (21, List.replicate 20 (.int 0)),
  (20, List.replicate 9 (.int 0))]
def x_oX11 : AH := x_oX11_0 ++ (x_oX11_1 ++ (x_oX11_2 ++ (x_oX11_3)))
def x_eX11 : XE := (89, 1, x_iX11, x_oX11, 363, 5784)
theorem x_piX11 : x_pure x_iX11 = true := by decide +kernel
theorem x_poX11 : x_pure x_oX11 = true := by decide +kernel
theorem x_rX11 : x_is (x_run [x_eX3, x_eX6] 12 3000 [] 89 [.ref 1] ((99, []) :: x_iX11)) x_oX11 363 5784 = true := by decide +kernel
theorem x_qX11 : x_P 13 3000 x_eX11 :=
  x_entry (fun e he => by
    simp only [List.mem_cons, List.not_mem_nil, or_false] at he
    rcases he with rfl | rfl
    · exact x_qX3
    · exact x_qX6) x_piX11 x_poX11 x_rX11
end
section
/-! The run of JuryreelModel.<init>, by program (wip/genev.py) -/
def x_iX12_0 : AH := [
  (11, [.ref 2, .ref 3, .ref 4, .ref 11, .int 0, .ref 217, .int 0, .ref 218, .ref 244, .ref 246, .ref 271, .ref 277, .int 0, .ref 278, .ref 279]),
  (3, [.ref 3, .ref 4, .ref 11, .ref 14, .int 0, .int 0, .ref 15, .ref 16, .int 0]),
  (25, [.ref 17, .ref 18, .ref 19, .ref 20, .ref 21, .ref 22, .ref 23, .ref 24, .ref 25, .ref 26, .ref 27, .ref 28, .ref 29, .ref 30, .ref 31, .ref 32, .ref 33, .ref 34, .ref 35, .ref 36]),
  (10, [.ref 5, .ref 6, .int 0, .ref 7, .ref 8, .ref 9, .ref 10, .int 0]),
  (20, List.replicate 4 (.int 0)),
  (21, List.replicate 4 (.int 0)),
  (20, List.replicate 60 (.int 0)),
  (20, List.replicate 60 (.int 0)),
  (20, List.replicate 60 (.int 0)),
  (20, List.replicate 60 (.int 0)),
  (0, [.ref 12, .ref 13, .int 0, .int 0]),
  (22, List.replicate 400 (.int 0)),
  (20, List.replicate 400 (.int 0)),
  (26, [.ref 37, .ref 40, .ref 43, .ref 46, .ref 49, .ref 52, .ref 55, .ref 58, .ref 61, .ref 64, .ref 67, .ref 70, .ref 73, .ref 76, .ref 79, .ref 82, .ref 85, .ref 88, .ref 91, .ref 94, .ref 97, .ref 100, .ref 103, .ref 106, .ref 109, .ref 112, .ref 115, .ref 118, .ref 121, .ref 124, .ref 127, .ref 130, .ref 133, .ref 136, .ref 139, .ref 142, .ref 145, .ref 148, .ref 151, .ref 154, .ref 157, .ref 160, .ref 163, .ref 166, .ref 169, .ref 172, .ref 175, .ref 178, .ref 181, .ref 184, .ref 187, .ref 190, .ref 193, .ref 196, .ref 199, .ref 202, .ref 205, .ref 208, .ref 211, .ref 214]),
  (21, List.replicate 10 (.int 0)),
  (20, List.replicate 60 (.int 0)),
  (2, [.int 45, .int 0, .int 0, .int (-1), .int 0, .int 3, .int 0, .int 45, .int 0]),
  (2, [.int 45, .int 0, .int 0, .int (-1), .int 0, .int 3, .int 0, .int 45, .int 0]),
  (2, [.int 45, .int 0, .int 0, .int (-1), .int 0, .int 3, .int 0, .int 45, .int 0]),
  (2, [.int 45, .int 0, .int 0, .int (-1), .int 0, .int 3, .int 0, .int 45, .int 0]),
  (2, [.int 45, .int 0, .int 0, .int (-1), .int 0, .int 3, .int 0, .int 45, .int 0]),
  (2, [.int 45, .int 0, .int 0, .int (-1), .int 0, .int 3, .int 0, .int 45, .int 0]),
  (2, [.int 45, .int 0, .int 0, .int (-1), .int 0, .int 3, .int 0, .int 45, .int 0]),
  (2, [.int 45, .int 0, .int 0, .int (-1), .int 0, .int 3, .int 0, .int 45, .int 0]),
  (2, [.int 45, .int 0, .int 0, .int (-1), .int 0, .int 3, .int 0, .int 45, .int 0]),
  (2, [.int 45, .int 0, .int 0, .int (-1), .int 0, .int 3, .int 0, .int 45, .int 0]),
  (2, [.int 45, .int 0, .int 0, .int (-1), .int 0, .int 3, .int 0, .int 45, .int 0]),
  (2, [.int 45, .int 0, .int 0, .int (-1), .int 0, .int 3, .int 0, .int 45, .int 0]),
  (2, [.int 45, .int 0, .int 0, .int (-1), .int 0, .int 3, .int 0, .int 45, .int 0]),
  (2, [.int 45, .int 0, .int 0, .int (-1), .int 0, .int 3, .int 0, .int 45, .int 0]),
  (2, [.int 45, .int 0, .int 0, .int (-1), .int 0, .int 3, .int 0, .int 45, .int 0]),
  (2, [.int 45, .int 0, .int 0, .int (-1), .int 0, .int 3, .int 0, .int 45, .int 0]),
  (2, [.int 45, .int 0, .int 0, .int (-1), .int 0, .int 3, .int 0, .int 45, .int 0]),
  (2, [.int 45, .int 0, .int 0, .int (-1), .int 0, .int 3, .int 0, .int 45, .int 0]),
  (2, [.int 45, .int 0, .int 0, .int (-1), .int 0, .int 3, .int 0, .int 45, .int 0]),
  (2, [.int 45, .int 0, .int 0, .int (-1), .int 0, .int 3, .int 0, .int 45, .int 0]),
  (9, [.int 0, .int 0, .int 0, .int 0, .int 45, .int 0, .ref 38, .int 0, .ref 39]),
  (20, List.replicate 16 (.int 0)),
  (21, List.replicate 16 (.int 0)),
  (9, [.int 0, .int 0, .int 0, .int 0, .int 45, .int 0, .ref 41, .int 0, .ref 42]),
  (20, List.replicate 16 (.int 0)),
  (21, List.replicate 16 (.int 0)),
  (9, [.int 0, .int 0, .int 0, .int 0, .int 45, .int 0, .ref 44, .int 0, .ref 45]),
  (20, List.replicate 16 (.int 0)),
  (21, List.replicate 16 (.int 0)),
  (9, [.int 0, .int 0, .int 0, .int 0, .int 45, .int 0, .ref 47, .int 0, .ref 48]),
  (20, List.replicate 16 (.int 0)),
  (21, List.replicate 16 (.int 0)),
  (9, [.int 0, .int 0, .int 0, .int 0, .int 45, .int 0, .ref 50, .int 0, .ref 51]),
  (20, List.replicate 16 (.int 0)),
  (21, List.replicate 16 (.int 0)),
  (9, [.int 0, .int 0, .int 0, .int 0, .int 45, .int 0, .ref 53, .int 0, .ref 54]),
  (20, List.replicate 16 (.int 0)),
  (21, List.replicate 16 (.int 0)),
  (9, [.int 0, .int 0, .int 0, .int 0, .int 45, .int 0, .ref 56, .int 0, .ref 57]),
  (20, List.replicate 16 (.int 0)),
  (21, List.replicate 16 (.int 0)),
  (9, [.int 0, .int 0, .int 0, .int 0, .int 45, .int 0, .ref 59, .int 0, .ref 60]),
  (20, List.replicate 16 (.int 0)),
  (21, List.replicate 16 (.int 0)),
  (9, [.int 0, .int 0, .int 0, .int 0, .int 45, .int 0, .ref 62, .int 0, .ref 63]),
  (20, List.replicate 16 (.int 0)),
  (21, List.replicate 16 (.int 0)),
  (9, [.int 0, .int 0, .int 0, .int 0, .int 45, .int 0, .ref 65, .int 0, .ref 66]),
  (20, List.replicate 16 (.int 0)),
  (21, List.replicate 16 (.int 0)),
  (9, [.int 0, .int 0, .int 0, .int 0, .int 45, .int 0, .ref 68, .int 0, .ref 69]),
  (20, List.replicate 16 (.int 0)),
  (21, List.replicate 16 (.int 0)),
  (9, [.int 0, .int 0, .int 0, .int 0, .int 45, .int 0, .ref 71, .int 0, .ref 72]),
  (20, List.replicate 16 (.int 0)),
  (21, List.replicate 16 (.int 0)),
  (9, [.int 0, .int 0, .int 0, .int 0, .int 45, .int 0, .ref 74, .int 0, .ref 75]),
  (20, List.replicate 16 (.int 0)),
  (21, List.replicate 16 (.int 0)),
  (9, [.int 0, .int 0, .int 0, .int 0, .int 45, .int 0, .ref 77, .int 0, .ref 78]),
  (20, List.replicate 16 (.int 0)),
  (21, List.replicate 16 (.int 0)),
  (9, [.int 0, .int 0, .int 0, .int 0, .int 45, .int 0, .ref 80, .int 0, .ref 81]),
  (20, List.replicate 16 (.int 0)),
  (21, List.replicate 16 (.int 0)),
  (9, [.int 0, .int 0, .int 0, .int 0, .int 45, .int 0, .ref 83, .int 0, .ref 84]),
  (20, List.replicate 16 (.int 0)),
  (21, List.replicate 16 (.int 0)),
  (9, [.int 0, .int 0, .int 0, .int 0, .int 45, .int 0, .ref 86, .int 0, .ref 87]),
  (20, List.replicate 16 (.int 0)),
  (21, List.replicate 16 (.int 0)),
  (9, [.int 0, .int 0, .int 0, .int 0, .int 45, .int 0, .ref 89, .int 0, .ref 90]),
  (20, List.replicate 16 (.int 0)),
  (21, List.replicate 16 (.int 0)),
  (9, [.int 0, .int 0, .int 0, .int 0, .int 45, .int 0, .ref 92, .int 0, .ref 93]),
  (20, List.replicate 16 (.int 0)),
  (21, List.replicate 16 (.int 0)),
  (9, [.int 0, .int 0, .int 0, .int 0, .int 45, .int 0, .ref 95, .int 0, .ref 96]),
  (20, List.replicate 16 (.int 0)),
  (21, List.replicate 16 (.int 0)),
  (9, [.int 0, .int 0, .int 0, .int 0, .int 45, .int 0, .ref 98, .int 0, .ref 99]),
  (20, List.replicate 16 (.int 0)),
  (21, List.replicate 16 (.int 0)),
  (9, [.int 0, .int 0, .int 0, .int 0, .int 45, .int 0, .ref 101, .int 0, .ref 102])]
def x_iX12_1 : AH := [
  (20, List.replicate 16 (.int 0)),
  (21, List.replicate 16 (.int 0)),
  (9, [.int 0, .int 0, .int 0, .int 0, .int 45, .int 0, .ref 104, .int 0, .ref 105]),
  (20, List.replicate 16 (.int 0)),
  (21, List.replicate 16 (.int 0)),
  (9, [.int 0, .int 0, .int 0, .int 0, .int 45, .int 0, .ref 107, .int 0, .ref 108]),
  (20, List.replicate 16 (.int 0)),
  (21, List.replicate 16 (.int 0)),
  (9, [.int 0, .int 0, .int 0, .int 0, .int 45, .int 0, .ref 110, .int 0, .ref 111]),
  (20, List.replicate 16 (.int 0)),
  (21, List.replicate 16 (.int 0)),
  (9, [.int 0, .int 0, .int 0, .int 0, .int 45, .int 0, .ref 113, .int 0, .ref 114]),
  (20, List.replicate 16 (.int 0)),
  (21, List.replicate 16 (.int 0)),
  (9, [.int 0, .int 0, .int 0, .int 0, .int 45, .int 0, .ref 116, .int 0, .ref 117]),
  (20, List.replicate 16 (.int 0)),
  (21, List.replicate 16 (.int 0)),
  (9, [.int 0, .int 0, .int 0, .int 0, .int 45, .int 0, .ref 119, .int 0, .ref 120]),
  (20, List.replicate 16 (.int 0)),
  (21, List.replicate 16 (.int 0)),
  (9, [.int 0, .int 0, .int 0, .int 0, .int 45, .int 0, .ref 122, .int 0, .ref 123]),
  (20, List.replicate 16 (.int 0)),
  (21, List.replicate 16 (.int 0)),
  (9, [.int 0, .int 0, .int 0, .int 0, .int 45, .int 0, .ref 125, .int 0, .ref 126]),
  (20, List.replicate 16 (.int 0)),
  (21, List.replicate 16 (.int 0)),
  (9, [.int 0, .int 0, .int 0, .int 0, .int 45, .int 0, .ref 128, .int 0, .ref 129]),
  (20, List.replicate 16 (.int 0)),
  (21, List.replicate 16 (.int 0)),
  (9, [.int 0, .int 0, .int 0, .int 0, .int 45, .int 0, .ref 131, .int 0, .ref 132]),
  (20, List.replicate 16 (.int 0)),
  (21, List.replicate 16 (.int 0)),
  (9, [.int 0, .int 0, .int 0, .int 0, .int 45, .int 0, .ref 134, .int 0, .ref 135]),
  (20, List.replicate 16 (.int 0)),
  (21, List.replicate 16 (.int 0)),
  (9, [.int 0, .int 0, .int 0, .int 0, .int 45, .int 0, .ref 137, .int 0, .ref 138]),
  (20, List.replicate 16 (.int 0)),
  (21, List.replicate 16 (.int 0)),
  (9, [.int 0, .int 0, .int 0, .int 0, .int 45, .int 0, .ref 140, .int 0, .ref 141]),
  (20, List.replicate 16 (.int 0)),
  (21, List.replicate 16 (.int 0)),
  (9, [.int 0, .int 0, .int 0, .int 0, .int 45, .int 0, .ref 143, .int 0, .ref 144]),
  (20, List.replicate 16 (.int 0)),
  (21, List.replicate 16 (.int 0)),
  (9, [.int 0, .int 0, .int 0, .int 0, .int 45, .int 0, .ref 146, .int 0, .ref 147]),
  (20, List.replicate 16 (.int 0)),
  (21, List.replicate 16 (.int 0)),
  (9, [.int 0, .int 0, .int 0, .int 0, .int 45, .int 0, .ref 149, .int 0, .ref 150]),
  (20, List.replicate 16 (.int 0)),
  (21, List.replicate 16 (.int 0)),
  (9, [.int 0, .int 0, .int 0, .int 0, .int 45, .int 0, .ref 152, .int 0, .ref 153]),
  (20, List.replicate 16 (.int 0)),
  (21, List.replicate 16 (.int 0)),
  (9, [.int 0, .int 0, .int 0, .int 0, .int 45, .int 0, .ref 155, .int 0, .ref 156]),
  (20, List.replicate 16 (.int 0)),
  (21, List.replicate 16 (.int 0)),
  (9, [.int 0, .int 0, .int 0, .int 0, .int 45, .int 0, .ref 158, .int 0, .ref 159]),
  (20, List.replicate 16 (.int 0)),
  (21, List.replicate 16 (.int 0)),
  (9, [.int 0, .int 0, .int 0, .int 0, .int 45, .int 0, .ref 161, .int 0, .ref 162]),
  (20, List.replicate 16 (.int 0)),
  (21, List.replicate 16 (.int 0)),
  (9, [.int 0, .int 0, .int 0, .int 0, .int 45, .int 0, .ref 164, .int 0, .ref 165]),
  (20, List.replicate 16 (.int 0)),
  (21, List.replicate 16 (.int 0)),
  (9, [.int 0, .int 0, .int 0, .int 0, .int 45, .int 0, .ref 167, .int 0, .ref 168]),
  (20, List.replicate 16 (.int 0)),
  (21, List.replicate 16 (.int 0)),
  (9, [.int 0, .int 0, .int 0, .int 0, .int 45, .int 0, .ref 170, .int 0, .ref 171]),
  (20, List.replicate 16 (.int 0)),
  (21, List.replicate 16 (.int 0)),
  (9, [.int 0, .int 0, .int 0, .int 0, .int 45, .int 0, .ref 173, .int 0, .ref 174]),
  (20, List.replicate 16 (.int 0)),
  (21, List.replicate 16 (.int 0)),
  (9, [.int 0, .int 0, .int 0, .int 0, .int 45, .int 0, .ref 176, .int 0, .ref 177]),
  (20, List.replicate 16 (.int 0)),
  (21, List.replicate 16 (.int 0)),
  (9, [.int 0, .int 0, .int 0, .int 0, .int 45, .int 0, .ref 179, .int 0, .ref 180]),
  (20, List.replicate 16 (.int 0)),
  (21, List.replicate 16 (.int 0)),
  (9, [.int 0, .int 0, .int 0, .int 0, .int 45, .int 0, .ref 182, .int 0, .ref 183]),
  (20, List.replicate 16 (.int 0)),
  (21, List.replicate 16 (.int 0)),
  (9, [.int 0, .int 0, .int 0, .int 0, .int 45, .int 0, .ref 185, .int 0, .ref 186]),
  (20, List.replicate 16 (.int 0)),
  (21, List.replicate 16 (.int 0)),
  (9, [.int 0, .int 0, .int 0, .int 0, .int 45, .int 0, .ref 188, .int 0, .ref 189]),
  (20, List.replicate 16 (.int 0)),
  (21, List.replicate 16 (.int 0)),
  (9, [.int 0, .int 0, .int 0, .int 0, .int 45, .int 0, .ref 191, .int 0, .ref 192]),
  (20, List.replicate 16 (.int 0)),
  (21, List.replicate 16 (.int 0)),
  (9, [.int 0, .int 0, .int 0, .int 0, .int 45, .int 0, .ref 194, .int 0, .ref 195]),
  (20, List.replicate 16 (.int 0)),
  (21, List.replicate 16 (.int 0)),
  (9, [.int 0, .int 0, .int 0, .int 0, .int 45, .int 0, .ref 197, .int 0, .ref 198]),
  (20, List.replicate 16 (.int 0)),
  (21, List.replicate 16 (.int 0)),
  (9, [.int 0, .int 0, .int 0, .int 0, .int 45, .int 0, .ref 200, .int 0, .ref 201]),
  (20, List.replicate 16 (.int 0))]
def x_iX12_2 : AH := [
  (21, List.replicate 16 (.int 0)),
  (9, [.int 0, .int 0, .int 0, .int 0, .int 45, .int 0, .ref 203, .int 0, .ref 204]),
  (20, List.replicate 16 (.int 0)),
  (21, List.replicate 16 (.int 0)),
  (9, [.int 0, .int 0, .int 0, .int 0, .int 45, .int 0, .ref 206, .int 0, .ref 207]),
  (20, List.replicate 16 (.int 0)),
  (21, List.replicate 16 (.int 0)),
  (9, [.int 0, .int 0, .int 0, .int 0, .int 45, .int 0, .ref 209, .int 0, .ref 210]),
  (20, List.replicate 16 (.int 0)),
  (21, List.replicate 16 (.int 0)),
  (9, [.int 0, .int 0, .int 0, .int 0, .int 45, .int 0, .ref 212, .int 0, .ref 213]),
  (20, List.replicate 16 (.int 0)),
  (21, List.replicate 16 (.int 0)),
  (9, [.int 0, .int 0, .int 0, .int 0, .int 45, .int 0, .ref 215, .int 0, .ref 216]),
  (20, List.replicate 16 (.int 0)),
  (21, List.replicate 16 (.int 0)),
  (28, [.ref 280, .ref 297, .ref 314, .ref 331, .ref 348]),
  (6, [.ref 219, .ref 220, .ref 221, .ref 222, .ref 223, .int 0]),
  (20, List.replicate 8 (.int 0)),
  (20, List.replicate 8 (.int 0)),
  (20, List.replicate 8 (.int 0)),
  (20, List.replicate 8 (.int 0)),
  (29, [.ref 224, .ref 225, .ref 226, .ref 227, .ref 228, .ref 229, .ref 230, .ref 231, .ref 232, .ref 233, .ref 234, .ref 235, .ref 236, .ref 237, .ref 238, .ref 239, .ref 240, .ref 241, .ref 242, .ref 243]),
  (20, List.replicate 8 (.int (-2))),
  (20, List.replicate 8 (.int (-2))),
  (20, List.replicate 8 (.int (-2))),
  (20, List.replicate 8 (.int (-2))),
  (20, List.replicate 8 (.int (-2))),
  (20, List.replicate 8 (.int (-2))),
  (20, List.replicate 8 (.int (-2))),
  (20, List.replicate 8 (.int (-2))),
  (20, List.replicate 8 (.int (-2))),
  (20, List.replicate 8 (.int (-2))),
  (20, List.replicate 8 (.int (-2))),
  (20, List.replicate 8 (.int (-2))),
  (20, List.replicate 8 (.int (-2))),
  (20, List.replicate 8 (.int (-2))),
  (20, List.replicate 8 (.int (-2))),
  (20, List.replicate 8 (.int (-2))),
  (20, List.replicate 8 (.int (-2))),
  (20, List.replicate 8 (.int (-2))),
  (20, List.replicate 8 (.int (-2))),
  (20, List.replicate 8 (.int (-2))),
  (5, [.ref 245, .int 0]),
  (20, List.replicate 16 (.int 0)),
  (1, [.ref 247, .ref 248, .ref 249, .ref 250]),
  (21, List.replicate 20 (.int 0)),
  (21, List.replicate 20 (.int 0)),
  (20, List.replicate 20 (.int 0)),
  (29, [.ref 251, .ref 252, .ref 253, .ref 254, .ref 255, .ref 256, .ref 257, .ref 258, .ref 259, .ref 260, .ref 261, .ref 262, .ref 263, .ref 264, .ref 265, .ref 266, .ref 267, .ref 268, .ref 269, .ref 270]),
  (20, List.replicate 20 (.int 0)),
  (20, List.replicate 20 (.int 0)),
  (20, List.replicate 20 (.int 0)),
  (20, List.replicate 20 (.int 0)),
  (20, List.replicate 20 (.int 0)),
  (20, List.replicate 20 (.int 0)),
  (20, List.replicate 20 (.int 0)),
  (20, List.replicate 20 (.int 0)),
  (20, List.replicate 20 (.int 0)),
  (20, List.replicate 20 (.int 0)),
  (20, List.replicate 20 (.int 0)),
  (20, List.replicate 20 (.int 0)),
  (20, List.replicate 20 (.int 0)),
  (20, List.replicate 20 (.int 0)),
  (20, List.replicate 20 (.int 0)),
  (20, List.replicate 20 (.int 0)),
  (20, List.replicate 20 (.int 0)),
  (20, List.replicate 20 (.int 0)),
  (20, List.replicate 20 (.int 0)),
  (20, List.replicate 20 (.int 0)),
  (7, [.ref 272, .ref 273, .ref 274, .ref 275, .ref 276, .int 0]),
  (20, List.replicate 40 (.int 0)),
  (20, List.replicate 40 (.int 0)),
  (20, List.replicate 40 (.int 0)),
  (20, List.replicate 40 (.int 0)),
  (20, List.replicate 40 (.int 0)),
  (20, List.replicate 9 (.int 0)),
  (20, List.replicate 20 (.int 0)),
  (20, List.replicate 20 (.int 0)),
  (8, [.int 0, .int 0, .int 0, .int 45, .int 0, .int 109, .int 0, .ref 281, .int 0]),
  (27, [.ref 282, .ref 285, .ref 288, .ref 291, .ref 294]),
  (4, [.int 0, .ref 283, .int (-1), .int (-1), .ref 284, .int 0]),
  (21, List.replicate 20 (.int 0)),
  (20, List.replicate 9 (.int 0)),
  (4, [.int 0, .ref 286, .int (-1), .int (-1), .ref 287, .int 0]),
  (21, List.replicate 20 (.int 0)),
  (20, List.replicate 9 (.int 0)),
  (4, [.int 0, .ref 289, .int (-1), .int (-1), .ref 290, .int 0]),
  (21, List.replicate 20 (.int 0)),
  (20, List.replicate 9 (.int 0)),
  (4, [.int 0, .ref 292, .int (-1), .int (-1), .ref 293, .int 0]),
  (21, List.replicate 20 (.int 0)),
  (20, List.replicate 9 (.int 0)),
  (4, [.int 0, .ref 295, .int (-1), .int (-1), .ref 296, .int 0]),
  (21, List.replicate 20 (.int 0)),
  (20, List.replicate 9 (.int 0)),
  (8, [.int 0, .int 0, .int 0, .int 45, .int 0, .int 109, .int 0, .ref 298, .int 0]),
  (27, [.ref 299, .ref 302, .ref 305, .ref 308, .ref 311]),
  (4, [.int 0, .ref 300, .int (-1), .int (-1), .ref 301, .int 0]),
  (21, List.replicate 20 (.int 0))]
def x_iX12_3 : AH := [
  (20, List.replicate 9 (.int 0)),
  (4, [.int 0, .ref 303, .int (-1), .int (-1), .ref 304, .int 0]),
  (21, List.replicate 20 (.int 0)),
  (20, List.replicate 9 (.int 0)),
  (4, [.int 0, .ref 306, .int (-1), .int (-1), .ref 307, .int 0]),
  (21, List.replicate 20 (.int 0)),
  (20, List.replicate 9 (.int 0)),
  (4, [.int 0, .ref 309, .int (-1), .int (-1), .ref 310, .int 0]),
  (21, List.replicate 20 (.int 0)),
  (20, List.replicate 9 (.int 0)),
  (4, [.int 0, .ref 312, .int (-1), .int (-1), .ref 313, .int 0]),
  (21, List.replicate 20 (.int 0)),
  (20, List.replicate 9 (.int 0)),
  (8, [.int 0, .int 0, .int 0, .int 45, .int 0, .int 109, .int 0, .ref 315, .int 0]),
  (27, [.ref 316, .ref 319, .ref 322, .ref 325, .ref 328]),
  (4, [.int 0, .ref 317, .int (-1), .int (-1), .ref 318, .int 0]),
  (21, List.replicate 20 (.int 0)),
  (20, List.replicate 9 (.int 0)),
  (4, [.int 0, .ref 320, .int (-1), .int (-1), .ref 321, .int 0]),
  (21, List.replicate 20 (.int 0)),
  (20, List.replicate 9 (.int 0)),
  (4, [.int 0, .ref 323, .int (-1), .int (-1), .ref 324, .int 0]),
  (21, List.replicate 20 (.int 0)),
  (20, List.replicate 9 (.int 0)),
  (4, [.int 0, .ref 326, .int (-1), .int (-1), .ref 327, .int 0]),
  (21, List.replicate 20 (.int 0)),
  (20, List.replicate 9 (.int 0)),
  (4, [.int 0, .ref 329, .int (-1), .int (-1), .ref 330, .int 0]),
  (21, List.replicate 20 (.int 0)),
  (20, List.replicate 9 (.int 0)),
  (8, [.int 0, .int 0, .int 0, .int 45, .int 0, .int 109, .int 0, .ref 332, .int 0]),
  (27, [.ref 333, .ref 336, .ref 339, .ref 342, .ref 345]),
  (4, [.int 0, .ref 334, .int (-1), .int (-1), .ref 335, .int 0]),
  (21, List.replicate 20 (.int 0)),
  (20, List.replicate 9 (.int 0)),
  (4, [.int 0, .ref 337, .int (-1), .int (-1), .ref 338, .int 0]),
  (21, List.replicate 20 (.int 0)),
  (20, List.replicate 9 (.int 0)),
  (4, [.int 0, .ref 340, .int (-1), .int (-1), .ref 341, .int 0]),
  (21, List.replicate 20 (.int 0)),
  (20, List.replicate 9 (.int 0)),
  (4, [.int 0, .ref 343, .int (-1), .int (-1), .ref 344, .int 0]),
  (21, List.replicate 20 (.int 0)),
  (20, List.replicate 9 (.int 0)),
  (4, [.int 0, .ref 346, .int (-1), .int (-1), .ref 347, .int 0]),
  (21, List.replicate 20 (.int 0)),
  (20, List.replicate 9 (.int 0)),
  (8, [.int 0, .int 0, .int 0, .int 45, .int 0, .int 109, .int 0, .ref 349, .int 0]),
  (27, [.ref 350, .ref 353, .ref 356, .ref 359, .ref 362]),
  (4, [.int 0, .ref 351, .int (-1), .int (-1), .ref 352, .int 0]),
  (21, List.replicate 20 (.int 0)),
  (20, List.replicate 9 (.int 0)),
  (4, [.int 0, .ref 354, .int (-1), .int (-1), .ref 355, .int 0]),
  (21, List.replicate 20 (.int 0)),
  (20, List.replicate 9 (.int 0)),
  (4, [.int 0, .ref 357, .int (-1), .int (-1), .ref 358, .int 0]),
  (21, List.replicate 20 (.int 0)),
  (20, List.replicate 9 (.int 0)),
  (4, [.int 0, .ref 360, .int (-1), .int (-1), .ref 361, .int 0]),
  (21, List.replicate 20 (.int 0)),
  (20, List.replicate 9 (.int 0)),
  (4, [.int 0, .ref 363, .int (-1), .int (-1), .ref 364, .int 0]),
  (21, List.replicate 20 (.int 0)),
  (20, List.replicate 9 (.int 0)),
  (12, [.null, .null, .null, .null, .null, .null, .null, .null, .null, .null, .null, .null, .null, .null, .null, .null, .null, .null, .null, .null, .null, .null, .null, .null, .null, .null, .null, .null, .null, .null, .null, .null, .null, .null, .null, .null, .null, .null, .null, .null, .null, .null, .null, .null, .int 0, .int 0, .int 0, .int 0, .int 0, .int 0, .int 0, .int 0, .int 0, .int 0, .int 0, .int 0])]
def x_iX12 : AH := x_iX12_0 ++ (x_iX12_1 ++ (x_iX12_2 ++ (x_iX12_3)))
def x_oX12_0 : AH := [
  (11, [.ref 2, .ref 3, .ref 4, .ref 11, .int 0, .ref 217, .int 0, .ref 218, .ref 244, .ref 246, .ref 271, .ref 277, .int 0, .ref 278, .ref 279]),
  (3, [.ref 3, .ref 4, .ref 11, .ref 14, .int 0, .int 0, .ref 15, .ref 16, .int 0]),
  (25, [.ref 17, .ref 18, .ref 19, .ref 20, .ref 21, .ref 22, .ref 23, .ref 24, .ref 25, .ref 26, .ref 27, .ref 28, .ref 29, .ref 30, .ref 31, .ref 32, .ref 33, .ref 34, .ref 35, .ref 36]),
  (10, [.ref 5, .ref 6, .int 0, .ref 7, .ref 8, .ref 9, .ref 10, .int 0]),
  (20, List.replicate 4 (.int 0)),
  (21, List.replicate 4 (.int 0)),
  (20, List.replicate 60 (.int 0)),
  (20, List.replicate 60 (.int 0)),
  (20, List.replicate 60 (.int 0)),
  (20, List.replicate 60 (.int 0)),
  (0, [.ref 12, .ref 13, .int 0, .int 0]),
  (22, List.replicate 400 (.int 0)),
  (20, List.replicate 400 (.int 0)),
  (26, [.ref 37, .ref 40, .ref 43, .ref 46, .ref 49, .ref 52, .ref 55, .ref 58, .ref 61, .ref 64, .ref 67, .ref 70, .ref 73, .ref 76, .ref 79, .ref 82, .ref 85, .ref 88, .ref 91, .ref 94, .ref 97, .ref 100, .ref 103, .ref 106, .ref 109, .ref 112, .ref 115, .ref 118, .ref 121, .ref 124, .ref 127, .ref 130, .ref 133, .ref 136, .ref 139, .ref 142, .ref 145, .ref 148, .ref 151, .ref 154, .ref 157, .ref 160, .ref 163, .ref 166, .ref 169, .ref 172, .ref 175, .ref 178, .ref 181, .ref 184, .ref 187, .ref 190, .ref 193, .ref 196, .ref 199, .ref 202, .ref 205, .ref 208, .ref 211, .ref 214]),
  (21, List.replicate 10 (.int 0)),
  (20, List.replicate 60 (.int 0)),
  (2, [.int 45, .int 0, .int 0, .int (-1), .int 0, .int 3, .int 0, .int 45, .int 0]),
  (2, [.int 45, .int 0, .int 0, .int (-1), .int 0, .int 3, .int 0, .int 45, .int 0]),
  (2, [.int 45, .int 0, .int 0, .int (-1), .int 0, .int 3, .int 0, .int 45, .int 0]),
  (2, [.int 45, .int 0, .int 0, .int (-1), .int 0, .int 3, .int 0, .int 45, .int 0]),
  (2, [.int 45, .int 0, .int 0, .int (-1), .int 0, .int 3, .int 0, .int 45, .int 0]),
  (2, [.int 45, .int 0, .int 0, .int (-1), .int 0, .int 3, .int 0, .int 45, .int 0]),
  (2, [.int 45, .int 0, .int 0, .int (-1), .int 0, .int 3, .int 0, .int 45, .int 0]),
  (2, [.int 45, .int 0, .int 0, .int (-1), .int 0, .int 3, .int 0, .int 45, .int 0]),
  (2, [.int 45, .int 0, .int 0, .int (-1), .int 0, .int 3, .int 0, .int 45, .int 0]),
  (2, [.int 45, .int 0, .int 0, .int (-1), .int 0, .int 3, .int 0, .int 45, .int 0]),
  (2, [.int 45, .int 0, .int 0, .int (-1), .int 0, .int 3, .int 0, .int 45, .int 0]),
  (2, [.int 45, .int 0, .int 0, .int (-1), .int 0, .int 3, .int 0, .int 45, .int 0]),
  (2, [.int 45, .int 0, .int 0, .int (-1), .int 0, .int 3, .int 0, .int 45, .int 0]),
  (2, [.int 45, .int 0, .int 0, .int (-1), .int 0, .int 3, .int 0, .int 45, .int 0]),
  (2, [.int 45, .int 0, .int 0, .int (-1), .int 0, .int 3, .int 0, .int 45, .int 0]),
  (2, [.int 45, .int 0, .int 0, .int (-1), .int 0, .int 3, .int 0, .int 45, .int 0]),
  (2, [.int 45, .int 0, .int 0, .int (-1), .int 0, .int 3, .int 0, .int 45, .int 0]),
  (2, [.int 45, .int 0, .int 0, .int (-1), .int 0, .int 3, .int 0, .int 45, .int 0]),
  (2, [.int 45, .int 0, .int 0, .int (-1), .int 0, .int 3, .int 0, .int 45, .int 0]),
  (2, [.int 45, .int 0, .int 0, .int (-1), .int 0, .int 3, .int 0, .int 45, .int 0]),
  (9, [.int 0, .int 0, .int 0, .int 0, .int 45, .int 0, .ref 38, .int 0, .ref 39]),
  (20, List.replicate 16 (.int 0)),
  (21, List.replicate 16 (.int 0)),
  (9, [.int 0, .int 0, .int 0, .int 0, .int 45, .int 0, .ref 41, .int 0, .ref 42]),
  (20, List.replicate 16 (.int 0)),
  (21, List.replicate 16 (.int 0)),
  (9, [.int 0, .int 0, .int 0, .int 0, .int 45, .int 0, .ref 44, .int 0, .ref 45]),
  (20, List.replicate 16 (.int 0)),
  (21, List.replicate 16 (.int 0)),
  (9, [.int 0, .int 0, .int 0, .int 0, .int 45, .int 0, .ref 47, .int 0, .ref 48]),
  (20, List.replicate 16 (.int 0)),
  (21, List.replicate 16 (.int 0)),
  (9, [.int 0, .int 0, .int 0, .int 0, .int 45, .int 0, .ref 50, .int 0, .ref 51]),
  (20, List.replicate 16 (.int 0)),
  (21, List.replicate 16 (.int 0)),
  (9, [.int 0, .int 0, .int 0, .int 0, .int 45, .int 0, .ref 53, .int 0, .ref 54]),
  (20, List.replicate 16 (.int 0)),
  (21, List.replicate 16 (.int 0)),
  (9, [.int 0, .int 0, .int 0, .int 0, .int 45, .int 0, .ref 56, .int 0, .ref 57]),
  (20, List.replicate 16 (.int 0)),
  (21, List.replicate 16 (.int 0)),
  (9, [.int 0, .int 0, .int 0, .int 0, .int 45, .int 0, .ref 59, .int 0, .ref 60]),
  (20, List.replicate 16 (.int 0)),
  (21, List.replicate 16 (.int 0)),
  (9, [.int 0, .int 0, .int 0, .int 0, .int 45, .int 0, .ref 62, .int 0, .ref 63]),
  (20, List.replicate 16 (.int 0)),
  (21, List.replicate 16 (.int 0)),
  (9, [.int 0, .int 0, .int 0, .int 0, .int 45, .int 0, .ref 65, .int 0, .ref 66]),
  (20, List.replicate 16 (.int 0)),
  (21, List.replicate 16 (.int 0)),
  (9, [.int 0, .int 0, .int 0, .int 0, .int 45, .int 0, .ref 68, .int 0, .ref 69]),
  (20, List.replicate 16 (.int 0)),
  (21, List.replicate 16 (.int 0)),
  (9, [.int 0, .int 0, .int 0, .int 0, .int 45, .int 0, .ref 71, .int 0, .ref 72]),
  (20, List.replicate 16 (.int 0)),
  (21, List.replicate 16 (.int 0)),
  (9, [.int 0, .int 0, .int 0, .int 0, .int 45, .int 0, .ref 74, .int 0, .ref 75]),
  (20, List.replicate 16 (.int 0)),
  (21, List.replicate 16 (.int 0)),
  (9, [.int 0, .int 0, .int 0, .int 0, .int 45, .int 0, .ref 77, .int 0, .ref 78]),
  (20, List.replicate 16 (.int 0)),
  (21, List.replicate 16 (.int 0)),
  (9, [.int 0, .int 0, .int 0, .int 0, .int 45, .int 0, .ref 80, .int 0, .ref 81]),
  (20, List.replicate 16 (.int 0)),
  (21, List.replicate 16 (.int 0)),
  (9, [.int 0, .int 0, .int 0, .int 0, .int 45, .int 0, .ref 83, .int 0, .ref 84]),
  (20, List.replicate 16 (.int 0)),
  (21, List.replicate 16 (.int 0)),
  (9, [.int 0, .int 0, .int 0, .int 0, .int 45, .int 0, .ref 86, .int 0, .ref 87]),
  (20, List.replicate 16 (.int 0)),
  (21, List.replicate 16 (.int 0)),
  (9, [.int 0, .int 0, .int 0, .int 0, .int 45, .int 0, .ref 89, .int 0, .ref 90]),
  (20, List.replicate 16 (.int 0)),
  (21, List.replicate 16 (.int 0)),
  (9, [.int 0, .int 0, .int 0, .int 0, .int 45, .int 0, .ref 92, .int 0, .ref 93]),
  (20, List.replicate 16 (.int 0)),
  (21, List.replicate 16 (.int 0)),
  (9, [.int 0, .int 0, .int 0, .int 0, .int 45, .int 0, .ref 95, .int 0, .ref 96]),
  (20, List.replicate 16 (.int 0)),
  (21, List.replicate 16 (.int 0)),
  (9, [.int 0, .int 0, .int 0, .int 0, .int 45, .int 0, .ref 98, .int 0, .ref 99]),
  (20, List.replicate 16 (.int 0)),
  (21, List.replicate 16 (.int 0)),
  (9, [.int 0, .int 0, .int 0, .int 0, .int 45, .int 0, .ref 101, .int 0, .ref 102])]
def x_oX12_1 : AH := [
  (20, List.replicate 16 (.int 0)),
  (21, List.replicate 16 (.int 0)),
  (9, [.int 0, .int 0, .int 0, .int 0, .int 45, .int 0, .ref 104, .int 0, .ref 105]),
  (20, List.replicate 16 (.int 0)),
  (21, List.replicate 16 (.int 0)),
  (9, [.int 0, .int 0, .int 0, .int 0, .int 45, .int 0, .ref 107, .int 0, .ref 108]),
  (20, List.replicate 16 (.int 0)),
  (21, List.replicate 16 (.int 0)),
  (9, [.int 0, .int 0, .int 0, .int 0, .int 45, .int 0, .ref 110, .int 0, .ref 111]),
  (20, List.replicate 16 (.int 0)),
  (21, List.replicate 16 (.int 0)),
  (9, [.int 0, .int 0, .int 0, .int 0, .int 45, .int 0, .ref 113, .int 0, .ref 114]),
  (20, List.replicate 16 (.int 0)),
  (21, List.replicate 16 (.int 0)),
  (9, [.int 0, .int 0, .int 0, .int 0, .int 45, .int 0, .ref 116, .int 0, .ref 117]),
  (20, List.replicate 16 (.int 0)),
  (21, List.replicate 16 (.int 0)),
  (9, [.int 0, .int 0, .int 0, .int 0, .int 45, .int 0, .ref 119, .int 0, .ref 120]),
  (20, List.replicate 16 (.int 0)),
  (21, List.replicate 16 (.int 0)),
  (9, [.int 0, .int 0, .int 0, .int 0, .int 45, .int 0, .ref 122, .int 0, .ref 123]),
  (20, List.replicate 16 (.int 0)),
  (21, List.replicate 16 (.int 0)),
  (9, [.int 0, .int 0, .int 0, .int 0, .int 45, .int 0, .ref 125, .int 0, .ref 126]),
  (20, List.replicate 16 (.int 0)),
  (21, List.replicate 16 (.int 0)),
  (9, [.int 0, .int 0, .int 0, .int 0, .int 45, .int 0, .ref 128, .int 0, .ref 129]),
  (20, List.replicate 16 (.int 0)),
  (21, List.replicate 16 (.int 0)),
  (9, [.int 0, .int 0, .int 0, .int 0, .int 45, .int 0, .ref 131, .int 0, .ref 132]),
  (20, List.replicate 16 (.int 0)),
  (21, List.replicate 16 (.int 0)),
  (9, [.int 0, .int 0, .int 0, .int 0, .int 45, .int 0, .ref 134, .int 0, .ref 135]),
  (20, List.replicate 16 (.int 0)),
  (21, List.replicate 16 (.int 0)),
  (9, [.int 0, .int 0, .int 0, .int 0, .int 45, .int 0, .ref 137, .int 0, .ref 138]),
  (20, List.replicate 16 (.int 0)),
  (21, List.replicate 16 (.int 0)),
  (9, [.int 0, .int 0, .int 0, .int 0, .int 45, .int 0, .ref 140, .int 0, .ref 141]),
  (20, List.replicate 16 (.int 0)),
  (21, List.replicate 16 (.int 0)),
  (9, [.int 0, .int 0, .int 0, .int 0, .int 45, .int 0, .ref 143, .int 0, .ref 144]),
  (20, List.replicate 16 (.int 0)),
  (21, List.replicate 16 (.int 0)),
  (9, [.int 0, .int 0, .int 0, .int 0, .int 45, .int 0, .ref 146, .int 0, .ref 147]),
  (20, List.replicate 16 (.int 0)),
  (21, List.replicate 16 (.int 0)),
  (9, [.int 0, .int 0, .int 0, .int 0, .int 45, .int 0, .ref 149, .int 0, .ref 150]),
  (20, List.replicate 16 (.int 0)),
  (21, List.replicate 16 (.int 0)),
  (9, [.int 0, .int 0, .int 0, .int 0, .int 45, .int 0, .ref 152, .int 0, .ref 153]),
  (20, List.replicate 16 (.int 0)),
  (21, List.replicate 16 (.int 0)),
  (9, [.int 0, .int 0, .int 0, .int 0, .int 45, .int 0, .ref 155, .int 0, .ref 156]),
  (20, List.replicate 16 (.int 0)),
  (21, List.replicate 16 (.int 0)),
  (9, [.int 0, .int 0, .int 0, .int 0, .int 45, .int 0, .ref 158, .int 0, .ref 159]),
  (20, List.replicate 16 (.int 0)),
  (21, List.replicate 16 (.int 0)),
  (9, [.int 0, .int 0, .int 0, .int 0, .int 45, .int 0, .ref 161, .int 0, .ref 162]),
  (20, List.replicate 16 (.int 0)),
  (21, List.replicate 16 (.int 0)),
  (9, [.int 0, .int 0, .int 0, .int 0, .int 45, .int 0, .ref 164, .int 0, .ref 165]),
  (20, List.replicate 16 (.int 0)),
  (21, List.replicate 16 (.int 0)),
  (9, [.int 0, .int 0, .int 0, .int 0, .int 45, .int 0, .ref 167, .int 0, .ref 168]),
  (20, List.replicate 16 (.int 0)),
  (21, List.replicate 16 (.int 0)),
  (9, [.int 0, .int 0, .int 0, .int 0, .int 45, .int 0, .ref 170, .int 0, .ref 171]),
  (20, List.replicate 16 (.int 0)),
  (21, List.replicate 16 (.int 0)),
  (9, [.int 0, .int 0, .int 0, .int 0, .int 45, .int 0, .ref 173, .int 0, .ref 174]),
  (20, List.replicate 16 (.int 0)),
  (21, List.replicate 16 (.int 0)),
  (9, [.int 0, .int 0, .int 0, .int 0, .int 45, .int 0, .ref 176, .int 0, .ref 177]),
  (20, List.replicate 16 (.int 0)),
  (21, List.replicate 16 (.int 0)),
  (9, [.int 0, .int 0, .int 0, .int 0, .int 45, .int 0, .ref 179, .int 0, .ref 180]),
  (20, List.replicate 16 (.int 0)),
  (21, List.replicate 16 (.int 0)),
  (9, [.int 0, .int 0, .int 0, .int 0, .int 45, .int 0, .ref 182, .int 0, .ref 183]),
  (20, List.replicate 16 (.int 0)),
  (21, List.replicate 16 (.int 0)),
  (9, [.int 0, .int 0, .int 0, .int 0, .int 45, .int 0, .ref 185, .int 0, .ref 186]),
  (20, List.replicate 16 (.int 0)),
  (21, List.replicate 16 (.int 0)),
  (9, [.int 0, .int 0, .int 0, .int 0, .int 45, .int 0, .ref 188, .int 0, .ref 189]),
  (20, List.replicate 16 (.int 0)),
  (21, List.replicate 16 (.int 0)),
  (9, [.int 0, .int 0, .int 0, .int 0, .int 45, .int 0, .ref 191, .int 0, .ref 192]),
  (20, List.replicate 16 (.int 0)),
  (21, List.replicate 16 (.int 0)),
  (9, [.int 0, .int 0, .int 0, .int 0, .int 45, .int 0, .ref 194, .int 0, .ref 195]),
  (20, List.replicate 16 (.int 0)),
  (21, List.replicate 16 (.int 0)),
  (9, [.int 0, .int 0, .int 0, .int 0, .int 45, .int 0, .ref 197, .int 0, .ref 198]),
  (20, List.replicate 16 (.int 0)),
  (21, List.replicate 16 (.int 0)),
  (9, [.int 0, .int 0, .int 0, .int 0, .int 45, .int 0, .ref 200, .int 0, .ref 201]),
  (20, List.replicate 16 (.int 0))]
def x_oX12_2 : AH := [
  (21, List.replicate 16 (.int 0)),
  (9, [.int 0, .int 0, .int 0, .int 0, .int 45, .int 0, .ref 203, .int 0, .ref 204]),
  (20, List.replicate 16 (.int 0)),
  (21, List.replicate 16 (.int 0)),
  (9, [.int 0, .int 0, .int 0, .int 0, .int 45, .int 0, .ref 206, .int 0, .ref 207]),
  (20, List.replicate 16 (.int 0)),
  (21, List.replicate 16 (.int 0)),
  (9, [.int 0, .int 0, .int 0, .int 0, .int 45, .int 0, .ref 209, .int 0, .ref 210]),
  (20, List.replicate 16 (.int 0)),
  (21, List.replicate 16 (.int 0)),
  (9, [.int 0, .int 0, .int 0, .int 0, .int 45, .int 0, .ref 212, .int 0, .ref 213]),
  (20, List.replicate 16 (.int 0)),
  (21, List.replicate 16 (.int 0)),
  (9, [.int 0, .int 0, .int 0, .int 0, .int 45, .int 0, .ref 215, .int 0, .ref 216]),
  (20, List.replicate 16 (.int 0)),
  (21, List.replicate 16 (.int 0)),
  (28, [.ref 280, .ref 297, .ref 314, .ref 331, .ref 348]),
  (6, [.ref 219, .ref 220, .ref 221, .ref 222, .ref 223, .int 0]),
  (20, List.replicate 8 (.int 0)),
  (20, List.replicate 8 (.int 0)),
  (20, List.replicate 8 (.int 0)),
  (20, List.replicate 8 (.int 0)),
  (29, [.ref 224, .ref 225, .ref 226, .ref 227, .ref 228, .ref 229, .ref 230, .ref 231, .ref 232, .ref 233, .ref 234, .ref 235, .ref 236, .ref 237, .ref 238, .ref 239, .ref 240, .ref 241, .ref 242, .ref 243]),
  (20, List.replicate 8 (.int (-2))),
  (20, List.replicate 8 (.int (-2))),
  (20, List.replicate 8 (.int (-2))),
  (20, List.replicate 8 (.int (-2))),
  (20, List.replicate 8 (.int (-2))),
  (20, List.replicate 8 (.int (-2))),
  (20, List.replicate 8 (.int (-2))),
  (20, List.replicate 8 (.int (-2))),
  (20, List.replicate 8 (.int (-2))),
  (20, List.replicate 8 (.int (-2))),
  (20, List.replicate 8 (.int (-2))),
  (20, List.replicate 8 (.int (-2))),
  (20, List.replicate 8 (.int (-2))),
  (20, List.replicate 8 (.int (-2))),
  (20, List.replicate 8 (.int (-2))),
  (20, List.replicate 8 (.int (-2))),
  (20, List.replicate 8 (.int (-2))),
  (20, List.replicate 8 (.int (-2))),
  (20, List.replicate 8 (.int (-2))),
  (20, List.replicate 8 (.int (-2))),
  (5, [.ref 245, .int 0]),
  (20, List.replicate 16 (.int 0)),
  (1, [.ref 247, .ref 248, .ref 249, .ref 250]),
  (21, List.replicate 20 (.int 0)),
  (21, List.replicate 20 (.int 0)),
  (20, List.replicate 20 (.int 0)),
  (29, [.ref 251, .ref 252, .ref 253, .ref 254, .ref 255, .ref 256, .ref 257, .ref 258, .ref 259, .ref 260, .ref 261, .ref 262, .ref 263, .ref 264, .ref 265, .ref 266, .ref 267, .ref 268, .ref 269, .ref 270]),
  (20, List.replicate 20 (.int 0)),
  (20, List.replicate 20 (.int 0)),
  (20, List.replicate 20 (.int 0)),
  (20, List.replicate 20 (.int 0)),
  (20, List.replicate 20 (.int 0)),
  (20, List.replicate 20 (.int 0)),
  (20, List.replicate 20 (.int 0)),
  (20, List.replicate 20 (.int 0)),
  (20, List.replicate 20 (.int 0)),
  (20, List.replicate 20 (.int 0)),
  (20, List.replicate 20 (.int 0)),
  (20, List.replicate 20 (.int 0)),
  (20, List.replicate 20 (.int 0)),
  (20, List.replicate 20 (.int 0)),
  (20, List.replicate 20 (.int 0)),
  (20, List.replicate 20 (.int 0)),
  (20, List.replicate 20 (.int 0)),
  (20, List.replicate 20 (.int 0)),
  (20, List.replicate 20 (.int 0)),
  (20, List.replicate 20 (.int 0)),
  (7, [.ref 272, .ref 273, .ref 274, .ref 275, .ref 276, .int 0]),
  (20, List.replicate 40 (.int 0)),
  (20, List.replicate 40 (.int 0)),
  (20, List.replicate 40 (.int 0)),
  (20, List.replicate 40 (.int 0)),
  (20, List.replicate 40 (.int 0)),
  (20, List.replicate 9 (.int 0)),
  (20, List.replicate 20 (.int 0)),
  (20, List.replicate 20 (.int 0)),
  (8, [.int 0, .int 0, .int 0, .int 45, .int 0, .int 109, .int 0, .ref 281, .int 0]),
  (27, [.ref 282, .ref 285, .ref 288, .ref 291, .ref 294]),
  (4, [.int 0, .ref 283, .int (-1), .int (-1), .ref 284, .int 0]),
  (21, List.replicate 20 (.int 0)),
  (20, List.replicate 9 (.int 0)),
  (4, [.int 0, .ref 286, .int (-1), .int (-1), .ref 287, .int 0]),
  (21, List.replicate 20 (.int 0)),
  (20, List.replicate 9 (.int 0)),
  (4, [.int 0, .ref 289, .int (-1), .int (-1), .ref 290, .int 0]),
  (21, List.replicate 20 (.int 0)),
  (20, List.replicate 9 (.int 0)),
  (4, [.int 0, .ref 292, .int (-1), .int (-1), .ref 293, .int 0]),
  (21, List.replicate 20 (.int 0)),
  (20, List.replicate 9 (.int 0)),
  (4, [.int 0, .ref 295, .int (-1), .int (-1), .ref 296, .int 0]),
  (21, List.replicate 20 (.int 0)),
  (20, List.replicate 9 (.int 0)),
  (8, [.int 0, .int 0, .int 0, .int 45, .int 0, .int 109, .int 0, .ref 298, .int 0]),
  (27, [.ref 299, .ref 302, .ref 305, .ref 308, .ref 311]),
  (4, [.int 0, .ref 300, .int (-1), .int (-1), .ref 301, .int 0]),
  (21, List.replicate 20 (.int 0))]
def x_oX12_3 : AH := [
  (20, List.replicate 9 (.int 0)),
  (4, [.int 0, .ref 303, .int (-1), .int (-1), .ref 304, .int 0]),
  (21, List.replicate 20 (.int 0)),
  (20, List.replicate 9 (.int 0)),
  (4, [.int 0, .ref 306, .int (-1), .int (-1), .ref 307, .int 0]),
  (21, List.replicate 20 (.int 0)),
  (20, List.replicate 9 (.int 0)),
  (4, [.int 0, .ref 309, .int (-1), .int (-1), .ref 310, .int 0]),
  (21, List.replicate 20 (.int 0)),
  (20, List.replicate 9 (.int 0)),
  (4, [.int 0, .ref 312, .int (-1), .int (-1), .ref 313, .int 0]),
  (21, List.replicate 20 (.int 0)),
  (20, List.replicate 9 (.int 0)),
  (8, [.int 0, .int 0, .int 0, .int 45, .int 0, .int 109, .int 0, .ref 315, .int 0]),
  (27, [.ref 316, .ref 319, .ref 322, .ref 325, .ref 328]),
  (4, [.int 0, .ref 317, .int (-1), .int (-1), .ref 318, .int 0]),
  (21, List.replicate 20 (.int 0)),
  (20, List.replicate 9 (.int 0)),
  (4, [.int 0, .ref 320, .int (-1), .int (-1), .ref 321, .int 0]),
  (21, List.replicate 20 (.int 0)),
  (20, List.replicate 9 (.int 0)),
  (4, [.int 0, .ref 323, .int (-1), .int (-1), .ref 324, .int 0]),
  (21, List.replicate 20 (.int 0)),
  (20, List.replicate 9 (.int 0)),
  (4, [.int 0, .ref 326, .int (-1), .int (-1), .ref 327, .int 0]),
  (21, List.replicate 20 (.int 0)),
  (20, List.replicate 9 (.int 0)),
  (4, [.int 0, .ref 329, .int (-1), .int (-1), .ref 330, .int 0]),
  (21, List.replicate 20 (.int 0)),
  (20, List.replicate 9 (.int 0)),
  (8, [.int 0, .int 0, .int 0, .int 45, .int 0, .int 109, .int 0, .ref 332, .int 0]),
  (27, [.ref 333, .ref 336, .ref 339, .ref 342, .ref 345]),
  (4, [.int 0, .ref 334, .int (-1), .int (-1), .ref 335, .int 0]),
  (21, List.replicate 20 (.int 0)),
  (20, List.replicate 9 (.int 0)),
  (4, [.int 0, .ref 337, .int (-1), .int (-1), .ref 338, .int 0]),
  (21, List.replicate 20 (.int 0)),
  (20, List.replicate 9 (.int 0)),
  (4, [.int 0, .ref 340, .int (-1), .int (-1), .ref 341, .int 0]),
  (21, List.replicate 20 (.int 0)),
  (20, List.replicate 9 (.int 0)),
  (4, [.int 0, .ref 343, .int (-1), .int (-1), .ref 344, .int 0]),
  (21, List.replicate 20 (.int 0)),
  (20, List.replicate 9 (.int 0)),
  (4, [.int 0, .ref 346, .int (-1), .int (-1), .ref 347, .int 0]),
  (21, List.replicate 20 (.int 0)),
  (20, List.replicate 9 (.int 0)),
  (8, [.int 0, .int 0, .int 0, .int 45, .int 0, .int 109, .int 0, .ref 349, .int 0]),
  (27, [.ref 350, .ref 353, .ref 356, .ref 359, .ref 362]),
  (4, [.int 0, .ref 351, .int (-1), .int (-1), .ref 352, .int 0]),
  (21, List.replicate 20 (.int 0)),
  (20, List.replicate 9 (.int 0)),
  (4, [.int 0, .ref 354, .int (-1), .int (-1), .ref 355, .int 0]),
  (21, List.replicate 20 (.int 0)),
  (20, List.replicate 9 (.int 0)),
  (4, [.int 0, .ref 357, .int (-1), .int (-1), .ref 358, .int 0]),
  (21, List.replicate 20 (.int 0)),
  (20, List.replicate 9 (.int 0)),
  (4, [.int 0, .ref 360, .int (-1), .int (-1), .ref 361, .int 0]),
  (21, List.replicate 20 (.int 0)),
  (20, List.replicate 9 (.int 0)),
  (4, [.int 0, .ref 363, .int (-1), .int (-1), .ref 364, .int 0]),
  (21, List.replicate 20 (.int 0)),
  (20, List.replicate 9 (.int 0)),
  (12, [.ref 366, .ref 367, .ref 368, .ref 369, .ref 370, .ref 371, .ref 372, .ref 373, .ref 374, .ref 375, .ref 376, .ref 377, .ref 398, .ref 419, .ref 420, .ref 421, .ref 422, .ref 423, .ref 424, .ref 425, .ref 426, .ref 427, .ref 428, .ref 489, .ref 490, .ref 491, .ref 492, .ref 493, .ref 494, .ref 555, .ref 556, .ref 617, .ref 618, .ref 619, .ref 620, .ref 626, .ref 657, .ref 688, .ref 694, .ref 725, .ref 726, .ref 767, .ref 768, .ref 769, .int 0, .int 0, .int 0, .int 0, .int 0, .int 0, .int 0, .int 0, .int 0, .int 0, .int 0, .int 0]),
  (22, List.replicate 20 (.int 0)),
  (20, List.replicate 20 (.int 0)),
  (20, List.replicate 20 (.int 0)),
  (20, List.replicate 20 (.int 0)),
  (20, List.replicate 20 (.int 0)),
  (20, List.replicate 20 (.int 0)),
  (21, List.replicate 20 (.int 0)),
  (22, List.replicate 20 (.int 0)),
  (20, List.replicate 20 (.int 0)),
  (20, List.replicate 8 (.int 0)),
  (20, List.replicate 8 (.int 0)),
  (30, [.ref 378, .ref 379, .ref 380, .ref 381, .ref 382, .ref 383, .ref 384, .ref 385, .ref 386, .ref 387, .ref 388, .ref 389, .ref 390, .ref 391, .ref 392, .ref 393, .ref 394, .ref 395, .ref 396, .ref 397]),
  (21, List.replicate 8 (.int 0)),
  (21, List.replicate 8 (.int 0)),
  (21, List.replicate 8 (.int 0)),
  (21, List.replicate 8 (.int 0)),
  (21, List.replicate 8 (.int 0)),
  (21, List.replicate 8 (.int 0)),
  (21, List.replicate 8 (.int 0)),
  (21, List.replicate 8 (.int 0)),
  (21, List.replicate 8 (.int 0)),
  (21, List.replicate 8 (.int 0)),
  (21, List.replicate 8 (.int 0)),
  (21, List.replicate 8 (.int 0)),
  (21, List.replicate 8 (.int 0)),
  (21, List.replicate 8 (.int 0)),
  (21, List.replicate 8 (.int 0)),
  (21, List.replicate 8 (.int 0)),
  (21, List.replicate 8 (.int 0)),
  (21, List.replicate 8 (.int 0)),
  (21, List.replicate 8 (.int 0)),
  (21, List.replicate 8 (.int 0)),
  (29, [.ref 399, .ref 400, .ref 401, .ref 402, .ref 403, .ref 404, .ref 405, .ref 406, .ref 407, .ref 408, .ref 409, .ref 410, .ref 411, .ref 412, .ref 413, .ref 414, .ref 415, .ref 416, .ref 417, .ref 418]),
  (20, List.replicate 8 (.int 0)),
  (20, List.replicate 8 (.int 0))]
def x_oX12_4 : AH := [
  (20, List.replicate 8 (.int 0)),
  (20, List.replicate 8 (.int 0)),
  (20, List.replicate 8 (.int 0)),
  (20, List.replicate 8 (.int 0)),
  (20, List.replicate 8 (.int 0)),
  (20, List.replicate 8 (.int 0)),
  (20, List.replicate 8 (.int 0)),
  (20, List.replicate 8 (.int 0)),
  (20, List.replicate 8 (.int 0)),
  (20, List.replicate 8 (.int 0)),
  (20, List.replicate 8 (.int 0)),
  (20, List.replicate 8 (.int 0)),
  (20, List.replicate 8 (.int 0)),
  (20, List.replicate 8 (.int 0)),
  (20, List.replicate 8 (.int 0)),
  (20, List.replicate 8 (.int 0)),
  (20, List.replicate 8 (.int 0)),
  (20, List.replicate 8 (.int 0)),
  (20, List.replicate 5 (.int 0)),
  (20, List.replicate 5 (.int 0)),
  (20, List.replicate 5 (.int 0)),
  (22, List.replicate 5 (.int 0)),
  (20, List.replicate 5 (.int 0)),
  (22, List.replicate 5 (.int 0)),
  (21, List.replicate 5 (.int 0)),
  (20, List.replicate 4 (.int 0)),
  (21, List.replicate 4 (.int 0)),
  (29, [.ref 429, .ref 430, .ref 431, .ref 432, .ref 433, .ref 434, .ref 435, .ref 436, .ref 437, .ref 438, .ref 439, .ref 440, .ref 441, .ref 442, .ref 443, .ref 444, .ref 445, .ref 446, .ref 447, .ref 448, .ref 449, .ref 450, .ref 451, .ref 452, .ref 453, .ref 454, .ref 455, .ref 456, .ref 457, .ref 458, .ref 459, .ref 460, .ref 461, .ref 462, .ref 463, .ref 464, .ref 465, .ref 466, .ref 467, .ref 468, .ref 469, .ref 470, .ref 471, .ref 472, .ref 473, .ref 474, .ref 475, .ref 476, .ref 477, .ref 478, .ref 479, .ref 480, .ref 481, .ref 482, .ref 483, .ref 484, .ref 485, .ref 486, .ref 487, .ref 488]),
  (20, List.replicate 4 (.int 0)),
  (20, List.replicate 4 (.int 0)),
  (20, List.replicate 4 (.int 0)),
  (20, List.replicate 4 (.int 0)),
  (20, List.replicate 4 (.int 0)),
  (20, List.replicate 4 (.int 0)),
  (20, List.replicate 4 (.int 0)),
  (20, List.replicate 4 (.int 0)),
  (20, List.replicate 4 (.int 0)),
  (20, List.replicate 4 (.int 0)),
  (20, List.replicate 4 (.int 0)),
  (20, List.replicate 4 (.int 0)),
  (20, List.replicate 4 (.int 0)),
  (20, List.replicate 4 (.int 0)),
  (20, List.replicate 4 (.int 0)),
  (20, List.replicate 4 (.int 0)),
  (20, List.replicate 4 (.int 0)),
  (20, List.replicate 4 (.int 0)),
  (20, List.replicate 4 (.int 0)),
  (20, List.replicate 4 (.int 0)),
  (20, List.replicate 4 (.int 0)),
  (20, List.replicate 4 (.int 0)),
  (20, List.replicate 4 (.int 0)),
  (20, List.replicate 4 (.int 0)),
  (20, List.replicate 4 (.int 0)),
  (20, List.replicate 4 (.int 0)),
  (20, List.replicate 4 (.int 0)),
  (20, List.replicate 4 (.int 0)),
  (20, List.replicate 4 (.int 0)),
  (20, List.replicate 4 (.int 0)),
  (20, List.replicate 4 (.int 0)),
  (20, List.replicate 4 (.int 0)),
  (20, List.replicate 4 (.int 0)),
  (20, List.replicate 4 (.int 0)),
  (20, List.replicate 4 (.int 0)),
  (20, List.replicate 4 (.int 0)),
  (20, List.replicate 4 (.int 0)),
  (20, List.replicate 4 (.int 0)),
  (20, List.replicate 4 (.int 0)),
  (20, List.replicate 4 (.int 0)),
  (20, List.replicate 4 (.int 0)),
  (20, List.replicate 4 (.int 0)),
  (20, List.replicate 4 (.int 0)),
  (20, List.replicate 4 (.int 0)),
  (20, List.replicate 4 (.int 0)),
  (20, List.replicate 4 (.int 0)),
  (20, List.replicate 4 (.int 0)),
  (20, List.replicate 4 (.int 0)),
  (20, List.replicate 4 (.int 0)),
  (20, List.replicate 4 (.int 0)),
  (20, List.replicate 4 (.int 0)),
  (20, List.replicate 4 (.int 0)),
  (20, List.replicate 4 (.int 0)),
  (20, List.replicate 4 (.int 0)),
  (20, List.replicate 4 (.int 0)),
  (20, List.replicate 4 (.int 0)),
  (20, List.replicate 4 (.int 0)),
  (20, List.replicate 4 (.int 0)),
  (20, List.replicate 4 (.int 0)),
  (20, List.replicate 4 (.int 0)),
  (20, List.replicate 60 (.int 0)),
  (20, List.replicate 60 (.int 0)),
  (20, List.replicate 60 (.int 0)),
  (22, List.replicate 60 (.int 0)),
  (21, List.replicate 60 (.int 0)),
  (29, [.ref 495, .ref 496, .ref 497, .ref 498, .ref 499, .ref 500, .ref 501, .ref 502, .ref 503, .ref 504, .ref 505, .ref 506, .ref 507, .ref 508, .ref 509, .ref 510, .ref 511, .ref 512, .ref 513, .ref 514, .ref 515, .ref 516, .ref 517, .ref 518, .ref 519, .ref 520, .ref 521, .ref 522, .ref 523, .ref 524, .ref 525, .ref 526, .ref 527, .ref 528, .ref 529, .ref 530, .ref 531, .ref 532, .ref 533, .ref 534, .ref 535, .ref 536, .ref 537, .ref 538, .ref 539, .ref 540, .ref 541, .ref 542, .ref 543, .ref 544, .ref 545, .ref 546, .ref 547, .ref 548, .ref 549, .ref 550, .ref 551, .ref 552, .ref 553, .ref 554]),
  (20, List.replicate 16 (.int 0)),
  (20, List.replicate 16 (.int 0)),
  (20, List.replicate 16 (.int 0)),
  (20, List.replicate 16 (.int 0)),
  (20, List.replicate 16 (.int 0)),
  (20, List.replicate 16 (.int 0))]
def x_oX12_5 : AH := [
  (20, List.replicate 16 (.int 0)),
  (20, List.replicate 16 (.int 0)),
  (20, List.replicate 16 (.int 0)),
  (20, List.replicate 16 (.int 0)),
  (20, List.replicate 16 (.int 0)),
  (20, List.replicate 16 (.int 0)),
  (20, List.replicate 16 (.int 0)),
  (20, List.replicate 16 (.int 0)),
  (20, List.replicate 16 (.int 0)),
  (20, List.replicate 16 (.int 0)),
  (20, List.replicate 16 (.int 0)),
  (20, List.replicate 16 (.int 0)),
  (20, List.replicate 16 (.int 0)),
  (20, List.replicate 16 (.int 0)),
  (20, List.replicate 16 (.int 0)),
  (20, List.replicate 16 (.int 0)),
  (20, List.replicate 16 (.int 0)),
  (20, List.replicate 16 (.int 0)),
  (20, List.replicate 16 (.int 0)),
  (20, List.replicate 16 (.int 0)),
  (20, List.replicate 16 (.int 0)),
  (20, List.replicate 16 (.int 0)),
  (20, List.replicate 16 (.int 0)),
  (20, List.replicate 16 (.int 0)),
  (20, List.replicate 16 (.int 0)),
  (20, List.replicate 16 (.int 0)),
  (20, List.replicate 16 (.int 0)),
  (20, List.replicate 16 (.int 0)),
  (20, List.replicate 16 (.int 0)),
  (20, List.replicate 16 (.int 0)),
  (20, List.replicate 16 (.int 0)),
  (20, List.replicate 16 (.int 0)),
  (20, List.replicate 16 (.int 0)),
  (20, List.replicate 16 (.int 0)),
  (20, List.replicate 16 (.int 0)),
  (20, List.replicate 16 (.int 0)),
  (20, List.replicate 16 (.int 0)),
  (20, List.replicate 16 (.int 0)),
  (20, List.replicate 16 (.int 0)),
  (20, List.replicate 16 (.int 0)),
  (20, List.replicate 16 (.int 0)),
  (20, List.replicate 16 (.int 0)),
  (20, List.replicate 16 (.int 0)),
  (20, List.replicate 16 (.int 0)),
  (20, List.replicate 16 (.int 0)),
  (20, List.replicate 16 (.int 0)),
  (20, List.replicate 16 (.int 0)),
  (20, List.replicate 16 (.int 0)),
  (20, List.replicate 16 (.int 0)),
  (20, List.replicate 16 (.int 0)),
  (20, List.replicate 16 (.int 0)),
  (20, List.replicate 16 (.int 0)),
  (20, List.replicate 16 (.int 0)),
  (20, List.replicate 16 (.int 0)),
  (20, List.replicate 60 (.int 0)),
  (30, [.ref 557, .ref 558, .ref 559, .ref 560, .ref 561, .ref 562, .ref 563, .ref 564, .ref 565, .ref 566, .ref 567, .ref 568, .ref 569, .ref 570, .ref 571, .ref 572, .ref 573, .ref 574, .ref 575, .ref 576, .ref 577, .ref 578, .ref 579, .ref 580, .ref 581, .ref 582, .ref 583, .ref 584, .ref 585, .ref 586, .ref 587, .ref 588, .ref 589, .ref 590, .ref 591, .ref 592, .ref 593, .ref 594, .ref 595, .ref 596, .ref 597, .ref 598, .ref 599, .ref 600, .ref 601, .ref 602, .ref 603, .ref 604, .ref 605, .ref 606, .ref 607, .ref 608, .ref 609, .ref 610, .ref 611, .ref 612, .ref 613, .ref 614, .ref 615, .ref 616]),
  (21, List.replicate 16 (.int 0)),
  (21, List.replicate 16 (.int 0)),
  (21, List.replicate 16 (.int 0)),
  (21, List.replicate 16 (.int 0)),
  (21, List.replicate 16 (.int 0)),
  (21, List.replicate 16 (.int 0)),
  (21, List.replicate 16 (.int 0)),
  (21, List.replicate 16 (.int 0)),
  (21, List.replicate 16 (.int 0)),
  (21, List.replicate 16 (.int 0)),
  (21, List.replicate 16 (.int 0)),
  (21, List.replicate 16 (.int 0)),
  (21, List.replicate 16 (.int 0)),
  (21, List.replicate 16 (.int 0)),
  (21, List.replicate 16 (.int 0)),
  (21, List.replicate 16 (.int 0)),
  (21, List.replicate 16 (.int 0)),
  (21, List.replicate 16 (.int 0)),
  (21, List.replicate 16 (.int 0)),
  (21, List.replicate 16 (.int 0)),
  (21, List.replicate 16 (.int 0)),
  (21, List.replicate 16 (.int 0)),
  (21, List.replicate 16 (.int 0)),
  (21, List.replicate 16 (.int 0)),
  (21, List.replicate 16 (.int 0)),
  (21, List.replicate 16 (.int 0)),
  (21, List.replicate 16 (.int 0)),
  (21, List.replicate 16 (.int 0)),
  (21, List.replicate 16 (.int 0)),
  (21, List.replicate 16 (.int 0)),
  (21, List.replicate 16 (.int 0)),
  (21, List.replicate 16 (.int 0)),
  (21, List.replicate 16 (.int 0)),
  (21, List.replicate 16 (.int 0)),
  (21, List.replicate 16 (.int 0)),
  (21, List.replicate 16 (.int 0)),
  (21, List.replicate 16 (.int 0)),
  (21, List.replicate 16 (.int 0)),
  (21, List.replicate 16 (.int 0)),
  (21, List.replicate 16 (.int 0)),
  (21, List.replicate 16 (.int 0)),
  (21, List.replicate 16 (.int 0)),
  (21, List.replicate 16 (.int 0)),
  (21, List.replicate 16 (.int 0))]
def x_oX12_6 : AH := [
  (21, List.replicate 16 (.int 0)),
  (21, List.replicate 16 (.int 0)),
  (21, List.replicate 16 (.int 0)),
  (21, List.replicate 16 (.int 0)),
  (21, List.replicate 16 (.int 0)),
  (21, List.replicate 16 (.int 0)),
  (21, List.replicate 16 (.int 0)),
  (21, List.replicate 16 (.int 0)),
  (21, List.replicate 16 (.int 0)),
  (21, List.replicate 16 (.int 0)),
  (21, List.replicate 16 (.int 0)),
  (21, List.replicate 16 (.int 0)),
  (21, List.replicate 16 (.int 0)),
  (21, List.replicate 16 (.int 0)),
  (21, List.replicate 16 (.int 0)),
  (21, List.replicate 16 (.int 0)),
  (21, List.replicate 10 (.int 0)),
  (20, List.replicate 16 (.int 0)),
  (20, List.replicate 5 (.int 0)),
  (29, [.ref 621, .ref 622, .ref 623, .ref 624, .ref 625]),
  (20, List.replicate 5 (.int 0)),
  (20, List.replicate 5 (.int 0)),
  (20, List.replicate 5 (.int 0)),
  (20, List.replicate 5 (.int 0)),
  (20, List.replicate 5 (.int 0)),
  (32, [.ref 627, .ref 633, .ref 639, .ref 645, .ref 651]),
  (30, [.ref 628, .ref 629, .ref 630, .ref 631, .ref 632]),
  (21, List.replicate 20 (.int 0)),
  (21, List.replicate 20 (.int 0)),
  (21, List.replicate 20 (.int 0)),
  (21, List.replicate 20 (.int 0)),
  (21, List.replicate 20 (.int 0)),
  (30, [.ref 634, .ref 635, .ref 636, .ref 637, .ref 638]),
  (21, List.replicate 20 (.int 0)),
  (21, List.replicate 20 (.int 0)),
  (21, List.replicate 20 (.int 0)),
  (21, List.replicate 20 (.int 0)),
  (21, List.replicate 20 (.int 0)),
  (30, [.ref 640, .ref 641, .ref 642, .ref 643, .ref 644]),
  (21, List.replicate 20 (.int 0)),
  (21, List.replicate 20 (.int 0)),
  (21, List.replicate 20 (.int 0)),
  (21, List.replicate 20 (.int 0)),
  (21, List.replicate 20 (.int 0)),
  (30, [.ref 646, .ref 647, .ref 648, .ref 649, .ref 650]),
  (21, List.replicate 20 (.int 0)),
  (21, List.replicate 20 (.int 0)),
  (21, List.replicate 20 (.int 0)),
  (21, List.replicate 20 (.int 0)),
  (21, List.replicate 20 (.int 0)),
  (30, [.ref 652, .ref 653, .ref 654, .ref 655, .ref 656]),
  (21, List.replicate 20 (.int 0)),
  (21, List.replicate 20 (.int 0)),
  (21, List.replicate 20 (.int 0)),
  (21, List.replicate 20 (.int 0)),
  (21, List.replicate 20 (.int 0)),
  (31, [.ref 658, .ref 664, .ref 670, .ref 676, .ref 682]),
  (29, [.ref 659, .ref 660, .ref 661, .ref 662, .ref 663]),
  (20, List.replicate 51 (.int 0)),
  (20, List.replicate 51 (.int 0)),
  (20, List.replicate 51 (.int 0)),
  (20, List.replicate 51 (.int 0)),
  (20, List.replicate 51 (.int 0)),
  (29, [.ref 665, .ref 666, .ref 667, .ref 668, .ref 669]),
  (20, List.replicate 51 (.int 0)),
  (20, List.replicate 51 (.int 0)),
  (20, List.replicate 51 (.int 0)),
  (20, List.replicate 51 (.int 0)),
  (20, List.replicate 51 (.int 0)),
  (29, [.ref 671, .ref 672, .ref 673, .ref 674, .ref 675]),
  (20, List.replicate 51 (.int 0)),
  (20, List.replicate 51 (.int 0)),
  (20, List.replicate 51 (.int 0)),
  (20, List.replicate 51 (.int 0)),
  (20, List.replicate 51 (.int 0)),
  (29, [.ref 677, .ref 678, .ref 679, .ref 680, .ref 681]),
  (20, List.replicate 51 (.int 0)),
  (20, List.replicate 51 (.int 0)),
  (20, List.replicate 51 (.int 0)),
  (20, List.replicate 51 (.int 0)),
  (20, List.replicate 51 (.int 0)),
  (29, [.ref 683, .ref 684, .ref 685, .ref 686, .ref 687]),
  (20, List.replicate 51 (.int 0)),
  (20, List.replicate 51 (.int 0)),
  (20, List.replicate 51 (.int 0)),
  (20, List.replicate 51 (.int 0)),
  (20, List.replicate 51 (.int 0)),
  (29, [.ref 689, .ref 690, .ref 691, .ref 692, .ref 693]),
  (20, List.replicate 5 (.int 0)),
  (20, List.replicate 5 (.int 0)),
  (20, List.replicate 5 (.int 0)),
  (20, List.replicate 5 (.int 0)),
  (20, List.replicate 5 (.int 0)),
  (31, [.ref 695, .ref 701, .ref 707, .ref 713, .ref 719]),
  (29, [.ref 696, .ref 697, .ref 698, .ref 699, .ref 700]),
  (20, List.replicate 9 (.int 0)),
  (20, List.replicate 9 (.int 0)),
  (20, List.replicate 9 (.int 0)),
  (20, List.replicate 9 (.int 0)),
  (20, List.replicate 9 (.int 0))]
def x_oX12_7 : AH := [
  (29, [.ref 702, .ref 703, .ref 704, .ref 705, .ref 706]),
  (20, List.replicate 9 (.int 0)),
  (20, List.replicate 9 (.int 0)),
  (20, List.replicate 9 (.int 0)),
  (20, List.replicate 9 (.int 0)),
  (20, List.replicate 9 (.int 0)),
  (29, [.ref 708, .ref 709, .ref 710, .ref 711, .ref 712]),
  (20, List.replicate 9 (.int 0)),
  (20, List.replicate 9 (.int 0)),
  (20, List.replicate 9 (.int 0)),
  (20, List.replicate 9 (.int 0)),
  (20, List.replicate 9 (.int 0)),
  (29, [.ref 714, .ref 715, .ref 716, .ref 717, .ref 718]),
  (20, List.replicate 9 (.int 0)),
  (20, List.replicate 9 (.int 0)),
  (20, List.replicate 9 (.int 0)),
  (20, List.replicate 9 (.int 0)),
  (20, List.replicate 9 (.int 0)),
  (29, [.ref 720, .ref 721, .ref 722, .ref 723, .ref 724]),
  (20, List.replicate 9 (.int 0)),
  (20, List.replicate 9 (.int 0)),
  (20, List.replicate 9 (.int 0)),
  (20, List.replicate 9 (.int 0)),
  (20, List.replicate 9 (.int 0)),
  (20, List.replicate 9 (.int 0)),
  (29, [.ref 727, .ref 728, .ref 729, .ref 730, .ref 731, .ref 732, .ref 733, .ref 734, .ref 735, .ref 736, .ref 737, .ref 738, .ref 739, .ref 740, .ref 741, .ref 742, .ref 743, .ref 744, .ref 745, .ref 746, .ref 747, .ref 748, .ref 749, .ref 750, .ref 751, .ref 752, .ref 753, .ref 754, .ref 755, .ref 756, .ref 757, .ref 758, .ref 759, .ref 760, .ref 761, .ref 762, .ref 763, .ref 764, .ref 765, .ref 766]),
  (20, List.replicate 5 (.int 0)),
  (20, List.replicate 5 (.int 0)),
  (20, List.replicate 5 (.int 0)),
  (20, List.replicate 5 (.int 0)),
  (20, List.replicate 5 (.int 0)),
  (20, List.replicate 5 (.int 0)),
  (20, List.replicate 5 (.int 0)),
  (20, List.replicate 5 (.int 0)),
  (20, List.replicate 5 (.int 0)),
  (20, List.replicate 5 (.int 0)),
  (20, List.replicate 5 (.int 0)),
  (20, List.replicate 5 (.int 0)),
  (20, List.replicate 5 (.int 0)),
  (20, List.replicate 5 (.int 0)),
  (20, List.replicate 5 (.int 0)),
  (20, List.replicate 5 (.int 0)),
  (20, List.replicate 5 (.int 0)),
  (20, List.replicate 5 (.int 0)),
  (20, List.replicate 5 (.int 0)),
  (20, List.replicate 5 (.int 0)),
  (20, List.replicate 5 (.int 0)),
  (20, List.replicate 5 (.int 0)),
  (20, List.replicate 5 (.int 0)),
  (20, List.replicate 5 (.int 0)),
  (20, List.replicate 5 (.int 0)),
  (20, List.replicate 5 (.int 0)),
  (20, List.replicate 5 (.int 0)),
  (20, List.replicate 5 (.int 0)),
  (20, List.replicate 5 (.int 0)),
  (20, List.replicate 5 (.int 0)),
  (20, List.replicate 5 (.int 0)),
  (20, List.replicate 5 (.int 0)),
  (20, List.replicate 5 (.int 0)),
  (20, List.replicate 5 (.int 0)),
  (20, List.replicate 5 (.int 0)),
  (20, List.replicate 5 (.int 0)),
  (20, List.replicate 5 (.int 0)),
  (20, List.replicate 5 (.int 0)),
  (20, List.replicate 5 (.int 0)),
  (20, List.replicate 5 (.int 0)),
  (22, List.replicate 400 (.int 0)),
  (20, List.replicate 400 (.int 0)),
  (21, List.replicate 20 (.int 0))]
def x_oX12 : AH := x_oX12_0 ++ (x_oX12_1 ++ (x_oX12_2 ++ (x_oX12_3 ++ (x_oX12_4 ++ (x_oX12_5 ++ (x_oX12_6 ++ (x_oX12_7)))))))
def x_eX12 : XE := (162, 365, x_iX12, x_oX12, 404, 6549)
theorem x_piX12 : x_pure x_iX12 = true := by decide +kernel
theorem x_poX12 : x_pure x_oX12 = true := by decide +kernel
theorem x_rX12 : x_is (x_run [] 12 3000 [] 162 [.ref 365] ((99, []) :: x_iX12)) x_oX12 404 6549 = true := by decide +kernel
theorem x_qX12 : x_P 13 3000 x_eX12 :=
  x_entry (fun e he => by cases he) x_piX12 x_poX12 x_rX12
end
