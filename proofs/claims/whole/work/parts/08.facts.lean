/-! FACTS OF THE INSTRUCTIONS, by program -/
theorem r_0 : ∀ q ∈ cd_0, decode (mB 0) q.1 = .ok (q.2.2.1, q.2.1) := sm_all (by decide +kernel)
theorem fs_0 : ∀ q ∈ sp_0, sm_F 0 q.1 q.2.2.2 q.2.1 := sm_rsl (fun q h => r_0 q (List.mem_append_left _ h)) (by decide +kernel)
theorem fl_0 : ∀ q ∈ lk_0, sm_F 0 q.1 q.2.2.2 q.2.1 := List.forall_mem_cons.mpr ⟨(⟨by decide, rfl, 7, (r_0 (0, 3, .new 7, .new 0) (List.mem_of_getElem? (i := 156) rfl)), tw_t17, tw_t18, tw_t1⟩ : sm_F 0 0 (.new 0) 3),
  List.forall_mem_cons.mpr ⟨(⟨rfl, mf_92, tw_t720, 9, (r_0 (6, 3, .invokestatic 9, .invokestatic 92) (List.mem_of_getElem? (i := 157) rfl)), Or.inl tw_t719⟩ : sm_F 0 6 (.invokestatic 92) 3),
  List.forall_mem_cons.mpr ⟨(⟨rfl, mf_1, tw_t20, rfl, rfl, 15, (r_0 (9, 3, .invokespecial 15, .invokespecial 1) (List.mem_of_getElem? (i := 158) rfl)), Or.inl tw_t19⟩ : sm_F 0 9 (.invokespecial 1) 3),
  List.forall_mem_cons.mpr ⟨(⟨by decide, rfl, 18, (r_0 (13, 3, .new 18, .new 8) (List.mem_of_getElem? (i := 159) rfl)), tw_t722, tw_t723, tw_t10⟩ : sm_F 0 13 (.new 8) 3),
  List.forall_mem_cons.mpr ⟨(⟨rfl, mf_92, tw_t720, 9, (r_0 (19, 3, .invokestatic 9, .invokestatic 92) (List.mem_of_getElem? (i := 160) rfl)), Or.inl tw_t719⟩ : sm_F 0 19 (.invokestatic 92) 3),
  List.forall_mem_cons.mpr ⟨(⟨rfl, mf_93, tw_t725, rfl, rfl, 20, (r_0 (22, 3, .invokespecial 20, .invokespecial 93) (List.mem_of_getElem? (i := 161) rfl)), Or.inl tw_t724⟩ : sm_F 0 22 (.invokespecial 93) 3),
  List.forall_mem_cons.mpr ⟨(⟨rfl, mf_9, tw_t189, tw_t190, rfl, by decide, 21, (r_0 (118, 3, .invokevirtual 21, .invokevirtual 9) (List.mem_of_getElem? (i := 162) rfl)), Or.inl tw_t188⟩ : sm_F 0 118 (.invokevirtual 9) 3),
  List.forall_mem_cons.mpr ⟨(⟨rfl, mf_94, tw_t806, tw_t807, rfl, by decide, 25, (r_0 (127, 3, .invokevirtual 25, .invokevirtual 94) (List.mem_of_getElem? (i := 163) rfl)), Or.inl tw_t805⟩ : sm_F 0 127 (.invokevirtual 94) 3),
  List.forall_mem_cons.mpr ⟨(⟨rfl, mf_12, tw_t204, tw_t205, rfl, by decide, 26, (r_0 (141, 3, .invokevirtual 26, .invokevirtual 12) (List.mem_of_getElem? (i := 164) rfl)), Or.inl tw_t203⟩ : sm_F 0 141 (.invokevirtual 12) 3),
  List.forall_mem_cons.mpr ⟨(⟨rfl, mf_95, tw_t810, tw_t811, rfl, by decide, 29, (r_0 (150, 3, .invokevirtual 29, .invokevirtual 95) (List.mem_of_getElem? (i := 165) rfl)), Or.inl tw_t809⟩ : sm_F 0 150 (.invokevirtual 95) 3),
  List.forall_mem_cons.mpr ⟨(⟨rfl, mf_21, tw_t328, tw_t329, rfl, by decide, 30, (r_0 (159, 3, .invokevirtual 30, .invokevirtual 21) (List.mem_of_getElem? (i := 166) rfl)), Or.inl tw_t327⟩ : sm_F 0 159 (.invokevirtual 21) 3),
  List.forall_mem_cons.mpr ⟨(⟨rfl, mf_99, tw_t826, tw_t827, rfl, by decide, 34, (r_0 (163, 3, .invokevirtual 34, .invokevirtual 99) (List.mem_of_getElem? (i := 167) rfl)), Or.inl tw_t825⟩ : sm_F 0 163 (.invokevirtual 99) 3),
  List.forall_mem_cons.mpr ⟨(⟨rfl, mf_22, tw_t332, tw_t333, rfl, by decide, 35, (r_0 (172, 3, .invokevirtual 35, .invokevirtual 22) (List.mem_of_getElem? (i := 168) rfl)), Or.inl tw_t331⟩ : sm_F 0 172 (.invokevirtual 22) 3),
  List.forall_mem_cons.mpr ⟨(⟨rfl, mf_100, tw_t830, tw_t831, rfl, by decide, 38, (r_0 (176, 3, .invokevirtual 38, .invokevirtual 100) (List.mem_of_getElem? (i := 169) rfl)), Or.inl tw_t829⟩ : sm_F 0 176 (.invokevirtual 100) 3),
  List.forall_mem_cons.mpr ⟨(⟨rfl, mf_25, tw_t367, tw_t368, rfl, by decide, 39, (r_0 (190, 3, .invokevirtual 39, .invokevirtual 25) (List.mem_of_getElem? (i := 170) rfl)), Or.inl tw_t366⟩ : sm_F 0 190 (.invokevirtual 25) 3),
  List.forall_mem_cons.mpr ⟨(⟨rfl, mf_101, tw_t834, tw_t835, rfl, by decide, 42, (r_0 (199, 3, .invokevirtual 42, .invokevirtual 101) (List.mem_of_getElem? (i := 171) rfl)), Or.inl tw_t833⟩ : sm_F 0 199 (.invokevirtual 101) 3),
  List.forall_mem_cons.mpr ⟨(⟨rfl, mf_29, tw_t383, tw_t384, rfl, by decide, 43, (r_0 (208, 3, .invokevirtual 43, .invokevirtual 29) (List.mem_of_getElem? (i := 172) rfl)), Or.inl tw_t382⟩ : sm_F 0 208 (.invokevirtual 29) 3),
  List.forall_mem_cons.mpr ⟨(⟨rfl, mf_102, tw_t838, tw_t839, rfl, by decide, 46, (r_0 (212, 3, .invokevirtual 46, .invokevirtual 102) (List.mem_of_getElem? (i := 173) rfl)), Or.inl tw_t837⟩ : sm_F 0 212 (.invokevirtual 102) 3),
  List.forall_mem_cons.mpr ⟨(⟨rfl, mf_31, tw_t391, tw_t392, rfl, by decide, 47, (r_0 (221, 3, .invokevirtual 47, .invokevirtual 31) (List.mem_of_getElem? (i := 174) rfl)), Or.inl tw_t390⟩ : sm_F 0 221 (.invokevirtual 31) 3),
  List.forall_mem_cons.mpr ⟨(⟨rfl, mf_103, tw_t842, tw_t843, rfl, by decide, 50, (r_0 (225, 3, .invokevirtual 50, .invokevirtual 103) (List.mem_of_getElem? (i := 175) rfl)), Or.inl tw_t841⟩ : sm_F 0 225 (.invokevirtual 103) 3),
  List.forall_mem_cons.mpr ⟨(⟨rfl, mf_65, tw_t593, tw_t594, rfl, by decide, 51, (r_0 (234, 3, .invokevirtual 51, .invokevirtual 65) (List.mem_of_getElem? (i := 176) rfl)), Or.inl tw_t592⟩ : sm_F 0 234 (.invokevirtual 65) 3),
  List.forall_mem_cons.mpr ⟨(⟨rfl, mf_129, tw_t989, tw_t990, rfl, by decide, 54, (r_0 (238, 3, .invokevirtual 54, .invokevirtual 129) (List.mem_of_getElem? (i := 177) rfl)), Or.inl tw_t988⟩ : sm_F 0 238 (.invokevirtual 129) 3),
  List.forall_mem_cons.mpr ⟨(⟨rfl, mf_68, tw_t609, tw_t610, rfl, by decide, 55, (r_0 (247, 3, .invokevirtual 55, .invokevirtual 68) (List.mem_of_getElem? (i := 178) rfl)), Or.inl tw_t608⟩ : sm_F 0 247 (.invokevirtual 68) 3),
  List.forall_mem_cons.mpr ⟨(⟨rfl, mf_132, tw_t1008, tw_t1009, rfl, by decide, 58, (r_0 (251, 3, .invokevirtual 58, .invokevirtual 132) (List.mem_of_getElem? (i := 179) rfl)), Or.inl tw_t1007⟩ : sm_F 0 251 (.invokevirtual 132) 3),
  List.forall_mem_cons.mpr ⟨(⟨rfl, mf_69, tw_t613, tw_t614, rfl, by decide, 59, (r_0 (260, 3, .invokevirtual 59, .invokevirtual 69) (List.mem_of_getElem? (i := 180) rfl)), Or.inl tw_t612⟩ : sm_F 0 260 (.invokevirtual 69) 3),
  List.forall_mem_cons.mpr ⟨(⟨rfl, mf_133, tw_t1012, tw_t1013, rfl, by decide, 62, (r_0 (264, 3, .invokevirtual 62, .invokevirtual 133) (List.mem_of_getElem? (i := 181) rfl)), Or.inl tw_t1011⟩ : sm_F 0 264 (.invokevirtual 133) 3),
  List.forall_mem_cons.mpr ⟨(⟨rfl, mf_72, tw_t625, tw_t626, rfl, by decide, 63, (r_0 (273, 3, .invokevirtual 63, .invokevirtual 72) (List.mem_of_getElem? (i := 182) rfl)), Or.inl tw_t624⟩ : sm_F 0 273 (.invokevirtual 72) 3),
  List.forall_mem_cons.mpr ⟨(⟨rfl, mf_134, tw_t1016, tw_t1017, rfl, by decide, 66, (r_0 (277, 3, .invokevirtual 66, .invokevirtual 134) (List.mem_of_getElem? (i := 183) rfl)), Or.inl tw_t1015⟩ : sm_F 0 277 (.invokevirtual 134) 3),
  List.forall_mem_cons.mpr ⟨(⟨rfl, mf_83, tw_t684, tw_t685, rfl, by decide, 67, (r_0 (291, 3, .invokevirtual 67, .invokevirtual 83) (List.mem_of_getElem? (i := 184) rfl)), Or.inl tw_t683⟩ : sm_F 0 291 (.invokevirtual 83) 3),
  List.forall_mem_cons.mpr ⟨(⟨rfl, mf_145, tw_t1068, tw_t1069, rfl, by decide, 70, (r_0 (300, 3, .invokevirtual 70, .invokevirtual 145) (List.mem_of_getElem? (i := 185) rfl)), Or.inl tw_t1067⟩ : sm_F 0 300 (.invokevirtual 145) 3),
  List.forall_mem_cons.mpr ⟨(⟨rfl, mf_85, tw_t692, tw_t693, rfl, by decide, 71, (r_0 (314, 3, .invokevirtual 71, .invokevirtual 85) (List.mem_of_getElem? (i := 186) rfl)), Or.inl tw_t691⟩ : sm_F 0 314 (.invokevirtual 85) 3),
  List.forall_mem_cons.mpr ⟨(⟨rfl, mf_146, tw_t1072, tw_t1073, rfl, by decide, 74, (r_0 (323, 3, .invokevirtual 74, .invokevirtual 146) (List.mem_of_getElem? (i := 187) rfl)), Or.inl tw_t1071⟩ : sm_F 0 323 (.invokevirtual 146) 3),
  List.forall_mem_cons.mpr ⟨(⟨rfl, mf_87, tw_t700, tw_t701, rfl, by decide, 75, (r_0 (337, 3, .invokevirtual 75, .invokevirtual 87) (List.mem_of_getElem? (i := 188) rfl)), Or.inl tw_t699⟩ : sm_F 0 337 (.invokevirtual 87) 3),
  List.forall_mem_cons.mpr ⟨(⟨rfl, mf_147, tw_t1076, tw_t1077, rfl, by decide, 78, (r_0 (346, 3, .invokevirtual 78, .invokevirtual 147) (List.mem_of_getElem? (i := 189) rfl)), Or.inl tw_t1075⟩ : sm_F 0 346 (.invokevirtual 147) 3),
  fun _ h => absurd h List.not_mem_nil⟩⟩⟩⟩⟩⟩⟩⟩⟩⟩⟩⟩⟩⟩⟩⟩⟩⟩⟩⟩⟩⟩⟩⟩⟩⟩⟩⟩⟩⟩⟩⟩⟩⟩
theorem f_0 : ∀ q ∈ cd_0, sm_F 0 q.1 q.2.2.2 q.2.1 := List.forall_mem_append.mpr ⟨fs_0, fl_0⟩
theorem r_1 : ∀ q ∈ cd_1, decode (mB 1) q.1 = .ok (q.2.2.1, q.2.1) := sm_all (by decide +kernel)
theorem fs_1 : ∀ q ∈ sp_1, sm_F 1 q.1 q.2.2.2 q.2.1 := sm_rsl (fun q h => r_1 q (List.mem_append_left _ h)) (by decide +kernel)
theorem fl_1 : ∀ q ∈ lk_1, sm_F 1 q.1 q.2.2.2 q.2.1 := List.forall_mem_cons.mpr ⟨(⟨rfl, 1, (r_1 (1, 3, .invokespecial 1, .monitorenter) (List.mem_of_getElem? (i := 32) rfl)), tw_t22, tw_t23, tw_t24⟩ : sm_F 1 1 .monitorenter 3),
  List.forall_mem_cons.mpr ⟨(⟨by decide, rfl, 7, (r_1 (5, 3, .new 7, .new 1) (List.mem_of_getElem? (i := 33) rfl)), tw_t25, tw_t26, tw_t2⟩ : sm_F 1 5 (.new 1) 3),
  List.forall_mem_cons.mpr ⟨(⟨rfl, mf_2, tw_t28, rfl, rfl, 11, (r_1 (11, 3, .invokespecial 11, .invokespecial 2) (List.mem_of_getElem? (i := 34) rfl)), Or.inl tw_t27⟩ : sm_F 1 11 (.invokespecial 2) 3),
  List.forall_mem_cons.mpr ⟨(⟨by decide, by decide, rfl, 14, (r_1 (14, 3, .putfield 14, .putfield 0) (List.mem_of_getElem? (i := 35) rfl)), Or.inr ⟨rfl, rfl, rfl, tw_t157⟩⟩ : sm_F 1 14 (.putfield 0) 3),
  List.forall_mem_cons.mpr ⟨(⟨by decide, rfl, 18, (r_1 (18, 3, .new 18, .new 2) (List.mem_of_getElem? (i := 36) rfl)), tw_t39, tw_t40, tw_t3⟩ : sm_F 1 18 (.new 2) 3),
  List.forall_mem_cons.mpr ⟨(⟨rfl, mf_3, tw_t42, rfl, rfl, 20, (r_1 (22, 3, .invokespecial 20, .invokespecial 3) (List.mem_of_getElem? (i := 37) rfl)), Or.inr ⟨"TestEmitter", tw_t41⟩⟩ : sm_F 1 22 (.invokespecial 3) 3),
  List.forall_mem_cons.mpr ⟨(⟨by decide, by decide, rfl, 21, (r_1 (25, 3, .putfield 21, .putfield 1) (List.mem_of_getElem? (i := 38) rfl)), Or.inl ⟨rfl, Or.inl tw_t158⟩⟩ : sm_F 1 25 (.putfield 1) 3),
  List.forall_mem_cons.mpr ⟨(⟨by decide, rfl, 25, (r_1 (29, 3, .new 25, .new 3) (List.mem_of_getElem? (i := 39) rfl)), tw_t54, tw_t55, tw_t4⟩ : sm_F 1 29 (.new 3) 3),
  List.forall_mem_cons.mpr ⟨(⟨rfl, mf_4, tw_t57, rfl, rfl, 27, (r_1 (37, 3, .invokespecial 27, .invokespecial 4) (List.mem_of_getElem? (i := 40) rfl)), Or.inl tw_t56⟩ : sm_F 1 37 (.invokespecial 4) 3),
  List.forall_mem_cons.mpr ⟨(⟨by decide, by decide, rfl, 30, (r_1 (40, 3, .putfield 30, .putfield 2) (List.mem_of_getElem? (i := 41) rfl)), Or.inl ⟨rfl, Or.inl tw_t159⟩⟩ : sm_F 1 40 (.putfield 2) 3),
  List.forall_mem_cons.mpr ⟨(⟨by decide, rfl, 34, (r_1 (44, 3, .new 34, .new 4) (List.mem_of_getElem? (i := 42) rfl)), tw_t70, tw_t71, tw_t5⟩ : sm_F 1 44 (.new 4) 3),
  List.forall_mem_cons.mpr ⟨(⟨rfl, mf_5, tw_t73, rfl, rfl, 36, (r_1 (48, 3, .invokespecial 36, .invokespecial 5) (List.mem_of_getElem? (i := 43) rfl)), Or.inl tw_t72⟩ : sm_F 1 48 (.invokespecial 5) 3),
  List.forall_mem_cons.mpr ⟨(⟨by decide, by decide, rfl, 37, (r_1 (51, 3, .putfield 37, .putfield 3) (List.mem_of_getElem? (i := 44) rfl)), Or.inr ⟨rfl, rfl, rfl, tw_t160⟩⟩ : sm_F 1 51 (.putfield 3) 3),
  List.forall_mem_cons.mpr ⟨(⟨by decide, rfl, 7, (r_1 (55, 3, .new 7, .new 1) (List.mem_of_getElem? (i := 45) rfl)), tw_t25, tw_t26, tw_t2⟩ : sm_F 1 55 (.new 1) 3),
  List.forall_mem_cons.mpr ⟨(⟨rfl, mf_2, tw_t28, rfl, rfl, 11, (r_1 (62, 3, .invokespecial 11, .invokespecial 2) (List.mem_of_getElem? (i := 46) rfl)), Or.inl tw_t27⟩ : sm_F 1 62 (.invokespecial 2) 3),
  List.forall_mem_cons.mpr ⟨(⟨by decide, by decide, rfl, 41, (r_1 (65, 3, .putfield 41, .putfield 4) (List.mem_of_getElem? (i := 47) rfl)), Or.inr ⟨rfl, rfl, rfl, tw_t161⟩⟩ : sm_F 1 65 (.putfield 4) 3),
  List.forall_mem_cons.mpr ⟨(⟨by decide, rfl, 7, (r_1 (69, 3, .new 7, .new 1) (List.mem_of_getElem? (i := 48) rfl)), tw_t25, tw_t26, tw_t2⟩ : sm_F 1 69 (.new 1) 3),
  List.forall_mem_cons.mpr ⟨(⟨rfl, mf_2, tw_t28, rfl, rfl, 11, (r_1 (76, 3, .invokespecial 11, .invokespecial 2) (List.mem_of_getElem? (i := 49) rfl)), Or.inl tw_t27⟩ : sm_F 1 76 (.invokespecial 2) 3),
  List.forall_mem_cons.mpr ⟨(⟨by decide, by decide, rfl, 44, (r_1 (79, 3, .putfield 44, .putfield 5) (List.mem_of_getElem? (i := 50) rfl)), Or.inr ⟨rfl, rfl, rfl, tw_t162⟩⟩ : sm_F 1 79 (.putfield 5) 3),
  List.forall_mem_cons.mpr ⟨(⟨by decide, rfl, 7, (r_1 (83, 3, .new 7, .new 1) (List.mem_of_getElem? (i := 51) rfl)), tw_t25, tw_t26, tw_t2⟩ : sm_F 1 83 (.new 1) 3),
  List.forall_mem_cons.mpr ⟨(⟨rfl, mf_2, tw_t28, rfl, rfl, 11, (r_1 (90, 3, .invokespecial 11, .invokespecial 2) (List.mem_of_getElem? (i := 52) rfl)), Or.inl tw_t27⟩ : sm_F 1 90 (.invokespecial 2) 3),
  List.forall_mem_cons.mpr ⟨(⟨by decide, by decide, rfl, 47, (r_1 (93, 3, .putfield 47, .putfield 6) (List.mem_of_getElem? (i := 53) rfl)), Or.inr ⟨rfl, rfl, rfl, tw_t163⟩⟩ : sm_F 1 93 (.putfield 6) 3),
  List.forall_mem_cons.mpr ⟨(⟨by decide, rfl, 50, (r_1 (97, 3, .new 50, .new 6) (List.mem_of_getElem? (i := 54) rfl)), tw_t103, tw_t104, tw_t7⟩ : sm_F 1 97 (.new 6) 3),
  List.forall_mem_cons.mpr ⟨(⟨rfl, mf_7, tw_t106, rfl, rfl, 52, (r_1 (101, 3, .invokespecial 52, .invokespecial 7) (List.mem_of_getElem? (i := 55) rfl)), Or.inr ⟨"TestEmitter", tw_t105⟩⟩ : sm_F 1 101 (.invokespecial 7) 3),
  List.forall_mem_cons.mpr ⟨(⟨by decide, by decide, rfl, 53, (r_1 (104, 3, .putfield 53, .putfield 7) (List.mem_of_getElem? (i := 56) rfl)), Or.inr ⟨rfl, rfl, rfl, tw_t164⟩⟩ : sm_F 1 104 (.putfield 7) 3),
  List.forall_mem_cons.mpr ⟨(⟨by decide, by decide, rfl, 57, (r_1 (109, 3, .putfield 57, .putfield 9) (List.mem_of_getElem? (i := 57) rfl)), Or.inl ⟨rfl, Or.inl tw_t166⟩⟩ : sm_F 1 109 (.putfield 9) 3),
  List.forall_mem_cons.mpr ⟨(⟨by decide, rfl, 61, (r_1 (113, 3, .new 61, .new 7) (List.mem_of_getElem? (i := 58) rfl)), tw_t121, tw_t122, tw_t8⟩ : sm_F 1 113 (.new 7) 3),
  List.forall_mem_cons.mpr ⟨(⟨rfl, 63, (r_1 (122, 3, .invokestatic 63, .dsub) (List.mem_of_getElem? (i := 59) rfl)), tw_t123, tw_t124, tw_t9, tw_t125⟩ : sm_F 1 122 .dsub 3),
  List.forall_mem_cons.mpr ⟨(⟨rfl, 69, (r_1 (125, 3, .invokestatic 69, .dadd) (List.mem_of_getElem? (i := 60) rfl)), tw_t126, tw_t127, tw_t9, tw_t128⟩ : sm_F 1 125 .dadd 3),
  List.forall_mem_cons.mpr ⟨(⟨rfl, mf_8, tw_t130, rfl, rfl, 72, (r_1 (128, 3, .invokespecial 72, .invokespecial 8) (List.mem_of_getElem? (i := 61) rfl)), Or.inl tw_t129⟩ : sm_F 1 128 (.invokespecial 8) 3),
  List.forall_mem_cons.mpr ⟨(⟨by decide, by decide, rfl, 73, (r_1 (131, 3, .putfield 73, .putfield 8) (List.mem_of_getElem? (i := 62) rfl)), Or.inr ⟨rfl, rfl, rfl, tw_t165⟩⟩ : sm_F 1 131 (.putfield 8) 3),
  fun _ h => absurd h List.not_mem_nil⟩⟩⟩⟩⟩⟩⟩⟩⟩⟩⟩⟩⟩⟩⟩⟩⟩⟩⟩⟩⟩⟩⟩⟩⟩⟩⟩⟩⟩⟩⟩
theorem f_1 : ∀ q ∈ cd_1, sm_F 1 q.1 q.2.2.2 q.2.1 := List.forall_mem_append.mpr ⟨fs_1, fl_1⟩
theorem r_2 : ∀ q ∈ cd_2, decode (mB 2) q.1 = .ok (q.2.2.1, q.2.1) := sm_all (by decide +kernel)
theorem fs_2 : ∀ q ∈ sp_2, sm_F 2 q.1 q.2.2.2 q.2.1 := sm_rsl (fun q h => r_2 q (List.mem_append_left _ h)) (by decide +kernel)
theorem fl_2 : ∀ q ∈ lk_2, sm_F 2 q.1 q.2.2.2 q.2.1 := List.forall_mem_cons.mpr ⟨(⟨rfl, 3, (r_2 (1, 3, .invokespecial 3, .monitorenter) (List.mem_of_getElem? (i := 4) rfl)), tw_t30, tw_t23, tw_t24⟩ : sm_F 2 1 .monitorenter 3),
  List.forall_mem_cons.mpr ⟨(⟨(r_2 (6, 2, .newarray .char, .newarray .char) (List.mem_of_getElem? (i := 5) rfl)), rfl, tw_t38⟩ : sm_F 2 6 (.newarray .char) 2),
  List.forall_mem_cons.mpr ⟨(⟨by decide, by decide, rfl, 9, (r_2 (8, 3, .putfield 9, .putfield 32) (List.mem_of_getElem? (i := 6) rfl)), Or.inl ⟨rfl, Or.inl tw_t31⟩⟩ : sm_F 2 8 (.putfield 32) 3),
  fun _ h => absurd h List.not_mem_nil⟩⟩⟩
theorem f_2 : ∀ q ∈ cd_2, sm_F 2 q.1 q.2.2.2 q.2.1 := List.forall_mem_append.mpr ⟨fs_2, fl_2⟩
theorem r_3 : ∀ q ∈ cd_3, decode (mB 3) q.1 = .ok (q.2.2.1, q.2.1) := sm_all (by decide +kernel)
theorem fs_3 : ∀ q ∈ sp_3, sm_F 3 q.1 q.2.2.2 q.2.1 := sm_rsl (fun q h => r_3 q (List.mem_append_left _ h)) (by decide +kernel)
theorem fl_3 : ∀ q ∈ lk_3, sm_F 3 q.1 q.2.2.2 q.2.1 := List.forall_mem_cons.mpr ⟨(⟨rfl, 3, (r_3 (1, 3, .invokespecial 3, .monitorenter) (List.mem_of_getElem? (i := 4) rfl)), tw_t44, tw_t23, tw_t24⟩ : sm_F 3 1 .monitorenter 3),
  List.forall_mem_cons.mpr ⟨(⟨rfl, 9, (r_3 (6, 3, .anewarray 9, .anewarray 3) (List.mem_of_getElem? (i := 5) rfl)), tw_t45, tw_t46⟩ : sm_F 3 6 (.anewarray 3) 3),
  List.forall_mem_cons.mpr ⟨(⟨by decide, by decide, rfl, 11, (r_3 (9, 3, .putfield 11, .putfield 64) (List.mem_of_getElem? (i := 6) rfl)), Or.inr ⟨rfl, rfl, rfl, tw_t47⟩⟩ : sm_F 3 9 (.putfield 64) 3),
  fun _ h => absurd h List.not_mem_nil⟩⟩⟩
theorem f_3 : ∀ q ∈ cd_3, sm_F 3 q.1 q.2.2.2 q.2.1 := List.forall_mem_append.mpr ⟨fs_3, fl_3⟩
theorem r_4 : ∀ q ∈ cd_4, decode (mB 4) q.1 = .ok (q.2.2.1, q.2.1) := sm_all (by decide +kernel)
theorem fs_4 : ∀ q ∈ sp_4, sm_F 4 q.1 q.2.2.2 q.2.1 := sm_rsl (fun q h => r_4 q (List.mem_append_left _ h)) (by decide +kernel)
theorem fl_4 : ∀ q ∈ lk_4, sm_F 4 q.1 q.2.2.2 q.2.1 := List.forall_mem_cons.mpr ⟨(⟨rfl, 3, (r_4 (1, 3, .invokespecial 3, .monitorenter) (List.mem_of_getElem? (i := 8) rfl)), tw_t59, tw_t23, tw_t24⟩ : sm_F 4 1 .monitorenter 3),
  List.forall_mem_cons.mpr ⟨(⟨by decide, by decide, rfl, 9, (r_4 (6, 3, .putfield 9, .putfield 96) (List.mem_of_getElem? (i := 9) rfl)), Or.inr ⟨rfl, rfl, rfl, tw_t60⟩⟩ : sm_F 4 6 (.putfield 96) 3),
  List.forall_mem_cons.mpr ⟨(⟨by decide, by decide, rfl, 15, (r_4 (11, 3, .putfield 15, .putfield 97) (List.mem_of_getElem? (i := 10) rfl)), Or.inr ⟨rfl, rfl, rfl, tw_t61⟩⟩ : sm_F 4 11 (.putfield 97) 3),
  List.forall_mem_cons.mpr ⟨(⟨by decide, by decide, rfl, 18, (r_4 (16, 3, .putfield 18, .putfield 98) (List.mem_of_getElem? (i := 11) rfl)), Or.inr ⟨rfl, rfl, rfl, tw_t62⟩⟩ : sm_F 4 16 (.putfield 98) 3),
  fun _ h => absurd h List.not_mem_nil⟩⟩⟩⟩
theorem f_4 : ∀ q ∈ cd_4, sm_F 4 q.1 q.2.2.2 q.2.1 := List.forall_mem_append.mpr ⟨fs_4, fl_4⟩
theorem r_5 : ∀ q ∈ cd_5, decode (mB 5) q.1 = .ok (q.2.2.1, q.2.1) := sm_all (by decide +kernel)
theorem fs_5 : ∀ q ∈ sp_5, sm_F 5 q.1 q.2.2.2 q.2.1 := sm_rsl (fun q h => r_5 q (List.mem_append_left _ h)) (by decide +kernel)
theorem fl_5 : ∀ q ∈ lk_5, sm_F 5 q.1 q.2.2.2 q.2.1 := List.forall_mem_cons.mpr ⟨(⟨rfl, 3, (r_5 (1, 3, .invokespecial 3, .monitorenter) (List.mem_of_getElem? (i := 17) rfl)), tw_t75, tw_t23, tw_t24⟩ : sm_F 5 1 .monitorenter 3),
  List.forall_mem_cons.mpr ⟨(⟨by decide, rfl, 9, (r_5 (5, 3, .new 9, .new 5) (List.mem_of_getElem? (i := 18) rfl)), tw_t76, tw_t77, tw_t6⟩ : sm_F 5 5 (.new 5) 3),
  List.forall_mem_cons.mpr ⟨(⟨rfl, mf_6, tw_t79, rfl, rfl, 11, (r_5 (9, 3, .invokespecial 11, .invokespecial 6) (List.mem_of_getElem? (i := 19) rfl)), Or.inr ⟨"TestEmitter", tw_t78⟩⟩ : sm_F 5 9 (.invokespecial 6) 3),
  List.forall_mem_cons.mpr ⟨(⟨by decide, by decide, rfl, 12, (r_5 (12, 3, .putfield 12, .putfield 128) (List.mem_of_getElem? (i := 20) rfl)), Or.inr ⟨rfl, rfl, rfl, tw_t96⟩⟩ : sm_F 5 12 (.putfield 128) 3),
  List.forall_mem_cons.mpr ⟨(⟨rfl, 18, (r_5 (17, 3, .anewarray 18, .anewarray 2) (List.mem_of_getElem? (i := 21) rfl)), tw_t93, tw_t94⟩ : sm_F 5 17 (.anewarray 2) 3),
  List.forall_mem_cons.mpr ⟨(⟨by decide, by decide, rfl, 20, (r_5 (20, 3, .putfield 20, .putfield 129) (List.mem_of_getElem? (i := 22) rfl)), Or.inr ⟨rfl, rfl, rfl, tw_t97⟩⟩ : sm_F 5 20 (.putfield 129) 3),
  List.forall_mem_cons.mpr ⟨(⟨by decide, by decide, rfl, 20, (r_5 (31, 3, .getfield 20, .getfield 129) (List.mem_of_getElem? (i := 23) rfl)), Or.inl tw_t97⟩ : sm_F 5 31 (.getfield 129) 3),
  List.forall_mem_cons.mpr ⟨(⟨by decide, rfl, 18, (r_5 (35, 3, .new 18, .new 2) (List.mem_of_getElem? (i := 24) rfl)), tw_t93, tw_t40, tw_t3⟩ : sm_F 5 35 (.new 2) 3),
  List.forall_mem_cons.mpr ⟨(⟨rfl, mf_3, tw_t42, rfl, rfl, 24, (r_5 (39, 3, .invokespecial 24, .invokespecial 3) (List.mem_of_getElem? (i := 25) rfl)), Or.inr ⟨"TestEmitter", tw_t95⟩⟩ : sm_F 5 39 (.invokespecial 3) 3),
  fun _ h => absurd h List.not_mem_nil⟩⟩⟩⟩⟩⟩⟩⟩⟩
theorem f_5 : ∀ q ∈ cd_5, sm_F 5 q.1 q.2.2.2 q.2.1 := List.forall_mem_append.mpr ⟨fs_5, fl_5⟩
theorem r_6 : ∀ q ∈ cd_6, decode (mB 6) q.1 = .ok (q.2.2.1, q.2.1) := sm_all (by decide +kernel)
theorem fs_6 : ∀ q ∈ sp_6, sm_F 6 q.1 q.2.2.2 q.2.1 := sm_rsl (fun q h => r_6 q (List.mem_append_left _ h)) (by decide +kernel)
theorem fl_6 : ∀ q ∈ lk_6, sm_F 6 q.1 q.2.2.2 q.2.1 := List.forall_mem_cons.mpr ⟨(⟨rfl, 3, (r_6 (1, 3, .invokespecial 3, .monitorenter) (List.mem_of_getElem? (i := 4) rfl)), tw_t81, tw_t23, tw_t24⟩ : sm_F 6 1 .monitorenter 3),
  List.forall_mem_cons.mpr ⟨(⟨(r_6 (7, 2, .newarray .int, .newarray .int) (List.mem_of_getElem? (i := 5) rfl)), rfl, tw_t92⟩ : sm_F 6 7 (.newarray .int) 2),
  List.forall_mem_cons.mpr ⟨(⟨by decide, by decide, rfl, 9, (r_6 (9, 3, .putfield 9, .putfield 160) (List.mem_of_getElem? (i := 6) rfl)), Or.inr ⟨rfl, rfl, rfl, tw_t82⟩⟩ : sm_F 6 9 (.putfield 160) 3),
  fun _ h => absurd h List.not_mem_nil⟩⟩⟩
theorem f_6 : ∀ q ∈ cd_6, sm_F 6 q.1 q.2.2.2 q.2.1 := List.forall_mem_append.mpr ⟨fs_6, fl_6⟩
theorem r_7 : ∀ q ∈ cd_7, decode (mB 7) q.1 = .ok (q.2.2.1, q.2.1) := sm_all (by decide +kernel)
theorem fs_7 : ∀ q ∈ sp_7, sm_F 7 q.1 q.2.2.2 q.2.1 := sm_rsl (fun q h => r_7 q (List.mem_append_left _ h)) (by decide +kernel)
theorem fl_7 : ∀ q ∈ lk_7, sm_F 7 q.1 q.2.2.2 q.2.1 := List.forall_mem_cons.mpr ⟨(⟨rfl, 3, (r_7 (1, 3, .invokespecial 3, .monitorenter) (List.mem_of_getElem? (i := 4) rfl)), tw_t108, tw_t23, tw_t24⟩ : sm_F 7 1 .monitorenter 3),
  List.forall_mem_cons.mpr ⟨(⟨rfl, 9, (r_7 (7, 3, .anewarray 9, .anewarray 1) (List.mem_of_getElem? (i := 5) rfl)), tw_t109, tw_t110⟩ : sm_F 7 7 (.anewarray 1) 3),
  List.forall_mem_cons.mpr ⟨(⟨by decide, by decide, rfl, 11, (r_7 (10, 3, .putfield 11, .putfield 192) (List.mem_of_getElem? (i := 6) rfl)), Or.inr ⟨rfl, rfl, rfl, tw_t111⟩⟩ : sm_F 7 10 (.putfield 192) 3),
  fun _ h => absurd h List.not_mem_nil⟩⟩⟩
theorem f_7 : ∀ q ∈ cd_7, sm_F 7 q.1 q.2.2.2 q.2.1 := List.forall_mem_append.mpr ⟨fs_7, fl_7⟩
theorem r_8 : ∀ q ∈ cd_8, decode (mB 8) q.1 = .ok (q.2.2.1, q.2.1) := sm_all (by decide +kernel)
theorem fs_8 : ∀ q ∈ sp_8, sm_F 8 q.1 q.2.2.2 q.2.1 := sm_rsl (fun q h => r_8 q (List.mem_append_left _ h)) (by decide +kernel)
theorem fl_8 : ∀ q ∈ lk_8, sm_F 8 q.1 q.2.2.2 q.2.1 := List.forall_mem_cons.mpr ⟨(⟨rfl, 3, (r_8 (1, 3, .invokespecial 3, .monitorenter) (List.mem_of_getElem? (i := 9) rfl)), tw_t132, tw_t23, tw_t24⟩ : sm_F 8 1 .monitorenter 3),
  List.forall_mem_cons.mpr ⟨(⟨by decide, rfl, 9, (r_8 (5, 3, .new 9, .new 1) (List.mem_of_getElem? (i := 10) rfl)), tw_t133, tw_t26, tw_t2⟩ : sm_F 8 5 (.new 1) 3),
  List.forall_mem_cons.mpr ⟨(⟨rfl, mf_2, tw_t28, rfl, rfl, 11, (r_8 (12, 3, .invokespecial 11, .invokespecial 2) (List.mem_of_getElem? (i := 11) rfl)), Or.inl tw_t134⟩ : sm_F 8 12 (.invokespecial 2) 3),
  List.forall_mem_cons.mpr ⟨(⟨by decide, by decide, rfl, 14, (r_8 (15, 3, .putfield 14, .putfield 225) (List.mem_of_getElem? (i := 12) rfl)), Or.inr ⟨rfl, rfl, rfl, tw_t136⟩⟩ : sm_F 8 15 (.putfield 225) 3),
  List.forall_mem_cons.mpr ⟨(⟨(r_8 (21, 2, .newarray .int, .newarray .int) (List.mem_of_getElem? (i := 13) rfl)), rfl, tw_t92⟩ : sm_F 8 21 (.newarray .int) 2),
  List.forall_mem_cons.mpr ⟨(⟨by decide, by decide, rfl, 20, (r_8 (23, 3, .putfield 20, .putfield 226) (List.mem_of_getElem? (i := 14) rfl)), Or.inl ⟨rfl, Or.inl tw_t137⟩⟩ : sm_F 8 23 (.putfield 226) 3),
  List.forall_mem_cons.mpr ⟨(⟨by decide, by decide, rfl, 24, (r_8 (28, 3, .putfield 24, .putfield 224) (List.mem_of_getElem? (i := 15) rfl)), Or.inr ⟨rfl, rfl, rfl, tw_t135⟩⟩ : sm_F 8 28 (.putfield 224) 3),
  fun _ h => absurd h List.not_mem_nil⟩⟩⟩⟩⟩⟩⟩
theorem f_8 : ∀ q ∈ cd_8, sm_F 8 q.1 q.2.2.2 q.2.1 := List.forall_mem_append.mpr ⟨fs_8, fl_8⟩
theorem r_9 : ∀ q ∈ cd_9, decode (mB 9) q.1 = .ok (q.2.2.1, q.2.1) := sm_all (by decide +kernel)
theorem fs_9 : ∀ q ∈ sp_9, sm_F 9 q.1 q.2.2.2 q.2.1 := sm_rsl (fun q h => r_9 q (List.mem_append_left _ h)) (by decide +kernel)
theorem fl_9 : ∀ q ∈ lk_9, sm_F 9 q.1 q.2.2.2 q.2.1 := List.forall_mem_cons.mpr ⟨(⟨by decide, by decide, rfl, 14, (r_9 (13, 3, .getfield 14, .getfield 0) (List.mem_of_getElem? (i := 16) rfl)), Or.inl tw_t157⟩ : sm_F 9 13 (.getfield 0) 3),
  List.forall_mem_cons.mpr ⟨(⟨rfl, mf_10, tw_t193, tw_t194, rfl, by decide, 77, (r_9 (16, 3, .invokevirtual 77, .invokevirtual 10) (List.mem_of_getElem? (i := 17) rfl)), Or.inl tw_t192⟩ : sm_F 9 16 (.invokevirtual 10) 3),
  List.forall_mem_cons.mpr ⟨(⟨by decide, by decide, rfl, 14, (r_9 (28, 3, .getfield 14, .getfield 0) (List.mem_of_getElem? (i := 18) rfl)), Or.inl tw_t157⟩ : sm_F 9 28 (.getfield 0) 3),
  List.forall_mem_cons.mpr ⟨(⟨rfl, mf_11, tw_t197, tw_t198, rfl, by decide, 81, (r_9 (32, 3, .invokevirtual 81, .invokevirtual 11) (List.mem_of_getElem? (i := 19) rfl)), Or.inl tw_t196⟩ : sm_F 9 32 (.invokevirtual 11) 3),
  List.forall_mem_cons.mpr ⟨(⟨by decide, by decide, rfl, 14, (r_9 (36, 3, .getfield 14, .getfield 0) (List.mem_of_getElem? (i := 20) rfl)), Or.inl tw_t157⟩ : sm_F 9 36 (.getfield 0) 3),
  List.forall_mem_cons.mpr ⟨(⟨rfl, mf_10, tw_t193, tw_t194, rfl, by decide, 77, (r_9 (39, 3, .invokevirtual 77, .invokevirtual 10) (List.mem_of_getElem? (i := 21) rfl)), Or.inl tw_t192⟩ : sm_F 9 39 (.invokevirtual 10) 3),
  fun _ h => absurd h List.not_mem_nil⟩⟩⟩⟩⟩⟩
theorem f_9 : ∀ q ∈ cd_9, sm_F 9 q.1 q.2.2.2 q.2.1 := List.forall_mem_append.mpr ⟨fs_9, fl_9⟩
theorem r_10 : ∀ q ∈ cd_10, decode (mB 10) q.1 = .ok (q.2.2.1, q.2.1) := sm_all (by decide +kernel)
theorem fs_10 : ∀ q ∈ sp_10, sm_F 10 q.1 q.2.2.2 q.2.1 := sm_rsl (fun q h => r_10 q (List.mem_append_left _ h)) (by decide +kernel)
theorem fl_10 : ∀ q ∈ lk_10, sm_F 10 q.1 q.2.2.2 q.2.1 := List.forall_mem_cons.mpr ⟨(⟨by decide, by decide, rfl, 15, (r_10 (1, 3, .getfield 15, .getfield 33) (List.mem_of_getElem? (i := 2) rfl)), Or.inl tw_t32⟩ : sm_F 10 1 (.getfield 33) 3),
  fun _ h => absurd h List.not_mem_nil⟩
theorem f_10 : ∀ q ∈ cd_10, sm_F 10 q.1 q.2.2.2 q.2.1 := List.forall_mem_append.mpr ⟨fs_10, fl_10⟩
theorem r_11 : ∀ q ∈ cd_11, decode (mB 11) q.1 = .ok (q.2.2.1, q.2.1) := sm_all (by decide +kernel)
theorem fs_11 : ∀ q ∈ sp_11, sm_F 11 q.1 q.2.2.2 q.2.1 := sm_rsl (fun q h => r_11 q (List.mem_append_left _ h)) (by decide +kernel)
theorem fl_11 : ∀ q ∈ lk_11, sm_F 11 q.1 q.2.2.2 q.2.1 := List.forall_mem_cons.mpr ⟨(⟨by decide, by decide, rfl, 15, (r_11 (1, 3, .getfield 15, .getfield 33) (List.mem_of_getElem? (i := 27) rfl)), Or.inl tw_t32⟩ : sm_F 11 1 (.getfield 33) 3),
  List.forall_mem_cons.mpr ⟨(⟨by decide, by decide, rfl, 9, (r_11 (5, 3, .getfield 9, .getfield 32) (List.mem_of_getElem? (i := 28) rfl)), Or.inl tw_t31⟩ : sm_F 11 5 (.getfield 32) 3),
  List.forall_mem_cons.mpr ⟨(⟨by decide, by decide, rfl, 15, (r_11 (14, 3, .getfield 15, .getfield 33) (List.mem_of_getElem? (i := 29) rfl)), Or.inl tw_t32⟩ : sm_F 11 14 (.getfield 33) 3),
  List.forall_mem_cons.mpr ⟨(⟨(r_11 (20, 2, .newarray .char, .newarray .char) (List.mem_of_getElem? (i := 30) rfl)), rfl, tw_t38⟩ : sm_F 11 20 (.newarray .char) 2),
  List.forall_mem_cons.mpr ⟨(⟨by decide, by decide, rfl, 9, (r_11 (24, 3, .getfield 9, .getfield 32) (List.mem_of_getElem? (i := 31) rfl)), Or.inl tw_t31⟩ : sm_F 11 24 (.getfield 32) 3),
  List.forall_mem_cons.mpr ⟨(⟨by decide, by decide, rfl, 15, (r_11 (31, 3, .getfield 15, .getfield 33) (List.mem_of_getElem? (i := 32) rfl)), Or.inl tw_t32⟩ : sm_F 11 31 (.getfield 33) 3),
  List.forall_mem_cons.mpr ⟨(⟨rfl, 19, (r_11 (34, 3, .invokestatic 19, .monitorexit) (List.mem_of_getElem? (i := 33) rfl)), tw_t200, tw_t202, tw_t201, tw_t11⟩ : sm_F 11 34 .monitorexit 3),
  List.forall_mem_cons.mpr ⟨(⟨by decide, by decide, rfl, 9, (r_11 (39, 3, .putfield 9, .putfield 32) (List.mem_of_getElem? (i := 34) rfl)), Or.inl ⟨rfl, Or.inl tw_t31⟩⟩ : sm_F 11 39 (.putfield 32) 3),
  List.forall_mem_cons.mpr ⟨(⟨by decide, by decide, rfl, 9, (r_11 (43, 3, .getfield 9, .getfield 32) (List.mem_of_getElem? (i := 35) rfl)), Or.inl tw_t31⟩ : sm_F 11 43 (.getfield 32) 3),
  List.forall_mem_cons.mpr ⟨(⟨by decide, by decide, rfl, 15, (r_11 (47, 3, .getfield 15, .getfield 33) (List.mem_of_getElem? (i := 36) rfl)), Or.inl tw_t32⟩ : sm_F 11 47 (.getfield 33) 3),
  List.forall_mem_cons.mpr ⟨(⟨by decide, by decide, rfl, 15, (r_11 (55, 3, .getfield 15, .getfield 33) (List.mem_of_getElem? (i := 37) rfl)), Or.inl tw_t32⟩ : sm_F 11 55 (.getfield 33) 3),
  List.forall_mem_cons.mpr ⟨(⟨by decide, by decide, rfl, 15, (r_11 (60, 3, .putfield 15, .putfield 33) (List.mem_of_getElem? (i := 38) rfl)), Or.inl ⟨rfl, Or.inl tw_t32⟩⟩ : sm_F 11 60 (.putfield 33) 3),
  fun _ h => absurd h List.not_mem_nil⟩⟩⟩⟩⟩⟩⟩⟩⟩⟩⟩⟩
theorem f_11 : ∀ q ∈ cd_11, sm_F 11 q.1 q.2.2.2 q.2.1 := List.forall_mem_append.mpr ⟨fs_11, fl_11⟩
theorem r_12 : ∀ q ∈ cd_12, decode (mB 12) q.1 = .ok (q.2.2.1, q.2.1) := sm_all (by decide +kernel)
theorem fs_12 : ∀ q ∈ sp_12, sm_F 12 q.1 q.2.2.2 q.2.1 := sm_rsl (fun q h => r_12 q (List.mem_append_left _ h)) (by decide +kernel)
theorem fl_12 : ∀ q ∈ lk_12, sm_F 12 q.1 q.2.2.2 q.2.1 := List.forall_mem_cons.mpr ⟨(⟨rfl, mf_13, tw_t209, tw_p0, rfl, by decide, 84, (r_12 (12, 3, .invokevirtual 84, .invokevirtual 13) (List.mem_of_getElem? (i := 18) rfl)), Or.inl tw_t207⟩ : sm_F 12 12 (.invokevirtual 13) 3),
  List.forall_mem_cons.mpr ⟨(⟨by decide, by decide, rfl, 37, (r_12 (24, 3, .getfield 37, .getfield 3) (List.mem_of_getElem? (i := 19) rfl)), Or.inl tw_t160⟩ : sm_F 12 24 (.getfield 3) 3),
  List.forall_mem_cons.mpr ⟨(⟨rfl, mf_19, tw_t319, tw_t320, rfl, by decide, 88, (r_12 (29, 3, .invokevirtual 88, .invokevirtual 19) (List.mem_of_getElem? (i := 20) rfl)), Or.inl tw_t318⟩ : sm_F 12 29 (.invokevirtual 19) 3),
  List.forall_mem_cons.mpr ⟨(⟨rfl, mf_20, tw_t323, tw_t324, rfl, by decide, 92, (r_12 (33, 3, .invokevirtual 92, .invokevirtual 20) (List.mem_of_getElem? (i := 21) rfl)), Or.inl tw_t322⟩ : sm_F 12 33 (.invokevirtual 20) 3),
  fun _ h => absurd h List.not_mem_nil⟩⟩⟩⟩
theorem f_12 : ∀ q ∈ cd_12, sm_F 12 q.1 q.2.2.2 q.2.1 := List.forall_mem_append.mpr ⟨fs_12, fl_12⟩
theorem r_13 : ∀ q ∈ cd_13, decode (mB 13) q.1 = .ok (q.2.2.1, q.2.1) := sm_all (by decide +kernel)
theorem fs_13 : ∀ q ∈ sp_13, sm_F 13 q.1 q.2.2.2 q.2.1 := sm_rsl (fun q h => r_13 q (List.mem_append_left _ h)) (by decide +kernel)
theorem fl_13 : ∀ q ∈ lk_13, sm_F 13 q.1 q.2.2.2 q.2.1 := List.forall_mem_cons.mpr ⟨(⟨by decide, by decide, rfl, 14, (r_13 (1, 3, .getfield 14, .getfield 0) (List.mem_of_getElem? (i := 5) rfl)), Or.inl tw_t157⟩ : sm_F 13 1 (.getfield 0) 3),
  List.forall_mem_cons.mpr ⟨(⟨rfl, mf_14, tw_t212, 168, (r_13 (4, 3, .invokestatic 168, .invokestatic 14) (List.mem_of_getElem? (i := 6) rfl)), Or.inl tw_t211⟩ : sm_F 13 4 (.invokestatic 14) 3),
  List.forall_mem_cons.mpr ⟨(⟨by decide, by decide, rfl, 14, (r_13 (9, 3, .getfield 14, .getfield 0) (List.mem_of_getElem? (i := 7) rfl)), Or.inl tw_t157⟩ : sm_F 13 9 (.getfield 0) 3),
  List.forall_mem_cons.mpr ⟨(⟨rfl, mf_18, tw_t315, tw_t316, rfl, by decide, 99, (r_13 (12, 3, .invokevirtual 99, .invokevirtual 18) (List.mem_of_getElem? (i := 8) rfl)), Or.inl tw_t314⟩ : sm_F 13 12 (.invokevirtual 18) 3),
  fun _ h => absurd h List.not_mem_nil⟩⟩⟩⟩
theorem f_13 : ∀ q ∈ cd_13, sm_F 13 q.1 q.2.2.2 q.2.1 := List.forall_mem_append.mpr ⟨fs_13, fl_13⟩
theorem r_14 : ∀ q ∈ cd_14, decode (mB 14) q.1 = .ok (q.2.2.1, q.2.1) := sm_all (by decide +kernel)
theorem fs_14 : ∀ q ∈ sp_14, sm_F 14 q.1 q.2.2.2 q.2.1 := sm_rsl (fun q h => r_14 q (List.mem_append_left _ h)) (by decide +kernel)
theorem fl_14 : ∀ q ∈ lk_14, sm_F 14 q.1 q.2.2.2 q.2.1 := List.forall_mem_cons.mpr ⟨(⟨by decide, rfl, 12, (r_14 (0, 3, .new 12, .new 2) (List.mem_of_getElem? (i := 37) rfl)), tw_t214, tw_t40, tw_t3⟩ : sm_F 14 0 (.new 2) 3),
  List.forall_mem_cons.mpr ⟨(⟨rfl, mf_3, tw_t42, rfl, rfl, 17, (r_14 (4, 3, .invokespecial 17, .invokespecial 3) (List.mem_of_getElem? (i := 38) rfl)), Or.inl tw_t215⟩ : sm_F 14 4 (.invokespecial 3) 3),
  List.forall_mem_cons.mpr ⟨(⟨by decide, by decide, rfl, 18, (r_14 (11, 3, .getfield 18, .getfield 65) (List.mem_of_getElem? (i := 39) rfl)), Or.inl tw_t48⟩ : sm_F 14 11 (.getfield 65) 3),
  List.forall_mem_cons.mpr ⟨(⟨rfl, mf_10, tw_t193, tw_t194, rfl, by decide, 22, (r_14 (20, 3, .invokevirtual 22, .invokevirtual 10) (List.mem_of_getElem? (i := 40) rfl)), Or.inl tw_t216⟩ : sm_F 14 20 (.invokevirtual 10) 3),
  List.forall_mem_cons.mpr ⟨(⟨rfl, mf_15, tw_t218, 28, (r_14 (28, 3, .invokestatic 28, .invokestatic 15) (List.mem_of_getElem? (i := 41) rfl)), Or.inl tw_t217⟩ : sm_F 14 28 (.invokestatic 15) 3),
  List.forall_mem_cons.mpr ⟨(⟨by decide, by decide, rfl, 11, (r_14 (39, 3, .getfield 11, .getfield 64) (List.mem_of_getElem? (i := 42) rfl)), Or.inl tw_t47⟩ : sm_F 14 39 (.getfield 64) 3),
  List.forall_mem_cons.mpr ⟨(⟨by decide, by decide, rfl, 18, (r_14 (43, 3, .getfield 18, .getfield 65) (List.mem_of_getElem? (i := 43) rfl)), Or.inl tw_t48⟩ : sm_F 14 43 (.getfield 65) 3),
  List.forall_mem_cons.mpr ⟨(⟨by decide, by decide, rfl, 18, (r_14 (50, 3, .getfield 18, .getfield 65) (List.mem_of_getElem? (i := 44) rfl)), Or.inl tw_t48⟩ : sm_F 14 50 (.getfield 65) 3),
  List.forall_mem_cons.mpr ⟨(⟨by decide, by decide, rfl, 18, (r_14 (55, 3, .putfield 18, .putfield 65) (List.mem_of_getElem? (i := 45) rfl)), Or.inl ⟨rfl, Or.inl tw_t48⟩⟩ : sm_F 14 55 (.putfield 65) 3),
  List.forall_mem_cons.mpr ⟨(⟨rfl, mf_17, tw_t311, tw_t312, rfl, by decide, 32, (r_14 (60, 3, .invokevirtual 32, .invokevirtual 17) (List.mem_of_getElem? (i := 46) rfl)), Or.inl tw_t310⟩ : sm_F 14 60 (.invokevirtual 17) 3),
  List.forall_mem_cons.mpr ⟨(⟨rfl, mf_10, tw_t193, tw_t194, rfl, by decide, 22, (r_14 (70, 3, .invokevirtual 22, .invokevirtual 10) (List.mem_of_getElem? (i := 47) rfl)), Or.inl tw_t216⟩ : sm_F 14 70 (.invokevirtual 10) 3),
  fun _ h => absurd h List.not_mem_nil⟩⟩⟩⟩⟩⟩⟩⟩⟩⟩⟩
theorem f_14 : ∀ q ∈ cd_14, sm_F 14 q.1 q.2.2.2 q.2.1 := List.forall_mem_append.mpr ⟨fs_14, fl_14⟩
theorem r_15 : ∀ q ∈ cd_15, decode (mB 15) q.1 = .ok (q.2.2.1, q.2.1) := sm_all (by decide +kernel)
theorem fs_15 : ∀ q ∈ sp_15, sm_F 15 q.1 q.2.2.2 q.2.1 := sm_rsl (fun q h => r_15 q (List.mem_append_left _ h)) (by decide +kernel)
theorem fl_15 : ∀ q ∈ lk_15, sm_F 15 q.1 q.2.2.2 q.2.1 := List.forall_mem_cons.mpr ⟨(⟨rfl, mf_10, tw_t193, tw_t194, rfl, by decide, 21, (r_15 (4, 3, .invokevirtual 21, .invokevirtual 10) (List.mem_of_getElem? (i := 58) rfl)), Or.inl tw_t220⟩ : sm_F 15 4 (.invokevirtual 10) 3),
  List.forall_mem_cons.mpr ⟨(⟨rfl, mf_16, tw_t222, tw_t223, rfl, by decide, 27, (r_15 (12, 3, .invokevirtual 27, .invokevirtual 16) (List.mem_of_getElem? (i := 59) rfl)), Or.inl tw_t221⟩ : sm_F 15 12 (.invokevirtual 16) 3),
  List.forall_mem_cons.mpr ⟨(⟨rfl, mf_10, tw_t193, tw_t194, rfl, by decide, 21, (r_15 (37, 3, .invokevirtual 21, .invokevirtual 10) (List.mem_of_getElem? (i := 60) rfl)), Or.inl tw_t220⟩ : sm_F 15 37 (.invokevirtual 10) 3),
  List.forall_mem_cons.mpr ⟨(⟨rfl, mf_16, tw_t222, tw_t223, rfl, by decide, 27, (r_15 (47, 3, .invokevirtual 27, .invokevirtual 16) (List.mem_of_getElem? (i := 61) rfl)), Or.inl tw_t221⟩ : sm_F 15 47 (.invokevirtual 16) 3),
  List.forall_mem_cons.mpr ⟨(⟨rfl, mf_16, tw_t222, tw_t223, rfl, by decide, 27, (r_15 (63, 3, .invokevirtual 27, .invokevirtual 16) (List.mem_of_getElem? (i := 62) rfl)), Or.inl tw_t221⟩ : sm_F 15 63 (.invokevirtual 16) 3),
  List.forall_mem_cons.mpr ⟨(⟨by decide, rfl, 10, (r_15 (82, 3, .new 10, .new 3) (List.mem_of_getElem? (i := 63) rfl)), tw_t225, tw_t55, tw_t4⟩ : sm_F 15 82 (.new 3) 3),
  List.forall_mem_cons.mpr ⟨(⟨rfl, mf_4, tw_t57, rfl, rfl, 31, (r_15 (91, 3, .invokespecial 31, .invokespecial 4) (List.mem_of_getElem? (i := 64) rfl)), Or.inl tw_t226⟩ : sm_F 15 91 (.invokespecial 4) 3),
  List.forall_mem_cons.mpr ⟨(⟨34, (r_15 (99, 2, .ldc 34, .ldc 0) (List.mem_of_getElem? (i := 65) rfl)), rfl, by decide +kernel⟩ : ∃ x : Nat, decode (mB 15) 99 = .ok (.ldc x, 2) ∧ 2 = 2 ∧ (((mN 15).cls, x), 0) ∈ sKl),
  List.forall_mem_cons.mpr ⟨(⟨rfl, mf_152, tw_t229, tw_t230, rfl, by decide, 36, (r_15 (104, 3, .invokevirtual 36, .invokevirtual 152) (List.mem_of_getElem? (i := 66) rfl)), Or.inl tw_t228⟩ : sm_F 15 104 (.invokevirtual 152) 3),
  List.forall_mem_cons.mpr ⟨(⟨by decide, rfl, 10, (r_15 (110, 3, .new 10, .new 3) (List.mem_of_getElem? (i := 67) rfl)), tw_t225, tw_t55, tw_t4⟩ : sm_F 15 110 (.new 3) 3),
  List.forall_mem_cons.mpr ⟨(⟨rfl, mf_4, tw_t57, rfl, rfl, 31, (r_15 (118, 3, .invokespecial 31, .invokespecial 4) (List.mem_of_getElem? (i := 68) rfl)), Or.inl tw_t226⟩ : sm_F 15 118 (.invokespecial 4) 3),
  fun _ h => absurd h List.not_mem_nil⟩⟩⟩⟩⟩⟩⟩⟩⟩⟩⟩
theorem f_15 : ∀ q ∈ cd_15, sm_F 15 q.1 q.2.2.2 q.2.1 := List.forall_mem_append.mpr ⟨fs_15, fl_15⟩
theorem r_16 : ∀ q ∈ cd_16, decode (mB 16) q.1 = .ok (q.2.2.1, q.2.1) := sm_all (by decide +kernel)
theorem fs_16 : ∀ q ∈ sp_16, sm_F 16 q.1 q.2.2.2 q.2.1 := sm_rsl (fun q h => r_16 q (List.mem_append_left _ h)) (by decide +kernel)
theorem fl_16 : ∀ q ∈ lk_16, sm_F 16 q.1 q.2.2.2 q.2.1 := List.forall_mem_cons.mpr ⟨(⟨by decide, by decide, rfl, 15, (r_16 (6, 3, .getfield 15, .getfield 33) (List.mem_of_getElem? (i := 11) rfl)), Or.inl tw_t32⟩ : sm_F 16 6 (.getfield 33) 3),
  List.forall_mem_cons.mpr ⟨(⟨by decide, by decide, rfl, 9, (r_16 (13, 3, .getfield 9, .getfield 32) (List.mem_of_getElem? (i := 12) rfl)), Or.inl tw_t31⟩ : sm_F 16 13 (.getfield 32) 3),
  fun _ h => absurd h List.not_mem_nil⟩⟩
theorem f_16 : ∀ q ∈ cd_16, sm_F 16 q.1 q.2.2.2 q.2.1 := List.forall_mem_append.mpr ⟨fs_16, fl_16⟩
theorem r_17 : ∀ q ∈ cd_17, decode (mB 17) q.1 = .ok (q.2.2.1, q.2.1) := sm_all (by decide +kernel)
theorem fs_17 : ∀ q ∈ sp_17, sm_F 17 q.1 q.2.2.2 q.2.1 := sm_rsl (fun q h => r_17 q (List.mem_append_left _ h)) (by decide +kernel)
theorem fl_17 : ∀ q ∈ lk_17, sm_F 17 q.1 q.2.2.2 q.2.1 := List.forall_mem_cons.mpr ⟨(⟨by decide, by decide, rfl, 9, (r_17 (1, 3, .getfield 9, .getfield 96) (List.mem_of_getElem? (i := 9) rfl)), Or.inl tw_t60⟩ : sm_F 17 1 (.getfield 96) 3),
  List.forall_mem_cons.mpr ⟨(⟨by decide, by decide, rfl, 15, (r_17 (5, 3, .getfield 15, .getfield 97) (List.mem_of_getElem? (i := 10) rfl)), Or.inl tw_t61⟩ : sm_F 17 5 (.getfield 97) 3),
  fun _ h => absurd h List.not_mem_nil⟩⟩
theorem f_17 : ∀ q ∈ cd_17, sm_F 17 q.1 q.2.2.2 q.2.1 := List.forall_mem_append.mpr ⟨fs_17, fl_17⟩
theorem r_18 : ∀ q ∈ cd_18, decode (mB 18) q.1 = .ok (q.2.2.1, q.2.1) := sm_all (by decide +kernel)
theorem fs_18 : ∀ q ∈ sp_18, sm_F 18 q.1 q.2.2.2 q.2.1 := sm_rsl (fun q h => r_18 q (List.mem_append_left _ h)) (by decide +kernel)
theorem fl_18 : ∀ q ∈ lk_18, sm_F 18 q.1 q.2.2.2 q.2.1 := List.forall_mem_cons.mpr ⟨(⟨by decide, by decide, rfl, 15, (r_18 (2, 3, .putfield 15, .putfield 33) (List.mem_of_getElem? (i := 3) rfl)), Or.inl ⟨rfl, Or.inl tw_t32⟩⟩ : sm_F 18 2 (.putfield 33) 3),
  fun _ h => absurd h List.not_mem_nil⟩
theorem f_18 : ∀ q ∈ cd_18, sm_F 18 q.1 q.2.2.2 q.2.1 := List.forall_mem_append.mpr ⟨fs_18, fl_18⟩
theorem r_19 : ∀ q ∈ cd_19, decode (mB 19) q.1 = .ok (q.2.2.1, q.2.1) := sm_all (by decide +kernel)
theorem fs_19 : ∀ q ∈ sp_19, sm_F 19 q.1 q.2.2.2 q.2.1 := sm_rsl (fun q h => r_19 q (List.mem_append_left _ h)) (by decide +kernel)
theorem fl_19 : ∀ q ∈ lk_19, sm_F 19 q.1 q.2.2.2 q.2.1 := List.forall_mem_cons.mpr ⟨(⟨by decide, by decide, rfl, 20, (r_19 (1, 3, .getfield 20, .getfield 129) (List.mem_of_getElem? (i := 5) rfl)), Or.inl tw_t97⟩ : sm_F 19 1 (.getfield 129) 3),
  fun _ h => absurd h List.not_mem_nil⟩
theorem f_19 : ∀ q ∈ cd_19, sm_F 19 q.1 q.2.2.2 q.2.1 := List.forall_mem_append.mpr ⟨fs_19, fl_19⟩
theorem r_20 : ∀ q ∈ cd_20, decode (mB 20) q.1 = .ok (q.2.2.1, q.2.1) := sm_all (by decide +kernel)
theorem fs_20 : ∀ q ∈ sp_20, sm_F 20 q.1 q.2.2.2 q.2.1 := sm_rsl (fun q h => r_20 q (List.mem_append_left _ h)) (by decide +kernel)
theorem fl_20 : ∀ q ∈ lk_20, sm_F 20 q.1 q.2.2.2 q.2.1 := List.forall_mem_cons.mpr ⟨(⟨by decide, by decide, rfl, 18, (r_20 (1, 3, .getfield 18, .getfield 65) (List.mem_of_getElem? (i := 2) rfl)), Or.inl tw_t48⟩ : sm_F 20 1 (.getfield 65) 3),
  fun _ h => absurd h List.not_mem_nil⟩
theorem f_20 : ∀ q ∈ cd_20, sm_F 20 q.1 q.2.2.2 q.2.1 := List.forall_mem_append.mpr ⟨fs_20, fl_20⟩
theorem r_21 : ∀ q ∈ cd_21, decode (mB 21) q.1 = .ok (q.2.2.1, q.2.1) := sm_all (by decide +kernel)
theorem fs_21 : ∀ q ∈ sp_21, sm_F 21 q.1 q.2.2.2 q.2.1 := sm_rsl (fun q h => r_21 q (List.mem_append_left _ h)) (by decide +kernel)
theorem fl_21 : ∀ q ∈ lk_21, sm_F 21 q.1 q.2.2.2 q.2.1 := List.forall_mem_cons.mpr ⟨(⟨rfl, mf_13, tw_t209, tw_p0, rfl, by decide, 84, (r_21 (1, 3, .invokevirtual 84, .invokevirtual 13) (List.mem_of_getElem? (i := 10) rfl)), Or.inl tw_t207⟩ : sm_F 21 1 (.invokevirtual 13) 3),
  List.forall_mem_cons.mpr ⟨(⟨by decide, by decide, rfl, 21, (r_21 (14, 3, .putfield 21, .putfield 1) (List.mem_of_getElem? (i := 11) rfl)), Or.inl ⟨rfl, Or.inl tw_t158⟩⟩ : sm_F 21 14 (.putfield 1) 3),
  List.forall_mem_cons.mpr ⟨(⟨rfl, mf_20, tw_t323, tw_t324, rfl, by decide, 92, (r_21 (18, 3, .invokevirtual 92, .invokevirtual 20) (List.mem_of_getElem? (i := 12) rfl)), Or.inl tw_t322⟩ : sm_F 21 18 (.invokevirtual 20) 3),
  fun _ h => absurd h List.not_mem_nil⟩⟩⟩
theorem f_21 : ∀ q ∈ cd_21, sm_F 21 q.1 q.2.2.2 q.2.1 := List.forall_mem_append.mpr ⟨fs_21, fl_21⟩
theorem r_22 : ∀ q ∈ cd_22, decode (mB 22) q.1 = .ok (q.2.2.1, q.2.1) := sm_all (by decide +kernel)
theorem fs_22 : ∀ q ∈ sp_22, sm_F 22 q.1 q.2.2.2 q.2.1 := sm_rsl (fun q h => r_22 q (List.mem_append_left _ h)) (by decide +kernel)
theorem fl_22 : ∀ q ∈ lk_22, sm_F 22 q.1 q.2.2.2 q.2.1 := List.forall_mem_cons.mpr ⟨(⟨by decide, by decide, rfl, 14, (r_22 (1, 3, .getfield 14, .getfield 0) (List.mem_of_getElem? (i := 11) rfl)), Or.inl tw_t157⟩ : sm_F 22 1 (.getfield 0) 3),
  List.forall_mem_cons.mpr ⟨(⟨rfl, mf_23, tw_t336, 95, (r_22 (4, 3, .invokestatic 95, .invokestatic 23) (List.mem_of_getElem? (i := 12) rfl)), Or.inl tw_t335⟩ : sm_F 22 4 (.invokestatic 23) 3),
  List.forall_mem_cons.mpr ⟨(⟨by decide, by decide, rfl, 14, (r_22 (9, 3, .getfield 14, .getfield 0) (List.mem_of_getElem? (i := 13) rfl)), Or.inl tw_t157⟩ : sm_F 22 9 (.getfield 0) 3),
  List.forall_mem_cons.mpr ⟨(⟨rfl, mf_18, tw_t315, tw_t316, rfl, by decide, 99, (r_22 (12, 3, .invokevirtual 99, .invokevirtual 18) (List.mem_of_getElem? (i := 14) rfl)), Or.inl tw_t314⟩ : sm_F 22 12 (.invokevirtual 18) 3),
  List.forall_mem_cons.mpr ⟨(⟨by decide, by decide, rfl, 30, (r_22 (24, 3, .putfield 30, .putfield 2) (List.mem_of_getElem? (i := 15) rfl)), Or.inl ⟨rfl, Or.inl tw_t159⟩⟩ : sm_F 22 24 (.putfield 2) 3),
  fun _ h => absurd h List.not_mem_nil⟩⟩⟩⟩⟩
theorem f_22 : ∀ q ∈ cd_22, sm_F 22 q.1 q.2.2.2 q.2.1 := List.forall_mem_append.mpr ⟨fs_22, fl_22⟩
theorem r_23 : ∀ q ∈ cd_23, decode (mB 23) q.1 = .ok (q.2.2.1, q.2.1) := sm_all (by decide +kernel)
theorem fs_23 : ∀ q ∈ sp_23, sm_F 23 q.1 q.2.2.2 q.2.1 := sm_rsl (fun q h => r_23 q (List.mem_append_left _ h)) (by decide +kernel)
theorem fl_23 : ∀ q ∈ lk_23, sm_F 23 q.1 q.2.2.2 q.2.1 := List.forall_mem_cons.mpr ⟨(⟨41, (r_23 (1, 2, .ldc 41, .ldc 2) (List.mem_of_getElem? (i := 19) rfl)), rfl, by decide +kernel⟩ : ∃ x : Nat, decode (mB 23) 1 = .ok (.ldc x, 2) ∧ 2 = 2 ∧ (((mN 23).cls, x), 2) ∈ sKl),
  List.forall_mem_cons.mpr ⟨(⟨rfl, mf_24, tw_t340, tw_t341, rfl, by decide, 43, (r_23 (3, 3, .invokevirtual 43, .invokevirtual 24) (List.mem_of_getElem? (i := 20) rfl)), Or.inl tw_t339⟩ : sm_F 23 3 (.invokevirtual 24) 3),
  List.forall_mem_cons.mpr ⟨(⟨by decide, rfl, 10, (r_23 (9, 3, .new 10, .new 3) (List.mem_of_getElem? (i := 21) rfl)), tw_t225, tw_t55, tw_t4⟩ : sm_F 23 9 (.new 3) 3),
  List.forall_mem_cons.mpr ⟨(⟨rfl, mf_4, tw_t57, rfl, rfl, 31, (r_23 (17, 3, .invokespecial 31, .invokespecial 4) (List.mem_of_getElem? (i := 22) rfl)), Or.inl tw_t226⟩ : sm_F 23 17 (.invokespecial 4) 3),
  List.forall_mem_cons.mpr ⟨(⟨rfl, mf_15, tw_t218, 47, (r_23 (23, 3, .invokestatic 47, .invokestatic 15) (List.mem_of_getElem? (i := 23) rfl)), Or.inl tw_t364⟩ : sm_F 23 23 (.invokestatic 15) 3),
  List.forall_mem_cons.mpr ⟨(⟨rfl, mf_17, tw_t311, tw_t312, rfl, by decide, 51, (r_23 (32, 3, .invokevirtual 51, .invokevirtual 17) (List.mem_of_getElem? (i := 24) rfl)), Or.inl tw_t365⟩ : sm_F 23 32 (.invokevirtual 17) 3),
  List.forall_mem_cons.mpr ⟨(⟨rfl, mf_10, tw_t193, tw_t194, rfl, by decide, 21, (r_23 (36, 3, .invokevirtual 21, .invokevirtual 10) (List.mem_of_getElem? (i := 25) rfl)), Or.inl tw_t220⟩ : sm_F 23 36 (.invokevirtual 10) 3),
  fun _ h => absurd h List.not_mem_nil⟩⟩⟩⟩⟩⟩⟩
theorem f_23 : ∀ q ∈ cd_23, sm_F 23 q.1 q.2.2.2 q.2.1 := List.forall_mem_append.mpr ⟨fs_23, fl_23⟩
theorem r_24 : ∀ q ∈ cd_24, decode (mB 24) q.1 = .ok (q.2.2.1, q.2.1) := sm_all (by decide +kernel)
theorem fs_24 : ∀ q ∈ sp_24, sm_F 24 q.1 q.2.2.2 q.2.1 := sm_rsl (fun q h => r_24 q (List.mem_append_left _ h)) (by decide +kernel)
theorem fl_24 : ∀ q ∈ lk_24, sm_F 24 q.1 q.2.2.2 q.2.1 := List.forall_mem_cons.mpr ⟨(⟨rfl, mf_148, tw_t243, tw_t244, rfl, by decide, 25, (r_24 (1, 3, .invokevirtual 25, .invokevirtual 148) (List.mem_of_getElem? (i := 22) rfl)), Or.inl tw_t343⟩ : sm_F 24 1 (.invokevirtual 148) 3),
  List.forall_mem_cons.mpr ⟨(⟨by decide, by decide, rfl, 15, (r_24 (5, 3, .getfield 15, .getfield 33) (List.mem_of_getElem? (i := 23) rfl)), Or.inl tw_t32⟩ : sm_F 24 5 (.getfield 33) 3),
  List.forall_mem_cons.mpr ⟨(⟨by decide, by decide, rfl, 15, (r_24 (17, 3, .getfield 15, .getfield 33) (List.mem_of_getElem? (i := 24) rfl)), Or.inl tw_t32⟩ : sm_F 24 17 (.getfield 33) 3),
  List.forall_mem_cons.mpr ⟨(⟨rfl, mf_150, tw_t345, tw_t346, rfl, by decide, 30, (r_24 (25, 3, .invokevirtual 30, .invokevirtual 150) (List.mem_of_getElem? (i := 25) rfl)), Or.inl tw_t344⟩ : sm_F 24 25 (.invokevirtual 150) 3),
  List.forall_mem_cons.mpr ⟨(⟨by decide, by decide, rfl, 9, (r_24 (29, 3, .getfield 9, .getfield 32) (List.mem_of_getElem? (i := 26) rfl)), Or.inl tw_t31⟩ : sm_F 24 29 (.getfield 32) 3),
  fun _ h => absurd h List.not_mem_nil⟩⟩⟩⟩⟩
theorem f_24 : ∀ q ∈ cd_24, sm_F 24 q.1 q.2.2.2 q.2.1 := List.forall_mem_append.mpr ⟨fs_24, fl_24⟩
theorem r_25 : ∀ q ∈ cd_25, decode (mB 25) q.1 = .ok (q.2.2.1, q.2.1) := sm_all (by decide +kernel)
theorem fs_25 : ∀ q ∈ sp_25, sm_F 25 q.1 q.2.2.2 q.2.1 := sm_rsl (fun q h => r_25 q (List.mem_append_left _ h)) (by decide +kernel)
theorem fl_25 : ∀ q ∈ lk_25, sm_F 25 q.1 q.2.2.2 q.2.1 := List.forall_mem_cons.mpr ⟨(⟨by decide, by decide, rfl, 37, (r_25 (1, 3, .getfield 37, .getfield 3) (List.mem_of_getElem? (i := 7) rfl)), Or.inl tw_t160⟩ : sm_F 25 1 (.getfield 3) 3),
  List.forall_mem_cons.mpr ⟨(⟨rfl, mf_26, tw_t371, tw_t372, rfl, by decide, 102, (r_25 (4, 3, .invokevirtual 102, .invokevirtual 26) (List.mem_of_getElem? (i := 8) rfl)), Or.inl tw_t370⟩ : sm_F 25 4 (.invokevirtual 26) 3),
  List.forall_mem_cons.mpr ⟨(⟨rfl, mf_27, tw_t375, tw_t376, rfl, by decide, 106, (r_25 (8, 3, .invokevirtual 106, .invokevirtual 27) (List.mem_of_getElem? (i := 9) rfl)), Or.inl tw_t374⟩ : sm_F 25 8 (.invokevirtual 27) 3),
  List.forall_mem_cons.mpr ⟨(⟨by decide, by decide, rfl, 37, (r_25 (15, 3, .getfield 37, .getfield 3) (List.mem_of_getElem? (i := 10) rfl)), Or.inl tw_t160⟩ : sm_F 25 15 (.getfield 3) 3),
  List.forall_mem_cons.mpr ⟨(⟨rfl, mf_26, tw_t371, tw_t372, rfl, by decide, 102, (r_25 (18, 3, .invokevirtual 102, .invokevirtual 26) (List.mem_of_getElem? (i := 11) rfl)), Or.inl tw_t370⟩ : sm_F 25 18 (.invokevirtual 26) 3),
  List.forall_mem_cons.mpr ⟨(⟨rfl, mf_28, tw_t379, tw_t380, rfl, by decide, 112, (r_25 (21, 3, .invokevirtual 112, .invokevirtual 28) (List.mem_of_getElem? (i := 12) rfl)), Or.inl tw_t378⟩ : sm_F 25 21 (.invokevirtual 28) 3),
  fun _ h => absurd h List.not_mem_nil⟩⟩⟩⟩⟩⟩
theorem f_25 : ∀ q ∈ cd_25, sm_F 25 q.1 q.2.2.2 q.2.1 := List.forall_mem_append.mpr ⟨fs_25, fl_25⟩
theorem r_26 : ∀ q ∈ cd_26, decode (mB 26) q.1 = .ok (q.2.2.1, q.2.1) := sm_all (by decide +kernel)
theorem fs_26 : ∀ q ∈ sp_26, sm_F 26 q.1 q.2.2.2 q.2.1 := sm_rsl (fun q h => r_26 q (List.mem_append_left _ h)) (by decide +kernel)
theorem fl_26 : ∀ q ∈ lk_26, sm_F 26 q.1 q.2.2.2 q.2.1 := List.forall_mem_cons.mpr ⟨(⟨by decide, by decide, rfl, 12, (r_26 (1, 3, .getfield 12, .getfield 128) (List.mem_of_getElem? (i := 2) rfl)), Or.inl tw_t96⟩ : sm_F 26 1 (.getfield 128) 3),
  fun _ h => absurd h List.not_mem_nil⟩
theorem f_26 : ∀ q ∈ cd_26, sm_F 26 q.1 q.2.2.2 q.2.1 := List.forall_mem_append.mpr ⟨fs_26, fl_26⟩
theorem r_27 : ∀ q ∈ cd_27, decode (mB 27) q.1 = .ok (q.2.2.1, q.2.1) := sm_all (by decide +kernel)
theorem fs_27 : ∀ q ∈ sp_27, sm_F 27 q.1 q.2.2.2 q.2.1 := sm_rsl (fun q h => r_27 q (List.mem_append_left _ h)) (by decide +kernel)
theorem fl_27 : ∀ q ∈ lk_27, sm_F 27 q.1 q.2.2.2 q.2.1 := List.forall_mem_cons.mpr ⟨(⟨by decide, by decide, rfl, 15, (r_27 (1, 3, .getfield 15, .getfield 161) (List.mem_of_getElem? (i := 15) rfl)), Or.inl tw_t83⟩ : sm_F 27 1 (.getfield 161) 3),
  List.forall_mem_cons.mpr ⟨(⟨by decide, by decide, rfl, 9, (r_27 (12, 3, .getfield 9, .getfield 160) (List.mem_of_getElem? (i := 16) rfl)), Or.inl tw_t82⟩ : sm_F 27 12 (.getfield 160) 3),
  List.forall_mem_cons.mpr ⟨(⟨by decide, by decide, rfl, 15, (r_27 (16, 3, .getfield 15, .getfield 161) (List.mem_of_getElem? (i := 17) rfl)), Or.inl tw_t83⟩ : sm_F 27 16 (.getfield 161) 3),
  List.forall_mem_cons.mpr ⟨(⟨by decide, by decide, rfl, 15, (r_27 (23, 3, .getfield 15, .getfield 161) (List.mem_of_getElem? (i := 18) rfl)), Or.inl tw_t83⟩ : sm_F 27 23 (.getfield 161) 3),
  List.forall_mem_cons.mpr ⟨(⟨by decide, by decide, rfl, 15, (r_27 (28, 3, .putfield 15, .putfield 161) (List.mem_of_getElem? (i := 19) rfl)), Or.inl ⟨rfl, Or.inl tw_t83⟩⟩ : sm_F 27 28 (.putfield 161) 3),
  fun _ h => absurd h List.not_mem_nil⟩⟩⟩⟩⟩
theorem f_27 : ∀ q ∈ cd_27, sm_F 27 q.1 q.2.2.2 q.2.1 := List.forall_mem_append.mpr ⟨fs_27, fl_27⟩
theorem r_28 : ∀ q ∈ cd_28, decode (mB 28) q.1 = .ok (q.2.2.1, q.2.1) := sm_all (by decide +kernel)
theorem fs_28 : ∀ q ∈ sp_28, sm_F 28 q.1 q.2.2.2 q.2.1 := sm_rsl (fun q h => r_28 q (List.mem_append_left _ h)) (by decide +kernel)
theorem fl_28 : ∀ q ∈ lk_28, sm_F 28 q.1 q.2.2.2 q.2.1 := List.forall_mem_cons.mpr ⟨(⟨by decide, by decide, rfl, 15, (r_28 (1, 3, .getfield 15, .getfield 161) (List.mem_of_getElem? (i := 2) rfl)), Or.inl tw_t83⟩ : sm_F 28 1 (.getfield 161) 3),
  fun _ h => absurd h List.not_mem_nil⟩
theorem f_28 : ∀ q ∈ cd_28, sm_F 28 q.1 q.2.2.2 q.2.1 := List.forall_mem_append.mpr ⟨fs_28, fl_28⟩
theorem r_29 : ∀ q ∈ cd_29, decode (mB 29) q.1 = .ok (q.2.2.1, q.2.1) := sm_all (by decide +kernel)
theorem fs_29 : ∀ q ∈ sp_29, sm_F 29 q.1 q.2.2.2 q.2.1 := sm_rsl (fun q h => r_29 q (List.mem_append_left _ h)) (by decide +kernel)
theorem fl_29 : ∀ q ∈ lk_29, sm_F 29 q.1 q.2.2.2 q.2.1 := List.forall_mem_cons.mpr ⟨(⟨by decide, by decide, rfl, 37, (r_29 (1, 3, .getfield 37, .getfield 3) (List.mem_of_getElem? (i := 5) rfl)), Or.inl tw_t160⟩ : sm_F 29 1 (.getfield 3) 3),
  List.forall_mem_cons.mpr ⟨(⟨rfl, mf_26, tw_t371, tw_t372, rfl, by decide, 102, (r_29 (4, 3, .invokevirtual 102, .invokevirtual 26) (List.mem_of_getElem? (i := 6) rfl)), Or.inl tw_t370⟩ : sm_F 29 4 (.invokevirtual 26) 3),
  List.forall_mem_cons.mpr ⟨(⟨rfl, mf_28, tw_t379, tw_t380, rfl, by decide, 112, (r_29 (7, 3, .invokevirtual 112, .invokevirtual 28) (List.mem_of_getElem? (i := 7) rfl)), Or.inl tw_t378⟩ : sm_F 29 7 (.invokevirtual 28) 3),
  List.forall_mem_cons.mpr ⟨(⟨by decide, by decide, rfl, 37, (r_29 (12, 3, .getfield 37, .getfield 3) (List.mem_of_getElem? (i := 8) rfl)), Or.inl tw_t160⟩ : sm_F 29 12 (.getfield 3) 3),
  List.forall_mem_cons.mpr ⟨(⟨rfl, mf_26, tw_t371, tw_t372, rfl, by decide, 102, (r_29 (15, 3, .invokevirtual 102, .invokevirtual 26) (List.mem_of_getElem? (i := 9) rfl)), Or.inl tw_t370⟩ : sm_F 29 15 (.invokevirtual 26) 3),
  List.forall_mem_cons.mpr ⟨(⟨rfl, mf_30, tw_t387, tw_t388, rfl, by decide, 113, (r_29 (18, 3, .invokevirtual 113, .invokevirtual 30) (List.mem_of_getElem? (i := 10) rfl)), Or.inl tw_t386⟩ : sm_F 29 18 (.invokevirtual 30) 3),
  fun _ h => absurd h List.not_mem_nil⟩⟩⟩⟩⟩⟩
theorem f_29 : ∀ q ∈ cd_29, sm_F 29 q.1 q.2.2.2 q.2.1 := List.forall_mem_append.mpr ⟨fs_29, fl_29⟩
theorem r_30 : ∀ q ∈ cd_30, decode (mB 30) q.1 = .ok (q.2.2.1, q.2.1) := sm_all (by decide +kernel)
theorem fs_30 : ∀ q ∈ sp_30, sm_F 30 q.1 q.2.2.2 q.2.1 := sm_rsl (fun q h => r_30 q (List.mem_append_left _ h)) (by decide +kernel)
theorem fl_30 : ∀ q ∈ lk_30, sm_F 30 q.1 q.2.2.2 q.2.1 := List.forall_mem_cons.mpr ⟨(⟨by decide, by decide, rfl, 15, (r_30 (2, 3, .putfield 15, .putfield 161) (List.mem_of_getElem? (i := 5) rfl)), Or.inl ⟨rfl, Or.inl tw_t83⟩⟩ : sm_F 30 2 (.putfield 161) 3),
  List.forall_mem_cons.mpr ⟨(⟨by decide, by decide, rfl, 19, (r_30 (7, 3, .putfield 19, .putfield 162) (List.mem_of_getElem? (i := 6) rfl)), Or.inl ⟨rfl, Or.inl tw_t84⟩⟩ : sm_F 30 7 (.putfield 162) 3),
  fun _ h => absurd h List.not_mem_nil⟩⟩
theorem f_30 : ∀ q ∈ cd_30, sm_F 30 q.1 q.2.2.2 q.2.1 := List.forall_mem_append.mpr ⟨fs_30, fl_30⟩
theorem r_31 : ∀ q ∈ cd_31, decode (mB 31) q.1 = .ok (q.2.2.1, q.2.1) := sm_all (by decide +kernel)
theorem fs_31 : ∀ q ∈ sp_31, sm_F 31 q.1 q.2.2.2 q.2.1 := sm_rsl (fun q h => r_31 q (List.mem_append_left _ h)) (by decide +kernel)
theorem fl_31 : ∀ q ∈ lk_31, sm_F 31 q.1 q.2.2.2 q.2.1 := List.forall_mem_cons.mpr ⟨(⟨by decide, by decide, rfl, 53, (r_31 (1, 3, .getfield 53, .getfield 7) (List.mem_of_getElem? (i := 16) rfl)), Or.inl tw_t164⟩ : sm_F 31 1 (.getfield 7) 3),
  List.forall_mem_cons.mpr ⟨(⟨rfl, mf_32, tw_t395, tw_t396, rfl, by decide, 114, (r_31 (4, 3, .invokevirtual 114, .invokevirtual 32) (List.mem_of_getElem? (i := 17) rfl)), Or.inl tw_t394⟩ : sm_F 31 4 (.invokevirtual 32) 3),
  List.forall_mem_cons.mpr ⟨(⟨by decide, by decide, rfl, 37, (r_31 (14, 3, .getfield 37, .getfield 3) (List.mem_of_getElem? (i := 18) rfl)), Or.inl tw_t160⟩ : sm_F 31 14 (.getfield 3) 3),
  List.forall_mem_cons.mpr ⟨(⟨by decide, by decide, rfl, 21, (r_31 (18, 3, .getfield 21, .getfield 1) (List.mem_of_getElem? (i := 19) rfl)), Or.inl tw_t158⟩ : sm_F 31 18 (.getfield 1) 3),
  List.forall_mem_cons.mpr ⟨(⟨by decide, by decide, rfl, 41, (r_31 (22, 3, .getfield 41, .getfield 4) (List.mem_of_getElem? (i := 20) rfl)), Or.inl tw_t161⟩ : sm_F 31 22 (.getfield 4) 3),
  List.forall_mem_cons.mpr ⟨(⟨rfl, mf_33, tw_t399, tw_t400, rfl, by decide, 118, (r_31 (25, 3, .invokevirtual 118, .invokevirtual 33) (List.mem_of_getElem? (i := 21) rfl)), Or.inl tw_t398⟩ : sm_F 31 25 (.invokevirtual 33) 3),
  List.forall_mem_cons.mpr ⟨(⟨by decide, by decide, rfl, 37, (r_31 (29, 3, .getfield 37, .getfield 3) (List.mem_of_getElem? (i := 22) rfl)), Or.inl tw_t160⟩ : sm_F 31 29 (.getfield 3) 3),
  List.forall_mem_cons.mpr ⟨(⟨by decide, by decide, rfl, 30, (r_31 (33, 3, .getfield 30, .getfield 2) (List.mem_of_getElem? (i := 23) rfl)), Or.inl tw_t159⟩ : sm_F 31 33 (.getfield 2) 3),
  List.forall_mem_cons.mpr ⟨(⟨by decide, by decide, rfl, 44, (r_31 (37, 3, .getfield 44, .getfield 5) (List.mem_of_getElem? (i := 24) rfl)), Or.inl tw_t162⟩ : sm_F 31 37 (.getfield 5) 3),
  List.forall_mem_cons.mpr ⟨(⟨rfl, mf_55, tw_t531, tw_t532, rfl, by decide, 122, (r_31 (40, 3, .invokevirtual 122, .invokevirtual 55) (List.mem_of_getElem? (i := 25) rfl)), Or.inl tw_t530⟩ : sm_F 31 40 (.invokevirtual 55) 3),
  List.forall_mem_cons.mpr ⟨(⟨by decide, by decide, rfl, 37, (r_31 (45, 3, .getfield 37, .getfield 3) (List.mem_of_getElem? (i := 26) rfl)), Or.inl tw_t160⟩ : sm_F 31 45 (.getfield 3) 3),
  List.forall_mem_cons.mpr ⟨(⟨rfl, mf_26, tw_t371, tw_t372, rfl, by decide, 102, (r_31 (48, 3, .invokevirtual 102, .invokevirtual 26) (List.mem_of_getElem? (i := 27) rfl)), Or.inl tw_t370⟩ : sm_F 31 48 (.invokevirtual 26) 3),
  List.forall_mem_cons.mpr ⟨(⟨rfl, mf_57, tw_t539, tw_t540, rfl, by decide, 126, (r_31 (51, 3, .invokevirtual 126, .invokevirtual 57) (List.mem_of_getElem? (i := 28) rfl)), Or.inl tw_t538⟩ : sm_F 31 51 (.invokevirtual 57) 3),
  List.forall_mem_cons.mpr ⟨(⟨by decide, by decide, rfl, 57, (r_31 (54, 3, .putfield 57, .putfield 9) (List.mem_of_getElem? (i := 29) rfl)), Or.inl ⟨rfl, Or.inl tw_t166⟩⟩ : sm_F 31 54 (.putfield 9) 3),
  List.forall_mem_cons.mpr ⟨(⟨rfl, mf_58, tw_t544, tw_p8, rfl, by decide, 129, (r_31 (58, 3, .invokevirtual 129, .invokevirtual 58) (List.mem_of_getElem? (i := 30) rfl)), Or.inl tw_t542⟩ : sm_F 31 58 (.invokevirtual 58) 3),
  List.forall_mem_cons.mpr ⟨(⟨rfl, mf_61, tw_t574, tw_p9, rfl, by decide, 132, (r_31 (63, 3, .invokevirtual 132, .invokevirtual 61) (List.mem_of_getElem? (i := 31) rfl)), Or.inl tw_t572⟩ : sm_F 31 63 (.invokevirtual 61) 3),
  fun _ h => absurd h List.not_mem_nil⟩⟩⟩⟩⟩⟩⟩⟩⟩⟩⟩⟩⟩⟩⟩⟩
theorem f_31 : ∀ q ∈ cd_31, sm_F 31 q.1 q.2.2.2 q.2.1 := List.forall_mem_append.mpr ⟨fs_31, fl_31⟩
theorem r_32 : ∀ q ∈ cd_32, decode (mB 32) q.1 = .ok (q.2.2.1, q.2.1) := sm_all (by decide +kernel)
theorem fs_32 : ∀ q ∈ sp_32, sm_F 32 q.1 q.2.2.2 q.2.1 := sm_rsl (fun q h => r_32 q (List.mem_append_left _ h)) (by decide +kernel)
theorem fl_32 : ∀ q ∈ lk_32, sm_F 32 q.1 q.2.2.2 q.2.1 := List.forall_mem_cons.mpr ⟨(⟨by decide, by decide, rfl, 17, (r_32 (1, 3, .getfield 17, .getfield 193) (List.mem_of_getElem? (i := 7) rfl)), Or.inl tw_t112⟩ : sm_F 32 1 (.getfield 193) 3),
  fun _ h => absurd h List.not_mem_nil⟩
theorem f_32 : ∀ q ∈ cd_32, sm_F 32 q.1 q.2.2.2 q.2.1 := List.forall_mem_append.mpr ⟨fs_32, fl_32⟩
theorem r_33 : ∀ q ∈ cd_33, decode (mB 33) q.1 = .ok (q.2.2.1, q.2.1) := sm_all (by decide +kernel)
theorem fs_33 : ∀ q ∈ sp_33, sm_F 33 q.1 q.2.2.2 q.2.1 := sm_rsl (fun q h => r_33 q (List.mem_append_left _ h)) (by decide +kernel)
theorem fl_33 : ∀ q ∈ lk_33, sm_F 33 q.1 q.2.2.2 q.2.1 := List.forall_mem_cons.mpr ⟨(⟨by decide, by decide, rfl, 12, (r_33 (1, 3, .getfield 12, .getfield 128) (List.mem_of_getElem? (i := 10) rfl)), Or.inl tw_t96⟩ : sm_F 33 1 (.getfield 128) 3),
  List.forall_mem_cons.mpr ⟨(⟨rfl, mf_34, tw_t403, tw_t404, rfl, by decide, 25, (r_33 (4, 3, .invokevirtual 25, .invokevirtual 34) (List.mem_of_getElem? (i := 11) rfl)), Or.inl tw_t402⟩ : sm_F 33 4 (.invokevirtual 34) 3),
  List.forall_mem_cons.mpr ⟨(⟨rfl, mf_18, tw_t315, tw_t316, rfl, by decide, 28, (r_33 (8, 3, .invokevirtual 28, .invokevirtual 18) (List.mem_of_getElem? (i := 12) rfl)), Or.inl tw_t406⟩ : sm_F 33 8 (.invokevirtual 18) 3),
  List.forall_mem_cons.mpr ⟨(⟨33, (r_33 (12, 2, .ldc 33, .ldc 4) (List.mem_of_getElem? (i := 13) rfl)), rfl, by decide +kernel⟩ : ∃ x : Nat, decode (mB 33) 12 = .ok (.ldc x, 2) ∧ 2 = 2 ∧ (((mN 33).cls, x), 4) ∈ sKl),
  List.forall_mem_cons.mpr ⟨(⟨rfl, mf_35, tw_t409, tw_t410, rfl, by decide, 35, (r_33 (14, 3, .invokevirtual 35, .invokevirtual 35) (List.mem_of_getElem? (i := 14) rfl)), Or.inl tw_t408⟩ : sm_F 33 14 (.invokevirtual 35) 3),
  List.forall_mem_cons.mpr ⟨(⟨rfl, mf_36, tw_t415, tw_p1, rfl, by decide, 39, (r_33 (21, 3, .invokevirtual 39, .invokevirtual 36) (List.mem_of_getElem? (i := 15) rfl)), Or.inl tw_t413⟩ : sm_F 33 21 (.invokevirtual 36) 3),
  List.forall_mem_cons.mpr ⟨(⟨rfl, mf_11, tw_t197, tw_t198, rfl, by decide, 43, (r_33 (27, 3, .invokevirtual 43, .invokevirtual 11) (List.mem_of_getElem? (i := 16) rfl)), Or.inl tw_t471⟩ : sm_F 33 27 (.invokevirtual 11) 3),
  fun _ h => absurd h List.not_mem_nil⟩⟩⟩⟩⟩⟩⟩
theorem f_33 : ∀ q ∈ cd_33, sm_F 33 q.1 q.2.2.2 q.2.1 := List.forall_mem_append.mpr ⟨fs_33, fl_33⟩
theorem r_34 : ∀ q ∈ cd_34, decode (mB 34) q.1 = .ok (q.2.2.1, q.2.1) := sm_all (by decide +kernel)
theorem fs_34 : ∀ q ∈ sp_34, sm_F 34 q.1 q.2.2.2 q.2.1 := sm_rsl (fun q h => r_34 q (List.mem_append_left _ h)) (by decide +kernel)
theorem fl_34 : ∀ q ∈ lk_34, sm_F 34 q.1 q.2.2.2 q.2.1 := List.forall_mem_cons.mpr ⟨(⟨by decide, by decide, rfl, 19, (r_34 (2, 3, .putfield 19, .putfield 162) (List.mem_of_getElem? (i := 3) rfl)), Or.inl ⟨rfl, Or.inl tw_t84⟩⟩ : sm_F 34 2 (.putfield 162) 3),
  fun _ h => absurd h List.not_mem_nil⟩
theorem f_34 : ∀ q ∈ cd_34, sm_F 34 q.1 q.2.2.2 q.2.1 := List.forall_mem_append.mpr ⟨fs_34, fl_34⟩
theorem r_35 : ∀ q ∈ cd_35, decode (mB 35) q.1 = .ok (q.2.2.1, q.2.1) := sm_all (by decide +kernel)
theorem fs_35 : ∀ q ∈ sp_35, sm_F 35 q.1 q.2.2.2 q.2.1 := sm_rsl (fun q h => r_35 q (List.mem_append_left _ h)) (by decide +kernel)
theorem fl_35 : ∀ q ∈ lk_35, sm_F 35 q.1 q.2.2.2 q.2.1 := List.forall_mem_cons.mpr ⟨(⟨rfl, mf_148, tw_t243, tw_t244, rfl, by decide, 25, (r_35 (4, 3, .invokevirtual 25, .invokevirtual 148) (List.mem_of_getElem? (i := 11) rfl)), Or.inl tw_t343⟩ : sm_F 35 4 (.invokevirtual 148) 3),
  List.forall_mem_cons.mpr ⟨(⟨rfl, mf_150, tw_t345, tw_t346, rfl, by decide, 30, (r_35 (13, 3, .invokevirtual 30, .invokevirtual 150) (List.mem_of_getElem? (i := 12) rfl)), Or.inl tw_t344⟩ : sm_F 35 13 (.invokevirtual 150) 3),
  List.forall_mem_cons.mpr ⟨(⟨rfl, mf_11, tw_t197, tw_t198, rfl, by decide, 34, (r_35 (16, 3, .invokevirtual 34, .invokevirtual 11) (List.mem_of_getElem? (i := 13) rfl)), Or.inl tw_t412⟩ : sm_F 35 16 (.invokevirtual 11) 3),
  fun _ h => absurd h List.not_mem_nil⟩⟩⟩
theorem f_35 : ∀ q ∈ cd_35, sm_F 35 q.1 q.2.2.2 q.2.1 := List.forall_mem_append.mpr ⟨fs_35, fl_35⟩
theorem r_36 : ∀ q ∈ cd_36, decode (mB 36) q.1 = .ok (q.2.2.1, q.2.1) := sm_all (by decide +kernel)
theorem fs_36 : ∀ q ∈ sp_36, sm_F 36 q.1 q.2.2.2 q.2.1 := sm_rsl (fun q h => r_36 q (List.mem_append_left _ h)) (by decide +kernel)
theorem fl_36 : ∀ q ∈ lk_36, sm_F 36 q.1 q.2.2.2 q.2.1 := List.forall_mem_cons.mpr ⟨(⟨rfl, mf_20, tw_t323, tw_t324, rfl, by decide, 56, (r_36 (6, 3, .invokevirtual 56, .invokevirtual 20) (List.mem_of_getElem? (i := 16) rfl)), Or.inl tw_t417⟩ : sm_F 36 6 (.invokevirtual 20) 3),
  List.forall_mem_cons.mpr ⟨(⟨rfl, mf_37, tw_t419, 60, (r_36 (15, 3, .invokestatic 60, .invokestatic 37) (List.mem_of_getElem? (i := 17) rfl)), Or.inl tw_t418⟩ : sm_F 36 15 (.invokestatic 37) 3),
  List.forall_mem_cons.mpr ⟨(⟨rfl, mf_38, tw_t423, tw_t424, rfl, by decide, 64, (r_36 (22, 3, .invokevirtual 64, .invokevirtual 38) (List.mem_of_getElem? (i := 18) rfl)), Or.inl tw_t422⟩ : sm_F 36 22 (.invokevirtual 38) 3),
  List.forall_mem_cons.mpr ⟨(⟨rfl, mf_39, tw_t428, tw_p2, rfl, by decide, 52, (r_36 (28, 3, .invokevirtual 52, .invokevirtual 39) (List.mem_of_getElem? (i := 19) rfl)), Or.inl tw_t426⟩ : sm_F 36 28 (.invokevirtual 39) 3),
  fun _ h => absurd h List.not_mem_nil⟩⟩⟩⟩
theorem f_36 : ∀ q ∈ cd_36, sm_F 36 q.1 q.2.2.2 q.2.1 := List.forall_mem_append.mpr ⟨fs_36, fl_36⟩
theorem r_37 : ∀ q ∈ cd_37, decode (mB 37) q.1 = .ok (q.2.2.1, q.2.1) := sm_all (by decide +kernel)
theorem fs_37 : ∀ q ∈ sp_37, sm_F 37 q.1 q.2.2.2 q.2.1 := sm_rsl (fun q h => r_37 q (List.mem_append_left _ h)) (by decide +kernel)
theorem fl_37 : ∀ q ∈ lk_37, sm_F 37 q.1 q.2.2.2 q.2.1 := List.forall_mem_cons.mpr ⟨(⟨171, (r_37 (5, 2, .ldc 171, .ldc 6) (List.mem_of_getElem? (i := 4) rfl)), rfl, by decide +kernel⟩ : ∃ x : Nat, decode (mB 37) 5 = .ok (.ldc x, 2) ∧ 2 = 2 ∧ (((mN 37).cls, x), 6) ∈ sKl),
  List.forall_mem_cons.mpr ⟨(⟨rfl, mf_35, tw_t409, tw_t410, rfl, by decide, 35, (r_37 (7, 3, .invokevirtual 35, .invokevirtual 35) (List.mem_of_getElem? (i := 5) rfl)), Or.inl tw_t408⟩ : sm_F 37 7 (.invokevirtual 35) 3),
  fun _ h => absurd h List.not_mem_nil⟩⟩
theorem f_37 : ∀ q ∈ cd_37, sm_F 37 q.1 q.2.2.2 q.2.1 := List.forall_mem_append.mpr ⟨fs_37, fl_37⟩
theorem r_38 : ∀ q ∈ cd_38, decode (mB 38) q.1 = .ok (q.2.2.1, q.2.1) := sm_all (by decide +kernel)
theorem fs_38 : ∀ q ∈ sp_38, sm_F 38 q.1 q.2.2.2 q.2.1 := sm_rsl (fun q h => r_38 q (List.mem_append_left _ h)) (by decide +kernel)
theorem fl_38 : ∀ q ∈ lk_38, sm_F 38 q.1 q.2.2.2 q.2.1 := List.forall_mem_cons.mpr ⟨(⟨by decide, by decide, rfl, 11, (r_38 (1, 3, .getfield 11, .getfield 64) (List.mem_of_getElem? (i := 4) rfl)), Or.inl tw_t47⟩ : sm_F 38 1 (.getfield 64) 3),
  fun _ h => absurd h List.not_mem_nil⟩
theorem f_38 : ∀ q ∈ cd_38, sm_F 38 q.1 q.2.2.2 q.2.1 := List.forall_mem_append.mpr ⟨fs_38, fl_38⟩
theorem r_39 : ∀ q ∈ cd_39, decode (mB 39) q.1 = .ok (q.2.2.1, q.2.1) := sm_all (by decide +kernel)
theorem fs_39 : ∀ q ∈ sp_39, sm_F 39 q.1 q.2.2.2 q.2.1 := sm_rsl (fun q h => r_39 q (List.mem_append_left _ h)) (by decide +kernel)
theorem fl_39 : ∀ q ∈ lk_39, sm_F 39 q.1 q.2.2.2 q.2.1 := List.forall_mem_cons.mpr ⟨(⟨rfl, mf_10, tw_t193, tw_t194, rfl, by decide, 68, (r_39 (2, 3, .invokevirtual 68, .invokevirtual 10) (List.mem_of_getElem? (i := 69) rfl)), Or.inl tw_t430⟩ : sm_F 39 2 (.invokevirtual 10) 3),
  List.forall_mem_cons.mpr ⟨(⟨by decide, by decide, rfl, 12, (r_39 (12, 3, .getfield 12, .getfield 128) (List.mem_of_getElem? (i := 70) rfl)), Or.inl tw_t96⟩ : sm_F 39 12 (.getfield 128) 3),
  List.forall_mem_cons.mpr ⟨(⟨rfl, mf_40, tw_t432, tw_t433, rfl, by decide, 71, (r_39 (15, 3, .invokevirtual 71, .invokevirtual 40) (List.mem_of_getElem? (i := 71) rfl)), Or.inl tw_t431⟩ : sm_F 39 15 (.invokevirtual 40) 3),
  List.forall_mem_cons.mpr ⟨(⟨rfl, mf_41, tw_t436, tw_t437, rfl, by decide, 75, (r_39 (24, 3, .invokevirtual 75, .invokevirtual 41) (List.mem_of_getElem? (i := 72) rfl)), Or.inl tw_t435⟩ : sm_F 39 24 (.invokevirtual 41) 3),
  List.forall_mem_cons.mpr ⟨(⟨rfl, mf_42, tw_t441, tw_p3, rfl, by decide, 78, (r_39 (36, 3, .invokevirtual 78, .invokevirtual 42) (List.mem_of_getElem? (i := 73) rfl)), Or.inl tw_t439⟩ : sm_F 39 36 (.invokevirtual 42) 3),
  List.forall_mem_cons.mpr ⟨(⟨rfl, mf_46, tw_t473, tw_t474, rfl, by decide, 81, (r_39 (41, 3, .invokevirtual 81, .invokevirtual 46) (List.mem_of_getElem? (i := 74) rfl)), Or.inl tw_t472⟩ : sm_F 39 41 (.invokevirtual 46) 3),
  List.forall_mem_cons.mpr ⟨(⟨by decide, by decide, rfl, 12, (r_39 (163, 3, .getfield 12, .getfield 128) (List.mem_of_getElem? (i := 75) rfl)), Or.inl tw_t96⟩ : sm_F 39 163 (.getfield 128) 3),
  List.forall_mem_cons.mpr ⟨(⟨rfl, mf_43, tw_t444, tw_t445, rfl, by decide, 84, (r_39 (166, 3, .invokevirtual 84, .invokevirtual 43) (List.mem_of_getElem? (i := 76) rfl)), Or.inl tw_t443⟩ : sm_F 39 166 (.invokevirtual 43) 3),
  List.forall_mem_cons.mpr ⟨(⟨87, (r_39 (174, 2, .ldc 87, .ldc 34) (List.mem_of_getElem? (i := 77) rfl)), rfl, by decide +kernel⟩ : ∃ x : Nat, decode (mB 39) 174 = .ok (.ldc x, 2) ∧ 2 = 2 ∧ (((mN 39).cls, x), 34) ∈ sKl),
  List.forall_mem_cons.mpr ⟨(⟨89, (r_39 (179, 2, .ldc 89, .ldc 36) (List.mem_of_getElem? (i := 78) rfl)), rfl, by decide +kernel⟩ : ∃ x : Nat, decode (mB 39) 179 = .ok (.ldc x, 2) ∧ 2 = 2 ∧ (((mN 39).cls, x), 36) ∈ sKl),
  List.forall_mem_cons.mpr ⟨(⟨rfl, mf_35, tw_t409, tw_t410, rfl, by decide, 35, (r_39 (181, 3, .invokevirtual 35, .invokevirtual 35) (List.mem_of_getElem? (i := 79) rfl)), Or.inl tw_t408⟩ : sm_F 39 181 (.invokevirtual 35) 3),
  List.forall_mem_cons.mpr ⟨(⟨91, (r_39 (189, 2, .ldc 91, .ldc 38) (List.mem_of_getElem? (i := 80) rfl)), rfl, by decide +kernel⟩ : ∃ x : Nat, decode (mB 39) 189 = .ok (.ldc x, 2) ∧ 2 = 2 ∧ (((mN 39).cls, x), 38) ∈ sKl),
  List.forall_mem_cons.mpr ⟨(⟨rfl, mf_35, tw_t409, tw_t410, rfl, by decide, 35, (r_39 (191, 3, .invokevirtual 35, .invokevirtual 35) (List.mem_of_getElem? (i := 81) rfl)), Or.inl tw_t408⟩ : sm_F 39 191 (.invokevirtual 35) 3),
  List.forall_mem_cons.mpr ⟨(⟨by decide, by decide, rfl, 12, (r_39 (197, 3, .getfield 12, .getfield 128) (List.mem_of_getElem? (i := 82) rfl)), Or.inl tw_t96⟩ : sm_F 39 197 (.getfield 128) 3),
  List.forall_mem_cons.mpr ⟨(⟨rfl, mf_43, tw_t444, tw_t445, rfl, by decide, 84, (r_39 (200, 3, .invokevirtual 84, .invokevirtual 43) (List.mem_of_getElem? (i := 83) rfl)), Or.inl tw_t443⟩ : sm_F 39 200 (.invokevirtual 43) 3),
  List.forall_mem_cons.mpr ⟨(⟨rfl, mf_47, tw_t480, tw_t481, rfl, by decide, 93, (r_39 (205, 3, .invokevirtual 93, .invokevirtual 47) (List.mem_of_getElem? (i := 84) rfl)), Or.inl tw_t479⟩ : sm_F 39 205 (.invokevirtual 47) 3),
  List.forall_mem_cons.mpr ⟨(⟨97, (r_39 (213, 2, .ldc 97, .ldc 40) (List.mem_of_getElem? (i := 85) rfl)), rfl, by decide +kernel⟩ : ∃ x : Nat, decode (mB 39) 213 = .ok (.ldc x, 2) ∧ 2 = 2 ∧ (((mN 39).cls, x), 40) ∈ sKl),
  List.forall_mem_cons.mpr ⟨(⟨rfl, mf_35, tw_t409, tw_t410, rfl, by decide, 35, (r_39 (215, 3, .invokevirtual 35, .invokevirtual 35) (List.mem_of_getElem? (i := 86) rfl)), Or.inl tw_t408⟩ : sm_F 39 215 (.invokevirtual 35) 3),
  List.forall_mem_cons.mpr ⟨(⟨by decide, by decide, rfl, 12, (r_39 (221, 3, .getfield 12, .getfield 128) (List.mem_of_getElem? (i := 87) rfl)), Or.inl tw_t96⟩ : sm_F 39 221 (.getfield 128) 3),
  List.forall_mem_cons.mpr ⟨(⟨rfl, mf_43, tw_t444, tw_t445, rfl, by decide, 84, (r_39 (224, 3, .invokevirtual 84, .invokevirtual 43) (List.mem_of_getElem? (i := 88) rfl)), Or.inl tw_t443⟩ : sm_F 39 224 (.invokevirtual 43) 3),
  List.forall_mem_cons.mpr ⟨(⟨rfl, mf_47, tw_t480, tw_t481, rfl, by decide, 93, (r_39 (229, 3, .invokevirtual 93, .invokevirtual 47) (List.mem_of_getElem? (i := 89) rfl)), Or.inl tw_t479⟩ : sm_F 39 229 (.invokevirtual 47) 3),
  List.forall_mem_cons.mpr ⟨(⟨rfl, mf_11, tw_t197, tw_t198, rfl, by decide, 43, (r_39 (239, 3, .invokevirtual 43, .invokevirtual 11) (List.mem_of_getElem? (i := 90) rfl)), Or.inl tw_t471⟩ : sm_F 39 239 (.invokevirtual 11) 3),
  List.forall_mem_cons.mpr ⟨(⟨by decide, by decide, rfl, 12, (r_39 (243, 3, .getfield 12, .getfield 128) (List.mem_of_getElem? (i := 91) rfl)), Or.inl tw_t96⟩ : sm_F 39 243 (.getfield 128) 3),
  List.forall_mem_cons.mpr ⟨(⟨rfl, mf_43, tw_t444, tw_t445, rfl, by decide, 84, (r_39 (246, 3, .invokevirtual 84, .invokevirtual 43) (List.mem_of_getElem? (i := 92) rfl)), Or.inl tw_t443⟩ : sm_F 39 246 (.invokevirtual 43) 3),
  List.forall_mem_cons.mpr ⟨(⟨rfl, mf_48, tw_t491, 99, (r_39 (253, 3, .invokestatic 99, .invokestatic 48) (List.mem_of_getElem? (i := 93) rfl)), Or.inl tw_t490⟩ : sm_F 39 253 (.invokestatic 48) 3),
  List.forall_mem_cons.mpr ⟨(⟨rfl, mf_11, tw_t197, tw_t198, rfl, by decide, 43, (r_39 (260, 3, .invokevirtual 43, .invokevirtual 11) (List.mem_of_getElem? (i := 94) rfl)), Or.inl tw_t471⟩ : sm_F 39 260 (.invokevirtual 11) 3),
  List.forall_mem_cons.mpr ⟨(⟨by decide, by decide, rfl, 12, (r_39 (267, 3, .getfield 12, .getfield 128) (List.mem_of_getElem? (i := 95) rfl)), Or.inl tw_t96⟩ : sm_F 39 267 (.getfield 128) 3),
  List.forall_mem_cons.mpr ⟨(⟨rfl, mf_43, tw_t444, tw_t445, rfl, by decide, 84, (r_39 (270, 3, .invokevirtual 84, .invokevirtual 43) (List.mem_of_getElem? (i := 96) rfl)), Or.inl tw_t443⟩ : sm_F 39 270 (.invokevirtual 43) 3),
  List.forall_mem_cons.mpr ⟨(⟨rfl, mf_49, tw_t501, 103, (r_39 (275, 3, .invokestatic 103, .invokestatic 49) (List.mem_of_getElem? (i := 97) rfl)), Or.inl tw_t500⟩ : sm_F 39 275 (.invokestatic 49) 3),
  List.forall_mem_cons.mpr ⟨(⟨rfl, mf_50, tw_t507, tw_p5, rfl, by decide, 106, (r_39 (284, 3, .invokevirtual 106, .invokevirtual 50) (List.mem_of_getElem? (i := 98) rfl)), Or.inl tw_t505⟩ : sm_F 39 284 (.invokevirtual 50) 3),
  List.forall_mem_cons.mpr ⟨(⟨by decide, by decide, rfl, 12, (r_39 (291, 3, .getfield 12, .getfield 128) (List.mem_of_getElem? (i := 99) rfl)), Or.inl tw_t96⟩ : sm_F 39 291 (.getfield 128) 3),
  List.forall_mem_cons.mpr ⟨(⟨rfl, mf_43, tw_t444, tw_t445, rfl, by decide, 84, (r_39 (294, 3, .invokevirtual 84, .invokevirtual 43) (List.mem_of_getElem? (i := 100) rfl)), Or.inl tw_t443⟩ : sm_F 39 294 (.invokevirtual 43) 3),
  List.forall_mem_cons.mpr ⟨(⟨rfl, mf_51, tw_t513, 110, (r_39 (301, 3, .invokestatic 110, .invokestatic 51) (List.mem_of_getElem? (i := 101) rfl)), Or.inl tw_t512⟩ : sm_F 39 301 (.invokestatic 51) 3),
  List.forall_mem_cons.mpr ⟨(⟨rfl, mf_11, tw_t197, tw_t198, rfl, by decide, 43, (r_39 (308, 3, .invokevirtual 43, .invokevirtual 11) (List.mem_of_getElem? (i := 102) rfl)), Or.inl tw_t471⟩ : sm_F 39 308 (.invokevirtual 11) 3),
  List.forall_mem_cons.mpr ⟨(⟨by decide, by decide, rfl, 12, (r_39 (315, 3, .getfield 12, .getfield 128) (List.mem_of_getElem? (i := 103) rfl)), Or.inl tw_t96⟩ : sm_F 39 315 (.getfield 128) 3),
  List.forall_mem_cons.mpr ⟨(⟨rfl, mf_43, tw_t444, tw_t445, rfl, by decide, 84, (r_39 (318, 3, .invokevirtual 84, .invokevirtual 43) (List.mem_of_getElem? (i := 104) rfl)), Or.inl tw_t443⟩ : sm_F 39 318 (.invokevirtual 43) 3),
  List.forall_mem_cons.mpr ⟨(⟨rfl, mf_51, tw_t513, 110, (r_39 (324, 3, .invokestatic 110, .invokestatic 51) (List.mem_of_getElem? (i := 105) rfl)), Or.inl tw_t512⟩ : sm_F 39 324 (.invokestatic 51) 3),
  List.forall_mem_cons.mpr ⟨(⟨rfl, mf_52, tw_t519, tw_p6, rfl, by decide, 114, (r_39 (333, 3, .invokevirtual 114, .invokevirtual 52) (List.mem_of_getElem? (i := 106) rfl)), Or.inl tw_t517⟩ : sm_F 39 333 (.invokevirtual 52) 3),
  List.forall_mem_cons.mpr ⟨(⟨rfl, mf_53, tw_t522, tw_t523, rfl, by decide, 117, (r_39 (341, 3, .invokevirtual 117, .invokevirtual 53) (List.mem_of_getElem? (i := 107) rfl)), Or.inl tw_t521⟩ : sm_F 39 341 (.invokevirtual 53) 3),
  List.forall_mem_cons.mpr ⟨(⟨rfl, mf_54, tw_t527, tw_p7, rfl, by decide, 120, (r_39 (347, 3, .invokevirtual 120, .invokevirtual 54) (List.mem_of_getElem? (i := 108) rfl)), Or.inl tw_t525⟩ : sm_F 39 347 (.invokevirtual 54) 3),
  fun _ h => absurd h List.not_mem_nil⟩⟩⟩⟩⟩⟩⟩⟩⟩⟩⟩⟩⟩⟩⟩⟩⟩⟩⟩⟩⟩⟩⟩⟩⟩⟩⟩⟩⟩⟩⟩⟩⟩⟩⟩⟩⟩⟩⟩⟩
theorem f_39 : ∀ q ∈ cd_39, sm_F 39 q.1 q.2.2.2 q.2.1 := List.forall_mem_append.mpr ⟨fs_39, fl_39⟩
theorem r_40 : ∀ q ∈ cd_40, decode (mB 40) q.1 = .ok (q.2.2.1, q.2.1) := sm_all (by decide +kernel)
theorem fs_40 : ∀ q ∈ sp_40, sm_F 40 q.1 q.2.2.2 q.2.1 := sm_rsl (fun q h => r_40 q (List.mem_append_left _ h)) (by decide +kernel)
theorem fl_40 : ∀ q ∈ lk_40, sm_F 40 q.1 q.2.2.2 q.2.1 := List.forall_mem_cons.mpr ⟨(⟨by decide, by decide, rfl, 19, (r_40 (1, 3, .getfield 19, .getfield 162) (List.mem_of_getElem? (i := 7) rfl)), Or.inl tw_t84⟩ : sm_F 40 1 (.getfield 162) 3),
  List.forall_mem_cons.mpr ⟨(⟨by decide, by decide, rfl, 15, (r_40 (5, 3, .getfield 15, .getfield 161) (List.mem_of_getElem? (i := 8) rfl)), Or.inl tw_t83⟩ : sm_F 40 5 (.getfield 161) 3),
  fun _ h => absurd h List.not_mem_nil⟩⟩
theorem f_40 : ∀ q ∈ cd_40, sm_F 40 q.1 q.2.2.2 q.2.1 := List.forall_mem_append.mpr ⟨fs_40, fl_40⟩
theorem r_41 : ∀ q ∈ cd_41, decode (mB 41) q.1 = .ok (q.2.2.1, q.2.1) := sm_all (by decide +kernel)
theorem fs_41 : ∀ q ∈ sp_41, sm_F 41 q.1 q.2.2.2 q.2.1 := sm_rsl (fun q h => r_41 q (List.mem_append_left _ h)) (by decide +kernel)
theorem fl_41 : ∀ q ∈ lk_41, sm_F 41 q.1 q.2.2.2 q.2.1 := List.forall_mem_cons.mpr ⟨(⟨by decide, by decide, rfl, 9, (r_41 (1, 3, .getfield 9, .getfield 96) (List.mem_of_getElem? (i := 2) rfl)), Or.inl tw_t60⟩ : sm_F 41 1 (.getfield 96) 3),
  fun _ h => absurd h List.not_mem_nil⟩
theorem f_41 : ∀ q ∈ cd_41, sm_F 41 q.1 q.2.2.2 q.2.1 := List.forall_mem_append.mpr ⟨fs_41, fl_41⟩
theorem r_42 : ∀ q ∈ cd_42, decode (mB 42) q.1 = .ok (q.2.2.1, q.2.1) := sm_all (by decide +kernel)
theorem fs_42 : ∀ q ∈ sp_42, sm_F 42 q.1 q.2.2.2 q.2.1 := sm_rsl (fun q h => r_42 q (List.mem_append_left _ h)) (by decide +kernel)
theorem fl_42 : ∀ q ∈ lk_42, sm_F 42 q.1 q.2.2.2 q.2.1 := List.forall_mem_cons.mpr ⟨(⟨by decide, by decide, rfl, 12, (r_42 (1, 3, .getfield 12, .getfield 128) (List.mem_of_getElem? (i := 36) rfl)), Or.inl tw_t96⟩ : sm_F 42 1 (.getfield 128) 3),
  List.forall_mem_cons.mpr ⟨(⟨rfl, mf_43, tw_t444, tw_t445, rfl, by decide, 84, (r_42 (4, 3, .invokevirtual 84, .invokevirtual 43) (List.mem_of_getElem? (i := 37) rfl)), Or.inl tw_t443⟩ : sm_F 42 4 (.invokevirtual 43) 3),
  List.forall_mem_cons.mpr ⟨(⟨124, (r_42 (16, 2, .ldc 124, .ldc 8) (List.mem_of_getElem? (i := 38) rfl)), rfl, by decide +kernel⟩ : ∃ x : Nat, decode (mB 42) 16 = .ok (.ldc x, 2) ∧ 2 = 2 ∧ (((mN 42).cls, x), 8) ∈ sKl),
  List.forall_mem_cons.mpr ⟨(⟨rfl, mf_35, tw_t409, tw_t410, rfl, by decide, 35, (r_42 (18, 3, .invokevirtual 35, .invokevirtual 35) (List.mem_of_getElem? (i := 39) rfl)), Or.inl tw_t408⟩ : sm_F 42 18 (.invokevirtual 35) 3),
  List.forall_mem_cons.mpr ⟨(⟨126, (r_42 (28, 2, .ldc 126, .ldc 10) (List.mem_of_getElem? (i := 40) rfl)), rfl, by decide +kernel⟩ : ∃ x : Nat, decode (mB 42) 28 = .ok (.ldc x, 2) ∧ 2 = 2 ∧ (((mN 42).cls, x), 10) ∈ sKl),
  List.forall_mem_cons.mpr ⟨(⟨rfl, mf_35, tw_t409, tw_t410, rfl, by decide, 35, (r_42 (30, 3, .invokevirtual 35, .invokevirtual 35) (List.mem_of_getElem? (i := 41) rfl)), Or.inl tw_t408⟩ : sm_F 42 30 (.invokevirtual 35) 3),
  List.forall_mem_cons.mpr ⟨(⟨rfl, mf_44, tw_t451, tw_t452, rfl, by decide, 128, (r_42 (36, 3, .invokevirtual 128, .invokevirtual 44) (List.mem_of_getElem? (i := 42) rfl)), Or.inl tw_t450⟩ : sm_F 42 36 (.invokevirtual 44) 3),
  List.forall_mem_cons.mpr ⟨(⟨rfl, mf_11, tw_t197, tw_t198, rfl, by decide, 43, (r_42 (43, 3, .invokevirtual 43, .invokevirtual 11) (List.mem_of_getElem? (i := 43) rfl)), Or.inl tw_t471⟩ : sm_F 42 43 (.invokevirtual 11) 3),
  List.forall_mem_cons.mpr ⟨(⟨rfl, mf_11, tw_t197, tw_t198, rfl, by decide, 43, (r_42 (50, 3, .invokevirtual 43, .invokevirtual 11) (List.mem_of_getElem? (i := 44) rfl)), Or.inl tw_t471⟩ : sm_F 42 50 (.invokevirtual 11) 3),
  List.forall_mem_cons.mpr ⟨(⟨rfl, mf_37, tw_t419, 60, (r_42 (69, 3, .invokestatic 60, .invokestatic 37) (List.mem_of_getElem? (i := 45) rfl)), Or.inl tw_t418⟩ : sm_F 42 69 (.invokestatic 37) 3),
  List.forall_mem_cons.mpr ⟨(⟨rfl, mf_39, tw_t428, tw_p2, rfl, by decide, 52, (r_42 (80, 3, .invokevirtual 52, .invokevirtual 39) (List.mem_of_getElem? (i := 46) rfl)), Or.inl tw_t426⟩ : sm_F 42 80 (.invokevirtual 39) 3),
  List.forall_mem_cons.mpr ⟨(⟨rfl, mf_11, tw_t197, tw_t198, rfl, by decide, 43, (r_42 (93, 3, .invokevirtual 43, .invokevirtual 11) (List.mem_of_getElem? (i := 47) rfl)), Or.inl tw_t471⟩ : sm_F 42 93 (.invokevirtual 11) 3),
  fun _ h => absurd h List.not_mem_nil⟩⟩⟩⟩⟩⟩⟩⟩⟩⟩⟩⟩
theorem f_42 : ∀ q ∈ cd_42, sm_F 42 q.1 q.2.2.2 q.2.1 := List.forall_mem_append.mpr ⟨fs_42, fl_42⟩
theorem r_43 : ∀ q ∈ cd_43, decode (mB 43) q.1 = .ok (q.2.2.1, q.2.1) := sm_all (by decide +kernel)
theorem fs_43 : ∀ q ∈ sp_43, sm_F 43 q.1 q.2.2.2 q.2.1 := sm_rsl (fun q h => r_43 q (List.mem_append_left _ h)) (by decide +kernel)
theorem fl_43 : ∀ q ∈ lk_43, sm_F 43 q.1 q.2.2.2 q.2.1 := List.forall_mem_cons.mpr ⟨(⟨rfl, mf_40, tw_t432, tw_t433, rfl, by decide, 22, (r_43 (1, 3, .invokevirtual 22, .invokevirtual 40) (List.mem_of_getElem? (i := 14) rfl)), Or.inl tw_t447⟩ : sm_F 43 1 (.invokevirtual 40) 3),
  List.forall_mem_cons.mpr ⟨(⟨by decide, by decide, rfl, 19, (r_43 (11, 3, .getfield 19, .getfield 162) (List.mem_of_getElem? (i := 15) rfl)), Or.inl tw_t84⟩ : sm_F 43 11 (.getfield 162) 3),
  List.forall_mem_cons.mpr ⟨(⟨by decide, by decide, rfl, 19, (r_43 (16, 3, .putfield 19, .putfield 162) (List.mem_of_getElem? (i := 16) rfl)), Or.inl ⟨rfl, Or.inl tw_t84⟩⟩ : sm_F 43 16 (.putfield 162) 3),
  List.forall_mem_cons.mpr ⟨(⟨by decide, by decide, rfl, 9, (r_43 (20, 3, .getfield 9, .getfield 160) (List.mem_of_getElem? (i := 17) rfl)), Or.inl tw_t82⟩ : sm_F 43 20 (.getfield 160) 3),
  List.forall_mem_cons.mpr ⟨(⟨by decide, by decide, rfl, 19, (r_43 (24, 3, .getfield 19, .getfield 162) (List.mem_of_getElem? (i := 18) rfl)), Or.inl tw_t84⟩ : sm_F 43 24 (.getfield 162) 3),
  fun _ h => absurd h List.not_mem_nil⟩⟩⟩⟩⟩
theorem f_43 : ∀ q ∈ cd_43, sm_F 43 q.1 q.2.2.2 q.2.1 := List.forall_mem_append.mpr ⟨fs_43, fl_43⟩
theorem r_44 : ∀ q ∈ cd_44, decode (mB 44) q.1 = .ok (q.2.2.1, q.2.1) := sm_all (by decide +kernel)
theorem fs_44 : ∀ q ∈ sp_44, sm_F 44 q.1 q.2.2.2 q.2.1 := sm_rsl (fun q h => r_44 q (List.mem_append_left _ h)) (by decide +kernel)
theorem fl_44 : ∀ q ∈ lk_44, sm_F 44 q.1 q.2.2.2 q.2.1 := List.forall_mem_cons.mpr ⟨(⟨rfl, mf_45, tw_t456, tw_p4, rfl, by decide, 54, (r_44 (2, 3, .invokevirtual 54, .invokevirtual 45) (List.mem_of_getElem? (i := 18) rfl)), Or.inl tw_t454⟩ : sm_F 44 2 (.invokevirtual 45) 3),
  List.forall_mem_cons.mpr ⟨(⟨rfl, mf_35, tw_t409, tw_t410, rfl, by decide, 58, (r_44 (5, 3, .invokevirtual 58, .invokevirtual 35) (List.mem_of_getElem? (i := 19) rfl)), Or.inl tw_t468⟩ : sm_F 44 5 (.invokevirtual 35) 3),
  List.forall_mem_cons.mpr ⟨(⟨by decide, by decide, rfl, 15, (r_44 (9, 3, .getfield 15, .getfield 97) (List.mem_of_getElem? (i := 20) rfl)), Or.inl tw_t61⟩ : sm_F 44 9 (.getfield 97) 3),
  List.forall_mem_cons.mpr ⟨(⟨by decide, by decide, rfl, 18, (r_44 (21, 3, .getfield 18, .getfield 98) (List.mem_of_getElem? (i := 21) rfl)), Or.inl tw_t62⟩ : sm_F 44 21 (.getfield 98) 3),
  List.forall_mem_cons.mpr ⟨(⟨rfl, mf_11, tw_t197, tw_t198, rfl, by decide, 62, (r_44 (25, 3, .invokevirtual 62, .invokevirtual 11) (List.mem_of_getElem? (i := 22) rfl)), Or.inl tw_t469⟩ : sm_F 44 25 (.invokevirtual 11) 3),
  List.forall_mem_cons.mpr ⟨(⟨by decide, by decide, rfl, 9, (r_44 (32, 3, .getfield 9, .getfield 96) (List.mem_of_getElem? (i := 23) rfl)), Or.inl tw_t60⟩ : sm_F 44 32 (.getfield 96) 3),
  List.forall_mem_cons.mpr ⟨(⟨65, (r_44 (39, 2, .ldc 65, .ldc 32) (List.mem_of_getElem? (i := 24) rfl)), rfl, by decide +kernel⟩ : ∃ x : Nat, decode (mB 44) 39 = .ok (.ldc x, 2) ∧ 2 = 2 ∧ (((mN 44).cls, x), 32) ∈ sKl),
  List.forall_mem_cons.mpr ⟨(⟨rfl, mf_35, tw_t409, tw_t410, rfl, by decide, 58, (r_44 (41, 3, .invokevirtual 58, .invokevirtual 35) (List.mem_of_getElem? (i := 25) rfl)), Or.inl tw_t468⟩ : sm_F 44 41 (.invokevirtual 35) 3),
  fun _ h => absurd h List.not_mem_nil⟩⟩⟩⟩⟩⟩⟩⟩
theorem f_44 : ∀ q ∈ cd_44, sm_F 44 q.1 q.2.2.2 q.2.1 := List.forall_mem_append.mpr ⟨fs_44, fl_44⟩
theorem r_45 : ∀ q ∈ cd_45, decode (mB 45) q.1 = .ok (q.2.2.1, q.2.1) := sm_all (by decide +kernel)
theorem fs_45 : ∀ q ∈ sp_45, sm_F 45 q.1 q.2.2.2 q.2.1 := sm_rsl (fun q h => r_45 q (List.mem_append_left _ h)) (by decide +kernel)
theorem fl_45 : ∀ q ∈ lk_45, sm_F 45 q.1 q.2.2.2 q.2.1 := List.forall_mem_cons.mpr ⟨(⟨by decide, by decide, rfl, 15, (r_45 (1, 3, .getfield 15, .getfield 97) (List.mem_of_getElem? (i := 12) rfl)), Or.inl tw_t61⟩ : sm_F 45 1 (.getfield 97) 3),
  List.forall_mem_cons.mpr ⟨(⟨67, (r_45 (120, 2, .ldc 67, .ldc 12) (List.mem_of_getElem? (i := 13) rfl)), rfl, by decide +kernel⟩ : ∃ x : Nat, decode (mB 45) 120 = .ok (.ldc x, 2) ∧ 2 = 2 ∧ (((mN 45).cls, x), 12) ∈ sKl),
  List.forall_mem_cons.mpr ⟨(⟨69, (r_45 (123, 2, .ldc 69, .ldc 14) (List.mem_of_getElem? (i := 14) rfl)), rfl, by decide +kernel⟩ : ∃ x : Nat, decode (mB 45) 123 = .ok (.ldc x, 2) ∧ 2 = 2 ∧ (((mN 45).cls, x), 14) ∈ sKl),
  List.forall_mem_cons.mpr ⟨(⟨71, (r_45 (126, 2, .ldc 71, .ldc 16) (List.mem_of_getElem? (i := 15) rfl)), rfl, by decide +kernel⟩ : ∃ x : Nat, decode (mB 45) 126 = .ok (.ldc x, 2) ∧ 2 = 2 ∧ (((mN 45).cls, x), 16) ∈ sKl),
  List.forall_mem_cons.mpr ⟨(⟨73, (r_45 (129, 2, .ldc 73, .ldc 18) (List.mem_of_getElem? (i := 16) rfl)), rfl, by decide +kernel⟩ : ∃ x : Nat, decode (mB 45) 129 = .ok (.ldc x, 2) ∧ 2 = 2 ∧ (((mN 45).cls, x), 18) ∈ sKl),
  List.forall_mem_cons.mpr ⟨(⟨75, (r_45 (132, 2, .ldc 75, .ldc 20) (List.mem_of_getElem? (i := 17) rfl)), rfl, by decide +kernel⟩ : ∃ x : Nat, decode (mB 45) 132 = .ok (.ldc x, 2) ∧ 2 = 2 ∧ (((mN 45).cls, x), 20) ∈ sKl),
  List.forall_mem_cons.mpr ⟨(⟨77, (r_45 (135, 2, .ldc 77, .ldc 22) (List.mem_of_getElem? (i := 18) rfl)), rfl, by decide +kernel⟩ : ∃ x : Nat, decode (mB 45) 135 = .ok (.ldc x, 2) ∧ 2 = 2 ∧ (((mN 45).cls, x), 22) ∈ sKl),
  List.forall_mem_cons.mpr ⟨(⟨79, (r_45 (138, 2, .ldc 79, .ldc 24) (List.mem_of_getElem? (i := 19) rfl)), rfl, by decide +kernel⟩ : ∃ x : Nat, decode (mB 45) 138 = .ok (.ldc x, 2) ∧ 2 = 2 ∧ (((mN 45).cls, x), 24) ∈ sKl),
  List.forall_mem_cons.mpr ⟨(⟨81, (r_45 (141, 2, .ldc 81, .ldc 26) (List.mem_of_getElem? (i := 20) rfl)), rfl, by decide +kernel⟩ : ∃ x : Nat, decode (mB 45) 141 = .ok (.ldc x, 2) ∧ 2 = 2 ∧ (((mN 45).cls, x), 26) ∈ sKl),
  List.forall_mem_cons.mpr ⟨(⟨83, (r_45 (144, 2, .ldc 83, .ldc 28) (List.mem_of_getElem? (i := 21) rfl)), rfl, by decide +kernel⟩ : ∃ x : Nat, decode (mB 45) 144 = .ok (.ldc x, 2) ∧ 2 = 2 ∧ (((mN 45).cls, x), 28) ∈ sKl),
  List.forall_mem_cons.mpr ⟨(⟨85, (r_45 (147, 2, .ldc 85, .ldc 30) (List.mem_of_getElem? (i := 22) rfl)), rfl, by decide +kernel⟩ : ∃ x : Nat, decode (mB 45) 147 = .ok (.ldc x, 2) ∧ 2 = 2 ∧ (((mN 45).cls, x), 30) ∈ sKl),
  fun _ h => absurd h List.not_mem_nil⟩⟩⟩⟩⟩⟩⟩⟩⟩⟩⟩
theorem f_45 : ∀ q ∈ cd_45, sm_F 45 q.1 q.2.2.2 q.2.1 := List.forall_mem_append.mpr ⟨fs_45, fl_45⟩
theorem r_46 : ∀ q ∈ cd_46, decode (mB 46) q.1 = .ok (q.2.2.1, q.2.1) := sm_all (by decide +kernel)
theorem fs_46 : ∀ q ∈ sp_46, sm_F 46 q.1 q.2.2.2 q.2.1 := sm_rsl (fun q h => r_46 q (List.mem_append_left _ h)) (by decide +kernel)
theorem fl_46 : ∀ q ∈ lk_46, sm_F 46 q.1 q.2.2.2 q.2.1 := List.forall_mem_cons.mpr ⟨(⟨by decide, by decide, rfl, 15, (r_46 (1, 3, .getfield 15, .getfield 97) (List.mem_of_getElem? (i := 2) rfl)), Or.inl tw_t61⟩ : sm_F 46 1 (.getfield 97) 3),
  fun _ h => absurd h List.not_mem_nil⟩
theorem f_46 : ∀ q ∈ cd_46, sm_F 46 q.1 q.2.2.2 q.2.1 := List.forall_mem_append.mpr ⟨fs_46, fl_46⟩
theorem r_47 : ∀ q ∈ cd_47, decode (mB 47) q.1 = .ok (q.2.2.1, q.2.1) := sm_all (by decide +kernel)
theorem fs_47 : ∀ q ∈ sp_47, sm_F 47 q.1 q.2.2.2 q.2.1 := sm_rsl (fun q h => r_47 q (List.mem_append_left _ h)) (by decide +kernel)
theorem fl_47 : ∀ q ∈ lk_47, sm_F 47 q.1 q.2.2.2 q.2.1 := List.forall_mem_cons.mpr ⟨(⟨rfl, mf_11, tw_t197, tw_t198, rfl, by decide, 34, (r_47 (9, 3, .invokevirtual 34, .invokevirtual 11) (List.mem_of_getElem? (i := 45) rfl)), Or.inl tw_t412⟩ : sm_F 47 9 (.invokevirtual 11) 3),
  List.forall_mem_cons.mpr ⟨(Or.inr ⟨45, (r_47 (27, 3, .ldc2_w 45, .ldc2_w 9) (List.mem_of_getElem? (i := 46) rfl)), rfl, tw_t483⟩ : sm_F 47 27 (.ldc2_w 9) 3),
  List.forall_mem_cons.mpr ⟨(Or.inr ⟨47, (r_47 (37, 3, .ldc2_w 47, .ldc2_w 18446744073709551607) (List.mem_of_getElem? (i := 47) rfl)), rfl, tw_t484⟩ : sm_F 47 37 (.ldc2_w 18446744073709551607) 3),
  List.forall_mem_cons.mpr ⟨(Or.inr ⟨49, (r_47 (45, 3, .ldc2_w 49, .ldc2_w 10) (List.mem_of_getElem? (i := 48) rfl)), rfl, tw_t485⟩ : sm_F 47 45 (.ldc2_w 10) 3),
  List.forall_mem_cons.mpr ⟨(Or.inr ⟨49, (r_47 (68, 3, .ldc2_w 49, .ldc2_w 10) (List.mem_of_getElem? (i := 49) rfl)), rfl, tw_t485⟩ : sm_F 47 68 (.ldc2_w 10) 3),
  List.forall_mem_cons.mpr ⟨(⟨rfl, 51, (r_47 (72, 3, .invokestatic 51, .dneg) (List.mem_of_getElem? (i := 50) rfl)), tw_t486, tw_t487, tw_t9, tw_t488⟩ : sm_F 47 72 .dneg 3),
  List.forall_mem_cons.mpr ⟨(⟨rfl, mf_11, tw_t197, tw_t198, rfl, by decide, 34, (r_47 (77, 3, .invokevirtual 34, .invokevirtual 11) (List.mem_of_getElem? (i := 51) rfl)), Or.inl tw_t412⟩ : sm_F 47 77 (.invokevirtual 11) 3),
  List.forall_mem_cons.mpr ⟨(Or.inr ⟨49, (r_47 (81, 3, .ldc2_w 49, .ldc2_w 10) (List.mem_of_getElem? (i := 52) rfl)), rfl, tw_t485⟩ : sm_F 47 81 (.ldc2_w 10) 3),
  fun _ h => absurd h List.not_mem_nil⟩⟩⟩⟩⟩⟩⟩⟩
theorem f_47 : ∀ q ∈ cd_47, sm_F 47 q.1 q.2.2.2 q.2.1 := List.forall_mem_append.mpr ⟨fs_47, fl_47⟩
theorem r_48 : ∀ q ∈ cd_48, decode (mB 48) q.1 = .ok (q.2.2.1, q.2.1) := sm_all (by decide +kernel)
theorem fs_48 : ∀ q ∈ sp_48, sm_F 48 q.1 q.2.2.2 q.2.1 := sm_rsl (fun q h => r_48 q (List.mem_append_left _ h)) (by decide +kernel)
theorem fl_48 : ∀ q ∈ lk_48, sm_F 48 q.1 q.2.2.2 q.2.1 := List.forall_mem_cons.mpr ⟨(Or.inr (Or.inr (Or.inr ⟨154, (r_48 (1, 2, .ldc 154, .iconst 65535) (List.mem_of_getElem? (i := 42) rfl)), rfl, tw_t493⟩)) : sm_F 48 1 (.iconst 65535) 2),
  List.forall_mem_cons.mpr ⟨(⟨155, (r_48 (41, 2, .ldc 155, .ldc 42) (List.mem_of_getElem? (i := 43) rfl)), rfl, by decide +kernel⟩ : ∃ x : Nat, decode (mB 48) 41 = .ok (.ldc x, 2) ∧ 2 = 2 ∧ (((mN 48).cls, x), 42) ∈ sKl),
  List.forall_mem_cons.mpr ⟨(⟨rfl, mf_35, tw_t409, tw_t410, rfl, by decide, 35, (r_48 (43, 3, .invokevirtual 35, .invokevirtual 35) (List.mem_of_getElem? (i := 44) rfl)), Or.inl tw_t408⟩ : sm_F 48 43 (.invokevirtual 35) 3),
  List.forall_mem_cons.mpr ⟨(⟨157, (r_48 (48, 2, .ldc 157, .ldc 44) (List.mem_of_getElem? (i := 45) rfl)), rfl, by decide +kernel⟩ : ∃ x : Nat, decode (mB 48) 48 = .ok (.ldc x, 2) ∧ 2 = 2 ∧ (((mN 48).cls, x), 44) ∈ sKl),
  List.forall_mem_cons.mpr ⟨(⟨rfl, mf_35, tw_t409, tw_t410, rfl, by decide, 35, (r_48 (50, 3, .invokevirtual 35, .invokevirtual 35) (List.mem_of_getElem? (i := 46) rfl)), Or.inl tw_t408⟩ : sm_F 48 50 (.invokevirtual 35) 3),
  List.forall_mem_cons.mpr ⟨(⟨159, (r_48 (55, 2, .ldc 159, .ldc 46) (List.mem_of_getElem? (i := 47) rfl)), rfl, by decide +kernel⟩ : ∃ x : Nat, decode (mB 48) 55 = .ok (.ldc x, 2) ∧ 2 = 2 ∧ (((mN 48).cls, x), 46) ∈ sKl),
  List.forall_mem_cons.mpr ⟨(⟨rfl, mf_35, tw_t409, tw_t410, rfl, by decide, 35, (r_48 (57, 3, .invokevirtual 35, .invokevirtual 35) (List.mem_of_getElem? (i := 48) rfl)), Or.inl tw_t408⟩ : sm_F 48 57 (.invokevirtual 35) 3),
  List.forall_mem_cons.mpr ⟨(⟨rfl, mf_11, tw_t197, tw_t198, rfl, by decide, 43, (r_48 (75, 3, .invokevirtual 43, .invokevirtual 11) (List.mem_of_getElem? (i := 49) rfl)), Or.inl tw_t471⟩ : sm_F 48 75 (.invokevirtual 11) 3),
  List.forall_mem_cons.mpr ⟨(⟨rfl, mf_11, tw_t197, tw_t198, rfl, by decide, 43, (r_48 (92, 3, .invokevirtual 43, .invokevirtual 11) (List.mem_of_getElem? (i := 50) rfl)), Or.inl tw_t471⟩ : sm_F 48 92 (.invokevirtual 11) 3),
  List.forall_mem_cons.mpr ⟨(⟨161, (r_48 (97, 2, .ldc 161, .ldc 48) (List.mem_of_getElem? (i := 51) rfl)), rfl, by decide +kernel⟩ : ∃ x : Nat, decode (mB 48) 97 = .ok (.ldc x, 2) ∧ 2 = 2 ∧ (((mN 48).cls, x), 48) ∈ sKl),
  List.forall_mem_cons.mpr ⟨(⟨rfl, mf_35, tw_t409, tw_t410, rfl, by decide, 35, (r_48 (99, 3, .invokevirtual 35, .invokevirtual 35) (List.mem_of_getElem? (i := 52) rfl)), Or.inl tw_t408⟩ : sm_F 48 99 (.invokevirtual 35) 3),
  List.forall_mem_cons.mpr ⟨(⟨163, (r_48 (112, 2, .ldc 163, .ldc 50) (List.mem_of_getElem? (i := 53) rfl)), rfl, by decide +kernel⟩ : ∃ x : Nat, decode (mB 48) 112 = .ok (.ldc x, 2) ∧ 2 = 2 ∧ (((mN 48).cls, x), 50) ∈ sKl),
  List.forall_mem_cons.mpr ⟨(⟨rfl, mf_150, tw_t345, tw_t346, rfl, by decide, 165, (r_48 (121, 3, .invokevirtual 165, .invokevirtual 150) (List.mem_of_getElem? (i := 54) rfl)), Or.inl tw_t499⟩ : sm_F 48 121 (.invokevirtual 150) 3),
  List.forall_mem_cons.mpr ⟨(⟨rfl, mf_11, tw_t197, tw_t198, rfl, by decide, 43, (r_48 (124, 3, .invokevirtual 43, .invokevirtual 11) (List.mem_of_getElem? (i := 55) rfl)), Or.inl tw_t471⟩ : sm_F 48 124 (.invokevirtual 11) 3),
  fun _ h => absurd h List.not_mem_nil⟩⟩⟩⟩⟩⟩⟩⟩⟩⟩⟩⟩⟩⟩
theorem f_48 : ∀ q ∈ cd_48, sm_F 48 q.1 q.2.2.2 q.2.1 := List.forall_mem_append.mpr ⟨fs_48, fl_48⟩
theorem r_49 : ∀ q ∈ cd_49, decode (mB 49) q.1 = .ok (q.2.2.1, q.2.1) := sm_all (by decide +kernel)
theorem fs_49 : ∀ q ∈ sp_49, sm_F 49 q.1 q.2.2.2 q.2.1 := sm_rsl (fun q h => r_49 q (List.mem_append_left _ h)) (by decide +kernel)
theorem fl_49 : ∀ q ∈ lk_49, sm_F 49 q.1 q.2.2.2 q.2.1 := List.forall_mem_cons.mpr ⟨(Or.inr (Or.inr (Or.inr ⟨143, (r_49 (1, 2, .ldc 143, .iconst (-2147483648)) (List.mem_of_getElem? (i := 8) rfl)), rfl, tw_t503⟩)) : sm_F 49 1 (.iconst (-2147483648)) 2),
  List.forall_mem_cons.mpr ⟨(⟨144, (r_49 (7, 2, .ldc 144, .ldc 52) (List.mem_of_getElem? (i := 9) rfl)), rfl, by decide +kernel⟩ : ∃ x : Nat, decode (mB 49) 7 = .ok (.ldc x, 2) ∧ 2 = 2 ∧ (((mN 49).cls, x), 52) ∈ sKl),
  List.forall_mem_cons.mpr ⟨(⟨rfl, mf_35, tw_t409, tw_t410, rfl, by decide, 35, (r_49 (9, 3, .invokevirtual 35, .invokevirtual 35) (List.mem_of_getElem? (i := 10) rfl)), Or.inl tw_t408⟩ : sm_F 49 9 (.invokevirtual 35) 3),
  List.forall_mem_cons.mpr ⟨(⟨rfl, mf_47, tw_t480, tw_t481, rfl, by decide, 93, (r_49 (18, 3, .invokevirtual 93, .invokevirtual 47) (List.mem_of_getElem? (i := 11) rfl)), Or.inl tw_t479⟩ : sm_F 49 18 (.invokevirtual 47) 3),
  fun _ h => absurd h List.not_mem_nil⟩⟩⟩⟩
theorem f_49 : ∀ q ∈ cd_49, sm_F 49 q.1 q.2.2.2 q.2.1 := List.forall_mem_append.mpr ⟨fs_49, fl_49⟩
theorem r_50 : ∀ q ∈ cd_50, decode (mB 50) q.1 = .ok (q.2.2.1, q.2.1) := sm_all (by decide +kernel)
theorem fs_50 : ∀ q ∈ sp_50, sm_F 50 q.1 q.2.2.2 q.2.1 := sm_rsl (fun q h => r_50 q (List.mem_append_left _ h)) (by decide +kernel)
theorem fl_50 : ∀ q ∈ lk_50, sm_F 50 q.1 q.2.2.2 q.2.1 := List.forall_mem_cons.mpr ⟨(⟨by decide, by decide, rfl, 12, (r_50 (1, 3, .getfield 12, .getfield 128) (List.mem_of_getElem? (i := 23) rfl)), Or.inl tw_t96⟩ : sm_F 50 1 (.getfield 128) 3),
  List.forall_mem_cons.mpr ⟨(⟨rfl, mf_43, tw_t444, tw_t445, rfl, by decide, 84, (r_50 (4, 3, .invokevirtual 84, .invokevirtual 43) (List.mem_of_getElem? (i := 24) rfl)), Or.inl tw_t443⟩ : sm_F 50 4 (.invokevirtual 43) 3),
  List.forall_mem_cons.mpr ⟨(⟨by decide, by decide, rfl, 12, (r_50 (10, 3, .getfield 12, .getfield 128) (List.mem_of_getElem? (i := 25) rfl)), Or.inl tw_t96⟩ : sm_F 50 10 (.getfield 128) 3),
  List.forall_mem_cons.mpr ⟨(⟨rfl, mf_43, tw_t444, tw_t445, rfl, by decide, 84, (r_50 (13, 3, .invokevirtual 84, .invokevirtual 43) (List.mem_of_getElem? (i := 26) rfl)), Or.inl tw_t443⟩ : sm_F 50 13 (.invokevirtual 43) 3),
  List.forall_mem_cons.mpr ⟨(Or.inr ⟨133, (r_50 (17, 3, .ldc2_w 133, .ldc2_w 4294967295) (List.mem_of_getElem? (i := 27) rfl)), rfl, tw_t509⟩ : sm_F 50 17 (.ldc2_w 4294967295) 3),
  List.forall_mem_cons.mpr ⟨(Or.inr ⟨137, (r_50 (34, 3, .ldc2_w 137, .ldc2_w 9223372036854775808) (List.mem_of_getElem? (i := 28) rfl)), rfl, tw_t510⟩ : sm_F 50 34 (.ldc2_w 9223372036854775808) 3),
  List.forall_mem_cons.mpr ⟨(⟨139, (r_50 (42, 2, .ldc 139, .ldc 54) (List.mem_of_getElem? (i := 29) rfl)), rfl, by decide +kernel⟩ : ∃ x : Nat, decode (mB 50) 42 = .ok (.ldc x, 2) ∧ 2 = 2 ∧ (((mN 50).cls, x), 54) ∈ sKl),
  List.forall_mem_cons.mpr ⟨(⟨rfl, mf_35, tw_t409, tw_t410, rfl, by decide, 35, (r_50 (44, 3, .invokevirtual 35, .invokevirtual 35) (List.mem_of_getElem? (i := 30) rfl)), Or.inl tw_t408⟩ : sm_F 50 44 (.invokevirtual 35) 3),
  List.forall_mem_cons.mpr ⟨(⟨rfl, mf_47, tw_t480, tw_t481, rfl, by decide, 93, (r_50 (53, 3, .invokevirtual 93, .invokevirtual 47) (List.mem_of_getElem? (i := 31) rfl)), Or.inl tw_t479⟩ : sm_F 50 53 (.invokevirtual 47) 3),
  List.forall_mem_cons.mpr ⟨(⟨rfl, mf_11, tw_t197, tw_t198, rfl, by decide, 43, (r_50 (59, 3, .invokevirtual 43, .invokevirtual 11) (List.mem_of_getElem? (i := 32) rfl)), Or.inl tw_t471⟩ : sm_F 50 59 (.invokevirtual 11) 3),
  fun _ h => absurd h List.not_mem_nil⟩⟩⟩⟩⟩⟩⟩⟩⟩⟩
theorem f_50 : ∀ q ∈ cd_50, sm_F 50 q.1 q.2.2.2 q.2.1 := List.forall_mem_append.mpr ⟨fs_50, fl_50⟩
theorem r_51 : ∀ q ∈ cd_51, decode (mB 51) q.1 = .ok (q.2.2.1, q.2.1) := sm_all (by decide +kernel)
theorem fs_51 : ∀ q ∈ sp_51, sm_F 51 q.1 q.2.2.2 q.2.1 := sm_rsl (fun q h => r_51 q (List.mem_append_left _ h)) (by decide +kernel)
theorem fl_51 : ∀ q ∈ lk_51, sm_F 51 q.1 q.2.2.2 q.2.1 := List.forall_mem_cons.mpr ⟨(⟨rfl, mf_11, tw_t197, tw_t198, rfl, by decide, 43, (r_51 (9, 3, .invokevirtual 43, .invokevirtual 11) (List.mem_of_getElem? (i := 48) rfl)), Or.inl tw_t471⟩ : sm_F 51 9 (.invokevirtual 11) 3),
  List.forall_mem_cons.mpr ⟨(⟨rfl, 146, (r_51 (13, 3, .invokestatic 146, .dneg) (List.mem_of_getElem? (i := 49) rfl)), tw_t515, tw_t487, tw_t9, tw_t488⟩ : sm_F 51 13 .dneg 3),
  List.forall_mem_cons.mpr ⟨(Or.inr ⟨152, (r_51 (18, 3, .ldc2_w 152, .ldc2_w 8) (List.mem_of_getElem? (i := 50) rfl)), rfl, tw_t516⟩ : sm_F 51 18 (.ldc2_w 8) 3),
  List.forall_mem_cons.mpr ⟨(Or.inr ⟨152, (r_51 (30, 3, .ldc2_w 152, .ldc2_w 8) (List.mem_of_getElem? (i := 51) rfl)), rfl, tw_t516⟩ : sm_F 51 30 (.ldc2_w 8) 3),
  List.forall_mem_cons.mpr ⟨(⟨rfl, mf_47, tw_t480, tw_t481, rfl, by decide, 93, (r_51 (34, 3, .invokevirtual 93, .invokevirtual 47) (List.mem_of_getElem? (i := 52) rfl)), Or.inl tw_t479⟩ : sm_F 51 34 (.invokevirtual 47) 3),
  List.forall_mem_cons.mpr ⟨(⟨rfl, mf_11, tw_t197, tw_t198, rfl, by decide, 43, (r_51 (40, 3, .invokevirtual 43, .invokevirtual 11) (List.mem_of_getElem? (i := 53) rfl)), Or.inl tw_t471⟩ : sm_F 51 40 (.invokevirtual 11) 3),
  List.forall_mem_cons.mpr ⟨(⟨rfl, mf_11, tw_t197, tw_t198, rfl, by decide, 43, (r_51 (52, 3, .invokevirtual 43, .invokevirtual 11) (List.mem_of_getElem? (i := 54) rfl)), Or.inl tw_t471⟩ : sm_F 51 52 (.invokevirtual 11) 3),
  List.forall_mem_cons.mpr ⟨(⟨rfl, mf_11, tw_t197, tw_t198, rfl, by decide, 43, (r_51 (75, 3, .invokevirtual 43, .invokevirtual 11) (List.mem_of_getElem? (i := 55) rfl)), Or.inl tw_t471⟩ : sm_F 51 75 (.invokevirtual 11) 3),
  List.forall_mem_cons.mpr ⟨(⟨rfl, mf_11, tw_t197, tw_t198, rfl, by decide, 43, (r_51 (95, 3, .invokevirtual 43, .invokevirtual 11) (List.mem_of_getElem? (i := 56) rfl)), Or.inl tw_t471⟩ : sm_F 51 95 (.invokevirtual 11) 3),
  fun _ h => absurd h List.not_mem_nil⟩⟩⟩⟩⟩⟩⟩⟩⟩
theorem f_51 : ∀ q ∈ cd_51, sm_F 51 q.1 q.2.2.2 q.2.1 := List.forall_mem_append.mpr ⟨fs_51, fl_51⟩
theorem r_52 : ∀ q ∈ cd_52, decode (mB 52) q.1 = .ok (q.2.2.1, q.2.1) := sm_all (by decide +kernel)
theorem fs_52 : ∀ q ∈ sp_52, sm_F 52 q.1 q.2.2.2 q.2.1 := sm_rsl (fun q h => r_52 q (List.mem_append_left _ h)) (by decide +kernel)
theorem fl_52 : ∀ q ∈ lk_52, sm_F 52 q.1 q.2.2.2 q.2.1 := List.forall_mem_cons.mpr ⟨(⟨by decide, by decide, rfl, 12, (r_52 (1, 3, .getfield 12, .getfield 128) (List.mem_of_getElem? (i := 23) rfl)), Or.inl tw_t96⟩ : sm_F 52 1 (.getfield 128) 3),
  List.forall_mem_cons.mpr ⟨(⟨rfl, mf_43, tw_t444, tw_t445, rfl, by decide, 84, (r_52 (4, 3, .invokevirtual 84, .invokevirtual 43) (List.mem_of_getElem? (i := 24) rfl)), Or.inl tw_t443⟩ : sm_F 52 4 (.invokevirtual 43) 3),
  List.forall_mem_cons.mpr ⟨(⟨124, (r_52 (13, 2, .ldc 124, .ldc 8) (List.mem_of_getElem? (i := 25) rfl)), rfl, by decide +kernel⟩ : ∃ x : Nat, decode (mB 52) 13 = .ok (.ldc x, 2) ∧ 2 = 2 ∧ (((mN 52).cls, x), 8) ∈ sKl),
  List.forall_mem_cons.mpr ⟨(⟨rfl, mf_35, tw_t409, tw_t410, rfl, by decide, 35, (r_52 (15, 3, .invokevirtual 35, .invokevirtual 35) (List.mem_of_getElem? (i := 26) rfl)), Or.inl tw_t408⟩ : sm_F 52 15 (.invokevirtual 35) 3),
  List.forall_mem_cons.mpr ⟨(⟨rfl, mf_11, tw_t197, tw_t198, rfl, by decide, 43, (r_52 (22, 3, .invokevirtual 43, .invokevirtual 11) (List.mem_of_getElem? (i := 27) rfl)), Or.inl tw_t471⟩ : sm_F 52 22 (.invokevirtual 11) 3),
  List.forall_mem_cons.mpr ⟨(⟨by decide, by decide, rfl, 12, (r_52 (35, 3, .getfield 12, .getfield 128) (List.mem_of_getElem? (i := 28) rfl)), Or.inl tw_t96⟩ : sm_F 52 35 (.getfield 128) 3),
  List.forall_mem_cons.mpr ⟨(⟨rfl, mf_43, tw_t444, tw_t445, rfl, by decide, 84, (r_52 (38, 3, .invokevirtual 84, .invokevirtual 43) (List.mem_of_getElem? (i := 29) rfl)), Or.inl tw_t443⟩ : sm_F 52 38 (.invokevirtual 43) 3),
  List.forall_mem_cons.mpr ⟨(⟨rfl, mf_48, tw_t491, 99, (r_52 (44, 3, .invokestatic 99, .invokestatic 48) (List.mem_of_getElem? (i := 30) rfl)), Or.inl tw_t490⟩ : sm_F 52 44 (.invokestatic 48) 3),
  List.forall_mem_cons.mpr ⟨(⟨rfl, mf_11, tw_t197, tw_t198, rfl, by decide, 43, (r_52 (56, 3, .invokevirtual 43, .invokevirtual 11) (List.mem_of_getElem? (i := 31) rfl)), Or.inl tw_t471⟩ : sm_F 52 56 (.invokevirtual 11) 3),
  fun _ h => absurd h List.not_mem_nil⟩⟩⟩⟩⟩⟩⟩⟩⟩
theorem f_52 : ∀ q ∈ cd_52, sm_F 52 q.1 q.2.2.2 q.2.1 := List.forall_mem_append.mpr ⟨fs_52, fl_52⟩
theorem r_53 : ∀ q ∈ cd_53, decode (mB 53) q.1 = .ok (q.2.2.1, q.2.1) := sm_all (by decide +kernel)
theorem fs_53 : ∀ q ∈ sp_53, sm_F 53 q.1 q.2.2.2 q.2.1 := sm_rsl (fun q h => r_53 q (List.mem_append_left _ h)) (by decide +kernel)
theorem fl_53 : ∀ q ∈ lk_53, sm_F 53 q.1 q.2.2.2 q.2.1 := List.forall_mem_cons.mpr ⟨(⟨by decide, by decide, rfl, 18, (r_53 (1, 3, .getfield 18, .getfield 98) (List.mem_of_getElem? (i := 2) rfl)), Or.inl tw_t62⟩ : sm_F 53 1 (.getfield 98) 3),
  fun _ h => absurd h List.not_mem_nil⟩
theorem f_53 : ∀ q ∈ cd_53, sm_F 53 q.1 q.2.2.2 q.2.1 := List.forall_mem_append.mpr ⟨fs_53, fl_53⟩
theorem r_54 : ∀ q ∈ cd_54, decode (mB 54) q.1 = .ok (q.2.2.1, q.2.1) := sm_all (by decide +kernel)
theorem fs_54 : ∀ q ∈ sp_54, sm_F 54 q.1 q.2.2.2 q.2.1 := sm_rsl (fun q h => r_54 q (List.mem_append_left _ h)) (by decide +kernel)
theorem fl_54 : ∀ q ∈ lk_54, sm_F 54 q.1 q.2.2.2 q.2.1 := List.forall_mem_cons.mpr ⟨(⟨by decide, by decide, rfl, 12, (r_54 (1, 3, .getfield 12, .getfield 128) (List.mem_of_getElem? (i := 27) rfl)), Or.inl tw_t96⟩ : sm_F 54 1 (.getfield 128) 3),
  List.forall_mem_cons.mpr ⟨(⟨rfl, mf_43, tw_t444, tw_t445, rfl, by decide, 84, (r_54 (4, 3, .invokevirtual 84, .invokevirtual 43) (List.mem_of_getElem? (i := 28) rfl)), Or.inl tw_t443⟩ : sm_F 54 4 (.invokevirtual 43) 3),
  List.forall_mem_cons.mpr ⟨(⟨124, (r_54 (20, 2, .ldc 124, .ldc 8) (List.mem_of_getElem? (i := 29) rfl)), rfl, by decide +kernel⟩ : ∃ x : Nat, decode (mB 54) 20 = .ok (.ldc x, 2) ∧ 2 = 2 ∧ (((mN 54).cls, x), 8) ∈ sKl),
  List.forall_mem_cons.mpr ⟨(⟨rfl, mf_35, tw_t409, tw_t410, rfl, by decide, 35, (r_54 (22, 3, .invokevirtual 35, .invokevirtual 35) (List.mem_of_getElem? (i := 30) rfl)), Or.inl tw_t408⟩ : sm_F 54 22 (.invokevirtual 35) 3),
  List.forall_mem_cons.mpr ⟨(⟨131, (r_54 (27, 2, .ldc 131, .ldc 56) (List.mem_of_getElem? (i := 31) rfl)), rfl, by decide +kernel⟩ : ∃ x : Nat, decode (mB 54) 27 = .ok (.ldc x, 2) ∧ 2 = 2 ∧ (((mN 54).cls, x), 56) ∈ sKl),
  List.forall_mem_cons.mpr ⟨(⟨rfl, mf_35, tw_t409, tw_t410, rfl, by decide, 35, (r_54 (29, 3, .invokevirtual 35, .invokevirtual 35) (List.mem_of_getElem? (i := 32) rfl)), Or.inl tw_t408⟩ : sm_F 54 29 (.invokevirtual 35) 3),
  List.forall_mem_cons.mpr ⟨(⟨rfl, mf_11, tw_t197, tw_t198, rfl, by decide, 43, (r_54 (37, 3, .invokevirtual 43, .invokevirtual 11) (List.mem_of_getElem? (i := 33) rfl)), Or.inl tw_t471⟩ : sm_F 54 37 (.invokevirtual 11) 3),
  List.forall_mem_cons.mpr ⟨(⟨rfl, mf_11, tw_t197, tw_t198, rfl, by decide, 43, (r_54 (43, 3, .invokevirtual 43, .invokevirtual 11) (List.mem_of_getElem? (i := 34) rfl)), Or.inl tw_t471⟩ : sm_F 54 43 (.invokevirtual 11) 3),
  List.forall_mem_cons.mpr ⟨(⟨by decide, by decide, rfl, 20, (r_54 (48, 3, .getfield 20, .getfield 129) (List.mem_of_getElem? (i := 35) rfl)), Or.inl tw_t97⟩ : sm_F 54 48 (.getfield 129) 3),
  List.forall_mem_cons.mpr ⟨(⟨rfl, mf_36, tw_t415, tw_p1, rfl, by decide, 39, (r_54 (57, 3, .invokevirtual 39, .invokevirtual 36) (List.mem_of_getElem? (i := 36) rfl)), Or.inl tw_t413⟩ : sm_F 54 57 (.invokevirtual 36) 3),
  List.forall_mem_cons.mpr ⟨(⟨rfl, mf_11, tw_t197, tw_t198, rfl, by decide, 43, (r_54 (63, 3, .invokevirtual 43, .invokevirtual 11) (List.mem_of_getElem? (i := 37) rfl)), Or.inl tw_t471⟩ : sm_F 54 63 (.invokevirtual 11) 3),
  fun _ h => absurd h List.not_mem_nil⟩⟩⟩⟩⟩⟩⟩⟩⟩⟩⟩
theorem f_54 : ∀ q ∈ cd_54, sm_F 54 q.1 q.2.2.2 q.2.1 := List.forall_mem_append.mpr ⟨fs_54, fl_54⟩
theorem r_55 : ∀ q ∈ cd_55, decode (mB 55) q.1 = .ok (q.2.2.1, q.2.1) := sm_all (by decide +kernel)
theorem fs_55 : ∀ q ∈ sp_55, sm_F 55 q.1 q.2.2.2 q.2.1 := sm_rsl (fun q h => r_55 q (List.mem_append_left _ h)) (by decide +kernel)
theorem fl_55 : ∀ q ∈ lk_55, sm_F 55 q.1 q.2.2.2 q.2.1 := List.forall_mem_cons.mpr ⟨(⟨rfl, mf_18, tw_t315, tw_t316, rfl, by decide, 28, (r_55 (1, 3, .invokevirtual 28, .invokevirtual 18) (List.mem_of_getElem? (i := 10) rfl)), Or.inl tw_t406⟩ : sm_F 55 1 (.invokevirtual 18) 3),
  List.forall_mem_cons.mpr ⟨(⟨rfl, mf_56, tw_t535, tw_t536, rfl, by decide, 46, (r_55 (7, 3, .invokevirtual 46, .invokevirtual 56) (List.mem_of_getElem? (i := 11) rfl)), Or.inl tw_t534⟩ : sm_F 55 7 (.invokevirtual 56) 3),
  List.forall_mem_cons.mpr ⟨(⟨rfl, mf_39, tw_t428, tw_p2, rfl, by decide, 52, (r_55 (18, 3, .invokevirtual 52, .invokevirtual 39) (List.mem_of_getElem? (i := 12) rfl)), Or.inl tw_t426⟩ : sm_F 55 18 (.invokevirtual 39) 3),
  fun _ h => absurd h List.not_mem_nil⟩⟩⟩
theorem f_55 : ∀ q ∈ cd_55, sm_F 55 q.1 q.2.2.2 q.2.1 := List.forall_mem_append.mpr ⟨fs_55, fl_55⟩
theorem r_56 : ∀ q ∈ cd_56, decode (mB 56) q.1 = .ok (q.2.2.1, q.2.1) := sm_all (by decide +kernel)
theorem fs_56 : ∀ q ∈ sp_56, sm_F 56 q.1 q.2.2.2 q.2.1 := sm_rsl (fun q h => r_56 q (List.mem_append_left _ h)) (by decide +kernel)
theorem fl_56 : ∀ q ∈ lk_56, sm_F 56 q.1 q.2.2.2 q.2.1 := List.forall_mem_cons.mpr ⟨(⟨by decide, by decide, rfl, 9, (r_56 (1, 3, .getfield 9, .getfield 96) (List.mem_of_getElem? (i := 9) rfl)), Or.inl tw_t60⟩ : sm_F 56 1 (.getfield 96) 3),
  List.forall_mem_cons.mpr ⟨(⟨by decide, by decide, rfl, 15, (r_56 (8, 3, .getfield 15, .getfield 97) (List.mem_of_getElem? (i := 10) rfl)), Or.inl tw_t61⟩ : sm_F 56 8 (.getfield 97) 3),
  fun _ h => absurd h List.not_mem_nil⟩⟩
theorem f_56 : ∀ q ∈ cd_56, sm_F 56 q.1 q.2.2.2 q.2.1 := List.forall_mem_append.mpr ⟨fs_56, fl_56⟩
theorem r_57 : ∀ q ∈ cd_57, decode (mB 57) q.1 = .ok (q.2.2.1, q.2.1) := sm_all (by decide +kernel)
theorem fs_57 : ∀ q ∈ sp_57, sm_F 57 q.1 q.2.2.2 q.2.1 := sm_rsl (fun q h => r_57 q (List.mem_append_left _ h)) (by decide +kernel)
theorem fl_57 : ∀ q ∈ lk_57, sm_F 57 q.1 q.2.2.2 q.2.1 := List.forall_mem_cons.mpr ⟨(⟨by decide, by decide, rfl, 19, (r_57 (1, 3, .getfield 19, .getfield 162) (List.mem_of_getElem? (i := 2) rfl)), Or.inl tw_t84⟩ : sm_F 57 1 (.getfield 162) 3),
  fun _ h => absurd h List.not_mem_nil⟩
theorem f_57 : ∀ q ∈ cd_57, sm_F 57 q.1 q.2.2.2 q.2.1 := List.forall_mem_append.mpr ⟨fs_57, fl_57⟩
theorem r_58 : ∀ q ∈ cd_58, decode (mB 58) q.1 = .ok (q.2.2.1, q.2.1) := sm_all (by decide +kernel)
theorem fs_58 : ∀ q ∈ sp_58, sm_F 58 q.1 q.2.2.2 q.2.1 := sm_rsl (fun q h => r_58 q (List.mem_append_left _ h)) (by decide +kernel)
theorem fl_58 : ∀ q ∈ lk_58, sm_F 58 q.1 q.2.2.2 q.2.1 := List.forall_mem_cons.mpr ⟨(⟨by decide, by decide, rfl, 47, (r_58 (1, 3, .getfield 47, .getfield 6) (List.mem_of_getElem? (i := 40) rfl)), Or.inl tw_t163⟩ : sm_F 58 1 (.getfield 6) 3),
  List.forall_mem_cons.mpr ⟨(⟨rfl, mf_18, tw_t315, tw_t316, rfl, by decide, 99, (r_58 (4, 3, .invokevirtual 99, .invokevirtual 18) (List.mem_of_getElem? (i := 41) rfl)), Or.inl tw_t314⟩ : sm_F 58 4 (.invokevirtual 18) 3),
  List.forall_mem_cons.mpr ⟨(⟨by decide, by decide, rfl, 30, (r_58 (8, 3, .getfield 30, .getfield 2) (List.mem_of_getElem? (i := 42) rfl)), Or.inl tw_t159⟩ : sm_F 58 8 (.getfield 2) 3),
  List.forall_mem_cons.mpr ⟨(⟨rfl, mf_56, tw_t535, tw_t536, rfl, by decide, 172, (r_58 (13, 3, .invokevirtual 172, .invokevirtual 56) (List.mem_of_getElem? (i := 43) rfl)), Or.inl tw_t546⟩ : sm_F 58 13 (.invokevirtual 56) 3),
  List.forall_mem_cons.mpr ⟨(⟨by decide, by decide, rfl, 47, (r_58 (20, 3, .getfield 47, .getfield 6) (List.mem_of_getElem? (i := 44) rfl)), Or.inl tw_t163⟩ : sm_F 58 20 (.getfield 6) 3),
  List.forall_mem_cons.mpr ⟨(⟨by decide, by decide, rfl, 41, (r_58 (24, 3, .getfield 41, .getfield 4) (List.mem_of_getElem? (i := 45) rfl)), Or.inl tw_t161⟩ : sm_F 58 24 (.getfield 4) 3),
  List.forall_mem_cons.mpr ⟨(⟨rfl, mf_59, tw_t548, tw_t549, rfl, by decide, 175, (r_58 (27, 3, .invokevirtual 175, .invokevirtual 59) (List.mem_of_getElem? (i := 46) rfl)), Or.inl tw_t547⟩ : sm_F 58 27 (.invokevirtual 59) 3),
  List.forall_mem_cons.mpr ⟨(⟨by decide, by decide, rfl, 47, (r_58 (31, 3, .getfield 47, .getfield 6) (List.mem_of_getElem? (i := 47) rfl)), Or.inl tw_t163⟩ : sm_F 58 31 (.getfield 6) 3),
  List.forall_mem_cons.mpr ⟨(⟨178, (r_58 (34, 2, .ldc 178, .ldc 58) (List.mem_of_getElem? (i := 48) rfl)), rfl, by decide +kernel⟩ : ∃ x : Nat, decode (mB 58) 34 = .ok (.ldc x, 2) ∧ 2 = 2 ∧ (((mN 58).cls, x), 58) ∈ sKl),
  List.forall_mem_cons.mpr ⟨(⟨rfl, mf_35, tw_t409, tw_t410, rfl, by decide, 180, (r_58 (36, 3, .invokevirtual 180, .invokevirtual 35) (List.mem_of_getElem? (i := 49) rfl)), Or.inl tw_t557⟩ : sm_F 58 36 (.invokevirtual 35) 3),
  List.forall_mem_cons.mpr ⟨(⟨by decide, by decide, rfl, 30, (r_58 (41, 3, .getfield 30, .getfield 2) (List.mem_of_getElem? (i := 50) rfl)), Or.inl tw_t159⟩ : sm_F 58 41 (.getfield 2) 3),
  List.forall_mem_cons.mpr ⟨(⟨rfl, mf_56, tw_t535, tw_t536, rfl, by decide, 172, (r_58 (46, 3, .invokevirtual 172, .invokevirtual 56) (List.mem_of_getElem? (i := 51) rfl)), Or.inl tw_t546⟩ : sm_F 58 46 (.invokevirtual 56) 3),
  List.forall_mem_cons.mpr ⟨(⟨by decide, by decide, rfl, 47, (r_58 (53, 3, .getfield 47, .getfield 6) (List.mem_of_getElem? (i := 52) rfl)), Or.inl tw_t163⟩ : sm_F 58 53 (.getfield 6) 3),
  List.forall_mem_cons.mpr ⟨(⟨by decide, by decide, rfl, 44, (r_58 (57, 3, .getfield 44, .getfield 5) (List.mem_of_getElem? (i := 53) rfl)), Or.inl tw_t162⟩ : sm_F 58 57 (.getfield 5) 3),
  List.forall_mem_cons.mpr ⟨(⟨183, (r_58 (60, 2, .ldc 183, .ldc 60) (List.mem_of_getElem? (i := 54) rfl)), rfl, by decide +kernel⟩ : ∃ x : Nat, decode (mB 58) 60 = .ok (.ldc x, 2) ∧ 2 = 2 ∧ (((mN 58).cls, x), 60) ∈ sKl),
  List.forall_mem_cons.mpr ⟨(⟨rfl, mf_24, tw_t340, tw_t341, rfl, by decide, 185, (r_58 (62, 3, .invokevirtual 185, .invokevirtual 24) (List.mem_of_getElem? (i := 55) rfl)), Or.inl tw_t559⟩ : sm_F 58 62 (.invokevirtual 24) 3),
  List.forall_mem_cons.mpr ⟨(⟨189, (r_58 (68, 2, .ldc 189, .ldc 62) (List.mem_of_getElem? (i := 56) rfl)), rfl, by decide +kernel⟩ : ∃ x : Nat, decode (mB 58) 68 = .ok (.ldc x, 2) ∧ 2 = 2 ∧ (((mN 58).cls, x), 62) ∈ sKl),
  List.forall_mem_cons.mpr ⟨(⟨191, (r_58 (73, 2, .ldc 191, .ldc 64) (List.mem_of_getElem? (i := 57) rfl)), rfl, by decide +kernel⟩ : ∃ x : Nat, decode (mB 58) 73 = .ok (.ldc x, 2) ∧ 2 = 2 ∧ (((mN 58).cls, x), 64) ∈ sKl),
  List.forall_mem_cons.mpr ⟨(⟨rfl, mf_35, tw_t409, tw_t410, rfl, by decide, 180, (r_58 (75, 3, .invokevirtual 180, .invokevirtual 35) (List.mem_of_getElem? (i := 58) rfl)), Or.inl tw_t557⟩ : sm_F 58 75 (.invokevirtual 35) 3),
  List.forall_mem_cons.mpr ⟨(⟨by decide, by decide, rfl, 44, (r_58 (82, 3, .getfield 44, .getfield 5) (List.mem_of_getElem? (i := 59) rfl)), Or.inl tw_t162⟩ : sm_F 58 82 (.getfield 5) 3),
  List.forall_mem_cons.mpr ⟨(⟨193, (r_58 (85, 2, .ldc 193, .ldc 66) (List.mem_of_getElem? (i := 60) rfl)), rfl, by decide +kernel⟩ : ∃ x : Nat, decode (mB 58) 85 = .ok (.ldc x, 2) ∧ 2 = 2 ∧ (((mN 58).cls, x), 66) ∈ sKl),
  List.forall_mem_cons.mpr ⟨(⟨rfl, mf_24, tw_t340, tw_t341, rfl, by decide, 185, (r_58 (87, 3, .invokevirtual 185, .invokevirtual 24) (List.mem_of_getElem? (i := 61) rfl)), Or.inl tw_t559⟩ : sm_F 58 87 (.invokevirtual 24) 3),
  List.forall_mem_cons.mpr ⟨(⟨by decide, by decide, rfl, 47, (r_58 (94, 3, .getfield 47, .getfield 6) (List.mem_of_getElem? (i := 62) rfl)), Or.inl tw_t163⟩ : sm_F 58 94 (.getfield 6) 3),
  List.forall_mem_cons.mpr ⟨(⟨195, (r_58 (97, 2, .ldc 195, .ldc 68) (List.mem_of_getElem? (i := 63) rfl)), rfl, by decide +kernel⟩ : ∃ x : Nat, decode (mB 58) 97 = .ok (.ldc x, 2) ∧ 2 = 2 ∧ (((mN 58).cls, x), 68) ∈ sKl),
  List.forall_mem_cons.mpr ⟨(⟨rfl, mf_35, tw_t409, tw_t410, rfl, by decide, 180, (r_58 (99, 3, .invokevirtual 180, .invokevirtual 35) (List.mem_of_getElem? (i := 64) rfl)), Or.inl tw_t557⟩ : sm_F 58 99 (.invokevirtual 35) 3),
  List.forall_mem_cons.mpr ⟨(⟨by decide, by decide, rfl, 47, (r_58 (106, 3, .getfield 47, .getfield 6) (List.mem_of_getElem? (i := 65) rfl)), Or.inl tw_t163⟩ : sm_F 58 106 (.getfield 6) 3),
  List.forall_mem_cons.mpr ⟨(⟨by decide, by decide, rfl, 30, (r_58 (110, 3, .getfield 30, .getfield 2) (List.mem_of_getElem? (i := 66) rfl)), Or.inl tw_t159⟩ : sm_F 58 110 (.getfield 2) 3),
  List.forall_mem_cons.mpr ⟨(⟨rfl, mf_41, tw_t436, tw_t437, rfl, by decide, 197, (r_58 (113, 3, .invokevirtual 197, .invokevirtual 41) (List.mem_of_getElem? (i := 67) rfl)), Or.inl tw_t564⟩ : sm_F 58 113 (.invokevirtual 41) 3),
  List.forall_mem_cons.mpr ⟨(⟨200, (r_58 (119, 2, .ldc 200, .ldc 70) (List.mem_of_getElem? (i := 68) rfl)), rfl, by decide +kernel⟩ : ∃ x : Nat, decode (mB 58) 119 = .ok (.ldc x, 2) ∧ 2 = 2 ∧ (((mN 58).cls, x), 70) ∈ sKl),
  List.forall_mem_cons.mpr ⟨(⟨202, (r_58 (124, 2, .ldc 202, .ldc 72) (List.mem_of_getElem? (i := 69) rfl)), rfl, by decide +kernel⟩ : ∃ x : Nat, decode (mB 58) 124 = .ok (.ldc x, 2) ∧ 2 = 2 ∧ (((mN 58).cls, x), 72) ∈ sKl),
  List.forall_mem_cons.mpr ⟨(⟨rfl, mf_35, tw_t409, tw_t410, rfl, by decide, 180, (r_58 (126, 3, .invokevirtual 180, .invokevirtual 35) (List.mem_of_getElem? (i := 70) rfl)), Or.inl tw_t557⟩ : sm_F 58 126 (.invokevirtual 35) 3),
  List.forall_mem_cons.mpr ⟨(⟨by decide, by decide, rfl, 47, (r_58 (130, 3, .getfield 47, .getfield 6) (List.mem_of_getElem? (i := 71) rfl)), Or.inl tw_t163⟩ : sm_F 58 130 (.getfield 6) 3),
  List.forall_mem_cons.mpr ⟨(⟨by decide, by decide, rfl, 44, (r_58 (134, 3, .getfield 44, .getfield 5) (List.mem_of_getElem? (i := 72) rfl)), Or.inl tw_t162⟩ : sm_F 58 134 (.getfield 5) 3),
  List.forall_mem_cons.mpr ⟨(⟨rfl, mf_59, tw_t548, tw_t549, rfl, by decide, 175, (r_58 (137, 3, .invokevirtual 175, .invokevirtual 59) (List.mem_of_getElem? (i := 73) rfl)), Or.inl tw_t547⟩ : sm_F 58 137 (.invokevirtual 59) 3),
  List.forall_mem_cons.mpr ⟨(⟨by decide, by decide, rfl, 47, (r_58 (141, 3, .getfield 47, .getfield 6) (List.mem_of_getElem? (i := 74) rfl)), Or.inl tw_t163⟩ : sm_F 58 141 (.getfield 6) 3),
  List.forall_mem_cons.mpr ⟨(⟨204, (r_58 (144, 2, .ldc 204, .ldc 74) (List.mem_of_getElem? (i := 75) rfl)), rfl, by decide +kernel⟩ : ∃ x : Nat, decode (mB 58) 144 = .ok (.ldc x, 2) ∧ 2 = 2 ∧ (((mN 58).cls, x), 74) ∈ sKl),
  List.forall_mem_cons.mpr ⟨(⟨rfl, mf_35, tw_t409, tw_t410, rfl, by decide, 180, (r_58 (146, 3, .invokevirtual 180, .invokevirtual 35) (List.mem_of_getElem? (i := 76) rfl)), Or.inl tw_t557⟩ : sm_F 58 146 (.invokevirtual 35) 3),
  List.forall_mem_cons.mpr ⟨(⟨by decide, by decide, rfl, 47, (r_58 (150, 3, .getfield 47, .getfield 6) (List.mem_of_getElem? (i := 77) rfl)), Or.inl tw_t163⟩ : sm_F 58 150 (.getfield 6) 3),
  List.forall_mem_cons.mpr ⟨(⟨by decide, by decide, rfl, 41, (r_58 (154, 3, .getfield 41, .getfield 4) (List.mem_of_getElem? (i := 78) rfl)), Or.inl tw_t161⟩ : sm_F 58 154 (.getfield 4) 3),
  List.forall_mem_cons.mpr ⟨(⟨rfl, mf_59, tw_t548, tw_t549, rfl, by decide, 175, (r_58 (157, 3, .invokevirtual 175, .invokevirtual 59) (List.mem_of_getElem? (i := 79) rfl)), Or.inl tw_t547⟩ : sm_F 58 157 (.invokevirtual 59) 3),
  List.forall_mem_cons.mpr ⟨(⟨by decide, by decide, rfl, 47, (r_58 (161, 3, .getfield 47, .getfield 6) (List.mem_of_getElem? (i := 80) rfl)), Or.inl tw_t163⟩ : sm_F 58 161 (.getfield 6) 3),
  List.forall_mem_cons.mpr ⟨(⟨by decide, by decide, rfl, 30, (r_58 (165, 3, .getfield 30, .getfield 2) (List.mem_of_getElem? (i := 81) rfl)), Or.inl tw_t159⟩ : sm_F 58 165 (.getfield 2) 3),
  List.forall_mem_cons.mpr ⟨(⟨rfl, mf_56, tw_t535, tw_t536, rfl, by decide, 172, (r_58 (170, 3, .invokevirtual 172, .invokevirtual 56) (List.mem_of_getElem? (i := 82) rfl)), Or.inl tw_t546⟩ : sm_F 58 170 (.invokevirtual 56) 3),
  List.forall_mem_cons.mpr ⟨(⟨206, (r_58 (176, 2, .ldc 206, .ldc 76) (List.mem_of_getElem? (i := 83) rfl)), rfl, by decide +kernel⟩ : ∃ x : Nat, decode (mB 58) 176 = .ok (.ldc x, 2) ∧ 2 = 2 ∧ (((mN 58).cls, x), 76) ∈ sKl),
  List.forall_mem_cons.mpr ⟨(⟨by decide, by decide, rfl, 30, (r_58 (182, 3, .getfield 30, .getfield 2) (List.mem_of_getElem? (i := 84) rfl)), Or.inl tw_t159⟩ : sm_F 58 182 (.getfield 2) 3),
  List.forall_mem_cons.mpr ⟨(⟨rfl, mf_56, tw_t535, tw_t536, rfl, by decide, 172, (r_58 (187, 3, .invokevirtual 172, .invokevirtual 56) (List.mem_of_getElem? (i := 85) rfl)), Or.inl tw_t546⟩ : sm_F 58 187 (.invokevirtual 56) 3),
  List.forall_mem_cons.mpr ⟨(⟨208, (r_58 (193, 2, .ldc 208, .ldc 78) (List.mem_of_getElem? (i := 86) rfl)), rfl, by decide +kernel⟩ : ∃ x : Nat, decode (mB 58) 193 = .ok (.ldc x, 2) ∧ 2 = 2 ∧ (((mN 58).cls, x), 78) ∈ sKl),
  List.forall_mem_cons.mpr ⟨(⟨210, (r_58 (198, 2, .ldc 210, .ldc 80) (List.mem_of_getElem? (i := 87) rfl)), rfl, by decide +kernel⟩ : ∃ x : Nat, decode (mB 58) 198 = .ok (.ldc x, 2) ∧ 2 = 2 ∧ (((mN 58).cls, x), 80) ∈ sKl),
  List.forall_mem_cons.mpr ⟨(⟨rfl, mf_35, tw_t409, tw_t410, rfl, by decide, 180, (r_58 (200, 3, .invokevirtual 180, .invokevirtual 35) (List.mem_of_getElem? (i := 88) rfl)), Or.inl tw_t557⟩ : sm_F 58 200 (.invokevirtual 35) 3),
  List.forall_mem_cons.mpr ⟨(⟨by decide, by decide, rfl, 47, (r_58 (204, 3, .getfield 47, .getfield 6) (List.mem_of_getElem? (i := 89) rfl)), Or.inl tw_t163⟩ : sm_F 58 204 (.getfield 6) 3),
  List.forall_mem_cons.mpr ⟨(⟨212, (r_58 (207, 2, .ldc 212, .ldc 82) (List.mem_of_getElem? (i := 90) rfl)), rfl, by decide +kernel⟩ : ∃ x : Nat, decode (mB 58) 207 = .ok (.ldc x, 2) ∧ 2 = 2 ∧ (((mN 58).cls, x), 82) ∈ sKl),
  List.forall_mem_cons.mpr ⟨(⟨rfl, mf_35, tw_t409, tw_t410, rfl, by decide, 180, (r_58 (209, 3, .invokevirtual 180, .invokevirtual 35) (List.mem_of_getElem? (i := 91) rfl)), Or.inl tw_t557⟩ : sm_F 58 209 (.invokevirtual 35) 3),
  fun _ h => absurd h List.not_mem_nil⟩⟩⟩⟩⟩⟩⟩⟩⟩⟩⟩⟩⟩⟩⟩⟩⟩⟩⟩⟩⟩⟩⟩⟩⟩⟩⟩⟩⟩⟩⟩⟩⟩⟩⟩⟩⟩⟩⟩⟩⟩⟩⟩⟩⟩⟩⟩⟩⟩⟩⟩⟩
theorem f_58 : ∀ q ∈ cd_58, sm_F 58 q.1 q.2.2.2 q.2.1 := List.forall_mem_append.mpr ⟨fs_58, fl_58⟩
theorem r_59 : ∀ q ∈ cd_59, decode (mB 59) q.1 = .ok (q.2.2.1, q.2.1) := sm_all (by decide +kernel)
theorem fs_59 : ∀ q ∈ sp_59, sm_F 59 q.1 q.2.2.2 q.2.1 := sm_rsl (fun q h => r_59 q (List.mem_append_left _ h)) (by decide +kernel)
theorem fl_59 : ∀ q ∈ lk_59, sm_F 59 q.1 q.2.2.2 q.2.1 := List.forall_mem_cons.mpr ⟨(⟨by decide, by decide, rfl, 15, (r_59 (4, 3, .getfield 15, .getfield 33) (List.mem_of_getElem? (i := 5) rfl)), Or.inl tw_t32⟩ : sm_F 59 4 (.getfield 33) 3),
  List.forall_mem_cons.mpr ⟨(⟨rfl, mf_60, tw_t552, tw_t553, rfl, by decide, 38, (r_59 (7, 3, .invokevirtual 38, .invokevirtual 60) (List.mem_of_getElem? (i := 6) rfl)), Or.inl tw_t551⟩ : sm_F 59 7 (.invokevirtual 60) 3),
  fun _ h => absurd h List.not_mem_nil⟩⟩
theorem f_59 : ∀ q ∈ cd_59, sm_F 59 q.1 q.2.2.2 q.2.1 := List.forall_mem_append.mpr ⟨fs_59, fl_59⟩
theorem r_60 : ∀ q ∈ cd_60, decode (mB 60) q.1 = .ok (q.2.2.1, q.2.1) := sm_all (by decide +kernel)
theorem fs_60 : ∀ q ∈ sp_60, sm_F 60 q.1 q.2.2.2 q.2.1 := sm_rsl (fun q h => r_60 q (List.mem_append_left _ h)) (by decide +kernel)
theorem fl_60 : ∀ q ∈ lk_60, sm_F 60 q.1 q.2.2.2 q.2.1 := List.forall_mem_cons.mpr ⟨(⟨rfl, mf_16, tw_t222, tw_t223, rfl, by decide, 41, (r_60 (13, 3, .invokevirtual 41, .invokevirtual 16) (List.mem_of_getElem? (i := 11) rfl)), Or.inl tw_t555⟩ : sm_F 60 13 (.invokevirtual 16) 3),
  List.forall_mem_cons.mpr ⟨(⟨rfl, mf_11, tw_t197, tw_t198, rfl, by decide, 34, (r_60 (16, 3, .invokevirtual 34, .invokevirtual 11) (List.mem_of_getElem? (i := 12) rfl)), Or.inl tw_t412⟩ : sm_F 60 16 (.invokevirtual 11) 3),
  fun _ h => absurd h List.not_mem_nil⟩⟩
theorem f_60 : ∀ q ∈ cd_60, sm_F 60 q.1 q.2.2.2 q.2.1 := List.forall_mem_append.mpr ⟨fs_60, fl_60⟩
theorem r_61 : ∀ q ∈ cd_61, decode (mB 61) q.1 = .ok (q.2.2.1, q.2.1) := sm_all (by decide +kernel)
theorem fs_61 : ∀ q ∈ sp_61, sm_F 61 q.1 q.2.2.2 q.2.1 := sm_rsl (fun q h => r_61 q (List.mem_append_left _ h)) (by decide +kernel)
theorem fl_61 : ∀ q ∈ lk_61, sm_F 61 q.1 q.2.2.2 q.2.1 := List.forall_mem_cons.mpr ⟨(⟨by decide, by decide, rfl, 47, (r_61 (1, 3, .getfield 47, .getfield 6) (List.mem_of_getElem? (i := 14) rfl)), Or.inl tw_t163⟩ : sm_F 61 1 (.getfield 6) 3),
  List.forall_mem_cons.mpr ⟨(⟨rfl, mf_10, tw_t193, tw_t194, rfl, by decide, 77, (r_61 (4, 3, .invokevirtual 77, .invokevirtual 10) (List.mem_of_getElem? (i := 15) rfl)), Or.inl tw_t192⟩ : sm_F 61 4 (.invokevirtual 10) 3),
  List.forall_mem_cons.mpr ⟨(⟨by decide, by decide, rfl, 53, (r_61 (17, 3, .getfield 53, .getfield 7) (List.mem_of_getElem? (i := 16) rfl)), Or.inl tw_t164⟩ : sm_F 61 17 (.getfield 7) 3),
  List.forall_mem_cons.mpr ⟨(⟨by decide, by decide, rfl, 47, (r_61 (21, 3, .getfield 47, .getfield 6) (List.mem_of_getElem? (i := 17) rfl)), Or.inl tw_t163⟩ : sm_F 61 21 (.getfield 6) 3),
  List.forall_mem_cons.mpr ⟨(⟨rfl, mf_62, tw_t577, tw_t578, rfl, by decide, 222, (r_61 (24, 3, .invokevirtual 222, .invokevirtual 62) (List.mem_of_getElem? (i := 18) rfl)), Or.inl tw_t576⟩ : sm_F 61 24 (.invokevirtual 62) 3),
  List.forall_mem_cons.mpr ⟨(⟨by decide, by decide, rfl, 53, (r_61 (34, 3, .getfield 53, .getfield 7) (List.mem_of_getElem? (i := 19) rfl)), Or.inl tw_t164⟩ : sm_F 61 34 (.getfield 7) 3),
  List.forall_mem_cons.mpr ⟨(⟨by decide, by decide, rfl, 47, (r_61 (38, 3, .getfield 47, .getfield 6) (List.mem_of_getElem? (i := 20) rfl)), Or.inl tw_t163⟩ : sm_F 61 38 (.getfield 6) 3),
  List.forall_mem_cons.mpr ⟨(⟨rfl, mf_64, tw_t585, tw_t586, rfl, by decide, 225, (r_61 (42, 3, .invokevirtual 225, .invokevirtual 64) (List.mem_of_getElem? (i := 21) rfl)), Or.inl tw_t584⟩ : sm_F 61 42 (.invokevirtual 64) 3),
  fun _ h => absurd h List.not_mem_nil⟩⟩⟩⟩⟩⟩⟩⟩
theorem f_61 : ∀ q ∈ cd_61, sm_F 61 q.1 q.2.2.2 q.2.1 := List.forall_mem_append.mpr ⟨fs_61, fl_61⟩
theorem r_62 : ∀ q ∈ cd_62, decode (mB 62) q.1 = .ok (q.2.2.1, q.2.1) := sm_all (by decide +kernel)
theorem fs_62 : ∀ q ∈ sp_62, sm_F 62 q.1 q.2.2.2 q.2.1 := sm_rsl (fun q h => r_62 q (List.mem_append_left _ h)) (by decide +kernel)
theorem fl_62 : ∀ q ∈ lk_62, sm_F 62 q.1 q.2.2.2 q.2.1 := List.forall_mem_cons.mpr ⟨(⟨by decide, by decide, rfl, 17, (r_62 (4, 3, .getfield 17, .getfield 193) (List.mem_of_getElem? (i := 16) rfl)), Or.inl tw_t112⟩ : sm_F 62 4 (.getfield 193) 3),
  List.forall_mem_cons.mpr ⟨(⟨by decide, by decide, rfl, 11, (r_62 (11, 3, .getfield 11, .getfield 192) (List.mem_of_getElem? (i := 17) rfl)), Or.inl tw_t111⟩ : sm_F 62 11 (.getfield 192) 3),
  List.forall_mem_cons.mpr ⟨(⟨rfl, mf_63, tw_t581, tw_t582, rfl, by decide, 24, (r_62 (17, 3, .invokevirtual 24, .invokevirtual 63) (List.mem_of_getElem? (i := 18) rfl)), Or.inl tw_t580⟩ : sm_F 62 17 (.invokevirtual 63) 3),
  fun _ h => absurd h List.not_mem_nil⟩⟩⟩
theorem f_62 : ∀ q ∈ cd_62, sm_F 62 q.1 q.2.2.2 q.2.1 := List.forall_mem_append.mpr ⟨fs_62, fl_62⟩
theorem r_63 : ∀ q ∈ cd_63, decode (mB 63) q.1 = .ok (q.2.2.1, q.2.1) := sm_all (by decide +kernel)
theorem fs_63 : ∀ q ∈ sp_63, sm_F 63 q.1 q.2.2.2 q.2.1 := sm_rsl (fun q h => r_63 q (List.mem_append_left _ h)) (by decide +kernel)
theorem fl_63 : ∀ q ∈ lk_63, sm_F 63 q.1 q.2.2.2 q.2.1 := List.forall_mem_cons.mpr ⟨(⟨by decide, by decide, rfl, 15, (r_63 (1, 3, .getfield 15, .getfield 33) (List.mem_of_getElem? (i := 23) rfl)), Or.inl tw_t32⟩ : sm_F 63 1 (.getfield 33) 3),
  List.forall_mem_cons.mpr ⟨(⟨by decide, by decide, rfl, 15, (r_63 (5, 3, .getfield 15, .getfield 33) (List.mem_of_getElem? (i := 24) rfl)), Or.inl tw_t32⟩ : sm_F 63 5 (.getfield 33) 3),
  List.forall_mem_cons.mpr ⟨(⟨by decide, by decide, rfl, 15, (r_63 (17, 3, .getfield 15, .getfield 33) (List.mem_of_getElem? (i := 25) rfl)), Or.inl tw_t32⟩ : sm_F 63 17 (.getfield 33) 3),
  List.forall_mem_cons.mpr ⟨(⟨by decide, by decide, rfl, 9, (r_63 (24, 3, .getfield 9, .getfield 32) (List.mem_of_getElem? (i := 26) rfl)), Or.inl tw_t31⟩ : sm_F 63 24 (.getfield 32) 3),
  List.forall_mem_cons.mpr ⟨(⟨by decide, by decide, rfl, 9, (r_63 (30, 3, .getfield 9, .getfield 32) (List.mem_of_getElem? (i := 27) rfl)), Or.inl tw_t31⟩ : sm_F 63 30 (.getfield 32) 3),
  fun _ h => absurd h List.not_mem_nil⟩⟩⟩⟩⟩
theorem f_63 : ∀ q ∈ cd_63, sm_F 63 q.1 q.2.2.2 q.2.1 := List.forall_mem_append.mpr ⟨fs_63, fl_63⟩
theorem r_64 : ∀ q ∈ cd_64, decode (mB 64) q.1 = .ok (q.2.2.1, q.2.1) := sm_all (by decide +kernel)
theorem fs_64 : ∀ q ∈ sp_64, sm_F 64 q.1 q.2.2.2 q.2.1 := sm_rsl (fun q h => r_64 q (List.mem_append_left _ h)) (by decide +kernel)
theorem fl_64 : ∀ q ∈ lk_64, sm_F 64 q.1 q.2.2.2 q.2.1 := List.forall_mem_cons.mpr ⟨(⟨rfl, mf_32, tw_t395, tw_t396, rfl, by decide, 28, (r_64 (1, 3, .invokevirtual 28, .invokevirtual 32) (List.mem_of_getElem? (i := 29) rfl)), Or.inl tw_t588⟩ : sm_F 64 1 (.invokevirtual 32) 3),
  List.forall_mem_cons.mpr ⟨(⟨by decide, by decide, rfl, 11, (r_64 (11, 3, .getfield 11, .getfield 192) (List.mem_of_getElem? (i := 30) rfl)), Or.inl tw_t111⟩ : sm_F 64 11 (.getfield 192) 3),
  List.forall_mem_cons.mpr ⟨(⟨by decide, by decide, rfl, 17, (r_64 (15, 3, .getfield 17, .getfield 193) (List.mem_of_getElem? (i := 31) rfl)), Or.inl tw_t112⟩ : sm_F 64 15 (.getfield 193) 3),
  List.forall_mem_cons.mpr ⟨(⟨by decide, rfl, 9, (r_64 (18, 3, .new 9, .new 1) (List.mem_of_getElem? (i := 32) rfl)), tw_t109, tw_t26, tw_t2⟩ : sm_F 64 18 (.new 1) 3),
  List.forall_mem_cons.mpr ⟨(⟨rfl, mf_10, tw_t193, tw_t194, rfl, by decide, 32, (r_64 (23, 3, .invokevirtual 32, .invokevirtual 10) (List.mem_of_getElem? (i := 33) rfl)), Or.inl tw_t589⟩ : sm_F 64 23 (.invokevirtual 10) 3),
  List.forall_mem_cons.mpr ⟨(⟨rfl, mf_2, tw_t28, rfl, rfl, 36, (r_64 (26, 3, .invokespecial 36, .invokespecial 2) (List.mem_of_getElem? (i := 34) rfl)), Or.inl tw_t590⟩ : sm_F 64 26 (.invokespecial 2) 3),
  List.forall_mem_cons.mpr ⟨(⟨by decide, by decide, rfl, 11, (r_64 (31, 3, .getfield 11, .getfield 192) (List.mem_of_getElem? (i := 35) rfl)), Or.inl tw_t111⟩ : sm_F 64 31 (.getfield 192) 3),
  List.forall_mem_cons.mpr ⟨(⟨by decide, by decide, rfl, 17, (r_64 (35, 3, .getfield 17, .getfield 193) (List.mem_of_getElem? (i := 36) rfl)), Or.inl tw_t112⟩ : sm_F 64 35 (.getfield 193) 3),
  List.forall_mem_cons.mpr ⟨(⟨rfl, mf_59, tw_t548, tw_t549, rfl, by decide, 39, (r_64 (40, 3, .invokevirtual 39, .invokevirtual 59) (List.mem_of_getElem? (i := 37) rfl)), Or.inl tw_t591⟩ : sm_F 64 40 (.invokevirtual 59) 3),
  List.forall_mem_cons.mpr ⟨(⟨by decide, by decide, rfl, 17, (r_64 (45, 3, .getfield 17, .getfield 193) (List.mem_of_getElem? (i := 38) rfl)), Or.inl tw_t112⟩ : sm_F 64 45 (.getfield 193) 3),
  List.forall_mem_cons.mpr ⟨(⟨by decide, by decide, rfl, 17, (r_64 (50, 3, .putfield 17, .putfield 193) (List.mem_of_getElem? (i := 39) rfl)), Or.inl ⟨rfl, Or.inl tw_t112⟩⟩ : sm_F 64 50 (.putfield 193) 3),
  List.forall_mem_cons.mpr ⟨(⟨by decide, by decide, rfl, 21, (r_64 (55, 3, .getfield 21, .getfield 194) (List.mem_of_getElem? (i := 40) rfl)), Or.inl tw_t113⟩ : sm_F 64 55 (.getfield 194) 3),
  List.forall_mem_cons.mpr ⟨(⟨by decide, by decide, rfl, 21, (r_64 (68, 3, .putfield 21, .putfield 194) (List.mem_of_getElem? (i := 41) rfl)), Or.inl ⟨rfl, Or.inl tw_t113⟩⟩ : sm_F 64 68 (.putfield 194) 3),
  List.forall_mem_cons.mpr ⟨(⟨by decide, by decide, rfl, 17, (r_64 (72, 3, .getfield 17, .getfield 193) (List.mem_of_getElem? (i := 42) rfl)), Or.inl tw_t112⟩ : sm_F 64 72 (.getfield 193) 3),
  fun _ h => absurd h List.not_mem_nil⟩⟩⟩⟩⟩⟩⟩⟩⟩⟩⟩⟩⟩⟩
theorem f_64 : ∀ q ∈ cd_64, sm_F 64 q.1 q.2.2.2 q.2.1 := List.forall_mem_append.mpr ⟨fs_64, fl_64⟩
theorem r_65 : ∀ q ∈ cd_65, decode (mB 65) q.1 = .ok (q.2.2.1, q.2.1) := sm_all (by decide +kernel)
theorem fs_65 : ∀ q ∈ sp_65, sm_F 65 q.1 q.2.2.2 q.2.1 := sm_rsl (fun q h => r_65 q (List.mem_append_left _ h)) (by decide +kernel)
theorem fl_65 : ∀ q ∈ lk_65, sm_F 65 q.1 q.2.2.2 q.2.1 := List.forall_mem_cons.mpr ⟨(⟨by decide, by decide, rfl, 14, (r_65 (1, 3, .getfield 14, .getfield 0) (List.mem_of_getElem? (i := 24) rfl)), Or.inl tw_t157⟩ : sm_F 65 1 (.getfield 0) 3),
  List.forall_mem_cons.mpr ⟨(⟨rfl, mf_66, tw_t597, tw_t598, rfl, by decide, 136, (r_65 (4, 3, .invokevirtual 136, .invokevirtual 66) (List.mem_of_getElem? (i := 25) rfl)), Or.inl tw_t596⟩ : sm_F 65 4 (.invokevirtual 66) 3),
  List.forall_mem_cons.mpr ⟨(⟨by decide, by decide, rfl, 53, (r_65 (25, 3, .getfield 53, .getfield 7) (List.mem_of_getElem? (i := 26) rfl)), Or.inl tw_t164⟩ : sm_F 65 25 (.getfield 7) 3),
  List.forall_mem_cons.mpr ⟨(⟨rfl, mf_32, tw_t395, tw_t396, rfl, by decide, 114, (r_65 (28, 3, .invokevirtual 114, .invokevirtual 32) (List.mem_of_getElem? (i := 27) rfl)), Or.inl tw_t394⟩ : sm_F 65 28 (.invokevirtual 32) 3),
  List.forall_mem_cons.mpr ⟨(⟨by decide, by decide, rfl, 37, (r_65 (35, 3, .getfield 37, .getfield 3) (List.mem_of_getElem? (i := 28) rfl)), Or.inl tw_t160⟩ : sm_F 65 35 (.getfield 3) 3),
  List.forall_mem_cons.mpr ⟨(⟨by decide, by decide, rfl, 21, (r_65 (39, 3, .getfield 21, .getfield 1) (List.mem_of_getElem? (i := 29) rfl)), Or.inl tw_t158⟩ : sm_F 65 39 (.getfield 1) 3),
  List.forall_mem_cons.mpr ⟨(⟨by decide, by decide, rfl, 41, (r_65 (43, 3, .getfield 41, .getfield 4) (List.mem_of_getElem? (i := 30) rfl)), Or.inl tw_t161⟩ : sm_F 65 43 (.getfield 4) 3),
  List.forall_mem_cons.mpr ⟨(⟨rfl, mf_33, tw_t399, tw_t400, rfl, by decide, 118, (r_65 (46, 3, .invokevirtual 118, .invokevirtual 33) (List.mem_of_getElem? (i := 31) rfl)), Or.inl tw_t398⟩ : sm_F 65 46 (.invokevirtual 33) 3),
  List.forall_mem_cons.mpr ⟨(⟨by decide, by decide, rfl, 37, (r_65 (51, 3, .getfield 37, .getfield 3) (List.mem_of_getElem? (i := 32) rfl)), Or.inl tw_t160⟩ : sm_F 65 51 (.getfield 3) 3),
  List.forall_mem_cons.mpr ⟨(⟨rfl, mf_26, tw_t371, tw_t372, rfl, by decide, 102, (r_65 (54, 3, .invokevirtual 102, .invokevirtual 26) (List.mem_of_getElem? (i := 33) rfl)), Or.inl tw_t370⟩ : sm_F 65 54 (.invokevirtual 26) 3),
  List.forall_mem_cons.mpr ⟨(⟨rfl, mf_57, tw_t539, tw_t540, rfl, by decide, 126, (r_65 (57, 3, .invokevirtual 126, .invokevirtual 57) (List.mem_of_getElem? (i := 34) rfl)), Or.inl tw_t538⟩ : sm_F 65 57 (.invokevirtual 57) 3),
  List.forall_mem_cons.mpr ⟨(⟨by decide, by decide, rfl, 57, (r_65 (60, 3, .putfield 57, .putfield 9) (List.mem_of_getElem? (i := 35) rfl)), Or.inl ⟨rfl, Or.inl tw_t166⟩⟩ : sm_F 65 60 (.putfield 9) 3),
  List.forall_mem_cons.mpr ⟨(⟨rfl, mf_67, tw_t602, tw_p10, rfl, by decide, 139, (r_65 (64, 3, .invokevirtual 139, .invokevirtual 67) (List.mem_of_getElem? (i := 36) rfl)), Or.inl tw_t600⟩ : sm_F 65 64 (.invokevirtual 67) 3),
  List.forall_mem_cons.mpr ⟨(⟨rfl, mf_61, tw_t574, tw_p9, rfl, by decide, 132, (r_65 (69, 3, .invokevirtual 132, .invokevirtual 61) (List.mem_of_getElem? (i := 37) rfl)), Or.inl tw_t572⟩ : sm_F 65 69 (.invokevirtual 61) 3),
  List.forall_mem_cons.mpr ⟨(⟨by decide, by decide, rfl, 14, (r_65 (74, 3, .getfield 14, .getfield 0) (List.mem_of_getElem? (i := 38) rfl)), Or.inl tw_t157⟩ : sm_F 65 74 (.getfield 0) 3),
  List.forall_mem_cons.mpr ⟨(⟨rfl, mf_18, tw_t315, tw_t316, rfl, by decide, 99, (r_65 (77, 3, .invokevirtual 99, .invokevirtual 18) (List.mem_of_getElem? (i := 39) rfl)), Or.inl tw_t314⟩ : sm_F 65 77 (.invokevirtual 18) 3),
  fun _ h => absurd h List.not_mem_nil⟩⟩⟩⟩⟩⟩⟩⟩⟩⟩⟩⟩⟩⟩⟩⟩
theorem f_65 : ∀ q ∈ cd_65, sm_F 65 q.1 q.2.2.2 q.2.1 := List.forall_mem_append.mpr ⟨fs_65, fl_65⟩
theorem r_66 : ∀ q ∈ cd_66, decode (mB 66) q.1 = .ok (q.2.2.1, q.2.1) := sm_all (by decide +kernel)
theorem fs_66 : ∀ q ∈ sp_66, sm_F 66 q.1 q.2.2.2 q.2.1 := sm_rsl (fun q h => r_66 q (List.mem_append_left _ h)) (by decide +kernel)
theorem fl_66 : ∀ q ∈ lk_66, sm_F 66 q.1 q.2.2.2 q.2.1 := List.forall_mem_cons.mpr ⟨(⟨by decide, by decide, rfl, 15, (r_66 (4, 3, .getfield 15, .getfield 33) (List.mem_of_getElem? (i := 31) rfl)), Or.inl tw_t32⟩ : sm_F 66 4 (.getfield 33) 3),
  List.forall_mem_cons.mpr ⟨(⟨by decide, by decide, rfl, 9, (r_66 (11, 3, .getfield 9, .getfield 32) (List.mem_of_getElem? (i := 32) rfl)), Or.inl tw_t31⟩ : sm_F 66 11 (.getfield 32) 3),
  List.forall_mem_cons.mpr ⟨(⟨by decide, by decide, rfl, 15, (r_66 (50, 3, .getfield 15, .getfield 33) (List.mem_of_getElem? (i := 33) rfl)), Or.inl tw_t32⟩ : sm_F 66 50 (.getfield 33) 3),
  fun _ h => absurd h List.not_mem_nil⟩⟩⟩
theorem f_66 : ∀ q ∈ cd_66, sm_F 66 q.1 q.2.2.2 q.2.1 := List.forall_mem_append.mpr ⟨fs_66, fl_66⟩
theorem r_67 : ∀ q ∈ cd_67, decode (mB 67) q.1 = .ok (q.2.2.1, q.2.1) := sm_all (by decide +kernel)
theorem fs_67 : ∀ q ∈ sp_67, sm_F 67 q.1 q.2.2.2 q.2.1 := sm_rsl (fun q h => r_67 q (List.mem_append_left _ h)) (by decide +kernel)
theorem fl_67 : ∀ q ∈ lk_67, sm_F 67 q.1 q.2.2.2 q.2.1 := List.forall_mem_cons.mpr ⟨(⟨by decide, by decide, rfl, 47, (r_67 (1, 3, .getfield 47, .getfield 6) (List.mem_of_getElem? (i := 12) rfl)), Or.inl tw_t163⟩ : sm_F 67 1 (.getfield 6) 3),
  List.forall_mem_cons.mpr ⟨(⟨rfl, mf_18, tw_t315, tw_t316, rfl, by decide, 99, (r_67 (4, 3, .invokevirtual 99, .invokevirtual 18) (List.mem_of_getElem? (i := 13) rfl)), Or.inl tw_t314⟩ : sm_F 67 4 (.invokevirtual 18) 3),
  List.forall_mem_cons.mpr ⟨(⟨by decide, by decide, rfl, 47, (r_67 (8, 3, .getfield 47, .getfield 6) (List.mem_of_getElem? (i := 14) rfl)), Or.inl tw_t163⟩ : sm_F 67 8 (.getfield 6) 3),
  List.forall_mem_cons.mpr ⟨(⟨214, (r_67 (11, 2, .ldc 214, .ldc 84) (List.mem_of_getElem? (i := 15) rfl)), rfl, by decide +kernel⟩ : ∃ x : Nat, decode (mB 67) 11 = .ok (.ldc x, 2) ∧ 2 = 2 ∧ (((mN 67).cls, x), 84) ∈ sKl),
  List.forall_mem_cons.mpr ⟨(⟨rfl, mf_35, tw_t409, tw_t410, rfl, by decide, 180, (r_67 (13, 3, .invokevirtual 180, .invokevirtual 35) (List.mem_of_getElem? (i := 16) rfl)), Or.inl tw_t557⟩ : sm_F 67 13 (.invokevirtual 35) 3),
  List.forall_mem_cons.mpr ⟨(⟨by decide, by decide, rfl, 47, (r_67 (17, 3, .getfield 47, .getfield 6) (List.mem_of_getElem? (i := 17) rfl)), Or.inl tw_t163⟩ : sm_F 67 17 (.getfield 6) 3),
  List.forall_mem_cons.mpr ⟨(⟨by decide, by decide, rfl, 41, (r_67 (21, 3, .getfield 41, .getfield 4) (List.mem_of_getElem? (i := 18) rfl)), Or.inl tw_t161⟩ : sm_F 67 21 (.getfield 4) 3),
  List.forall_mem_cons.mpr ⟨(⟨rfl, mf_59, tw_t548, tw_t549, rfl, by decide, 175, (r_67 (24, 3, .invokevirtual 175, .invokevirtual 59) (List.mem_of_getElem? (i := 19) rfl)), Or.inl tw_t547⟩ : sm_F 67 24 (.invokevirtual 59) 3),
  List.forall_mem_cons.mpr ⟨(⟨by decide, by decide, rfl, 47, (r_67 (28, 3, .getfield 47, .getfield 6) (List.mem_of_getElem? (i := 20) rfl)), Or.inl tw_t163⟩ : sm_F 67 28 (.getfield 6) 3),
  List.forall_mem_cons.mpr ⟨(⟨216, (r_67 (31, 2, .ldc 216, .ldc 86) (List.mem_of_getElem? (i := 21) rfl)), rfl, by decide +kernel⟩ : ∃ x : Nat, decode (mB 67) 31 = .ok (.ldc x, 2) ∧ 2 = 2 ∧ (((mN 67).cls, x), 86) ∈ sKl),
  List.forall_mem_cons.mpr ⟨(⟨rfl, mf_35, tw_t409, tw_t410, rfl, by decide, 180, (r_67 (33, 3, .invokevirtual 180, .invokevirtual 35) (List.mem_of_getElem? (i := 22) rfl)), Or.inl tw_t557⟩ : sm_F 67 33 (.invokevirtual 35) 3),
  List.forall_mem_cons.mpr ⟨(⟨by decide, by decide, rfl, 47, (r_67 (37, 3, .getfield 47, .getfield 6) (List.mem_of_getElem? (i := 23) rfl)), Or.inl tw_t163⟩ : sm_F 67 37 (.getfield 6) 3),
  List.forall_mem_cons.mpr ⟨(⟨by decide, by decide, rfl, 14, (r_67 (41, 3, .getfield 14, .getfield 0) (List.mem_of_getElem? (i := 24) rfl)), Or.inl tw_t157⟩ : sm_F 67 41 (.getfield 0) 3),
  List.forall_mem_cons.mpr ⟨(⟨rfl, mf_59, tw_t548, tw_t549, rfl, by decide, 175, (r_67 (44, 3, .invokevirtual 175, .invokevirtual 59) (List.mem_of_getElem? (i := 25) rfl)), Or.inl tw_t547⟩ : sm_F 67 44 (.invokevirtual 59) 3),
  List.forall_mem_cons.mpr ⟨(⟨by decide, by decide, rfl, 47, (r_67 (48, 3, .getfield 47, .getfield 6) (List.mem_of_getElem? (i := 26) rfl)), Or.inl tw_t163⟩ : sm_F 67 48 (.getfield 6) 3),
  List.forall_mem_cons.mpr ⟨(⟨218, (r_67 (51, 2, .ldc 218, .ldc 88) (List.mem_of_getElem? (i := 27) rfl)), rfl, by decide +kernel⟩ : ∃ x : Nat, decode (mB 67) 51 = .ok (.ldc x, 2) ∧ 2 = 2 ∧ (((mN 67).cls, x), 88) ∈ sKl),
  List.forall_mem_cons.mpr ⟨(⟨rfl, mf_35, tw_t409, tw_t410, rfl, by decide, 180, (r_67 (53, 3, .invokevirtual 180, .invokevirtual 35) (List.mem_of_getElem? (i := 28) rfl)), Or.inl tw_t557⟩ : sm_F 67 53 (.invokevirtual 35) 3),
  List.forall_mem_cons.mpr ⟨(⟨by decide, by decide, rfl, 47, (r_67 (57, 3, .getfield 47, .getfield 6) (List.mem_of_getElem? (i := 29) rfl)), Or.inl tw_t163⟩ : sm_F 67 57 (.getfield 6) 3),
  List.forall_mem_cons.mpr ⟨(⟨by decide, by decide, rfl, 14, (r_67 (61, 3, .getfield 14, .getfield 0) (List.mem_of_getElem? (i := 30) rfl)), Or.inl tw_t157⟩ : sm_F 67 61 (.getfield 0) 3),
  List.forall_mem_cons.mpr ⟨(⟨rfl, mf_59, tw_t548, tw_t549, rfl, by decide, 175, (r_67 (64, 3, .invokevirtual 175, .invokevirtual 59) (List.mem_of_getElem? (i := 31) rfl)), Or.inl tw_t547⟩ : sm_F 67 64 (.invokevirtual 59) 3),
  List.forall_mem_cons.mpr ⟨(⟨by decide, by decide, rfl, 47, (r_67 (68, 3, .getfield 47, .getfield 6) (List.mem_of_getElem? (i := 32) rfl)), Or.inl tw_t163⟩ : sm_F 67 68 (.getfield 6) 3),
  List.forall_mem_cons.mpr ⟨(⟨220, (r_67 (71, 2, .ldc 220, .ldc 90) (List.mem_of_getElem? (i := 33) rfl)), rfl, by decide +kernel⟩ : ∃ x : Nat, decode (mB 67) 71 = .ok (.ldc x, 2) ∧ 2 = 2 ∧ (((mN 67).cls, x), 90) ∈ sKl),
  List.forall_mem_cons.mpr ⟨(⟨rfl, mf_35, tw_t409, tw_t410, rfl, by decide, 180, (r_67 (73, 3, .invokevirtual 180, .invokevirtual 35) (List.mem_of_getElem? (i := 34) rfl)), Or.inl tw_t557⟩ : sm_F 67 73 (.invokevirtual 35) 3),
  fun _ h => absurd h List.not_mem_nil⟩⟩⟩⟩⟩⟩⟩⟩⟩⟩⟩⟩⟩⟩⟩⟩⟩⟩⟩⟩⟩⟩⟩
theorem f_67 : ∀ q ∈ cd_67, sm_F 67 q.1 q.2.2.2 q.2.1 := List.forall_mem_append.mpr ⟨fs_67, fl_67⟩
theorem r_68 : ∀ q ∈ cd_68, decode (mB 68) q.1 = .ok (q.2.2.1, q.2.1) := sm_all (by decide +kernel)
theorem fs_68 : ∀ q ∈ sp_68, sm_F 68 q.1 q.2.2.2 q.2.1 := sm_rsl (fun q h => r_68 q (List.mem_append_left _ h)) (by decide +kernel)
theorem fl_68 : ∀ q ∈ lk_68, sm_F 68 q.1 q.2.2.2 q.2.1 := List.forall_mem_cons.mpr ⟨(⟨by decide, by decide, rfl, 57, (r_68 (1, 3, .getfield 57, .getfield 9) (List.mem_of_getElem? (i := 2) rfl)), Or.inl tw_t166⟩ : sm_F 68 1 (.getfield 9) 3),
  fun _ h => absurd h List.not_mem_nil⟩
theorem f_68 : ∀ q ∈ cd_68, sm_F 68 q.1 q.2.2.2 q.2.1 := List.forall_mem_append.mpr ⟨fs_68, fl_68⟩
theorem r_69 : ∀ q ∈ cd_69, decode (mB 69) q.1 = .ok (q.2.2.1, q.2.1) := sm_all (by decide +kernel)
theorem fs_69 : ∀ q ∈ sp_69, sm_F 69 q.1 q.2.2.2 q.2.1 := sm_rsl (fun q h => r_69 q (List.mem_append_left _ h)) (by decide +kernel)
theorem fl_69 : ∀ q ∈ lk_69, sm_F 69 q.1 q.2.2.2 q.2.1 := List.forall_mem_cons.mpr ⟨(⟨by decide, by decide, rfl, 53, (r_69 (1, 3, .getfield 53, .getfield 7) (List.mem_of_getElem? (i := 5) rfl)), Or.inl tw_t164⟩ : sm_F 69 1 (.getfield 7) 3),
  List.forall_mem_cons.mpr ⟨(⟨rfl, mf_70, tw_t617, tw_t618, rfl, by decide, 142, (r_69 (4, 3, .invokevirtual 142, .invokevirtual 70) (List.mem_of_getElem? (i := 6) rfl)), Or.inl tw_t616⟩ : sm_F 69 4 (.invokevirtual 70) 3),
  List.forall_mem_cons.mpr ⟨(⟨by decide, by decide, rfl, 53, (r_69 (9, 3, .getfield 53, .getfield 7) (List.mem_of_getElem? (i := 7) rfl)), Or.inl tw_t164⟩ : sm_F 69 9 (.getfield 7) 3),
  List.forall_mem_cons.mpr ⟨(⟨rfl, mf_71, tw_t621, tw_t622, rfl, by decide, 143, (r_69 (12, 3, .invokevirtual 143, .invokevirtual 71) (List.mem_of_getElem? (i := 8) rfl)), Or.inl tw_t620⟩ : sm_F 69 12 (.invokevirtual 71) 3),
  fun _ h => absurd h List.not_mem_nil⟩⟩⟩⟩
theorem f_69 : ∀ q ∈ cd_69, sm_F 69 q.1 q.2.2.2 q.2.1 := List.forall_mem_append.mpr ⟨fs_69, fl_69⟩
theorem r_70 : ∀ q ∈ cd_70, decode (mB 70) q.1 = .ok (q.2.2.1, q.2.1) := sm_all (by decide +kernel)
theorem fs_70 : ∀ q ∈ sp_70, sm_F 70 q.1 q.2.2.2 q.2.1 := sm_rsl (fun q h => r_70 q (List.mem_append_left _ h)) (by decide +kernel)
theorem fl_70 : ∀ q ∈ lk_70, sm_F 70 q.1 q.2.2.2 q.2.1 := List.forall_mem_cons.mpr ⟨(⟨by decide, by decide, rfl, 17, (r_70 (1, 3, .getfield 17, .getfield 193) (List.mem_of_getElem? (i := 2) rfl)), Or.inl tw_t112⟩ : sm_F 70 1 (.getfield 193) 3),
  fun _ h => absurd h List.not_mem_nil⟩
theorem f_70 : ∀ q ∈ cd_70, sm_F 70 q.1 q.2.2.2 q.2.1 := List.forall_mem_append.mpr ⟨fs_70, fl_70⟩
theorem r_71 : ∀ q ∈ cd_71, decode (mB 71) q.1 = .ok (q.2.2.1, q.2.1) := sm_all (by decide +kernel)
theorem fs_71 : ∀ q ∈ sp_71, sm_F 71 q.1 q.2.2.2 q.2.1 := sm_rsl (fun q h => r_71 q (List.mem_append_left _ h)) (by decide +kernel)
theorem fl_71 : ∀ q ∈ lk_71, sm_F 71 q.1 q.2.2.2 q.2.1 := List.forall_mem_cons.mpr ⟨(⟨by decide, by decide, rfl, 17, (r_71 (2, 3, .putfield 17, .putfield 193) (List.mem_of_getElem? (i := 5) rfl)), Or.inl ⟨rfl, Or.inl tw_t112⟩⟩ : sm_F 71 2 (.putfield 193) 3),
  List.forall_mem_cons.mpr ⟨(⟨by decide, by decide, rfl, 21, (r_71 (7, 3, .putfield 21, .putfield 194) (List.mem_of_getElem? (i := 6) rfl)), Or.inl ⟨rfl, Or.inl tw_t113⟩⟩ : sm_F 71 7 (.putfield 194) 3),
  fun _ h => absurd h List.not_mem_nil⟩⟩
theorem f_71 : ∀ q ∈ cd_71, sm_F 71 q.1 q.2.2.2 q.2.1 := List.forall_mem_append.mpr ⟨fs_71, fl_71⟩
theorem r_72 : ∀ q ∈ cd_72, decode (mB 72) q.1 = .ok (q.2.2.1, q.2.1) := sm_all (by decide +kernel)
theorem fs_72 : ∀ q ∈ sp_72, sm_F 72 q.1 q.2.2.2 q.2.1 := sm_rsl (fun q h => r_72 q (List.mem_append_left _ h)) (by decide +kernel)
theorem fl_72 : ∀ q ∈ lk_72, sm_F 72 q.1 q.2.2.2 q.2.1 := List.forall_mem_cons.mpr ⟨(⟨by decide, by decide, rfl, 73, (r_72 (1, 3, .getfield 73, .getfield 8) (List.mem_of_getElem? (i := 4) rfl)), Or.inl tw_t165⟩ : sm_F 72 1 (.getfield 8) 3),
  List.forall_mem_cons.mpr ⟨(⟨by decide, by decide, rfl, 53, (r_72 (5, 3, .getfield 53, .getfield 7) (List.mem_of_getElem? (i := 5) rfl)), Or.inl tw_t164⟩ : sm_F 72 5 (.getfield 7) 3),
  List.forall_mem_cons.mpr ⟨(⟨rfl, mf_73, tw_t629, tw_t630, rfl, by decide, 144, (r_72 (8, 3, .invokevirtual 144, .invokevirtual 73) (List.mem_of_getElem? (i := 6) rfl)), Or.inl tw_t628⟩ : sm_F 72 8 (.invokevirtual 73) 3),
  List.forall_mem_cons.mpr ⟨(⟨by decide, by decide, rfl, 73, (r_72 (12, 3, .getfield 73, .getfield 8) (List.mem_of_getElem? (i := 7) rfl)), Or.inl tw_t165⟩ : sm_F 72 12 (.getfield 8) 3),
  List.forall_mem_cons.mpr ⟨(⟨rfl, mf_82, tw_t680, tw_t681, rfl, by decide, 148, (r_72 (15, 3, .invokevirtual 148, .invokevirtual 82) (List.mem_of_getElem? (i := 8) rfl)), Or.inl tw_t679⟩ : sm_F 72 15 (.invokevirtual 82) 3),
  fun _ h => absurd h List.not_mem_nil⟩⟩⟩⟩⟩
theorem f_72 : ∀ q ∈ cd_72, sm_F 72 q.1 q.2.2.2 q.2.1 := List.forall_mem_append.mpr ⟨fs_72, fl_72⟩
theorem r_73 : ∀ q ∈ cd_73, decode (mB 73) q.1 = .ok (q.2.2.1, q.2.1) := sm_all (by decide +kernel)
theorem fs_73 : ∀ q ∈ sp_73, sm_F 73 q.1 q.2.2.2 q.2.1 := sm_rsl (fun q h => r_73 q (List.mem_append_left _ h)) (by decide +kernel)
theorem fl_73 : ∀ q ∈ lk_73, sm_F 73 q.1 q.2.2.2 q.2.1 := List.forall_mem_cons.mpr ⟨(⟨rfl, mf_74, tw_t634, tw_p11, rfl, by decide, 45, (r_73 (1, 3, .invokevirtual 45, .invokevirtual 74) (List.mem_of_getElem? (i := 24) rfl)), Or.inl tw_t632⟩ : sm_F 73 1 (.invokevirtual 74) 3),
  List.forall_mem_cons.mpr ⟨(⟨48, (r_73 (5, 2, .ldc 48, .ldc 92) (List.mem_of_getElem? (i := 25) rfl)), rfl, by decide +kernel⟩ : ∃ x : Nat, decode (mB 73) 5 = .ok (.ldc x, 2) ∧ 2 = 2 ∧ (((mN 73).cls, x), 92) ∈ sKl),
  List.forall_mem_cons.mpr ⟨(⟨rfl, mf_75, tw_t640, tw_p12, rfl, by decide, 50, (r_73 (7, 3, .invokevirtual 50, .invokevirtual 75) (List.mem_of_getElem? (i := 26) rfl)), Or.inl tw_t638⟩ : sm_F 73 7 (.invokevirtual 75) 3),
  List.forall_mem_cons.mpr ⟨(⟨rfl, mf_70, tw_t617, tw_t618, rfl, by decide, 54, (r_73 (14, 3, .invokevirtual 54, .invokevirtual 70) (List.mem_of_getElem? (i := 27) rfl)), Or.inl tw_t651⟩ : sm_F 73 14 (.invokevirtual 70) 3),
  List.forall_mem_cons.mpr ⟨(⟨rfl, mf_76, tw_t645, tw_p13, rfl, by decide, 59, (r_73 (25, 3, .invokevirtual 59, .invokevirtual 76) (List.mem_of_getElem? (i := 28) rfl)), Or.inl tw_t643⟩ : sm_F 73 25 (.invokevirtual 76) 3),
  List.forall_mem_cons.mpr ⟨(⟨62, (r_73 (29, 2, .ldc 62, .ldc 94) (List.mem_of_getElem? (i := 29) rfl)), rfl, by decide +kernel⟩ : ∃ x : Nat, decode (mB 73) 29 = .ok (.ldc x, 2) ∧ 2 = 2 ∧ (((mN 73).cls, x), 94) ∈ sKl),
  List.forall_mem_cons.mpr ⟨(⟨rfl, mf_75, tw_t640, tw_p12, rfl, by decide, 50, (r_73 (31, 3, .invokevirtual 50, .invokevirtual 75) (List.mem_of_getElem? (i := 30) rfl)), Or.inl tw_t638⟩ : sm_F 73 31 (.invokevirtual 75) 3),
  List.forall_mem_cons.mpr ⟨(⟨by decide, by decide, rfl, 14, (r_73 (35, 3, .getfield 14, .getfield 225) (List.mem_of_getElem? (i := 31) rfl)), Or.inl tw_t136⟩ : sm_F 73 35 (.getfield 225) 3),
  List.forall_mem_cons.mpr ⟨(⟨64, (r_73 (38, 2, .ldc 64, .ldc 96) (List.mem_of_getElem? (i := 32) rfl)), rfl, by decide +kernel⟩ : ∃ x : Nat, decode (mB 73) 38 = .ok (.ldc x, 2) ∧ 2 = 2 ∧ (((mN 73).cls, x), 96) ∈ sKl),
  List.forall_mem_cons.mpr ⟨(⟨rfl, mf_35, tw_t409, tw_t410, rfl, by decide, 66, (r_73 (40, 3, .invokevirtual 66, .invokevirtual 35) (List.mem_of_getElem? (i := 33) rfl)), Or.inl tw_t642⟩ : sm_F 73 40 (.invokevirtual 35) 3),
  List.forall_mem_cons.mpr ⟨(⟨by decide, by decide, rfl, 14, (r_73 (44, 3, .getfield 14, .getfield 225) (List.mem_of_getElem? (i := 34) rfl)), Or.inl tw_t136⟩ : sm_F 73 44 (.getfield 225) 3),
  List.forall_mem_cons.mpr ⟨(⟨rfl, mf_47, tw_t480, tw_t481, rfl, by decide, 69, (r_73 (49, 3, .invokevirtual 69, .invokevirtual 47) (List.mem_of_getElem? (i := 35) rfl)), Or.inl tw_t654⟩ : sm_F 73 49 (.invokevirtual 47) 3),
  List.forall_mem_cons.mpr ⟨(⟨73, (r_73 (53, 2, .ldc 73, .ldc 98) (List.mem_of_getElem? (i := 36) rfl)), rfl, by decide +kernel⟩ : ∃ x : Nat, decode (mB 73) 53 = .ok (.ldc x, 2) ∧ 2 = 2 ∧ (((mN 73).cls, x), 98) ∈ sKl),
  List.forall_mem_cons.mpr ⟨(⟨rfl, mf_75, tw_t640, tw_p12, rfl, by decide, 50, (r_73 (55, 3, .invokevirtual 50, .invokevirtual 75) (List.mem_of_getElem? (i := 37) rfl)), Or.inl tw_t638⟩ : sm_F 73 55 (.invokevirtual 75) 3),
  List.forall_mem_cons.mpr ⟨(⟨rfl, mf_77, tw_t657, tw_t658, rfl, by decide, 75, (r_73 (61, 3, .invokevirtual 75, .invokevirtual 77) (List.mem_of_getElem? (i := 38) rfl)), Or.inl tw_t656⟩ : sm_F 73 61 (.invokevirtual 77) 3),
  List.forall_mem_cons.mpr ⟨(⟨rfl, mf_78, tw_t662, tw_p14, rfl, by decide, 79, (r_73 (64, 3, .invokevirtual 79, .invokevirtual 78) (List.mem_of_getElem? (i := 39) rfl)), Or.inl tw_t660⟩ : sm_F 73 64 (.invokevirtual 78) 3),
  List.forall_mem_cons.mpr ⟨(⟨83, (r_73 (68, 2, .ldc 83, .ldc 100) (List.mem_of_getElem? (i := 40) rfl)), rfl, by decide +kernel⟩ : ∃ x : Nat, decode (mB 73) 68 = .ok (.ldc x, 2) ∧ 2 = 2 ∧ (((mN 73).cls, x), 100) ∈ sKl),
  List.forall_mem_cons.mpr ⟨(⟨rfl, mf_75, tw_t640, tw_p12, rfl, by decide, 50, (r_73 (70, 3, .invokevirtual 50, .invokevirtual 75) (List.mem_of_getElem? (i := 41) rfl)), Or.inl tw_t638⟩ : sm_F 73 70 (.invokevirtual 75) 3),
  List.forall_mem_cons.mpr ⟨(⟨85, (r_73 (80, 2, .ldc 85, .ldc 102) (List.mem_of_getElem? (i := 42) rfl)), rfl, by decide +kernel⟩ : ∃ x : Nat, decode (mB 73) 80 = .ok (.ldc x, 2) ∧ 2 = 2 ∧ (((mN 73).cls, x), 102) ∈ sKl),
  List.forall_mem_cons.mpr ⟨(⟨rfl, mf_75, tw_t640, tw_p12, rfl, by decide, 50, (r_73 (82, 3, .invokevirtual 50, .invokevirtual 75) (List.mem_of_getElem? (i := 43) rfl)), Or.inl tw_t638⟩ : sm_F 73 82 (.invokevirtual 75) 3),
  fun _ h => absurd h List.not_mem_nil⟩⟩⟩⟩⟩⟩⟩⟩⟩⟩⟩⟩⟩⟩⟩⟩⟩⟩⟩⟩
theorem f_73 : ∀ q ∈ cd_73, sm_F 73 q.1 q.2.2.2 q.2.1 := List.forall_mem_append.mpr ⟨fs_73, fl_73⟩
theorem r_74 : ∀ q ∈ cd_74, decode (mB 74) q.1 = .ok (q.2.2.1, q.2.1) := sm_all (by decide +kernel)
theorem fs_74 : ∀ q ∈ sp_74, sm_F 74 q.1 q.2.2.2 q.2.1 := sm_rsl (fun q h => r_74 q (List.mem_append_left _ h)) (by decide +kernel)
theorem fl_74 : ∀ q ∈ lk_74, sm_F 74 q.1 q.2.2.2 q.2.1 := List.forall_mem_cons.mpr ⟨(⟨by decide, by decide, rfl, 14, (r_74 (1, 3, .getfield 14, .getfield 225) (List.mem_of_getElem? (i := 10) rfl)), Or.inl tw_t136⟩ : sm_F 74 1 (.getfield 225) 3),
  List.forall_mem_cons.mpr ⟨(⟨rfl, mf_18, tw_t315, tw_t316, rfl, by decide, 87, (r_74 (4, 3, .invokevirtual 87, .invokevirtual 18) (List.mem_of_getElem? (i := 11) rfl)), Or.inl tw_t636⟩ : sm_F 74 4 (.invokevirtual 18) 3),
  List.forall_mem_cons.mpr ⟨(⟨by decide, by decide, rfl, 32, (r_74 (9, 3, .putfield 32, .putfield 227) (List.mem_of_getElem? (i := 12) rfl)), Or.inl ⟨rfl, Or.inl tw_t138⟩⟩ : sm_F 74 9 (.putfield 227) 3),
  List.forall_mem_cons.mpr ⟨(⟨by decide, by decide, rfl, 88, (r_74 (14, 3, .putfield 88, .putfield 228) (List.mem_of_getElem? (i := 13) rfl)), Or.inl ⟨rfl, Or.inl tw_t139⟩⟩ : sm_F 74 14 (.putfield 228) 3),
  List.forall_mem_cons.mpr ⟨(⟨by decide, by decide, rfl, 35, (r_74 (19, 3, .putfield 35, .putfield 229) (List.mem_of_getElem? (i := 14) rfl)), Or.inl ⟨rfl, Or.inl tw_t140⟩⟩ : sm_F 74 19 (.putfield 229) 3),
  List.forall_mem_cons.mpr ⟨(⟨by decide, by decide, rfl, 38, (r_74 (24, 3, .putfield 38, .putfield 230) (List.mem_of_getElem? (i := 15) rfl)), Or.inl ⟨rfl, Or.inl tw_t141⟩⟩ : sm_F 74 24 (.putfield 230) 3),
  fun _ h => absurd h List.not_mem_nil⟩⟩⟩⟩⟩⟩
theorem f_74 : ∀ q ∈ cd_74, sm_F 74 q.1 q.2.2.2 q.2.1 := List.forall_mem_append.mpr ⟨fs_74, fl_74⟩
theorem r_75 : ∀ q ∈ cd_75, decode (mB 75) q.1 = .ok (q.2.2.1, q.2.1) := sm_all (by decide +kernel)
theorem fs_75 : ∀ q ∈ sp_75, sm_F 75 q.1 q.2.2.2 q.2.1 := sm_rsl (fun q h => r_75 q (List.mem_append_left _ h)) (by decide +kernel)
theorem fl_75 : ∀ q ∈ lk_75, sm_F 75 q.1 q.2.2.2 q.2.1 := List.forall_mem_cons.mpr ⟨(⟨by decide, by decide, rfl, 14, (r_75 (1, 3, .getfield 14, .getfield 225) (List.mem_of_getElem? (i := 4) rfl)), Or.inl tw_t136⟩ : sm_F 75 1 (.getfield 225) 3),
  List.forall_mem_cons.mpr ⟨(⟨rfl, mf_35, tw_t409, tw_t410, rfl, by decide, 66, (r_75 (5, 3, .invokevirtual 66, .invokevirtual 35) (List.mem_of_getElem? (i := 5) rfl)), Or.inl tw_t642⟩ : sm_F 75 5 (.invokevirtual 35) 3),
  List.forall_mem_cons.mpr ⟨(⟨rfl, mf_76, tw_t645, tw_p13, rfl, by decide, 59, (r_75 (9, 3, .invokevirtual 59, .invokevirtual 76) (List.mem_of_getElem? (i := 6) rfl)), Or.inl tw_t643⟩ : sm_F 75 9 (.invokevirtual 76) 3),
  fun _ h => absurd h List.not_mem_nil⟩⟩⟩
theorem f_75 : ∀ q ∈ cd_75, sm_F 75 q.1 q.2.2.2 q.2.1 := List.forall_mem_append.mpr ⟨fs_75, fl_75⟩
theorem r_76 : ∀ q ∈ cd_76, decode (mB 76) q.1 = .ok (q.2.2.1, q.2.1) := sm_all (by decide +kernel)
theorem fs_76 : ∀ q ∈ sp_76, sm_F 76 q.1 q.2.2.2 q.2.1 := sm_rsl (fun q h => r_76 q (List.mem_append_left _ h)) (by decide +kernel)
theorem fl_76 : ∀ q ∈ lk_76, sm_F 76 q.1 q.2.2.2 q.2.1 := List.forall_mem_cons.mpr ⟨(⟨by decide, by decide, rfl, 32, (r_76 (1, 3, .getfield 32, .getfield 227) (List.mem_of_getElem? (i := 33) rfl)), Or.inl tw_t138⟩ : sm_F 76 1 (.getfield 227) 3),
  List.forall_mem_cons.mpr ⟨(⟨by decide, by decide, rfl, 20, (r_76 (5, 3, .getfield 20, .getfield 226) (List.mem_of_getElem? (i := 34) rfl)), Or.inl tw_t137⟩ : sm_F 76 5 (.getfield 226) 3),
  List.forall_mem_cons.mpr ⟨(⟨by decide, by decide, rfl, 32, (r_76 (14, 3, .getfield 32, .getfield 227) (List.mem_of_getElem? (i := 35) rfl)), Or.inl tw_t138⟩ : sm_F 76 14 (.getfield 227) 3),
  List.forall_mem_cons.mpr ⟨(⟨(r_76 (18, 2, .newarray .int, .newarray .int) (List.mem_of_getElem? (i := 36) rfl)), rfl, tw_t92⟩ : sm_F 76 18 (.newarray .int) 2),
  List.forall_mem_cons.mpr ⟨(⟨by decide, by decide, rfl, 20, (r_76 (22, 3, .getfield 20, .getfield 226) (List.mem_of_getElem? (i := 37) rfl)), Or.inl tw_t137⟩ : sm_F 76 22 (.getfield 226) 3),
  List.forall_mem_cons.mpr ⟨(⟨by decide, by decide, rfl, 32, (r_76 (29, 3, .getfield 32, .getfield 227) (List.mem_of_getElem? (i := 38) rfl)), Or.inl tw_t138⟩ : sm_F 76 29 (.getfield 227) 3),
  List.forall_mem_cons.mpr ⟨(⟨rfl, 104, (r_76 (32, 3, .invokestatic 104, .monitorexit) (List.mem_of_getElem? (i := 39) rfl)), tw_t647, tw_t202, tw_t201, tw_t11⟩ : sm_F 76 32 .monitorexit 3),
  List.forall_mem_cons.mpr ⟨(⟨by decide, by decide, rfl, 20, (r_76 (37, 3, .putfield 20, .putfield 226) (List.mem_of_getElem? (i := 40) rfl)), Or.inl ⟨rfl, Or.inl tw_t137⟩⟩ : sm_F 76 37 (.putfield 226) 3),
  List.forall_mem_cons.mpr ⟨(⟨by decide, by decide, rfl, 20, (r_76 (41, 3, .getfield 20, .getfield 226) (List.mem_of_getElem? (i := 41) rfl)), Or.inl tw_t137⟩ : sm_F 76 41 (.getfield 226) 3),
  List.forall_mem_cons.mpr ⟨(⟨by decide, by decide, rfl, 32, (r_76 (45, 3, .getfield 32, .getfield 227) (List.mem_of_getElem? (i := 42) rfl)), Or.inl tw_t138⟩ : sm_F 76 45 (.getfield 227) 3),
  List.forall_mem_cons.mpr ⟨(⟨by decide, by decide, rfl, 88, (r_76 (49, 3, .getfield 88, .getfield 228) (List.mem_of_getElem? (i := 43) rfl)), Or.inl tw_t139⟩ : sm_F 76 49 (.getfield 228) 3),
  List.forall_mem_cons.mpr ⟨(⟨by decide, by decide, rfl, 32, (r_76 (55, 3, .getfield 32, .getfield 227) (List.mem_of_getElem? (i := 44) rfl)), Or.inl tw_t138⟩ : sm_F 76 55 (.getfield 227) 3),
  List.forall_mem_cons.mpr ⟨(⟨by decide, by decide, rfl, 32, (r_76 (60, 3, .putfield 32, .putfield 227) (List.mem_of_getElem? (i := 45) rfl)), Or.inl ⟨rfl, Or.inl tw_t138⟩⟩ : sm_F 76 60 (.putfield 227) 3),
  List.forall_mem_cons.mpr ⟨(⟨by decide, by decide, rfl, 35, (r_76 (65, 3, .getfield 35, .getfield 229) (List.mem_of_getElem? (i := 46) rfl)), Or.inl tw_t140⟩ : sm_F 76 65 (.getfield 229) 3),
  List.forall_mem_cons.mpr ⟨(⟨by decide, by decide, rfl, 14, (r_76 (69, 3, .getfield 14, .getfield 225) (List.mem_of_getElem? (i := 47) rfl)), Or.inl tw_t136⟩ : sm_F 76 69 (.getfield 225) 3),
  List.forall_mem_cons.mpr ⟨(⟨rfl, mf_10, tw_t193, tw_t194, rfl, by decide, 28, (r_76 (72, 3, .invokevirtual 28, .invokevirtual 10) (List.mem_of_getElem? (i := 48) rfl)), Or.inl tw_t648⟩ : sm_F 76 72 (.invokevirtual 10) 3),
  List.forall_mem_cons.mpr ⟨(⟨by decide, by decide, rfl, 88, (r_76 (76, 3, .getfield 88, .getfield 228) (List.mem_of_getElem? (i := 49) rfl)), Or.inl tw_t139⟩ : sm_F 76 76 (.getfield 228) 3),
  List.forall_mem_cons.mpr ⟨(⟨rfl, 110, (r_76 (80, 3, .invokestatic 110, .dadd) (List.mem_of_getElem? (i := 50) rfl)), tw_t649, tw_t127, tw_t9, tw_t128⟩ : sm_F 76 80 .dadd 3),
  List.forall_mem_cons.mpr ⟨(⟨by decide, by decide, rfl, 35, (r_76 (83, 3, .putfield 35, .putfield 229) (List.mem_of_getElem? (i := 51) rfl)), Or.inl ⟨rfl, Or.inl tw_t140⟩⟩ : sm_F 76 83 (.putfield 229) 3),
  List.forall_mem_cons.mpr ⟨(⟨by decide, by decide, rfl, 14, (r_76 (87, 3, .getfield 14, .getfield 225) (List.mem_of_getElem? (i := 52) rfl)), Or.inl tw_t136⟩ : sm_F 76 87 (.getfield 225) 3),
  List.forall_mem_cons.mpr ⟨(⟨rfl, mf_11, tw_t197, tw_t198, rfl, by decide, 116, (r_76 (92, 3, .invokevirtual 116, .invokevirtual 11) (List.mem_of_getElem? (i := 53) rfl)), Or.inl tw_t650⟩ : sm_F 76 92 (.invokevirtual 11) 3),
  List.forall_mem_cons.mpr ⟨(⟨by decide, by decide, rfl, 14, (r_76 (97, 3, .getfield 14, .getfield 225) (List.mem_of_getElem? (i := 54) rfl)), Or.inl tw_t136⟩ : sm_F 76 97 (.getfield 225) 3),
  List.forall_mem_cons.mpr ⟨(⟨rfl, mf_10, tw_t193, tw_t194, rfl, by decide, 28, (r_76 (100, 3, .invokevirtual 28, .invokevirtual 10) (List.mem_of_getElem? (i := 55) rfl)), Or.inl tw_t648⟩ : sm_F 76 100 (.invokevirtual 10) 3),
  List.forall_mem_cons.mpr ⟨(⟨by decide, by decide, rfl, 88, (r_76 (103, 3, .putfield 88, .putfield 228) (List.mem_of_getElem? (i := 56) rfl)), Or.inl ⟨rfl, Or.inl tw_t139⟩⟩ : sm_F 76 103 (.putfield 228) 3),
  fun _ h => absurd h List.not_mem_nil⟩⟩⟩⟩⟩⟩⟩⟩⟩⟩⟩⟩⟩⟩⟩⟩⟩⟩⟩⟩⟩⟩⟩⟩
theorem f_76 : ∀ q ∈ cd_76, sm_F 76 q.1 q.2.2.2 q.2.1 := List.forall_mem_append.mpr ⟨fs_76, fl_76⟩
theorem r_77 : ∀ q ∈ cd_77, decode (mB 77) q.1 = .ok (q.2.2.1, q.2.1) := sm_all (by decide +kernel)
theorem fs_77 : ∀ q ∈ sp_77, sm_F 77 q.1 q.2.2.2 q.2.1 := sm_rsl (fun q h => r_77 q (List.mem_append_left _ h)) (by decide +kernel)
theorem fl_77 : ∀ q ∈ lk_77, sm_F 77 q.1 q.2.2.2 q.2.1 := List.forall_mem_cons.mpr ⟨(⟨by decide, by decide, rfl, 11, (r_77 (1, 3, .getfield 11, .getfield 192) (List.mem_of_getElem? (i := 4) rfl)), Or.inl tw_t111⟩ : sm_F 77 1 (.getfield 192) 3),
  fun _ h => absurd h List.not_mem_nil⟩
theorem f_77 : ∀ q ∈ cd_77, sm_F 77 q.1 q.2.2.2 q.2.1 := List.forall_mem_append.mpr ⟨fs_77, fl_77⟩
theorem r_78 : ∀ q ∈ cd_78, decode (mB 78) q.1 = .ok (q.2.2.1, q.2.1) := sm_all (by decide +kernel)
theorem fs_78 : ∀ q ∈ sp_78, sm_F 78 q.1 q.2.2.2 q.2.1 := sm_rsl (fun q h => r_78 q (List.mem_append_left _ h)) (by decide +kernel)
theorem fl_78 : ∀ q ∈ lk_78, sm_F 78 q.1 q.2.2.2 q.2.1 := List.forall_mem_cons.mpr ⟨(⟨rfl, mf_10, tw_t193, tw_t194, rfl, by decide, 28, (r_78 (6, 3, .invokevirtual 28, .invokevirtual 10) (List.mem_of_getElem? (i := 22) rfl)), Or.inl tw_t648⟩ : sm_F 78 6 (.invokevirtual 10) 3),
  List.forall_mem_cons.mpr ⟨(⟨rfl, mf_16, tw_t222, tw_t223, rfl, by decide, 41, (r_78 (14, 3, .invokevirtual 41, .invokevirtual 16) (List.mem_of_getElem? (i := 23) rfl)), Or.inl tw_t664⟩ : sm_F 78 14 (.invokevirtual 16) 3),
  List.forall_mem_cons.mpr ⟨(⟨rfl, mf_79, tw_t667, tw_p15, rfl, by decide, 91, (r_78 (26, 3, .invokevirtual 91, .invokevirtual 79) (List.mem_of_getElem? (i := 24) rfl)), Or.inl tw_t665⟩ : sm_F 78 26 (.invokevirtual 79) 3),
  fun _ h => absurd h List.not_mem_nil⟩⟩⟩
theorem f_78 : ∀ q ∈ cd_78, sm_F 78 q.1 q.2.2.2 q.2.1 := List.forall_mem_append.mpr ⟨fs_78, fl_78⟩
theorem r_79 : ∀ q ∈ cd_79, decode (mB 79) q.1 = .ok (q.2.2.1, q.2.1) := sm_all (by decide +kernel)
theorem fs_79 : ∀ q ∈ sp_79, sm_F 79 q.1 q.2.2.2 q.2.1 := sm_rsl (fun q h => r_79 q (List.mem_append_left _ h)) (by decide +kernel)
theorem fl_79 : ∀ q ∈ lk_79, sm_F 79 q.1 q.2.2.2 q.2.1 := List.forall_mem_cons.mpr ⟨(⟨rfl, mf_16, tw_t222, tw_t223, rfl, by decide, 41, (r_79 (12, 3, .invokevirtual 41, .invokevirtual 16) (List.mem_of_getElem? (i := 70) rfl)), Or.inl tw_t664⟩ : sm_F 79 12 (.invokevirtual 16) 3),
  List.forall_mem_cons.mpr ⟨(⟨by decide, by decide, rfl, 24, (r_79 (53, 3, .getfield 24, .getfield 224) (List.mem_of_getElem? (i := 71) rfl)), Or.inl tw_t135⟩ : sm_F 79 53 (.getfield 224) 3),
  List.forall_mem_cons.mpr ⟨(⟨by decide, by decide, rfl, 24, (r_79 (64, 3, .getfield 24, .getfield 224) (List.mem_of_getElem? (i := 72) rfl)), Or.inl tw_t135⟩ : sm_F 79 64 (.getfield 224) 3),
  List.forall_mem_cons.mpr ⟨(⟨rfl, mf_80, tw_t670, 95, (r_79 (70, 3, .invokestatic 95, .invokestatic 80) (List.mem_of_getElem? (i := 73) rfl)), Or.inl tw_t669⟩ : sm_F 79 70 (.invokestatic 80) 3),
  List.forall_mem_cons.mpr ⟨(⟨by decide, by decide, rfl, 14, (r_79 (86, 3, .getfield 14, .getfield 225) (List.mem_of_getElem? (i := 74) rfl)), Or.inl tw_t136⟩ : sm_F 79 86 (.getfield 225) 3),
  List.forall_mem_cons.mpr ⟨(⟨rfl, mf_81, tw_t673, tw_t674, rfl, by decide, 99, (r_79 (91, 3, .invokevirtual 99, .invokevirtual 81) (List.mem_of_getElem? (i := 75) rfl)), Or.inl tw_t672⟩ : sm_F 79 91 (.invokevirtual 81) 3),
  List.forall_mem_cons.mpr ⟨(⟨by decide, by decide, rfl, 14, (r_79 (95, 3, .getfield 14, .getfield 225) (List.mem_of_getElem? (i := 76) rfl)), Or.inl tw_t136⟩ : sm_F 79 95 (.getfield 225) 3),
  List.forall_mem_cons.mpr ⟨(⟨rfl, mf_60, tw_t552, tw_t553, rfl, by decide, 102, (r_79 (105, 3, .invokevirtual 102, .invokevirtual 60) (List.mem_of_getElem? (i := 77) rfl)), Or.inl tw_t676⟩ : sm_F 79 105 (.invokevirtual 60) 3),
  List.forall_mem_cons.mpr ⟨(⟨rfl, mf_76, tw_t645, tw_p13, rfl, by decide, 59, (r_79 (109, 3, .invokevirtual 59, .invokevirtual 76) (List.mem_of_getElem? (i := 78) rfl)), Or.inl tw_t643⟩ : sm_F 79 109 (.invokevirtual 76) 3),
  List.forall_mem_cons.mpr ⟨(⟨by decide, by decide, rfl, 38, (r_79 (114, 3, .getfield 38, .getfield 230) (List.mem_of_getElem? (i := 79) rfl)), Or.inl tw_t141⟩ : sm_F 79 114 (.getfield 230) 3),
  List.forall_mem_cons.mpr ⟨(⟨by decide, by decide, rfl, 38, (r_79 (119, 3, .putfield 38, .putfield 230) (List.mem_of_getElem? (i := 80) rfl)), Or.inl ⟨rfl, Or.inl tw_t141⟩⟩ : sm_F 79 119 (.putfield 230) 3),
  List.forall_mem_cons.mpr ⟨(⟨by decide, by decide, rfl, 14, (r_79 (139, 3, .getfield 14, .getfield 225) (List.mem_of_getElem? (i := 81) rfl)), Or.inl tw_t136⟩ : sm_F 79 139 (.getfield 225) 3),
  List.forall_mem_cons.mpr ⟨(⟨rfl, mf_81, tw_t673, tw_t674, rfl, by decide, 99, (r_79 (144, 3, .invokevirtual 99, .invokevirtual 81) (List.mem_of_getElem? (i := 82) rfl)), Or.inl tw_t672⟩ : sm_F 79 144 (.invokevirtual 81) 3),
  List.forall_mem_cons.mpr ⟨(⟨by decide, by decide, rfl, 14, (r_79 (148, 3, .getfield 14, .getfield 225) (List.mem_of_getElem? (i := 83) rfl)), Or.inl tw_t136⟩ : sm_F 79 148 (.getfield 225) 3),
  List.forall_mem_cons.mpr ⟨(⟨rfl, mf_60, tw_t552, tw_t553, rfl, by decide, 102, (r_79 (155, 3, .invokevirtual 102, .invokevirtual 60) (List.mem_of_getElem? (i := 84) rfl)), Or.inl tw_t676⟩ : sm_F 79 155 (.invokevirtual 60) 3),
  List.forall_mem_cons.mpr ⟨(⟨rfl, mf_76, tw_t645, tw_p13, rfl, by decide, 59, (r_79 (159, 3, .invokevirtual 59, .invokevirtual 76) (List.mem_of_getElem? (i := 85) rfl)), Or.inl tw_t643⟩ : sm_F 79 159 (.invokevirtual 76) 3),
  fun _ h => absurd h List.not_mem_nil⟩⟩⟩⟩⟩⟩⟩⟩⟩⟩⟩⟩⟩⟩⟩⟩
theorem f_79 : ∀ q ∈ cd_79, sm_F 79 q.1 q.2.2.2 q.2.1 := List.forall_mem_append.mpr ⟨fs_79, fl_79⟩
theorem r_80 : ∀ q ∈ cd_80, decode (mB 80) q.1 = .ok (q.2.2.1, q.2.1) := sm_all (by decide +kernel)
theorem fs_80 : ∀ q ∈ sp_80, sm_F 80 q.1 q.2.2.2 q.2.1 := sm_rsl (fun q h => r_80 q (List.mem_append_left _ h)) (by decide +kernel)
theorem fl_80 : ∀ q ∈ lk_80, sm_F 80 q.1 q.2.2.2 q.2.1 := List.forall_mem_cons.mpr ⟨(⟨rfl, mf_16, tw_t222, tw_t223, rfl, by decide, 41, (r_80 (28, 3, .invokevirtual 41, .invokevirtual 16) (List.mem_of_getElem? (i := 56) rfl)), Or.inl tw_t664⟩ : sm_F 80 28 (.invokevirtual 16) 3),
  List.forall_mem_cons.mpr ⟨(⟨rfl, mf_16, tw_t222, tw_t223, rfl, by decide, 41, (r_80 (97, 3, .invokevirtual 41, .invokevirtual 16) (List.mem_of_getElem? (i := 57) rfl)), Or.inl tw_t664⟩ : sm_F 80 97 (.invokevirtual 16) 3),
  fun _ h => absurd h List.not_mem_nil⟩⟩
theorem f_80 : ∀ q ∈ cd_80, sm_F 80 q.1 q.2.2.2 q.2.1 := List.forall_mem_append.mpr ⟨fs_80, fl_80⟩
theorem r_81 : ∀ q ∈ cd_81, decode (mB 81) q.1 = .ok (q.2.2.1, q.2.1) := sm_all (by decide +kernel)
theorem fs_81 : ∀ q ∈ sp_81, sm_F 81 q.1 q.2.2.2 q.2.1 := sm_rsl (fun q h => r_81 q (List.mem_append_left _ h)) (by decide +kernel)
theorem fl_81 : ∀ q ∈ lk_81, sm_F 81 q.1 q.2.2.2 q.2.1 := List.forall_mem_cons.mpr ⟨(⟨rfl, mf_11, tw_t197, tw_t198, rfl, by decide, 34, (r_81 (10, 3, .invokevirtual 34, .invokevirtual 11) (List.mem_of_getElem? (i := 10) rfl)), Or.inl tw_t412⟩ : sm_F 81 10 (.invokevirtual 11) 3),
  fun _ h => absurd h List.not_mem_nil⟩
theorem f_81 : ∀ q ∈ cd_81, sm_F 81 q.1 q.2.2.2 q.2.1 := List.forall_mem_append.mpr ⟨fs_81, fl_81⟩
theorem r_82 : ∀ q ∈ cd_82, decode (mB 82) q.1 = .ok (q.2.2.1, q.2.1) := sm_all (by decide +kernel)
theorem fs_82 : ∀ q ∈ sp_82, sm_F 82 q.1 q.2.2.2 q.2.1 := sm_rsl (fun q h => r_82 q (List.mem_append_left _ h)) (by decide +kernel)
theorem fl_82 : ∀ q ∈ lk_82, sm_F 82 q.1 q.2.2.2 q.2.1 := List.forall_mem_cons.mpr ⟨(⟨by decide, by decide, rfl, 14, (r_82 (1, 3, .getfield 14, .getfield 225) (List.mem_of_getElem? (i := 2) rfl)), Or.inl tw_t136⟩ : sm_F 82 1 (.getfield 225) 3),
  List.forall_mem_cons.mpr ⟨(⟨rfl, mf_10, tw_t193, tw_t194, rfl, by decide, 28, (r_82 (4, 3, .invokevirtual 28, .invokevirtual 10) (List.mem_of_getElem? (i := 3) rfl)), Or.inl tw_t648⟩ : sm_F 82 4 (.invokevirtual 10) 3),
  fun _ h => absurd h List.not_mem_nil⟩⟩
theorem f_82 : ∀ q ∈ cd_82, sm_F 82 q.1 q.2.2.2 q.2.1 := List.forall_mem_append.mpr ⟨fs_82, fl_82⟩
theorem r_83 : ∀ q ∈ cd_83, decode (mB 83) q.1 = .ok (q.2.2.1, q.2.1) := sm_all (by decide +kernel)
theorem fs_83 : ∀ q ∈ sp_83, sm_F 83 q.1 q.2.2.2 q.2.1 := sm_rsl (fun q h => r_83 q (List.mem_append_left _ h)) (by decide +kernel)
theorem fl_83 : ∀ q ∈ lk_83, sm_F 83 q.1 q.2.2.2 q.2.1 := List.forall_mem_cons.mpr ⟨(⟨by decide, by decide, rfl, 73, (r_83 (1, 3, .getfield 73, .getfield 8) (List.mem_of_getElem? (i := 3) rfl)), Or.inl tw_t165⟩ : sm_F 83 1 (.getfield 8) 3),
  List.forall_mem_cons.mpr ⟨(⟨rfl, mf_84, tw_t688, tw_t689, rfl, by decide, 149, (r_83 (5, 3, .invokevirtual 149, .invokevirtual 84) (List.mem_of_getElem? (i := 4) rfl)), Or.inl tw_t687⟩ : sm_F 83 5 (.invokevirtual 84) 3),
  fun _ h => absurd h List.not_mem_nil⟩⟩
theorem f_83 : ∀ q ∈ cd_83, sm_F 83 q.1 q.2.2.2 q.2.1 := List.forall_mem_append.mpr ⟨fs_83, fl_83⟩
theorem r_84 : ∀ q ∈ cd_84, decode (mB 84) q.1 = .ok (q.2.2.1, q.2.1) := sm_all (by decide +kernel)
theorem fs_84 : ∀ q ∈ sp_84, sm_F 84 q.1 q.2.2.2 q.2.1 := sm_rsl (fun q h => r_84 q (List.mem_append_left _ h)) (by decide +kernel)
theorem fl_84 : ∀ q ∈ lk_84, sm_F 84 q.1 q.2.2.2 q.2.1 := List.forall_mem_cons.mpr ⟨(⟨by decide, by decide, rfl, 14, (r_84 (1, 3, .getfield 14, .getfield 225) (List.mem_of_getElem? (i := 3) rfl)), Or.inl tw_t136⟩ : sm_F 84 1 (.getfield 225) 3),
  List.forall_mem_cons.mpr ⟨(⟨rfl, mf_16, tw_t222, tw_t223, rfl, by decide, 41, (r_84 (5, 3, .invokevirtual 41, .invokevirtual 16) (List.mem_of_getElem? (i := 4) rfl)), Or.inl tw_t664⟩ : sm_F 84 5 (.invokevirtual 16) 3),
  fun _ h => absurd h List.not_mem_nil⟩⟩
theorem f_84 : ∀ q ∈ cd_84, sm_F 84 q.1 q.2.2.2 q.2.1 := List.forall_mem_append.mpr ⟨fs_84, fl_84⟩
theorem r_85 : ∀ q ∈ cd_85, decode (mB 85) q.1 = .ok (q.2.2.1, q.2.1) := sm_all (by decide +kernel)
theorem fs_85 : ∀ q ∈ sp_85, sm_F 85 q.1 q.2.2.2 q.2.1 := sm_rsl (fun q h => r_85 q (List.mem_append_left _ h)) (by decide +kernel)
theorem fl_85 : ∀ q ∈ lk_85, sm_F 85 q.1 q.2.2.2 q.2.1 := List.forall_mem_cons.mpr ⟨(⟨by decide, by decide, rfl, 73, (r_85 (1, 3, .getfield 73, .getfield 8) (List.mem_of_getElem? (i := 3) rfl)), Or.inl tw_t165⟩ : sm_F 85 1 (.getfield 8) 3),
  List.forall_mem_cons.mpr ⟨(⟨rfl, mf_86, tw_t696, tw_t697, rfl, by decide, 153, (r_85 (5, 3, .invokevirtual 153, .invokevirtual 86) (List.mem_of_getElem? (i := 4) rfl)), Or.inl tw_t695⟩ : sm_F 85 5 (.invokevirtual 86) 3),
  fun _ h => absurd h List.not_mem_nil⟩⟩
theorem f_85 : ∀ q ∈ cd_85, sm_F 85 q.1 q.2.2.2 q.2.1 := List.forall_mem_append.mpr ⟨fs_85, fl_85⟩
theorem r_86 : ∀ q ∈ cd_86, decode (mB 86) q.1 = .ok (q.2.2.1, q.2.1) := sm_all (by decide +kernel)
theorem fs_86 : ∀ q ∈ sp_86, sm_F 86 q.1 q.2.2.2 q.2.1 := sm_rsl (fun q h => r_86 q (List.mem_append_left _ h)) (by decide +kernel)
theorem fl_86 : ∀ q ∈ lk_86, sm_F 86 q.1 q.2.2.2 q.2.1 := List.forall_mem_cons.mpr ⟨(⟨by decide, by decide, rfl, 32, (r_86 (6, 3, .getfield 32, .getfield 227) (List.mem_of_getElem? (i := 11) rfl)), Or.inl tw_t138⟩ : sm_F 86 6 (.getfield 227) 3),
  List.forall_mem_cons.mpr ⟨(⟨by decide, by decide, rfl, 20, (r_86 (13, 3, .getfield 20, .getfield 226) (List.mem_of_getElem? (i := 12) rfl)), Or.inl tw_t137⟩ : sm_F 86 13 (.getfield 226) 3),
  fun _ h => absurd h List.not_mem_nil⟩⟩
theorem f_86 : ∀ q ∈ cd_86, sm_F 86 q.1 q.2.2.2 q.2.1 := List.forall_mem_append.mpr ⟨fs_86, fl_86⟩
theorem r_87 : ∀ q ∈ cd_87, decode (mB 87) q.1 = .ok (q.2.2.1, q.2.1) := sm_all (by decide +kernel)
theorem fs_87 : ∀ q ∈ sp_87, sm_F 87 q.1 q.2.2.2 q.2.1 := sm_rsl (fun q h => r_87 q (List.mem_append_left _ h)) (by decide +kernel)
theorem fl_87 : ∀ q ∈ lk_87, sm_F 87 q.1 q.2.2.2 q.2.1 := List.forall_mem_cons.mpr ⟨(⟨by decide, by decide, rfl, 53, (r_87 (49, 3, .getfield 53, .getfield 7) (List.mem_of_getElem? (i := 20) rfl)), Or.inl tw_t164⟩ : sm_F 87 49 (.getfield 7) 3),
  List.forall_mem_cons.mpr ⟨(⟨rfl, mf_70, tw_t617, tw_t618, rfl, by decide, 142, (r_87 (52, 3, .invokevirtual 142, .invokevirtual 70) (List.mem_of_getElem? (i := 21) rfl)), Or.inl tw_t616⟩ : sm_F 87 52 (.invokevirtual 70) 3),
  List.forall_mem_cons.mpr ⟨(⟨by decide, by decide, rfl, 14, (r_87 (57, 3, .getfield 14, .getfield 0) (List.mem_of_getElem? (i := 22) rfl)), Or.inl tw_t157⟩ : sm_F 87 57 (.getfield 0) 3),
  List.forall_mem_cons.mpr ⟨(⟨rfl, mf_10, tw_t193, tw_t194, rfl, by decide, 77, (r_87 (60, 3, .invokevirtual 77, .invokevirtual 10) (List.mem_of_getElem? (i := 23) rfl)), Or.inl tw_t192⟩ : sm_F 87 60 (.invokevirtual 10) 3),
  List.forall_mem_cons.mpr ⟨(⟨by decide, by decide, rfl, 37, (r_87 (65, 3, .getfield 37, .getfield 3) (List.mem_of_getElem? (i := 24) rfl)), Or.inl tw_t160⟩ : sm_F 87 65 (.getfield 3) 3),
  List.forall_mem_cons.mpr ⟨(⟨rfl, mf_26, tw_t371, tw_t372, rfl, by decide, 102, (r_87 (68, 3, .invokevirtual 102, .invokevirtual 26) (List.mem_of_getElem? (i := 25) rfl)), Or.inl tw_t370⟩ : sm_F 87 68 (.invokevirtual 26) 3),
  List.forall_mem_cons.mpr ⟨(⟨rfl, mf_28, tw_t379, tw_t380, rfl, by decide, 112, (r_87 (71, 3, .invokevirtual 112, .invokevirtual 28) (List.mem_of_getElem? (i := 26) rfl)), Or.inl tw_t378⟩ : sm_F 87 71 (.invokevirtual 28) 3),
  List.forall_mem_cons.mpr ⟨(⟨by decide, by decide, rfl, 73, (r_87 (76, 3, .getfield 73, .getfield 8) (List.mem_of_getElem? (i := 27) rfl)), Or.inl tw_t165⟩ : sm_F 87 76 (.getfield 8) 3),
  List.forall_mem_cons.mpr ⟨(⟨rfl, mf_82, tw_t680, tw_t681, rfl, by decide, 148, (r_87 (79, 3, .invokevirtual 148, .invokevirtual 82) (List.mem_of_getElem? (i := 28) rfl)), Or.inl tw_t679⟩ : sm_F 87 79 (.invokevirtual 82) 3),
  List.forall_mem_cons.mpr ⟨(⟨by decide, by decide, rfl, 73, (r_87 (84, 3, .getfield 73, .getfield 8) (List.mem_of_getElem? (i := 29) rfl)), Or.inl tw_t165⟩ : sm_F 87 84 (.getfield 8) 3),
  List.forall_mem_cons.mpr ⟨(⟨rfl, mf_88, tw_t704, tw_t705, rfl, by decide, 156, (r_87 (87, 3, .invokevirtual 156, .invokevirtual 88) (List.mem_of_getElem? (i := 30) rfl)), Or.inl tw_t703⟩ : sm_F 87 87 (.invokevirtual 88) 3),
  List.forall_mem_cons.mpr ⟨(⟨by decide, by decide, rfl, 73, (r_87 (92, 3, .getfield 73, .getfield 8) (List.mem_of_getElem? (i := 31) rfl)), Or.inl tw_t165⟩ : sm_F 87 92 (.getfield 8) 3),
  List.forall_mem_cons.mpr ⟨(⟨rfl, mf_89, tw_t708, tw_t709, rfl, by decide, 159, (r_87 (95, 3, .invokevirtual 159, .invokevirtual 89) (List.mem_of_getElem? (i := 32) rfl)), Or.inl tw_t707⟩ : sm_F 87 95 (.invokevirtual 89) 3),
  List.forall_mem_cons.mpr ⟨(⟨by decide, by decide, rfl, 73, (r_87 (100, 3, .getfield 73, .getfield 8) (List.mem_of_getElem? (i := 33) rfl)), Or.inl tw_t165⟩ : sm_F 87 100 (.getfield 8) 3),
  List.forall_mem_cons.mpr ⟨(⟨rfl, mf_90, tw_t712, tw_t713, rfl, by decide, 162, (r_87 (103, 3, .invokevirtual 162, .invokevirtual 90) (List.mem_of_getElem? (i := 34) rfl)), Or.inl tw_t711⟩ : sm_F 87 103 (.invokevirtual 90) 3),
  List.forall_mem_cons.mpr ⟨(⟨by decide, by decide, rfl, 53, (r_87 (108, 3, .getfield 53, .getfield 7) (List.mem_of_getElem? (i := 35) rfl)), Or.inl tw_t164⟩ : sm_F 87 108 (.getfield 7) 3),
  List.forall_mem_cons.mpr ⟨(⟨rfl, mf_91, tw_t716, tw_t717, rfl, by decide, 165, (r_87 (111, 3, .invokevirtual 165, .invokevirtual 91) (List.mem_of_getElem? (i := 36) rfl)), Or.inl tw_t715⟩ : sm_F 87 111 (.invokevirtual 91) 3),
  fun _ h => absurd h List.not_mem_nil⟩⟩⟩⟩⟩⟩⟩⟩⟩⟩⟩⟩⟩⟩⟩⟩⟩
theorem f_87 : ∀ q ∈ cd_87, sm_F 87 q.1 q.2.2.2 q.2.1 := List.forall_mem_append.mpr ⟨fs_87, fl_87⟩
theorem r_88 : ∀ q ∈ cd_88, decode (mB 88) q.1 = .ok (q.2.2.1, q.2.1) := sm_all (by decide +kernel)
theorem fs_88 : ∀ q ∈ sp_88, sm_F 88 q.1 q.2.2.2 q.2.1 := sm_rsl (fun q h => r_88 q (List.mem_append_left _ h)) (by decide +kernel)
theorem fl_88 : ∀ q ∈ lk_88, sm_F 88 q.1 q.2.2.2 q.2.1 := List.forall_mem_cons.mpr ⟨(⟨by decide, by decide, rfl, 32, (r_88 (1, 3, .getfield 32, .getfield 227) (List.mem_of_getElem? (i := 2) rfl)), Or.inl tw_t138⟩ : sm_F 88 1 (.getfield 227) 3),
  fun _ h => absurd h List.not_mem_nil⟩
theorem f_88 : ∀ q ∈ cd_88, sm_F 88 q.1 q.2.2.2 q.2.1 := List.forall_mem_append.mpr ⟨fs_88, fl_88⟩
theorem r_89 : ∀ q ∈ cd_89, decode (mB 89) q.1 = .ok (q.2.2.1, q.2.1) := sm_all (by decide +kernel)
theorem fs_89 : ∀ q ∈ sp_89, sm_F 89 q.1 q.2.2.2 q.2.1 := sm_rsl (fun q h => r_89 q (List.mem_append_left _ h)) (by decide +kernel)
theorem fl_89 : ∀ q ∈ lk_89, sm_F 89 q.1 q.2.2.2 q.2.1 := List.forall_mem_cons.mpr ⟨(⟨by decide, by decide, rfl, 35, (r_89 (1, 3, .getfield 35, .getfield 229) (List.mem_of_getElem? (i := 2) rfl)), Or.inl tw_t140⟩ : sm_F 89 1 (.getfield 229) 3),
  fun _ h => absurd h List.not_mem_nil⟩
theorem f_89 : ∀ q ∈ cd_89, sm_F 89 q.1 q.2.2.2 q.2.1 := List.forall_mem_append.mpr ⟨fs_89, fl_89⟩
theorem r_90 : ∀ q ∈ cd_90, decode (mB 90) q.1 = .ok (q.2.2.1, q.2.1) := sm_all (by decide +kernel)
theorem fs_90 : ∀ q ∈ sp_90, sm_F 90 q.1 q.2.2.2 q.2.1 := sm_rsl (fun q h => r_90 q (List.mem_append_left _ h)) (by decide +kernel)
theorem fl_90 : ∀ q ∈ lk_90, sm_F 90 q.1 q.2.2.2 q.2.1 := List.forall_mem_cons.mpr ⟨(⟨by decide, by decide, rfl, 38, (r_90 (1, 3, .getfield 38, .getfield 230) (List.mem_of_getElem? (i := 2) rfl)), Or.inl tw_t141⟩ : sm_F 90 1 (.getfield 230) 3),
  fun _ h => absurd h List.not_mem_nil⟩
theorem f_90 : ∀ q ∈ cd_90, sm_F 90 q.1 q.2.2.2 q.2.1 := List.forall_mem_append.mpr ⟨fs_90, fl_90⟩
theorem r_91 : ∀ q ∈ cd_91, decode (mB 91) q.1 = .ok (q.2.2.1, q.2.1) := sm_all (by decide +kernel)
theorem fs_91 : ∀ q ∈ sp_91, sm_F 91 q.1 q.2.2.2 q.2.1 := sm_rsl (fun q h => r_91 q (List.mem_append_left _ h)) (by decide +kernel)
theorem fl_91 : ∀ q ∈ lk_91, sm_F 91 q.1 q.2.2.2 q.2.1 := List.forall_mem_cons.mpr ⟨(⟨by decide, by decide, rfl, 21, (r_91 (1, 3, .getfield 21, .getfield 194) (List.mem_of_getElem? (i := 2) rfl)), Or.inl tw_t113⟩ : sm_F 91 1 (.getfield 194) 3),
  fun _ h => absurd h List.not_mem_nil⟩
theorem f_91 : ∀ q ∈ cd_91, sm_F 91 q.1 q.2.2.2 q.2.1 := List.forall_mem_append.mpr ⟨fs_91, fl_91⟩
theorem r_92 : ∀ q ∈ cd_92, decode (mB 92) q.1 = .ok (q.2.2.1, q.2.1) := sm_all (by decide +kernel)
theorem fs_92 : ∀ q ∈ sp_92, sm_F 92 q.1 q.2.2.2 q.2.1 := sm_rsl (fun q h => r_92 q (List.mem_append_left _ h)) (by decide +kernel)
theorem fl_92 : ∀ q ∈ lk_92, sm_F 92 q.1 q.2.2.2 q.2.1 := fun _ h => absurd h List.not_mem_nil
theorem f_92 : ∀ q ∈ cd_92, sm_F 92 q.1 q.2.2.2 q.2.1 := List.forall_mem_append.mpr ⟨fs_92, fl_92⟩
theorem r_93 : ∀ q ∈ cd_93, decode (mB 93) q.1 = .ok (q.2.2.1, q.2.1) := sm_all (by decide +kernel)
theorem fs_93 : ∀ q ∈ sp_93, sm_F 93 q.1 q.2.2.2 q.2.1 := sm_rsl (fun q h => r_93 q (List.mem_append_left _ h)) (by decide +kernel)
theorem fl_93 : ∀ q ∈ lk_93, sm_F 93 q.1 q.2.2.2 q.2.1 := List.forall_mem_cons.mpr ⟨(⟨rfl, 1, (r_93 (1, 3, .invokespecial 1, .monitorenter) (List.mem_of_getElem? (i := 70) rfl)), tw_t727, tw_t23, tw_t24⟩ : sm_F 93 1 .monitorenter 3),
  List.forall_mem_cons.mpr ⟨(⟨by decide, by decide, rfl, 7, (r_93 (6, 3, .putfield 7, .putfield 257) (List.mem_of_getElem? (i := 71) rfl)), Or.inl ⟨rfl, Or.inl tw_t729⟩⟩ : sm_F 93 6 (.putfield 257) 3),
  List.forall_mem_cons.mpr ⟨(⟨by decide, by decide, rfl, 13, (r_93 (11, 3, .putfield 13, .putfield 258) (List.mem_of_getElem? (i := 72) rfl)), Or.inl ⟨rfl, Or.inl tw_t730⟩⟩ : sm_F 93 11 (.putfield 258) 3),
  List.forall_mem_cons.mpr ⟨(⟨by decide, by decide, rfl, 16, (r_93 (16, 3, .putfield 16, .putfield 259) (List.mem_of_getElem? (i := 73) rfl)), Or.inl ⟨rfl, Or.inl tw_t731⟩⟩ : sm_F 93 16 (.putfield 259) 3),
  List.forall_mem_cons.mpr ⟨(⟨by decide, by decide, rfl, 19, (r_93 (21, 3, .putfield 19, .putfield 260) (List.mem_of_getElem? (i := 74) rfl)), Or.inl ⟨rfl, Or.inl tw_t732⟩⟩ : sm_F 93 21 (.putfield 260) 3),
  List.forall_mem_cons.mpr ⟨(⟨by decide, by decide, rfl, 22, (r_93 (26, 3, .putfield 22, .putfield 261) (List.mem_of_getElem? (i := 75) rfl)), Or.inl ⟨rfl, Or.inl tw_t733⟩⟩ : sm_F 93 26 (.putfield 261) 3),
  List.forall_mem_cons.mpr ⟨(⟨by decide, by decide, rfl, 25, (r_93 (31, 3, .putfield 25, .putfield 262) (List.mem_of_getElem? (i := 76) rfl)), Or.inl ⟨rfl, Or.inl tw_t734⟩⟩ : sm_F 93 31 (.putfield 262) 3),
  List.forall_mem_cons.mpr ⟨(⟨by decide, by decide, rfl, 28, (r_93 (36, 3, .putfield 28, .putfield 263) (List.mem_of_getElem? (i := 77) rfl)), Or.inl ⟨rfl, Or.inl tw_t735⟩⟩ : sm_F 93 36 (.putfield 263) 3),
  List.forall_mem_cons.mpr ⟨(⟨by decide, by decide, rfl, 31, (r_93 (41, 3, .putfield 31, .putfield 264) (List.mem_of_getElem? (i := 78) rfl)), Or.inl ⟨rfl, Or.inl tw_t736⟩⟩ : sm_F 93 41 (.putfield 264) 3),
  List.forall_mem_cons.mpr ⟨(⟨by decide, by decide, rfl, 34, (r_93 (46, 3, .putfield 34, .putfield 265) (List.mem_of_getElem? (i := 79) rfl)), Or.inl ⟨rfl, Or.inl tw_t737⟩⟩ : sm_F 93 46 (.putfield 265) 3),
  List.forall_mem_cons.mpr ⟨(⟨(r_93 (52, 2, .newarray .char, .newarray .char) (List.mem_of_getElem? (i := 80) rfl)), rfl, tw_t38⟩ : sm_F 93 52 (.newarray .char) 2),
  List.forall_mem_cons.mpr ⟨(⟨by decide, by decide, rfl, 37, (r_93 (54, 3, .putfield 37, .putfield 266) (List.mem_of_getElem? (i := 81) rfl)), Or.inr ⟨rfl, rfl, rfl, tw_t738⟩⟩ : sm_F 93 54 (.putfield 266) 3),
  List.forall_mem_cons.mpr ⟨(⟨(r_93 (61, 2, .newarray .char, .newarray .char) (List.mem_of_getElem? (i := 82) rfl)), rfl, tw_t38⟩ : sm_F 93 61 (.newarray .char) 2),
  List.forall_mem_cons.mpr ⟨(⟨by decide, by decide, rfl, 41, (r_93 (63, 3, .putfield 41, .putfield 267) (List.mem_of_getElem? (i := 83) rfl)), Or.inr ⟨rfl, rfl, rfl, tw_t739⟩⟩ : sm_F 93 63 (.putfield 267) 3),
  List.forall_mem_cons.mpr ⟨(⟨(r_93 (69, 2, .newarray .int, .newarray .int) (List.mem_of_getElem? (i := 84) rfl)), rfl, tw_t92⟩ : sm_F 93 69 (.newarray .int) 2),
  List.forall_mem_cons.mpr ⟨(⟨by decide, by decide, rfl, 44, (r_93 (71, 3, .putfield 44, .putfield 268) (List.mem_of_getElem? (i := 85) rfl)), Or.inr ⟨rfl, rfl, rfl, tw_t740⟩⟩ : sm_F 93 71 (.putfield 268) 3),
  List.forall_mem_cons.mpr ⟨(⟨(r_93 (77, 2, .newarray .int, .newarray .int) (List.mem_of_getElem? (i := 86) rfl)), rfl, tw_t92⟩ : sm_F 93 77 (.newarray .int) 2),
  List.forall_mem_cons.mpr ⟨(⟨by decide, by decide, rfl, 48, (r_93 (79, 3, .putfield 48, .putfield 269) (List.mem_of_getElem? (i := 87) rfl)), Or.inr ⟨rfl, rfl, rfl, tw_t741⟩⟩ : sm_F 93 79 (.putfield 269) 3),
  List.forall_mem_cons.mpr ⟨(⟨(r_93 (86, 2, .newarray .int, .newarray .int) (List.mem_of_getElem? (i := 88) rfl)), rfl, tw_t92⟩ : sm_F 93 86 (.newarray .int) 2),
  List.forall_mem_cons.mpr ⟨(⟨by decide, by decide, rfl, 51, (r_93 (88, 3, .putfield 51, .putfield 270) (List.mem_of_getElem? (i := 89) rfl)), Or.inr ⟨rfl, rfl, rfl, tw_t742⟩⟩ : sm_F 93 88 (.putfield 270) 3),
  List.forall_mem_cons.mpr ⟨(⟨(r_93 (95, 2, .newarray .int, .newarray .int) (List.mem_of_getElem? (i := 90) rfl)), rfl, tw_t92⟩ : sm_F 93 95 (.newarray .int) 2),
  List.forall_mem_cons.mpr ⟨(⟨by decide, by decide, rfl, 54, (r_93 (97, 3, .putfield 54, .putfield 271) (List.mem_of_getElem? (i := 91) rfl)), Or.inr ⟨rfl, rfl, rfl, tw_t743⟩⟩ : sm_F 93 97 (.putfield 271) 3),
  List.forall_mem_cons.mpr ⟨(⟨(r_93 (103, 2, .newarray .int, .newarray .int) (List.mem_of_getElem? (i := 92) rfl)), rfl, tw_t92⟩ : sm_F 93 103 (.newarray .int) 2),
  List.forall_mem_cons.mpr ⟨(⟨by decide, by decide, rfl, 57, (r_93 (105, 3, .putfield 57, .putfield 272) (List.mem_of_getElem? (i := 93) rfl)), Or.inr ⟨rfl, rfl, rfl, tw_t744⟩⟩ : sm_F 93 105 (.putfield 272) 3),
  List.forall_mem_cons.mpr ⟨(⟨(r_93 (111, 2, .newarray .boolean, .newarray .boolean) (List.mem_of_getElem? (i := 94) rfl)), rfl, tw_t804⟩ : sm_F 93 111 (.newarray .boolean) 2),
  List.forall_mem_cons.mpr ⟨(⟨by decide, by decide, rfl, 60, (r_93 (113, 3, .putfield 60, .putfield 273) (List.mem_of_getElem? (i := 95) rfl)), Or.inr ⟨rfl, rfl, rfl, tw_t745⟩⟩ : sm_F 93 113 (.putfield 273) 3),
  List.forall_mem_cons.mpr ⟨(⟨(r_93 (120, 2, .newarray .char, .newarray .char) (List.mem_of_getElem? (i := 96) rfl)), rfl, tw_t38⟩ : sm_F 93 120 (.newarray .char) 2),
  List.forall_mem_cons.mpr ⟨(⟨by decide, by decide, rfl, 64, (r_93 (122, 3, .putfield 64, .putfield 274) (List.mem_of_getElem? (i := 97) rfl)), Or.inr ⟨rfl, rfl, rfl, tw_t746⟩⟩ : sm_F 93 122 (.putfield 274) 3),
  List.forall_mem_cons.mpr ⟨(⟨(r_93 (127, 2, .newarray .int, .newarray .int) (List.mem_of_getElem? (i := 98) rfl)), rfl, tw_t92⟩ : sm_F 93 127 (.newarray .int) 2),
  List.forall_mem_cons.mpr ⟨(⟨by decide, by decide, rfl, 67, (r_93 (129, 3, .putfield 67, .putfield 275) (List.mem_of_getElem? (i := 99) rfl)), Or.inr ⟨rfl, rfl, rfl, tw_t747⟩⟩ : sm_F 93 129 (.putfield 275) 3),
  List.forall_mem_cons.mpr ⟨(⟨by decide, by decide, rfl, 70, (r_93 (134, 3, .putfield 70, .putfield 276) (List.mem_of_getElem? (i := 100) rfl)), Or.inl ⟨rfl, Or.inl tw_t748⟩⟩ : sm_F 93 134 (.putfield 276) 3),
  List.forall_mem_cons.mpr ⟨(⟨by decide, by decide, rfl, 73, (r_93 (139, 3, .putfield 73, .putfield 277) (List.mem_of_getElem? (i := 101) rfl)), Or.inl ⟨rfl, Or.inl tw_t749⟩⟩ : sm_F 93 139 (.putfield 277) 3),
  List.forall_mem_cons.mpr ⟨(⟨(r_93 (146, 2, .newarray .int, .newarray .int) (List.mem_of_getElem? (i := 102) rfl)), rfl, tw_t92⟩ : sm_F 93 146 (.newarray .int) 2),
  List.forall_mem_cons.mpr ⟨(⟨by decide, by decide, rfl, 76, (r_93 (148, 3, .putfield 76, .putfield 278) (List.mem_of_getElem? (i := 103) rfl)), Or.inr ⟨rfl, rfl, rfl, tw_t750⟩⟩ : sm_F 93 148 (.putfield 278) 3),
  List.forall_mem_cons.mpr ⟨(⟨by decide, by decide, rfl, 79, (r_93 (153, 3, .putfield 79, .putfield 279) (List.mem_of_getElem? (i := 104) rfl)), Or.inl ⟨rfl, Or.inl tw_t751⟩⟩ : sm_F 93 153 (.putfield 279) 3),
  List.forall_mem_cons.mpr ⟨(⟨by decide, by decide, rfl, 82, (r_93 (158, 3, .putfield 82, .putfield 280) (List.mem_of_getElem? (i := 105) rfl)), Or.inl ⟨rfl, Or.inl tw_t752⟩⟩ : sm_F 93 158 (.putfield 280) 3),
  List.forall_mem_cons.mpr ⟨(⟨by decide, by decide, rfl, 86, (r_93 (185, 3, .putfield 86, .putfield 256) (List.mem_of_getElem? (i := 106) rfl)), Or.inr ⟨rfl, rfl, rfl, tw_t728⟩⟩ : sm_F 93 185 (.putfield 256) 3),
  List.forall_mem_cons.mpr ⟨(⟨by decide, by decide, rfl, 41, (r_93 (189, 3, .getfield 41, .getfield 267) (List.mem_of_getElem? (i := 107) rfl)), Or.inl tw_t739⟩ : sm_F 93 189 (.getfield 267) 3),
  List.forall_mem_cons.mpr ⟨(⟨by decide, by decide, rfl, 44, (r_93 (199, 3, .getfield 44, .getfield 268) (List.mem_of_getElem? (i := 108) rfl)), Or.inl tw_t740⟩ : sm_F 93 199 (.getfield 268) 3),
  fun _ h => absurd h List.not_mem_nil⟩⟩⟩⟩⟩⟩⟩⟩⟩⟩⟩⟩⟩⟩⟩⟩⟩⟩⟩⟩⟩⟩⟩⟩⟩⟩⟩⟩⟩⟩⟩⟩⟩⟩⟩⟩⟩⟩⟩
theorem f_93 : ∀ q ∈ cd_93, sm_F 93 q.1 q.2.2.2 q.2.1 := List.forall_mem_append.mpr ⟨fs_93, fl_93⟩
theorem r_94 : ∀ q ∈ cd_94, decode (mB 94) q.1 = .ok (q.2.2.1, q.2.1) := sm_all (by decide +kernel)
theorem fs_94 : ∀ q ∈ sp_94, sm_F 94 q.1 q.2.2.2 q.2.1 := sm_rsl (fun q h => r_94 q (List.mem_append_left _ h)) (by decide +kernel)
theorem fl_94 : ∀ q ∈ lk_94, sm_F 94 q.1 q.2.2.2 q.2.1 := List.forall_mem_cons.mpr ⟨(⟨by decide, by decide, rfl, 7, (r_94 (13, 3, .getfield 7, .getfield 257) (List.mem_of_getElem? (i := 23) rfl)), Or.inl tw_t729⟩ : sm_F 94 13 (.getfield 257) 3),
  List.forall_mem_cons.mpr ⟨(⟨by decide, by decide, rfl, 37, (r_94 (25, 3, .getfield 37, .getfield 266) (List.mem_of_getElem? (i := 24) rfl)), Or.inl tw_t738⟩ : sm_F 94 25 (.getfield 266) 3),
  List.forall_mem_cons.mpr ⟨(⟨by decide, by decide, rfl, 7, (r_94 (29, 3, .getfield 7, .getfield 257) (List.mem_of_getElem? (i := 25) rfl)), Or.inl tw_t729⟩ : sm_F 94 29 (.getfield 257) 3),
  List.forall_mem_cons.mpr ⟨(⟨by decide, by decide, rfl, 7, (r_94 (37, 3, .getfield 7, .getfield 257) (List.mem_of_getElem? (i := 26) rfl)), Or.inl tw_t729⟩ : sm_F 94 37 (.getfield 257) 3),
  List.forall_mem_cons.mpr ⟨(⟨by decide, by decide, rfl, 7, (r_94 (42, 3, .putfield 7, .putfield 257) (List.mem_of_getElem? (i := 27) rfl)), Or.inl ⟨rfl, Or.inl tw_t729⟩⟩ : sm_F 94 42 (.putfield 257) 3),
  List.forall_mem_cons.mpr ⟨(⟨by decide, by decide, rfl, 7, (r_94 (46, 3, .getfield 7, .getfield 257) (List.mem_of_getElem? (i := 28) rfl)), Or.inl tw_t729⟩ : sm_F 94 46 (.getfield 257) 3),
  fun _ h => absurd h List.not_mem_nil⟩⟩⟩⟩⟩⟩
theorem f_94 : ∀ q ∈ cd_94, sm_F 94 q.1 q.2.2.2 q.2.1 := List.forall_mem_append.mpr ⟨fs_94, fl_94⟩
theorem r_95 : ∀ q ∈ cd_95, decode (mB 95) q.1 = .ok (q.2.2.1, q.2.1) := sm_all (by decide +kernel)
theorem fs_95 : ∀ q ∈ sp_95, sm_F 95 q.1 q.2.2.2 q.2.1 := sm_rsl (fun q h => r_95 q (List.mem_append_left _ h)) (by decide +kernel)
theorem fl_95 : ∀ q ∈ lk_95, sm_F 95 q.1 q.2.2.2 q.2.1 := List.forall_mem_cons.mpr ⟨(⟨rfl, mf_96, tw_t815, tw_p16, rfl, by decide, 97, (r_95 (15, 3, .invokevirtual 97, .invokevirtual 96) (List.mem_of_getElem? (i := 10) rfl)), Or.inl tw_t813⟩ : sm_F 95 15 (.invokevirtual 96) 3),
  fun _ h => absurd h List.not_mem_nil⟩
theorem f_95 : ∀ q ∈ cd_95, sm_F 95 q.1 q.2.2.2 q.2.1 := List.forall_mem_append.mpr ⟨fs_95, fl_95⟩
theorem r_96 : ∀ q ∈ cd_96, decode (mB 96) q.1 = .ok (q.2.2.1, q.2.1) := sm_all (by decide +kernel)
theorem fs_96 : ∀ q ∈ sp_96, sm_F 96 q.1 q.2.2.2 q.2.1 := sm_rsl (fun q h => r_96 q (List.mem_append_left _ h)) (by decide +kernel)
theorem fl_96 : ∀ q ∈ lk_96, sm_F 96 q.1 q.2.2.2 q.2.1 := List.forall_mem_cons.mpr ⟨(⟨by decide, by decide, rfl, 7, (r_96 (10, 3, .getfield 7, .getfield 257) (List.mem_of_getElem? (i := 48) rfl)), Or.inl tw_t729⟩ : sm_F 96 10 (.getfield 257) 3),
  List.forall_mem_cons.mpr ⟨(⟨rfl, mf_97, tw_t819, tw_p17, rfl, by decide, 93, (r_96 (18, 3, .invokevirtual 93, .invokevirtual 97) (List.mem_of_getElem? (i := 49) rfl)), Or.inl tw_t817⟩ : sm_F 96 18 (.invokevirtual 97) 3),
  List.forall_mem_cons.mpr ⟨(⟨by decide, by decide, rfl, 7, (r_96 (29, 3, .getfield 7, .getfield 257) (List.mem_of_getElem? (i := 50) rfl)), Or.inl tw_t729⟩ : sm_F 96 29 (.getfield 257) 3),
  List.forall_mem_cons.mpr ⟨(⟨by decide, by decide, rfl, 7, (r_96 (36, 3, .putfield 7, .putfield 257) (List.mem_of_getElem? (i := 51) rfl)), Or.inl ⟨rfl, Or.inl tw_t729⟩⟩ : sm_F 96 36 (.putfield 257) 3),
  List.forall_mem_cons.mpr ⟨(⟨by decide, by decide, rfl, 41, (r_96 (62, 3, .getfield 41, .getfield 267) (List.mem_of_getElem? (i := 52) rfl)), Or.inl tw_t739⟩ : sm_F 96 62 (.getfield 267) 3),
  List.forall_mem_cons.mpr ⟨(⟨by decide, by decide, rfl, 37, (r_96 (73, 3, .getfield 37, .getfield 266) (List.mem_of_getElem? (i := 53) rfl)), Or.inl tw_t738⟩ : sm_F 96 73 (.getfield 266) 3),
  List.forall_mem_cons.mpr ⟨(⟨by decide, by decide, rfl, 44, (r_96 (87, 3, .getfield 44, .getfield 268) (List.mem_of_getElem? (i := 54) rfl)), Or.inl tw_t740⟩ : sm_F 96 87 (.getfield 268) 3),
  fun _ h => absurd h List.not_mem_nil⟩⟩⟩⟩⟩⟩⟩
theorem f_96 : ∀ q ∈ cd_96, sm_F 96 q.1 q.2.2.2 q.2.1 := List.forall_mem_append.mpr ⟨fs_96, fl_96⟩
theorem r_97 : ∀ q ∈ cd_97, decode (mB 97) q.1 = .ok (q.2.2.1, q.2.1) := sm_all (by decide +kernel)
theorem fs_97 : ∀ q ∈ sp_97, sm_F 97 q.1 q.2.2.2 q.2.1 := sm_rsl (fun q h => r_97 q (List.mem_append_left _ h)) (by decide +kernel)
theorem fl_97 : ∀ q ∈ lk_97, sm_F 97 q.1 q.2.2.2 q.2.1 := List.forall_mem_cons.mpr ⟨(⟨by decide, by decide, rfl, 7, (r_97 (4, 3, .getfield 7, .getfield 257) (List.mem_of_getElem? (i := 63) rfl)), Or.inl tw_t729⟩ : sm_F 97 4 (.getfield 257) 3),
  List.forall_mem_cons.mpr ⟨(⟨by decide, by decide, rfl, 37, (r_97 (11, 3, .getfield 37, .getfield 266) (List.mem_of_getElem? (i := 64) rfl)), Or.inl tw_t738⟩ : sm_F 97 11 (.getfield 266) 3),
  List.forall_mem_cons.mpr ⟨(⟨by decide, by decide, rfl, 7, (r_97 (36, 3, .getfield 7, .getfield 257) (List.mem_of_getElem? (i := 65) rfl)), Or.inl tw_t729⟩ : sm_F 97 36 (.getfield 257) 3),
  List.forall_mem_cons.mpr ⟨(⟨by decide, by decide, rfl, 37, (r_97 (45, 3, .getfield 37, .getfield 266) (List.mem_of_getElem? (i := 66) rfl)), Or.inl tw_t738⟩ : sm_F 97 45 (.getfield 266) 3),
  List.forall_mem_cons.mpr ⟨(⟨by decide, by decide, rfl, 7, (r_97 (59, 3, .getfield 7, .getfield 257) (List.mem_of_getElem? (i := 67) rfl)), Or.inl tw_t729⟩ : sm_F 97 59 (.getfield 257) 3),
  List.forall_mem_cons.mpr ⟨(⟨by decide, by decide, rfl, 37, (r_97 (66, 3, .getfield 37, .getfield 266) (List.mem_of_getElem? (i := 68) rfl)), Or.inl tw_t738⟩ : sm_F 97 66 (.getfield 266) 3),
  List.forall_mem_cons.mpr ⟨(⟨by decide, by decide, rfl, 37, (r_97 (79, 3, .getfield 37, .getfield 266) (List.mem_of_getElem? (i := 69) rfl)), Or.inl tw_t738⟩ : sm_F 97 79 (.getfield 266) 3),
  List.forall_mem_cons.mpr ⟨(⟨by decide, by decide, rfl, 37, (r_97 (101, 3, .getfield 37, .getfield 266) (List.mem_of_getElem? (i := 70) rfl)), Or.inl tw_t738⟩ : sm_F 97 101 (.getfield 266) 3),
  List.forall_mem_cons.mpr ⟨(⟨rfl, mf_98, tw_t823, tw_p18, rfl, by decide, 89, (r_97 (106, 3, .invokevirtual 89, .invokevirtual 98) (List.mem_of_getElem? (i := 71) rfl)), Or.inl tw_t821⟩ : sm_F 97 106 (.invokevirtual 98) 3),
  fun _ h => absurd h List.not_mem_nil⟩⟩⟩⟩⟩⟩⟩⟩⟩
theorem f_97 : ∀ q ∈ cd_97, sm_F 97 q.1 q.2.2.2 q.2.1 := List.forall_mem_append.mpr ⟨fs_97, fl_97⟩
theorem r_98 : ∀ q ∈ cd_98, decode (mB 98) q.1 = .ok (q.2.2.1, q.2.1) := sm_all (by decide +kernel)
theorem fs_98 : ∀ q ∈ sp_98, sm_F 98 q.1 q.2.2.2 q.2.1 := sm_rsl (fun q h => r_98 q (List.mem_append_left _ h)) (by decide +kernel)
theorem fl_98 : ∀ q ∈ lk_98, sm_F 98 q.1 q.2.2.2 q.2.1 := fun _ h => absurd h List.not_mem_nil
theorem f_98 : ∀ q ∈ cd_98, sm_F 98 q.1 q.2.2.2 q.2.1 := List.forall_mem_append.mpr ⟨fs_98, fl_98⟩
theorem r_99 : ∀ q ∈ cd_99, decode (mB 99) q.1 = .ok (q.2.2.1, q.2.1) := sm_all (by decide +kernel)
theorem fs_99 : ∀ q ∈ sp_99, sm_F 99 q.1 q.2.2.2 q.2.1 := sm_rsl (fun q h => r_99 q (List.mem_append_left _ h)) (by decide +kernel)
theorem fl_99 : ∀ q ∈ lk_99, sm_F 99 q.1 q.2.2.2 q.2.1 := List.forall_mem_cons.mpr ⟨(⟨rfl, mf_96, tw_t815, tw_p16, rfl, by decide, 97, (r_99 (2, 3, .invokevirtual 97, .invokevirtual 96) (List.mem_of_getElem? (i := 3) rfl)), Or.inl tw_t813⟩ : sm_F 99 2 (.invokevirtual 96) 3),
  fun _ h => absurd h List.not_mem_nil⟩
theorem f_99 : ∀ q ∈ cd_99, sm_F 99 q.1 q.2.2.2 q.2.1 := List.forall_mem_append.mpr ⟨fs_99, fl_99⟩
theorem r_100 : ∀ q ∈ cd_100, decode (mB 100) q.1 = .ok (q.2.2.1, q.2.1) := sm_all (by decide +kernel)
theorem fs_100 : ∀ q ∈ sp_100, sm_F 100 q.1 q.2.2.2 q.2.1 := sm_rsl (fun q h => r_100 q (List.mem_append_left _ h)) (by decide +kernel)
theorem fl_100 : ∀ q ∈ lk_100, sm_F 100 q.1 q.2.2.2 q.2.1 := List.forall_mem_cons.mpr ⟨(⟨by decide, by decide, rfl, 7, (r_100 (1, 3, .getfield 7, .getfield 257) (List.mem_of_getElem? (i := 51) rfl)), Or.inl tw_t729⟩ : sm_F 100 1 (.getfield 257) 3),
  List.forall_mem_cons.mpr ⟨(⟨by decide, by decide, rfl, 37, (r_100 (9, 3, .getfield 37, .getfield 266) (List.mem_of_getElem? (i := 52) rfl)), Or.inl tw_t738⟩ : sm_F 100 9 (.getfield 266) 3),
  List.forall_mem_cons.mpr ⟨(⟨rfl, mf_97, tw_t819, tw_p17, rfl, by decide, 93, (r_100 (35, 3, .invokevirtual 93, .invokevirtual 97) (List.mem_of_getElem? (i := 53) rfl)), Or.inl tw_t817⟩ : sm_F 100 35 (.invokevirtual 97) 3),
  List.forall_mem_cons.mpr ⟨(⟨by decide, by decide, rfl, 7, (r_100 (40, 3, .getfield 7, .getfield 257) (List.mem_of_getElem? (i := 54) rfl)), Or.inl tw_t729⟩ : sm_F 100 40 (.getfield 257) 3),
  List.forall_mem_cons.mpr ⟨(⟨by decide, by decide, rfl, 7, (r_100 (46, 3, .putfield 7, .putfield 257) (List.mem_of_getElem? (i := 55) rfl)), Or.inl ⟨rfl, Or.inl tw_t729⟩⟩ : sm_F 100 46 (.putfield 257) 3),
  List.forall_mem_cons.mpr ⟨(⟨by decide, by decide, rfl, 41, (r_100 (71, 3, .getfield 41, .getfield 267) (List.mem_of_getElem? (i := 56) rfl)), Or.inl tw_t739⟩ : sm_F 100 71 (.getfield 267) 3),
  List.forall_mem_cons.mpr ⟨(⟨by decide, by decide, rfl, 37, (r_100 (81, 3, .getfield 37, .getfield 266) (List.mem_of_getElem? (i := 57) rfl)), Or.inl tw_t738⟩ : sm_F 100 81 (.getfield 266) 3),
  List.forall_mem_cons.mpr ⟨(⟨by decide, by decide, rfl, 44, (r_100 (95, 3, .getfield 44, .getfield 268) (List.mem_of_getElem? (i := 58) rfl)), Or.inl tw_t740⟩ : sm_F 100 95 (.getfield 268) 3),
  fun _ h => absurd h List.not_mem_nil⟩⟩⟩⟩⟩⟩⟩⟩
theorem f_100 : ∀ q ∈ cd_100, sm_F 100 q.1 q.2.2.2 q.2.1 := List.forall_mem_append.mpr ⟨fs_100, fl_100⟩
theorem r_101 : ∀ q ∈ cd_101, decode (mB 101) q.1 = .ok (q.2.2.1, q.2.1) := sm_all (by decide +kernel)
theorem fs_101 : ∀ q ∈ sp_101, sm_F 101 q.1 q.2.2.2 q.2.1 := sm_rsl (fun q h => r_101 q (List.mem_append_left _ h)) (by decide +kernel)
theorem fl_101 : ∀ q ∈ lk_101, sm_F 101 q.1 q.2.2.2 q.2.1 := List.forall_mem_cons.mpr ⟨(⟨by decide, by decide, rfl, 13, (r_101 (1, 3, .getfield 13, .getfield 258) (List.mem_of_getElem? (i := 15) rfl)), Or.inl tw_t730⟩ : sm_F 101 1 (.getfield 258) 3),
  List.forall_mem_cons.mpr ⟨(⟨by decide, by decide, rfl, 48, (r_101 (13, 3, .getfield 48, .getfield 269) (List.mem_of_getElem? (i := 16) rfl)), Or.inl tw_t741⟩ : sm_F 101 13 (.getfield 269) 3),
  List.forall_mem_cons.mpr ⟨(⟨by decide, by decide, rfl, 13, (r_101 (17, 3, .getfield 13, .getfield 258) (List.mem_of_getElem? (i := 17) rfl)), Or.inl tw_t730⟩ : sm_F 101 17 (.getfield 258) 3),
  List.forall_mem_cons.mpr ⟨(⟨by decide, by decide, rfl, 13, (r_101 (24, 3, .getfield 13, .getfield 258) (List.mem_of_getElem? (i := 18) rfl)), Or.inl tw_t730⟩ : sm_F 101 24 (.getfield 258) 3),
  List.forall_mem_cons.mpr ⟨(⟨by decide, by decide, rfl, 13, (r_101 (29, 3, .putfield 13, .putfield 258) (List.mem_of_getElem? (i := 19) rfl)), Or.inl ⟨rfl, Or.inl tw_t730⟩⟩ : sm_F 101 29 (.putfield 258) 3),
  List.forall_mem_cons.mpr ⟨(⟨by decide, by decide, rfl, 13, (r_101 (33, 3, .getfield 13, .getfield 258) (List.mem_of_getElem? (i := 20) rfl)), Or.inl tw_t730⟩ : sm_F 101 33 (.getfield 258) 3),
  fun _ h => absurd h List.not_mem_nil⟩⟩⟩⟩⟩⟩
theorem f_101 : ∀ q ∈ cd_101, sm_F 101 q.1 q.2.2.2 q.2.1 := List.forall_mem_append.mpr ⟨fs_101, fl_101⟩
theorem r_102 : ∀ q ∈ cd_102, decode (mB 102) q.1 = .ok (q.2.2.1, q.2.1) := sm_all (by decide +kernel)
theorem fs_102 : ∀ q ∈ sp_102, sm_F 102 q.1 q.2.2.2 q.2.1 := sm_rsl (fun q h => r_102 q (List.mem_append_left _ h)) (by decide +kernel)
theorem fl_102 : ∀ q ∈ lk_102, sm_F 102 q.1 q.2.2.2 q.2.1 := List.forall_mem_cons.mpr ⟨(⟨by decide, by decide, rfl, 13, (r_102 (1, 3, .getfield 13, .getfield 258) (List.mem_of_getElem? (i := 6) rfl)), Or.inl tw_t730⟩ : sm_F 102 1 (.getfield 258) 3),
  List.forall_mem_cons.mpr ⟨(⟨by decide, by decide, rfl, 13, (r_102 (7, 3, .putfield 13, .putfield 258) (List.mem_of_getElem? (i := 7) rfl)), Or.inl ⟨rfl, Or.inl tw_t730⟩⟩ : sm_F 102 7 (.putfield 258) 3),
  fun _ h => absurd h List.not_mem_nil⟩⟩
theorem f_102 : ∀ q ∈ cd_102, sm_F 102 q.1 q.2.2.2 q.2.1 := List.forall_mem_append.mpr ⟨fs_102, fl_102⟩
theorem r_103 : ∀ q ∈ cd_103, decode (mB 103) q.1 = .ok (q.2.2.1, q.2.1) := sm_all (by decide +kernel)
theorem fs_103 : ∀ q ∈ sp_103, sm_F 103 q.1 q.2.2.2 q.2.1 := sm_rsl (fun q h => r_103 q (List.mem_append_left _ h)) (by decide +kernel)
theorem fl_103 : ∀ q ∈ lk_103, sm_F 103 q.1 q.2.2.2 q.2.1 := List.forall_mem_cons.mpr ⟨(⟨by decide, by decide, rfl, 16, (r_103 (1, 3, .getfield 16, .getfield 259) (List.mem_of_getElem? (i := 115) rfl)), Or.inl tw_t731⟩ : sm_F 103 1 (.getfield 259) 3),
  List.forall_mem_cons.mpr ⟨(⟨rfl, mf_104, tw_t847, tw_p19, rfl, by decide, 240, (r_103 (13, 3, .invokevirtual 240, .invokevirtual 104) (List.mem_of_getElem? (i := 116) rfl)), Or.inl tw_t845⟩ : sm_F 103 13 (.invokevirtual 104) 3),
  List.forall_mem_cons.mpr ⟨(⟨by decide, by decide, rfl, 41, (r_103 (17, 3, .getfield 41, .getfield 267) (List.mem_of_getElem? (i := 117) rfl)), Or.inl tw_t739⟩ : sm_F 103 17 (.getfield 267) 3),
  List.forall_mem_cons.mpr ⟨(⟨by decide, by decide, rfl, 70, (r_103 (27, 3, .putfield 70, .putfield 276) (List.mem_of_getElem? (i := 118) rfl)), Or.inl ⟨rfl, Or.inl tw_t748⟩⟩ : sm_F 103 27 (.putfield 276) 3),
  List.forall_mem_cons.mpr ⟨(⟨by decide, by decide, rfl, 67, (r_103 (31, 3, .getfield 67, .getfield 275) (List.mem_of_getElem? (i := 119) rfl)), Or.inl tw_t747⟩ : sm_F 103 31 (.getfield 275) 3),
  List.forall_mem_cons.mpr ⟨(⟨rfl, mf_112, tw_t882, tw_p27, rfl, by decide, 129, (r_103 (48, 3, .invokevirtual 129, .invokevirtual 112) (List.mem_of_getElem? (i := 120) rfl)), Or.inl tw_t880⟩ : sm_F 103 48 (.invokevirtual 112) 3),
  List.forall_mem_cons.mpr ⟨(⟨rfl, mf_110, tw_t874, tw_p25, rfl, by decide, 220, (r_103 (77, 3, .invokevirtual 220, .invokevirtual 110) (List.mem_of_getElem? (i := 121) rfl)), Or.inl tw_t872⟩ : sm_F 103 77 (.invokevirtual 110) 3),
  List.forall_mem_cons.mpr ⟨(⟨by decide, by decide, rfl, 82, (r_103 (81, 3, .getfield 82, .getfield 280) (List.mem_of_getElem? (i := 122) rfl)), Or.inl tw_t752⟩ : sm_F 103 81 (.getfield 280) 3),
  List.forall_mem_cons.mpr ⟨(⟨rfl, mf_109, tw_t870, tw_p24, rfl, by decide, 227, (r_103 (86, 3, .invokevirtual 227, .invokevirtual 109) (List.mem_of_getElem? (i := 123) rfl)), Or.inl tw_t868⟩ : sm_F 103 86 (.invokevirtual 109) 3),
  List.forall_mem_cons.mpr ⟨(⟨by decide, by decide, rfl, 70, (r_103 (91, 3, .putfield 70, .putfield 276) (List.mem_of_getElem? (i := 124) rfl)), Or.inl ⟨rfl, Or.inl tw_t748⟩⟩ : sm_F 103 91 (.putfield 276) 3),
  List.forall_mem_cons.mpr ⟨(⟨by decide, by decide, rfl, 67, (r_103 (95, 3, .getfield 67, .getfield 275) (List.mem_of_getElem? (i := 125) rfl)), Or.inl tw_t747⟩ : sm_F 103 95 (.getfield 275) 3),
  List.forall_mem_cons.mpr ⟨(Or.inr ⟨243, (r_103 (135, 3, .ldc2_w 243, .ldc2_w 1416787301) (List.mem_of_getElem? (i := 126) rfl)), rfl, tw_t959⟩ : sm_F 103 135 (.ldc2_w 1416787301) 3),
  List.forall_mem_cons.mpr ⟨(Or.inr ⟨245, (r_103 (141, 3, .ldc2_w 245, .ldc2_w 302282208101) (List.mem_of_getElem? (i := 127) rfl)), rfl, tw_t960⟩ : sm_F 103 141 (.ldc2_w 302282208101) 3),
  List.forall_mem_cons.mpr ⟨(⟨rfl, mf_124, tw_t963, tw_p39, rfl, by decide, 247, (r_103 (144, 3, .invokevirtual 247, .invokevirtual 124) (List.mem_of_getElem? (i := 128) rfl)), Or.inl tw_t961⟩ : sm_F 103 144 (.invokevirtual 124) 3),
  List.forall_mem_cons.mpr ⟨(Or.inr ⟨250, (r_103 (155, 3, .ldc2_w 250, .ldc2_w 1316318316) (List.mem_of_getElem? (i := 129) rfl)), rfl, tw_t966⟩ : sm_F 103 155 (.ldc2_w 1316318316) 3),
  List.forall_mem_cons.mpr ⟨(⟨rfl, mf_124, tw_t963, tw_p39, rfl, by decide, 247, (r_103 (158, 3, .invokevirtual 247, .invokevirtual 124) (List.mem_of_getElem? (i := 130) rfl)), Or.inl tw_t961⟩ : sm_F 103 158 (.invokevirtual 124) 3),
  List.forall_mem_cons.mpr ⟨(Or.inr ⟨230, (r_103 (171, 3, .ldc2_w 230, .ldc2_w 107148485161588) (List.mem_of_getElem? (i := 131) rfl)), rfl, tw_t965⟩ : sm_F 103 171 (.ldc2_w 107148485161588) 3),
  List.forall_mem_cons.mpr ⟨(⟨rfl, mf_105, tw_t852, tw_p20, rfl, by decide, 112, (r_103 (174, 3, .invokevirtual 112, .invokevirtual 105) (List.mem_of_getElem? (i := 132) rfl)), Or.inl tw_t850⟩ : sm_F 103 174 (.invokevirtual 105) 3),
  List.forall_mem_cons.mpr ⟨(Or.inr ⟨252, (r_103 (178, 3, .ldc2_w 252, .ldc2_w 281092972921) (List.mem_of_getElem? (i := 133) rfl)), rfl, tw_t967⟩ : sm_F 103 178 (.ldc2_w 281092972921) 3),
  List.forall_mem_cons.mpr ⟨(⟨rfl, mf_105, tw_t852, tw_p20, rfl, by decide, 112, (r_103 (181, 3, .invokevirtual 112, .invokevirtual 105) (List.mem_of_getElem? (i := 134) rfl)), Or.inl tw_t850⟩ : sm_F 103 181 (.invokevirtual 105) 3),
  List.forall_mem_cons.mpr ⟨(Or.inr ⟨254, (r_103 (185, 3, .ldc2_w 254, .ldc2_w 19546522352644904) (List.mem_of_getElem? (i := 135) rfl)), rfl, tw_t968⟩ : sm_F 103 185 (.ldc2_w 19546522352644904) 3),
  List.forall_mem_cons.mpr ⟨(⟨rfl, mf_105, tw_t852, tw_p20, rfl, by decide, 112, (r_103 (188, 3, .invokevirtual 112, .invokevirtual 105) (List.mem_of_getElem? (i := 136) rfl)), Or.inl tw_t850⟩ : sm_F 103 188 (.invokevirtual 105) 3),
  List.forall_mem_cons.mpr ⟨(Or.inr ⟨256, (r_103 (200, 3, .ldc2_w 256, .ldc2_w 76353602940019) (List.mem_of_getElem? (i := 137) rfl)), rfl, tw_t969⟩ : sm_F 103 200 (.ldc2_w 76353602940019) 3),
  List.forall_mem_cons.mpr ⟨(⟨rfl, mf_124, tw_t963, tw_p39, rfl, by decide, 247, (r_103 (203, 3, .invokevirtual 247, .invokevirtual 124) (List.mem_of_getElem? (i := 138) rfl)), Or.inl tw_t961⟩ : sm_F 103 203 (.invokevirtual 124) 3),
  List.forall_mem_cons.mpr ⟨(⟨rfl, mf_125, tw_t972, tw_p40, rfl, by decide, 258, (r_103 (213, 3, .invokevirtual 258, .invokevirtual 125) (List.mem_of_getElem? (i := 139) rfl)), Or.inl tw_t970⟩ : sm_F 103 213 (.invokevirtual 125) 3),
  List.forall_mem_cons.mpr ⟨(⟨rfl, mf_106, tw_t857, tw_p21, rfl, by decide, 102, (r_103 (219, 3, .invokevirtual 102, .invokevirtual 106) (List.mem_of_getElem? (i := 140) rfl)), Or.inl tw_t855⟩ : sm_F 103 219 (.invokevirtual 106) 3),
  List.forall_mem_cons.mpr ⟨(⟨rfl, mf_106, tw_t857, tw_p21, rfl, by decide, 102, (r_103 (225, 3, .invokevirtual 102, .invokevirtual 106) (List.mem_of_getElem? (i := 141) rfl)), Or.inl tw_t855⟩ : sm_F 103 225 (.invokevirtual 106) 3),
  List.forall_mem_cons.mpr ⟨(⟨rfl, mf_125, tw_t972, tw_p40, rfl, by decide, 258, (r_103 (230, 3, .invokevirtual 258, .invokevirtual 125) (List.mem_of_getElem? (i := 142) rfl)), Or.inl tw_t970⟩ : sm_F 103 230 (.invokevirtual 125) 3),
  List.forall_mem_cons.mpr ⟨(Or.inr ⟨261, (r_103 (257, 3, .ldc2_w 261, .ldc2_w 48516758909030) (List.mem_of_getElem? (i := 143) rfl)), rfl, tw_t974⟩ : sm_F 103 257 (.ldc2_w 48516758909030) 3),
  List.forall_mem_cons.mpr ⟨(Or.inr ⟨263, (r_103 (263, 3, .ldc2_w 263, .ldc2_w 189518589488) (List.mem_of_getElem? (i := 144) rfl)), rfl, tw_t975⟩ : sm_F 103 263 (.ldc2_w 189518589488) 3),
  List.forall_mem_cons.mpr ⟨(⟨rfl, mf_105, tw_t852, tw_p20, rfl, by decide, 112, (r_103 (266, 3, .invokevirtual 112, .invokevirtual 105) (List.mem_of_getElem? (i := 145) rfl)), Or.inl tw_t850⟩ : sm_F 103 266 (.invokevirtual 105) 3),
  List.forall_mem_cons.mpr ⟨(⟨rfl, mf_106, tw_t857, tw_p21, rfl, by decide, 102, (r_103 (278, 3, .invokevirtual 102, .invokevirtual 106) (List.mem_of_getElem? (i := 146) rfl)), Or.inl tw_t855⟩ : sm_F 103 278 (.invokevirtual 106) 3),
  List.forall_mem_cons.mpr ⟨(⟨rfl, mf_106, tw_t857, tw_p21, rfl, by decide, 102, (r_103 (284, 3, .invokevirtual 102, .invokevirtual 106) (List.mem_of_getElem? (i := 147) rfl)), Or.inl tw_t855⟩ : sm_F 103 284 (.invokevirtual 106) 3),
  List.forall_mem_cons.mpr ⟨(⟨rfl, mf_126, tw_t978, tw_p41, rfl, by decide, 265, (r_103 (289, 3, .invokevirtual 265, .invokevirtual 126) (List.mem_of_getElem? (i := 148) rfl)), Or.inl tw_t976⟩ : sm_F 103 289 (.invokevirtual 126) 3),
  fun _ h => absurd h List.not_mem_nil⟩⟩⟩⟩⟩⟩⟩⟩⟩⟩⟩⟩⟩⟩⟩⟩⟩⟩⟩⟩⟩⟩⟩⟩⟩⟩⟩⟩⟩⟩⟩⟩⟩⟩
theorem f_103 : ∀ q ∈ cd_103, sm_F 103 q.1 q.2.2.2 q.2.1 := List.forall_mem_append.mpr ⟨fs_103, fl_103⟩
theorem r_104 : ∀ q ∈ cd_104, decode (mB 104) q.1 = .ok (q.2.2.1, q.2.1) := sm_all (by decide +kernel)
theorem fs_104 : ∀ q ∈ sp_104, sm_F 104 q.1 q.2.2.2 q.2.1 := sm_rsl (fun q h => r_104 q (List.mem_append_left _ h)) (by decide +kernel)
theorem fl_104 : ∀ q ∈ lk_104, sm_F 104 q.1 q.2.2.2 q.2.1 := List.forall_mem_cons.mpr ⟨(⟨by decide, by decide, rfl, 70, (r_104 (2, 3, .putfield 70, .putfield 276) (List.mem_of_getElem? (i := 18) rfl)), Or.inl ⟨rfl, Or.inl tw_t748⟩⟩ : sm_F 104 2 (.putfield 276) 3),
  List.forall_mem_cons.mpr ⟨(⟨by decide, by decide, rfl, 67, (r_104 (6, 3, .getfield 67, .getfield 275) (List.mem_of_getElem? (i := 19) rfl)), Or.inl tw_t747⟩ : sm_F 104 6 (.getfield 275) 3),
  List.forall_mem_cons.mpr ⟨(⟨by decide, by decide, rfl, 19, (r_104 (14, 3, .putfield 19, .putfield 260) (List.mem_of_getElem? (i := 20) rfl)), Or.inl ⟨rfl, Or.inl tw_t732⟩⟩ : sm_F 104 14 (.putfield 260) 3),
  List.forall_mem_cons.mpr ⟨(⟨by decide, by decide, rfl, 73, (r_104 (19, 3, .putfield 73, .putfield 277) (List.mem_of_getElem? (i := 21) rfl)), Or.inl ⟨rfl, Or.inl tw_t749⟩⟩ : sm_F 104 19 (.putfield 277) 3),
  List.forall_mem_cons.mpr ⟨(Or.inr ⟨223, (r_104 (23, 3, .ldc2_w 223, .ldc2_w 6080266760336191090) (List.mem_of_getElem? (i := 22) rfl)), rfl, tw_t849⟩ : sm_F 104 23 (.ldc2_w 6080266760336191090) 3),
  List.forall_mem_cons.mpr ⟨(⟨rfl, mf_105, tw_t852, tw_p20, rfl, by decide, 112, (r_104 (26, 3, .invokevirtual 112, .invokevirtual 105) (List.mem_of_getElem? (i := 23) rfl)), Or.inl tw_t850⟩ : sm_F 104 26 (.invokevirtual 105) 3),
  List.forall_mem_cons.mpr ⟨(Or.inr ⟨225, (r_104 (30, 3, .ldc2_w 225, .ldc2_w 7695912) (List.mem_of_getElem? (i := 24) rfl)), rfl, tw_t859⟩ : sm_F 104 30 (.ldc2_w 7695912) 3),
  List.forall_mem_cons.mpr ⟨(⟨rfl, mf_105, tw_t852, tw_p20, rfl, by decide, 112, (r_104 (33, 3, .invokevirtual 112, .invokevirtual 105) (List.mem_of_getElem? (i := 25) rfl)), Or.inl tw_t850⟩ : sm_F 104 33 (.invokevirtual 105) 3),
  List.forall_mem_cons.mpr ⟨(⟨rfl, mf_107, tw_t862, tw_p22, rfl, by decide, 189, (r_104 (38, 3, .invokevirtual 189, .invokevirtual 107) (List.mem_of_getElem? (i := 26) rfl)), Or.inl tw_t860⟩ : sm_F 104 38 (.invokevirtual 107) 3),
  List.forall_mem_cons.mpr ⟨(⟨rfl, mf_109, tw_t870, tw_p24, rfl, by decide, 227, (r_104 (42, 3, .invokevirtual 227, .invokevirtual 109) (List.mem_of_getElem? (i := 27) rfl)), Or.inl tw_t868⟩ : sm_F 104 42 (.invokevirtual 109) 3),
  List.forall_mem_cons.mpr ⟨(⟨rfl, mf_106, tw_t857, tw_p21, rfl, by decide, 102, (r_104 (48, 3, .invokevirtual 102, .invokevirtual 106) (List.mem_of_getElem? (i := 28) rfl)), Or.inl tw_t855⟩ : sm_F 104 48 (.invokevirtual 106) 3),
  fun _ h => absurd h List.not_mem_nil⟩⟩⟩⟩⟩⟩⟩⟩⟩⟩⟩
theorem f_104 : ∀ q ∈ cd_104, sm_F 104 q.1 q.2.2.2 q.2.1 := List.forall_mem_append.mpr ⟨fs_104, fl_104⟩
theorem r_105 : ∀ q ∈ cd_105, decode (mB 105) q.1 = .ok (q.2.2.1, q.2.1) := sm_all (by decide +kernel)
theorem fs_105 : ∀ q ∈ sp_105, sm_F 105 q.1 q.2.2.2 q.2.1 := sm_rsl (fun q h => r_105 q (List.mem_append_left _ h)) (by decide +kernel)
theorem fl_105 : ∀ q ∈ lk_105, sm_F 105 q.1 q.2.2.2 q.2.1 := List.forall_mem_cons.mpr ⟨(Or.inr ⟨100, (r_105 (10, 3, .ldc2_w 100, .ldc2_w 255) (List.mem_of_getElem? (i := 20) rfl)), rfl, tw_t854⟩ : sm_F 105 10 (.ldc2_w 255) 3),
  List.forall_mem_cons.mpr ⟨(Or.inr ⟨100, (r_105 (23, 3, .ldc2_w 100, .ldc2_w 255) (List.mem_of_getElem? (i := 21) rfl)), rfl, tw_t854⟩ : sm_F 105 23 (.ldc2_w 255) 3),
  List.forall_mem_cons.mpr ⟨(⟨rfl, mf_106, tw_t857, tw_p21, rfl, by decide, 102, (r_105 (28, 3, .invokevirtual 102, .invokevirtual 106) (List.mem_of_getElem? (i := 22) rfl)), Or.inl tw_t855⟩ : sm_F 105 28 (.invokevirtual 106) 3),
  fun _ h => absurd h List.not_mem_nil⟩⟩⟩
theorem f_105 : ∀ q ∈ cd_105, sm_F 105 q.1 q.2.2.2 q.2.1 := List.forall_mem_append.mpr ⟨fs_105, fl_105⟩
theorem r_106 : ∀ q ∈ cd_106, decode (mB 106) q.1 = .ok (q.2.2.1, q.2.1) := sm_all (by decide +kernel)
theorem fs_106 : ∀ q ∈ sp_106, sm_F 106 q.1 q.2.2.2 q.2.1 := sm_rsl (fun q h => r_106 q (List.mem_append_left _ h)) (by decide +kernel)
theorem fl_106 : ∀ q ∈ lk_106, sm_F 106 q.1 q.2.2.2 q.2.1 := List.forall_mem_cons.mpr ⟨(⟨by decide, by decide, rfl, 67, (r_106 (1, 3, .getfield 67, .getfield 275) (List.mem_of_getElem? (i := 24) rfl)), Or.inl tw_t747⟩ : sm_F 106 1 (.getfield 275) 3),
  List.forall_mem_cons.mpr ⟨(⟨by decide, by decide, rfl, 70, (r_106 (5, 3, .getfield 70, .getfield 276) (List.mem_of_getElem? (i := 25) rfl)), Or.inl tw_t748⟩ : sm_F 106 5 (.getfield 276) 3),
  List.forall_mem_cons.mpr ⟨(⟨by decide, by decide, rfl, 64, (r_106 (16, 3, .getfield 64, .getfield 274) (List.mem_of_getElem? (i := 26) rfl)), Or.inl tw_t746⟩ : sm_F 106 16 (.getfield 274) 3),
  List.forall_mem_cons.mpr ⟨(⟨by decide, by decide, rfl, 70, (r_106 (20, 3, .getfield 70, .getfield 276) (List.mem_of_getElem? (i := 27) rfl)), Or.inl tw_t748⟩ : sm_F 106 20 (.getfield 276) 3),
  List.forall_mem_cons.mpr ⟨(⟨by decide, by decide, rfl, 67, (r_106 (28, 3, .getfield 67, .getfield 275) (List.mem_of_getElem? (i := 28) rfl)), Or.inl tw_t747⟩ : sm_F 106 28 (.getfield 275) 3),
  List.forall_mem_cons.mpr ⟨(⟨by decide, by decide, rfl, 70, (r_106 (32, 3, .getfield 70, .getfield 276) (List.mem_of_getElem? (i := 29) rfl)), Or.inl tw_t748⟩ : sm_F 106 32 (.getfield 276) 3),
  List.forall_mem_cons.mpr ⟨(⟨by decide, by decide, rfl, 67, (r_106 (41, 3, .getfield 67, .getfield 275) (List.mem_of_getElem? (i := 30) rfl)), Or.inl tw_t747⟩ : sm_F 106 41 (.getfield 275) 3),
  List.forall_mem_cons.mpr ⟨(⟨by decide, by decide, rfl, 70, (r_106 (45, 3, .getfield 70, .getfield 276) (List.mem_of_getElem? (i := 31) rfl)), Or.inl tw_t748⟩ : sm_F 106 45 (.getfield 276) 3),
  fun _ h => absurd h List.not_mem_nil⟩⟩⟩⟩⟩⟩⟩⟩
theorem f_106 : ∀ q ∈ cd_106, sm_F 106 q.1 q.2.2.2 q.2.1 := List.forall_mem_append.mpr ⟨fs_106, fl_106⟩
theorem r_107 : ∀ q ∈ cd_107, decode (mB 107) q.1 = .ok (q.2.2.1, q.2.1) := sm_all (by decide +kernel)
theorem fs_107 : ∀ q ∈ sp_107, sm_F 107 q.1 q.2.2.2 q.2.1 := sm_rsl (fun q h => r_107 q (List.mem_append_left _ h)) (by decide +kernel)
theorem fl_107 : ∀ q ∈ lk_107, sm_F 107 q.1 q.2.2.2 q.2.1 := List.forall_mem_cons.mpr ⟨(⟨by decide, by decide, rfl, 79, (r_107 (8, 3, .getfield 79, .getfield 279) (List.mem_of_getElem? (i := 74) rfl)), Or.inl tw_t751⟩ : sm_F 107 8 (.getfield 279) 3),
  List.forall_mem_cons.mpr ⟨(⟨by decide, by decide, rfl, 44, (r_107 (19, 3, .getfield 44, .getfield 268) (List.mem_of_getElem? (i := 75) rfl)), Or.inl tw_t740⟩ : sm_F 107 19 (.getfield 268) 3),
  List.forall_mem_cons.mpr ⟨(⟨rfl, mf_108, tw_t866, tw_p23, rfl, by decide, 179, (r_107 (35, 3, .invokevirtual 179, .invokevirtual 108) (List.mem_of_getElem? (i := 76) rfl)), Or.inl tw_t864⟩ : sm_F 107 35 (.invokevirtual 108) 3),
  List.forall_mem_cons.mpr ⟨(⟨rfl, mf_108, tw_t866, tw_p23, rfl, by decide, 179, (r_107 (41, 3, .invokevirtual 179, .invokevirtual 108) (List.mem_of_getElem? (i := 77) rfl)), Or.inl tw_t864⟩ : sm_F 107 41 (.invokevirtual 108) 3),
  List.forall_mem_cons.mpr ⟨(⟨rfl, mf_108, tw_t866, tw_p23, rfl, by decide, 179, (r_107 (48, 3, .invokevirtual 179, .invokevirtual 108) (List.mem_of_getElem? (i := 78) rfl)), Or.inl tw_t864⟩ : sm_F 107 48 (.invokevirtual 108) 3),
  List.forall_mem_cons.mpr ⟨(⟨by decide, by decide, rfl, 41, (r_107 (52, 3, .getfield 41, .getfield 267) (List.mem_of_getElem? (i := 79) rfl)), Or.inl tw_t739⟩ : sm_F 107 52 (.getfield 267) 3),
  List.forall_mem_cons.mpr ⟨(⟨by decide, by decide, rfl, 41, (r_107 (70, 3, .getfield 41, .getfield 267) (List.mem_of_getElem? (i := 80) rfl)), Or.inl tw_t739⟩ : sm_F 107 70 (.getfield 267) 3),
  List.forall_mem_cons.mpr ⟨(⟨by decide, by decide, rfl, 79, (r_107 (98, 3, .getfield 79, .getfield 279) (List.mem_of_getElem? (i := 81) rfl)), Or.inl tw_t751⟩ : sm_F 107 98 (.getfield 279) 3),
  List.forall_mem_cons.mpr ⟨(⟨by decide, by decide, rfl, 76, (r_107 (113, 3, .getfield 76, .getfield 278) (List.mem_of_getElem? (i := 82) rfl)), Or.inl tw_t750⟩ : sm_F 107 113 (.getfield 278) 3),
  List.forall_mem_cons.mpr ⟨(⟨by decide, by decide, rfl, 76, (r_107 (122, 3, .getfield 76, .getfield 278) (List.mem_of_getElem? (i := 83) rfl)), Or.inl tw_t750⟩ : sm_F 107 122 (.getfield 278) 3),
  List.forall_mem_cons.mpr ⟨(⟨by decide, by decide, rfl, 76, (r_107 (128, 3, .getfield 76, .getfield 278) (List.mem_of_getElem? (i := 84) rfl)), Or.inl tw_t750⟩ : sm_F 107 128 (.getfield 278) 3),
  List.forall_mem_cons.mpr ⟨(⟨by decide, by decide, rfl, 76, (r_107 (136, 3, .getfield 76, .getfield 278) (List.mem_of_getElem? (i := 85) rfl)), Or.inl tw_t750⟩ : sm_F 107 136 (.getfield 278) 3),
  fun _ h => absurd h List.not_mem_nil⟩⟩⟩⟩⟩⟩⟩⟩⟩⟩⟩⟩
theorem f_107 : ∀ q ∈ cd_107, sm_F 107 q.1 q.2.2.2 q.2.1 := List.forall_mem_append.mpr ⟨fs_107, fl_107⟩
theorem r_108 : ∀ q ∈ cd_108, decode (mB 108) q.1 = .ok (q.2.2.1, q.2.1) := sm_all (by decide +kernel)
theorem fs_108 : ∀ q ∈ sp_108, sm_F 108 q.1 q.2.2.2 q.2.1 := sm_rsl (fun q h => r_108 q (List.mem_append_left _ h)) (by decide +kernel)
theorem fl_108 : ∀ q ∈ lk_108, sm_F 108 q.1 q.2.2.2 q.2.1 := List.forall_mem_cons.mpr ⟨(⟨by decide, by decide, rfl, 76, (r_108 (1, 3, .getfield 76, .getfield 278) (List.mem_of_getElem? (i := 9) rfl)), Or.inl tw_t750⟩ : sm_F 108 1 (.getfield 278) 3),
  List.forall_mem_cons.mpr ⟨(⟨by decide, by decide, rfl, 79, (r_108 (5, 3, .getfield 79, .getfield 279) (List.mem_of_getElem? (i := 10) rfl)), Or.inl tw_t751⟩ : sm_F 108 5 (.getfield 279) 3),
  List.forall_mem_cons.mpr ⟨(⟨by decide, by decide, rfl, 79, (r_108 (12, 3, .getfield 79, .getfield 279) (List.mem_of_getElem? (i := 11) rfl)), Or.inl tw_t751⟩ : sm_F 108 12 (.getfield 279) 3),
  List.forall_mem_cons.mpr ⟨(⟨by decide, by decide, rfl, 79, (r_108 (17, 3, .putfield 79, .putfield 279) (List.mem_of_getElem? (i := 12) rfl)), Or.inl ⟨rfl, Or.inl tw_t751⟩⟩ : sm_F 108 17 (.putfield 279) 3),
  fun _ h => absurd h List.not_mem_nil⟩⟩⟩⟩
theorem f_108 : ∀ q ∈ cd_108, sm_F 108 q.1 q.2.2.2 q.2.1 := List.forall_mem_append.mpr ⟨fs_108, fl_108⟩
theorem r_109 : ∀ q ∈ cd_109, decode (mB 109) q.1 = .ok (q.2.2.1, q.2.1) := sm_all (by decide +kernel)
theorem fs_109 : ∀ q ∈ sp_109, sm_F 109 q.1 q.2.2.2 q.2.1 := sm_rsl (fun q h => r_109 q (List.mem_append_left _ h)) (by decide +kernel)
theorem fl_109 : ∀ q ∈ lk_109, sm_F 109 q.1 q.2.2.2 q.2.1 := List.forall_mem_cons.mpr ⟨(⟨by decide, by decide, rfl, 79, (r_109 (1, 3, .getfield 79, .getfield 279) (List.mem_of_getElem? (i := 38) rfl)), Or.inl tw_t751⟩ : sm_F 109 1 (.getfield 279) 3),
  List.forall_mem_cons.mpr ⟨(⟨by decide, by decide, rfl, 79, (r_109 (9, 3, .getfield 79, .getfield 279) (List.mem_of_getElem? (i := 39) rfl)), Or.inl tw_t751⟩ : sm_F 109 9 (.getfield 279) 3),
  List.forall_mem_cons.mpr ⟨(⟨by decide, by decide, rfl, 79, (r_109 (14, 3, .putfield 79, .putfield 279) (List.mem_of_getElem? (i := 40) rfl)), Or.inl ⟨rfl, Or.inl tw_t751⟩⟩ : sm_F 109 14 (.putfield 279) 3),
  List.forall_mem_cons.mpr ⟨(⟨by decide, by decide, rfl, 76, (r_109 (18, 3, .getfield 76, .getfield 278) (List.mem_of_getElem? (i := 41) rfl)), Or.inl tw_t750⟩ : sm_F 109 18 (.getfield 278) 3),
  List.forall_mem_cons.mpr ⟨(⟨by decide, by decide, rfl, 79, (r_109 (22, 3, .getfield 79, .getfield 279) (List.mem_of_getElem? (i := 42) rfl)), Or.inl tw_t751⟩ : sm_F 109 22 (.getfield 279) 3),
  List.forall_mem_cons.mpr ⟨(⟨rfl, mf_106, tw_t857, tw_p21, rfl, by decide, 102, (r_109 (34, 3, .invokevirtual 102, .invokevirtual 106) (List.mem_of_getElem? (i := 43) rfl)), Or.inl tw_t855⟩ : sm_F 109 34 (.invokevirtual 106) 3),
  List.forall_mem_cons.mpr ⟨(⟨by decide, by decide, rfl, 73, (r_109 (49, 3, .getfield 73, .getfield 277) (List.mem_of_getElem? (i := 44) rfl)), Or.inl tw_t749⟩ : sm_F 109 49 (.getfield 277) 3),
  List.forall_mem_cons.mpr ⟨(⟨by decide, by decide, rfl, 73, (r_109 (54, 3, .putfield 73, .putfield 277) (List.mem_of_getElem? (i := 45) rfl)), Or.inl ⟨rfl, Or.inl tw_t749⟩⟩ : sm_F 109 54 (.putfield 277) 3),
  List.forall_mem_cons.mpr ⟨(⟨rfl, mf_110, tw_t874, tw_p25, rfl, by decide, 220, (r_109 (76, 3, .invokevirtual 220, .invokevirtual 110) (List.mem_of_getElem? (i := 46) rfl)), Or.inl tw_t872⟩ : sm_F 109 76 (.invokevirtual 110) 3),
  fun _ h => absurd h List.not_mem_nil⟩⟩⟩⟩⟩⟩⟩⟩⟩
theorem f_109 : ∀ q ∈ cd_109, sm_F 109 q.1 q.2.2.2 q.2.1 := List.forall_mem_append.mpr ⟨fs_109, fl_109⟩
theorem r_110 : ∀ q ∈ cd_110, decode (mB 110) q.1 = .ok (q.2.2.1, q.2.1) := sm_all (by decide +kernel)
theorem fs_110 : ∀ q ∈ sp_110, sm_F 110 q.1 q.2.2.2 q.2.1 := sm_rsl (fun q h => r_110 q (List.mem_append_left _ h)) (by decide +kernel)
theorem fl_110 : ∀ q ∈ lk_110, sm_F 110 q.1 q.2.2.2 q.2.1 := List.forall_mem_cons.mpr ⟨(⟨by decide, by decide, rfl, 41, (r_110 (1, 3, .getfield 41, .getfield 267) (List.mem_of_getElem? (i := 78) rfl)), Or.inl tw_t739⟩ : sm_F 110 1 (.getfield 267) 3),
  List.forall_mem_cons.mpr ⟨(⟨by decide, by decide, rfl, 82, (r_110 (9, 3, .putfield 82, .putfield 280) (List.mem_of_getElem? (i := 79) rfl)), Or.inl ⟨rfl, Or.inl tw_t752⟩⟩ : sm_F 110 9 (.putfield 280) 3),
  List.forall_mem_cons.mpr ⟨(⟨rfl, mf_111, tw_t878, tw_p26, rfl, by decide, 192, (r_110 (21, 3, .invokevirtual 192, .invokevirtual 111) (List.mem_of_getElem? (i := 80) rfl)), Or.inl tw_t876⟩ : sm_F 110 21 (.invokevirtual 111) 3),
  List.forall_mem_cons.mpr ⟨(⟨by decide, by decide, rfl, 41, (r_110 (35, 3, .getfield 41, .getfield 267) (List.mem_of_getElem? (i := 81) rfl)), Or.inl tw_t739⟩ : sm_F 110 35 (.getfield 267) 3),
  List.forall_mem_cons.mpr ⟨(⟨rfl, mf_115, tw_t905, tw_p30, rfl, by decide, 196, (r_110 (45, 3, .invokevirtual 196, .invokevirtual 115) (List.mem_of_getElem? (i := 82) rfl)), Or.inl tw_t903⟩ : sm_F 110 45 (.invokevirtual 115) 3),
  List.forall_mem_cons.mpr ⟨(⟨rfl, mf_112, tw_t882, tw_p27, rfl, by decide, 129, (r_110 (59, 3, .invokevirtual 129, .invokevirtual 112) (List.mem_of_getElem? (i := 83) rfl)), Or.inl tw_t880⟩ : sm_F 110 59 (.invokevirtual 112) 3),
  List.forall_mem_cons.mpr ⟨(Or.inr ⟨199, (r_110 (68, 3, .ldc2_w 199, .ldc2_w 1953658213) (List.mem_of_getElem? (i := 84) rfl)), rfl, tw_t908⟩ : sm_F 110 68 (.ldc2_w 1953658213) 3),
  List.forall_mem_cons.mpr ⟨(Or.inr ⟨201, (r_110 (74, 3, .ldc2_w 201, .ldc2_w 439721161573) (List.mem_of_getElem? (i := 85) rfl)), rfl, tw_t909⟩ : sm_F 110 74 (.ldc2_w 439721161573) 3),
  List.forall_mem_cons.mpr ⟨(⟨rfl, mf_105, tw_t852, tw_p20, rfl, by decide, 112, (r_110 (77, 3, .invokevirtual 112, .invokevirtual 105) (List.mem_of_getElem? (i := 86) rfl)), Or.inl tw_t850⟩ : sm_F 110 77 (.invokevirtual 105) 3),
  List.forall_mem_cons.mpr ⟨(⟨rfl, mf_116, tw_t912, tw_p31, rfl, by decide, 203, (r_110 (90, 3, .invokevirtual 203, .invokevirtual 116) (List.mem_of_getElem? (i := 87) rfl)), Or.inl tw_t910⟩ : sm_F 110 90 (.invokevirtual 116) 3),
  List.forall_mem_cons.mpr ⟨(⟨rfl, mf_112, tw_t882, tw_p27, rfl, by decide, 129, (r_110 (105, 3, .invokevirtual 129, .invokevirtual 112) (List.mem_of_getElem? (i := 88) rfl)), Or.inl tw_t880⟩ : sm_F 110 105 (.invokevirtual 112) 3),
  List.forall_mem_cons.mpr ⟨(⟨rfl, mf_119, tw_t933, tw_p34, rfl, by decide, 206, (r_110 (109, 3, .invokevirtual 206, .invokevirtual 119) (List.mem_of_getElem? (i := 89) rfl)), Or.inl tw_t931⟩ : sm_F 110 109 (.invokevirtual 119) 3),
  List.forall_mem_cons.mpr ⟨(⟨rfl, mf_120, tw_t939, tw_p35, rfl, by decide, 210, (r_110 (112, 3, .invokevirtual 210, .invokevirtual 120) (List.mem_of_getElem? (i := 90) rfl)), Or.inl tw_t937⟩ : sm_F 110 112 (.invokevirtual 120) 3),
  List.forall_mem_cons.mpr ⟨(⟨rfl, mf_106, tw_t857, tw_p21, rfl, by decide, 102, (r_110 (118, 3, .invokevirtual 102, .invokevirtual 106) (List.mem_of_getElem? (i := 91) rfl)), Or.inl tw_t855⟩ : sm_F 110 118 (.invokevirtual 106) 3),
  List.forall_mem_cons.mpr ⟨(⟨rfl, mf_112, tw_t882, tw_p27, rfl, by decide, 129, (r_110 (132, 3, .invokevirtual 129, .invokevirtual 112) (List.mem_of_getElem? (i := 92) rfl)), Or.inl tw_t880⟩ : sm_F 110 132 (.invokevirtual 112) 3),
  List.forall_mem_cons.mpr ⟨(⟨rfl, mf_120, tw_t939, tw_p35, rfl, by decide, 210, (r_110 (136, 3, .invokevirtual 210, .invokevirtual 120) (List.mem_of_getElem? (i := 93) rfl)), Or.inl tw_t937⟩ : sm_F 110 136 (.invokevirtual 120) 3),
  List.forall_mem_cons.mpr ⟨(⟨rfl, mf_121, tw_t944, tw_p36, rfl, by decide, 213, (r_110 (149, 3, .invokevirtual 213, .invokevirtual 121) (List.mem_of_getElem? (i := 94) rfl)), Or.inl tw_t942⟩ : sm_F 110 149 (.invokevirtual 121) 3),
  List.forall_mem_cons.mpr ⟨(⟨rfl, mf_106, tw_t857, tw_p21, rfl, by decide, 102, (r_110 (164, 3, .invokevirtual 102, .invokevirtual 106) (List.mem_of_getElem? (i := 95) rfl)), Or.inl tw_t855⟩ : sm_F 110 164 (.invokevirtual 106) 3),
  List.forall_mem_cons.mpr ⟨(⟨rfl, mf_112, tw_t882, tw_p27, rfl, by decide, 129, (r_110 (169, 3, .invokevirtual 129, .invokevirtual 112) (List.mem_of_getElem? (i := 96) rfl)), Or.inl tw_t880⟩ : sm_F 110 169 (.invokevirtual 112) 3),
  List.forall_mem_cons.mpr ⟨(Or.inr (Or.inr (Or.inr ⟨154, (r_110 (172, 2, .ldc 154, .iconst 65535) (List.mem_of_getElem? (i := 97) rfl)), rfl, tw_t946⟩)) : sm_F 110 172 (.iconst 65535) 2),
  List.forall_mem_cons.mpr ⟨(⟨rfl, mf_122, tw_t949, tw_p37, rfl, by decide, 155, (r_110 (177, 3, .invokevirtual 155, .invokevirtual 122) (List.mem_of_getElem? (i := 98) rfl)), Or.inl tw_t947⟩ : sm_F 110 177 (.invokevirtual 122) 3),
  List.forall_mem_cons.mpr ⟨(⟨rfl, mf_106, tw_t857, tw_p21, rfl, by decide, 102, (r_110 (183, 3, .invokevirtual 102, .invokevirtual 106) (List.mem_of_getElem? (i := 99) rfl)), Or.inl tw_t855⟩ : sm_F 110 183 (.invokevirtual 106) 3),
  List.forall_mem_cons.mpr ⟨(⟨rfl, mf_123, tw_t953, tw_p38, rfl, by decide, 216, (r_110 (191, 3, .invokevirtual 216, .invokevirtual 123) (List.mem_of_getElem? (i := 100) rfl)), Or.inl tw_t951⟩ : sm_F 110 191 (.invokevirtual 123) 3),
  fun _ h => absurd h List.not_mem_nil⟩⟩⟩⟩⟩⟩⟩⟩⟩⟩⟩⟩⟩⟩⟩⟩⟩⟩⟩⟩⟩⟩⟩
theorem f_110 : ∀ q ∈ cd_110, sm_F 110 q.1 q.2.2.2 q.2.1 := List.forall_mem_append.mpr ⟨fs_110, fl_110⟩
theorem r_111 : ∀ q ∈ cd_111, decode (mB 111) q.1 = .ok (q.2.2.1, q.2.1) := sm_all (by decide +kernel)
theorem fs_111 : ∀ q ∈ sp_111, sm_F 111 q.1 q.2.2.2 q.2.1 := sm_rsl (fun q h => r_111 q (List.mem_append_left _ h)) (by decide +kernel)
theorem fl_111 : ∀ q ∈ lk_111, sm_F 111 q.1 q.2.2.2 q.2.1 := List.forall_mem_cons.mpr ⟨(⟨rfl, mf_112, tw_t882, tw_p27, rfl, by decide, 129, (r_111 (1, 3, .invokevirtual 129, .invokevirtual 112) (List.mem_of_getElem? (i := 41) rfl)), Or.inl tw_t880⟩ : sm_F 111 1 (.invokevirtual 112) 3),
  List.forall_mem_cons.mpr ⟨(⟨rfl, mf_113, tw_t886, tw_p28, rfl, by decide, 151, (r_111 (10, 3, .invokevirtual 151, .invokevirtual 113) (List.mem_of_getElem? (i := 42) rfl)), Or.inl tw_t884⟩ : sm_F 111 10 (.invokevirtual 113) 3),
  List.forall_mem_cons.mpr ⟨(Or.inr ⟨182, (r_111 (19, 3, .ldc2_w 182, .ldc2_w 1852143392) (List.mem_of_getElem? (i := 43) rfl)), rfl, tw_t889⟩ : sm_F 111 19 (.ldc2_w 1852143392) 3),
  List.forall_mem_cons.mpr ⟨(⟨rfl, mf_105, tw_t852, tw_p20, rfl, by decide, 112, (r_111 (22, 3, .invokevirtual 112, .invokevirtual 105) (List.mem_of_getElem? (i := 44) rfl)), Or.inl tw_t850⟩ : sm_F 111 22 (.invokevirtual 105) 3),
  List.forall_mem_cons.mpr ⟨(⟨rfl, mf_114, tw_t892, tw_p29, rfl, by decide, 184, (r_111 (27, 3, .invokevirtual 184, .invokevirtual 114) (List.mem_of_getElem? (i := 45) rfl)), Or.inl tw_t890⟩ : sm_F 111 27 (.invokevirtual 114) 3),
  List.forall_mem_cons.mpr ⟨(⟨rfl, mf_106, tw_t857, tw_p21, rfl, by decide, 102, (r_111 (33, 3, .invokevirtual 102, .invokevirtual 106) (List.mem_of_getElem? (i := 46) rfl)), Or.inl tw_t855⟩ : sm_F 111 33 (.invokevirtual 106) 3),
  List.forall_mem_cons.mpr ⟨(⟨rfl, mf_106, tw_t857, tw_p21, rfl, by decide, 102, (r_111 (39, 3, .invokevirtual 102, .invokevirtual 106) (List.mem_of_getElem? (i := 47) rfl)), Or.inl tw_t855⟩ : sm_F 111 39 (.invokevirtual 106) 3),
  List.forall_mem_cons.mpr ⟨(⟨rfl, mf_108, tw_t866, tw_p23, rfl, by decide, 179, (r_111 (45, 3, .invokevirtual 179, .invokevirtual 108) (List.mem_of_getElem? (i := 48) rfl)), Or.inl tw_t864⟩ : sm_F 111 45 (.invokevirtual 108) 3),
  List.forall_mem_cons.mpr ⟨(⟨rfl, mf_108, tw_t866, tw_p23, rfl, by decide, 179, (r_111 (67, 3, .invokevirtual 179, .invokevirtual 108) (List.mem_of_getElem? (i := 49) rfl)), Or.inl tw_t864⟩ : sm_F 111 67 (.invokevirtual 108) 3),
  List.forall_mem_cons.mpr ⟨(⟨rfl, mf_108, tw_t866, tw_p23, rfl, by decide, 179, (r_111 (73, 3, .invokevirtual 179, .invokevirtual 108) (List.mem_of_getElem? (i := 50) rfl)), Or.inl tw_t864⟩ : sm_F 111 73 (.invokevirtual 108) 3),
  List.forall_mem_cons.mpr ⟨(⟨rfl, mf_108, tw_t866, tw_p23, rfl, by decide, 179, (r_111 (84, 3, .invokevirtual 179, .invokevirtual 108) (List.mem_of_getElem? (i := 51) rfl)), Or.inl tw_t864⟩ : sm_F 111 84 (.invokevirtual 108) 3),
  fun _ h => absurd h List.not_mem_nil⟩⟩⟩⟩⟩⟩⟩⟩⟩⟩⟩
theorem f_111 : ∀ q ∈ cd_111, sm_F 111 q.1 q.2.2.2 q.2.1 := List.forall_mem_append.mpr ⟨fs_111, fl_111⟩
theorem r_112 : ∀ q ∈ cd_112, decode (mB 112) q.1 = .ok (q.2.2.1, q.2.1) := sm_all (by decide +kernel)
theorem fs_112 : ∀ q ∈ sp_112, sm_F 112 q.1 q.2.2.2 q.2.1 := sm_rsl (fun q h => r_112 q (List.mem_append_left _ h)) (by decide +kernel)
theorem fl_112 : ∀ q ∈ lk_112, sm_F 112 q.1 q.2.2.2 q.2.1 := List.forall_mem_cons.mpr ⟨(⟨by decide, by decide, rfl, 19, (r_112 (2, 3, .getfield 19, .getfield 260) (List.mem_of_getElem? (i := 15) rfl)), Or.inl tw_t732⟩ : sm_F 112 2 (.getfield 260) 3),
  List.forall_mem_cons.mpr ⟨(⟨by decide, by decide, rfl, 19, (r_112 (7, 3, .putfield 19, .putfield 260) (List.mem_of_getElem? (i := 16) rfl)), Or.inl ⟨rfl, Or.inl tw_t732⟩⟩ : sm_F 112 7 (.putfield 260) 3),
  List.forall_mem_cons.mpr ⟨(⟨by decide, by decide, rfl, 19, (r_112 (11, 3, .getfield 19, .getfield 260) (List.mem_of_getElem? (i := 17) rfl)), Or.inl tw_t732⟩ : sm_F 112 11 (.getfield 260) 3),
  List.forall_mem_cons.mpr ⟨(⟨by decide, by decide, rfl, 13, (r_112 (15, 3, .getfield 13, .getfield 258) (List.mem_of_getElem? (i := 18) rfl)), Or.inl tw_t730⟩ : sm_F 112 15 (.getfield 258) 3),
  List.forall_mem_cons.mpr ⟨(⟨by decide, by decide, rfl, 48, (r_112 (22, 3, .getfield 48, .getfield 269) (List.mem_of_getElem? (i := 19) rfl)), Or.inl tw_t741⟩ : sm_F 112 22 (.getfield 269) 3),
  List.forall_mem_cons.mpr ⟨(⟨by decide, by decide, rfl, 19, (r_112 (26, 3, .getfield 19, .getfield 260) (List.mem_of_getElem? (i := 20) rfl)), Or.inl tw_t732⟩ : sm_F 112 26 (.getfield 260) 3),
  fun _ h => absurd h List.not_mem_nil⟩⟩⟩⟩⟩⟩
theorem f_112 : ∀ q ∈ cd_112, sm_F 112 q.1 q.2.2.2 q.2.1 := List.forall_mem_append.mpr ⟨fs_112, fl_112⟩
theorem r_113 : ∀ q ∈ cd_113, decode (mB 113) q.1 = .ok (q.2.2.1, q.2.1) := sm_all (by decide +kernel)
theorem fs_113 : ∀ q ∈ sp_113, sm_F 113 q.1 q.2.2.2 q.2.1 := sm_rsl (fun q h => r_113 q (List.mem_append_left _ h)) (by decide +kernel)
theorem fl_113 : ∀ q ∈ lk_113, sm_F 113 q.1 q.2.2.2 q.2.1 := List.forall_mem_cons.mpr ⟨(Or.inr ⟨159, (r_113 (1, 3, .ldc2_w 159, .ldc2_w 1853189228) (List.mem_of_getElem? (i := 4) rfl)), rfl, tw_t888⟩ : sm_F 113 1 (.ldc2_w 1853189228) 3),
  List.forall_mem_cons.mpr ⟨(⟨rfl, mf_105, tw_t852, tw_p20, rfl, by decide, 112, (r_113 (4, 3, .invokevirtual 112, .invokevirtual 105) (List.mem_of_getElem? (i := 5) rfl)), Or.inl tw_t850⟩ : sm_F 113 4 (.invokevirtual 105) 3),
  List.forall_mem_cons.mpr ⟨(⟨by decide, by decide, rfl, 82, (r_113 (9, 3, .putfield 82, .putfield 280) (List.mem_of_getElem? (i := 6) rfl)), Or.inl ⟨rfl, Or.inl tw_t752⟩⟩ : sm_F 113 9 (.putfield 280) 3),
  fun _ h => absurd h List.not_mem_nil⟩⟩⟩
theorem f_113 : ∀ q ∈ cd_113, sm_F 113 q.1 q.2.2.2 q.2.1 := List.forall_mem_append.mpr ⟨fs_113, fl_113⟩
theorem r_114 : ∀ q ∈ cd_114, decode (mB 114) q.1 = .ok (q.2.2.1, q.2.1) := sm_all (by decide +kernel)
theorem fs_114 : ∀ q ∈ sp_114, sm_F 114 q.1 q.2.2.2 q.2.1 := sm_rsl (fun q h => r_114 q (List.mem_append_left _ h)) (by decide +kernel)
theorem fl_114 : ∀ q ∈ lk_114, sm_F 114 q.1 q.2.2.2 q.2.1 := List.forall_mem_cons.mpr ⟨(⟨by decide, by decide, rfl, 41, (r_114 (5, 3, .getfield 41, .getfield 267) (List.mem_of_getElem? (i := 57) rfl)), Or.inl tw_t739⟩ : sm_F 114 5 (.getfield 267) 3),
  List.forall_mem_cons.mpr ⟨(⟨by decide, by decide, rfl, 41, (r_114 (26, 3, .getfield 41, .getfield 267) (List.mem_of_getElem? (i := 58) rfl)), Or.inl tw_t739⟩ : sm_F 114 26 (.getfield 267) 3),
  List.forall_mem_cons.mpr ⟨(Or.inr ⟨161, (r_114 (145, 3, .ldc2_w 161, .ldc2_w 27707072068280686) (List.mem_of_getElem? (i := 59) rfl)), rfl, tw_t894⟩ : sm_F 114 145 (.ldc2_w 27707072068280686) 3),
  List.forall_mem_cons.mpr ⟨(⟨rfl, mf_105, tw_t852, tw_p20, rfl, by decide, 112, (r_114 (148, 3, .invokevirtual 112, .invokevirtual 105) (List.mem_of_getElem? (i := 60) rfl)), Or.inl tw_t850⟩ : sm_F 114 148 (.invokevirtual 105) 3),
  List.forall_mem_cons.mpr ⟨(Or.inr ⟨163, (r_114 (155, 3, .ldc2_w 163, .ldc2_w 1652126821) (List.mem_of_getElem? (i := 61) rfl)), rfl, tw_t895⟩ : sm_F 114 155 (.ldc2_w 1652126821) 3),
  List.forall_mem_cons.mpr ⟨(⟨rfl, mf_105, tw_t852, tw_p20, rfl, by decide, 112, (r_114 (158, 3, .invokevirtual 112, .invokevirtual 105) (List.mem_of_getElem? (i := 62) rfl)), Or.inl tw_t850⟩ : sm_F 114 158 (.invokevirtual 105) 3),
  List.forall_mem_cons.mpr ⟨(Or.inr ⟨165, (r_114 (165, 3, .ldc2_w 165, .ldc2_w 1667785074) (List.mem_of_getElem? (i := 63) rfl)), rfl, tw_t896⟩ : sm_F 114 165 (.ldc2_w 1667785074) 3),
  List.forall_mem_cons.mpr ⟨(⟨rfl, mf_105, tw_t852, tw_p20, rfl, by decide, 112, (r_114 (168, 3, .invokevirtual 112, .invokevirtual 105) (List.mem_of_getElem? (i := 64) rfl)), Or.inl tw_t850⟩ : sm_F 114 168 (.invokevirtual 105) 3),
  List.forall_mem_cons.mpr ⟨(Or.inr ⟨167, (r_114 (175, 3, .ldc2_w 167, .ldc2_w 495673373300) (List.mem_of_getElem? (i := 65) rfl)), rfl, tw_t897⟩ : sm_F 114 175 (.ldc2_w 495673373300) 3),
  List.forall_mem_cons.mpr ⟨(⟨rfl, mf_105, tw_t852, tw_p20, rfl, by decide, 112, (r_114 (178, 3, .invokevirtual 112, .invokevirtual 105) (List.mem_of_getElem? (i := 66) rfl)), Or.inl tw_t850⟩ : sm_F 114 178 (.invokevirtual 105) 3),
  List.forall_mem_cons.mpr ⟨(Or.inr ⟨169, (r_114 (185, 3, .ldc2_w 169, .ldc2_w 6909556) (List.mem_of_getElem? (i := 67) rfl)), rfl, tw_t898⟩ : sm_F 114 185 (.ldc2_w 6909556) 3),
  List.forall_mem_cons.mpr ⟨(⟨rfl, mf_105, tw_t852, tw_p20, rfl, by decide, 112, (r_114 (188, 3, .invokevirtual 112, .invokevirtual 105) (List.mem_of_getElem? (i := 68) rfl)), Or.inl tw_t850⟩ : sm_F 114 188 (.invokevirtual 105) 3),
  List.forall_mem_cons.mpr ⟨(Or.inr ⟨171, (r_114 (195, 3, .ldc2_w 171, .ldc2_w 1819242087) (List.mem_of_getElem? (i := 69) rfl)), rfl, tw_t899⟩ : sm_F 114 195 (.ldc2_w 1819242087) 3),
  List.forall_mem_cons.mpr ⟨(⟨rfl, mf_105, tw_t852, tw_p20, rfl, by decide, 112, (r_114 (198, 3, .invokevirtual 112, .invokevirtual 105) (List.mem_of_getElem? (i := 70) rfl)), Or.inl tw_t850⟩ : sm_F 114 198 (.invokevirtual 105) 3),
  List.forall_mem_cons.mpr ⟨(Or.inr ⟨173, (r_114 (205, 3, .ldc2_w 173, .ldc2_w 439905902964) (List.mem_of_getElem? (i := 71) rfl)), rfl, tw_t900⟩ : sm_F 114 205 (.ldc2_w 439905902964) 3),
  List.forall_mem_cons.mpr ⟨(⟨rfl, mf_105, tw_t852, tw_p20, rfl, by decide, 112, (r_114 (208, 3, .invokevirtual 112, .invokevirtual 105) (List.mem_of_getElem? (i := 72) rfl)), Or.inl tw_t850⟩ : sm_F 114 208 (.invokevirtual 105) 3),
  List.forall_mem_cons.mpr ⟨(Or.inr ⟨175, (r_114 (215, 3, .ldc2_w 175, .ldc2_w 110429873532005) (List.mem_of_getElem? (i := 73) rfl)), rfl, tw_t901⟩ : sm_F 114 215 (.ldc2_w 110429873532005) 3),
  List.forall_mem_cons.mpr ⟨(⟨rfl, mf_105, tw_t852, tw_p20, rfl, by decide, 112, (r_114 (218, 3, .invokevirtual 112, .invokevirtual 105) (List.mem_of_getElem? (i := 74) rfl)), Or.inl tw_t850⟩ : sm_F 114 218 (.invokevirtual 105) 3),
  List.forall_mem_cons.mpr ⟨(Or.inr ⟨177, (r_114 (225, 3, .ldc2_w 177, .ldc2_w 91759600823911) (List.mem_of_getElem? (i := 75) rfl)), rfl, tw_t902⟩ : sm_F 114 225 (.ldc2_w 91759600823911) 3),
  List.forall_mem_cons.mpr ⟨(⟨rfl, mf_105, tw_t852, tw_p20, rfl, by decide, 112, (r_114 (228, 3, .invokevirtual 112, .invokevirtual 105) (List.mem_of_getElem? (i := 76) rfl)), Or.inl tw_t850⟩ : sm_F 114 228 (.invokevirtual 105) 3),
  List.forall_mem_cons.mpr ⟨(⟨rfl, mf_106, tw_t857, tw_p21, rfl, by decide, 102, (r_114 (237, 3, .invokevirtual 102, .invokevirtual 106) (List.mem_of_getElem? (i := 77) rfl)), Or.inl tw_t855⟩ : sm_F 114 237 (.invokevirtual 106) 3),
  List.forall_mem_cons.mpr ⟨(⟨by decide, by decide, rfl, 41, (r_114 (242, 3, .getfield 41, .getfield 267) (List.mem_of_getElem? (i := 78) rfl)), Or.inl tw_t739⟩ : sm_F 114 242 (.getfield 267) 3),
  List.forall_mem_cons.mpr ⟨(⟨rfl, mf_106, tw_t857, tw_p21, rfl, by decide, 102, (r_114 (249, 3, .invokevirtual 102, .invokevirtual 106) (List.mem_of_getElem? (i := 79) rfl)), Or.inl tw_t855⟩ : sm_F 114 249 (.invokevirtual 106) 3),
  List.forall_mem_cons.mpr ⟨(⟨rfl, mf_106, tw_t857, tw_p21, rfl, by decide, 102, (r_114 (264, 3, .invokevirtual 102, .invokevirtual 106) (List.mem_of_getElem? (i := 80) rfl)), Or.inl tw_t855⟩ : sm_F 114 264 (.invokevirtual 106) 3),
  List.forall_mem_cons.mpr ⟨(⟨rfl, mf_106, tw_t857, tw_p21, rfl, by decide, 102, (r_114 (270, 3, .invokevirtual 102, .invokevirtual 106) (List.mem_of_getElem? (i := 81) rfl)), Or.inl tw_t855⟩ : sm_F 114 270 (.invokevirtual 106) 3),
  fun _ h => absurd h List.not_mem_nil⟩⟩⟩⟩⟩⟩⟩⟩⟩⟩⟩⟩⟩⟩⟩⟩⟩⟩⟩⟩⟩⟩⟩⟩⟩
theorem f_114 : ∀ q ∈ cd_114, sm_F 114 q.1 q.2.2.2 q.2.1 := List.forall_mem_append.mpr ⟨fs_114, fl_114⟩
theorem r_115 : ∀ q ∈ cd_115, decode (mB 115) q.1 = .ok (q.2.2.1, q.2.1) := sm_all (by decide +kernel)
theorem fs_115 : ∀ q ∈ sp_115, sm_F 115 q.1 q.2.2.2 q.2.1 := sm_rsl (fun q h => r_115 q (List.mem_append_left _ h)) (by decide +kernel)
theorem fl_115 : ∀ q ∈ lk_115, sm_F 115 q.1 q.2.2.2 q.2.1 := List.forall_mem_cons.mpr ⟨(⟨rfl, mf_112, tw_t882, tw_p27, rfl, by decide, 129, (r_115 (1, 3, .invokevirtual 129, .invokevirtual 112) (List.mem_of_getElem? (i := 27) rfl)), Or.inl tw_t880⟩ : sm_F 115 1 (.invokevirtual 112) 3),
  List.forall_mem_cons.mpr ⟨(⟨by decide, by decide, rfl, 73, (r_115 (10, 3, .getfield 73, .getfield 277) (List.mem_of_getElem? (i := 28) rfl)), Or.inl tw_t749⟩ : sm_F 115 10 (.getfield 277) 3),
  List.forall_mem_cons.mpr ⟨(⟨rfl, mf_113, tw_t886, tw_p28, rfl, by decide, 151, (r_115 (18, 3, .invokevirtual 151, .invokevirtual 113) (List.mem_of_getElem? (i := 29) rfl)), Or.inl tw_t884⟩ : sm_F 115 18 (.invokevirtual 113) 3),
  List.forall_mem_cons.mpr ⟨(Or.inr ⟨187, (r_115 (23, 3, .ldc2_w 187, .ldc2_w 474148708419) (List.mem_of_getElem? (i := 30) rfl)), rfl, tw_t907⟩ : sm_F 115 23 (.ldc2_w 474148708419) 3),
  List.forall_mem_cons.mpr ⟨(⟨rfl, mf_105, tw_t852, tw_p20, rfl, by decide, 112, (r_115 (26, 3, .invokevirtual 112, .invokevirtual 105) (List.mem_of_getElem? (i := 31) rfl)), Or.inl tw_t850⟩ : sm_F 115 26 (.invokevirtual 105) 3),
  List.forall_mem_cons.mpr ⟨(⟨rfl, mf_106, tw_t857, tw_p21, rfl, by decide, 102, (r_115 (34, 3, .invokevirtual 102, .invokevirtual 106) (List.mem_of_getElem? (i := 32) rfl)), Or.inl tw_t855⟩ : sm_F 115 34 (.invokevirtual 106) 3),
  List.forall_mem_cons.mpr ⟨(⟨rfl, mf_106, tw_t857, tw_p21, rfl, by decide, 102, (r_115 (40, 3, .invokevirtual 102, .invokevirtual 106) (List.mem_of_getElem? (i := 33) rfl)), Or.inl tw_t855⟩ : sm_F 115 40 (.invokevirtual 106) 3),
  List.forall_mem_cons.mpr ⟨(⟨by decide, by decide, rfl, 73, (r_115 (45, 3, .getfield 73, .getfield 277) (List.mem_of_getElem? (i := 34) rfl)), Or.inl tw_t749⟩ : sm_F 115 45 (.getfield 277) 3),
  List.forall_mem_cons.mpr ⟨(⟨by decide, by decide, rfl, 73, (r_115 (50, 3, .putfield 73, .putfield 277) (List.mem_of_getElem? (i := 35) rfl)), Or.inl ⟨rfl, Or.inl tw_t749⟩⟩ : sm_F 115 50 (.putfield 277) 3),
  List.forall_mem_cons.mpr ⟨(⟨rfl, mf_108, tw_t866, tw_p23, rfl, by decide, 179, (r_115 (57, 3, .invokevirtual 179, .invokevirtual 108) (List.mem_of_getElem? (i := 36) rfl)), Or.inl tw_t864⟩ : sm_F 115 57 (.invokevirtual 108) 3),
  List.forall_mem_cons.mpr ⟨(⟨rfl, mf_108, tw_t866, tw_p23, rfl, by decide, 179, (r_115 (63, 3, .invokevirtual 179, .invokevirtual 108) (List.mem_of_getElem? (i := 37) rfl)), Or.inl tw_t864⟩ : sm_F 115 63 (.invokevirtual 108) 3),
  List.forall_mem_cons.mpr ⟨(⟨rfl, mf_107, tw_t862, tw_p22, rfl, by decide, 189, (r_115 (68, 3, .invokevirtual 189, .invokevirtual 107) (List.mem_of_getElem? (i := 38) rfl)), Or.inl tw_t860⟩ : sm_F 115 68 (.invokevirtual 107) 3),
  fun _ h => absurd h List.not_mem_nil⟩⟩⟩⟩⟩⟩⟩⟩⟩⟩⟩⟩
theorem f_115 : ∀ q ∈ cd_115, sm_F 115 q.1 q.2.2.2 q.2.1 := List.forall_mem_append.mpr ⟨fs_115, fl_115⟩
theorem r_116 : ∀ q ∈ cd_116, decode (mB 116) q.1 = .ok (q.2.2.1, q.2.1) := sm_all (by decide +kernel)
theorem fs_116 : ∀ q ∈ sp_116, sm_F 116 q.1 q.2.2.2 q.2.1 := sm_rsl (fun q h => r_116 q (List.mem_append_left _ h)) (by decide +kernel)
theorem fl_116 : ∀ q ∈ lk_116, sm_F 116 q.1 q.2.2.2 q.2.1 := List.forall_mem_cons.mpr ⟨(⟨rfl, mf_112, tw_t882, tw_p27, rfl, by decide, 129, (r_116 (1, 3, .invokevirtual 129, .invokevirtual 112) (List.mem_of_getElem? (i := 20) rfl)), Or.inl tw_t880⟩ : sm_F 116 1 (.invokevirtual 112) 3),
  List.forall_mem_cons.mpr ⟨(Or.inr ⟨143, (r_116 (7, 3, .ldc2_w 143, .ldc2_w 4294967296) (List.mem_of_getElem? (i := 21) rfl)), rfl, tw_t914⟩ : sm_F 116 7 (.ldc2_w 4294967296) 3),
  List.forall_mem_cons.mpr ⟨(⟨rfl, mf_112, tw_t882, tw_p27, rfl, by decide, 129, (r_116 (12, 3, .invokevirtual 129, .invokevirtual 112) (List.mem_of_getElem? (i := 22) rfl)), Or.inl tw_t880⟩ : sm_F 116 12 (.invokevirtual 112) 3),
  List.forall_mem_cons.mpr ⟨(Or.inr ⟨145, (r_116 (16, 3, .ldc2_w 145, .ldc2_w 4294967295) (List.mem_of_getElem? (i := 23) rfl)), rfl, tw_t915⟩ : sm_F 116 16 (.ldc2_w 4294967295) 3),
  List.forall_mem_cons.mpr ⟨(Or.inr ⟨147, (r_116 (23, 3, .ldc2_w 147, .ldc2_w 9223372036854775808) (List.mem_of_getElem? (i := 24) rfl)), rfl, tw_t916⟩ : sm_F 116 23 (.ldc2_w 9223372036854775808) 3),
  List.forall_mem_cons.mpr ⟨(Or.inr ⟨149, (r_116 (31, 3, .ldc2_w 149, .ldc2_w 1282371175) (List.mem_of_getElem? (i := 25) rfl)), rfl, tw_t917⟩ : sm_F 116 31 (.ldc2_w 1282371175) 3),
  List.forall_mem_cons.mpr ⟨(⟨rfl, mf_117, tw_t920, tw_p32, rfl, by decide, 140, (r_116 (34, 3, .invokevirtual 140, .invokevirtual 117) (List.mem_of_getElem? (i := 26) rfl)), Or.inl tw_t918⟩ : sm_F 116 34 (.invokevirtual 117) 3),
  List.forall_mem_cons.mpr ⟨(⟨rfl, mf_118, tw_t926, tw_p33, rfl, by decide, 126, (r_116 (40, 3, .invokevirtual 126, .invokevirtual 118) (List.mem_of_getElem? (i := 27) rfl)), Or.inl tw_t924⟩ : sm_F 116 40 (.invokevirtual 118) 3),
  List.forall_mem_cons.mpr ⟨(⟨rfl, mf_106, tw_t857, tw_p21, rfl, by decide, 102, (r_116 (46, 3, .invokevirtual 102, .invokevirtual 106) (List.mem_of_getElem? (i := 28) rfl)), Or.inl tw_t855⟩ : sm_F 116 46 (.invokevirtual 106) 3),
  fun _ h => absurd h List.not_mem_nil⟩⟩⟩⟩⟩⟩⟩⟩⟩
theorem f_116 : ∀ q ∈ cd_116, sm_F 116 q.1 q.2.2.2 q.2.1 := List.forall_mem_append.mpr ⟨fs_116, fl_116⟩
theorem r_117 : ∀ q ∈ cd_117, decode (mB 117) q.1 = .ok (q.2.2.1, q.2.1) := sm_all (by decide +kernel)
theorem fs_117 : ∀ q ∈ sp_117, sm_F 117 q.1 q.2.2.2 q.2.1 := sm_rsl (fun q h => r_117 q (List.mem_append_left _ h)) (by decide +kernel)
theorem fl_117 : ∀ q ∈ lk_117, sm_F 117 q.1 q.2.2.2 q.2.1 := List.forall_mem_cons.mpr ⟨(⟨rfl, mf_105, tw_t852, tw_p20, rfl, by decide, 112, (r_117 (2, 3, .invokevirtual 112, .invokevirtual 105) (List.mem_of_getElem? (i := 5) rfl)), Or.inl tw_t850⟩ : sm_F 117 2 (.invokevirtual 105) 3),
  List.forall_mem_cons.mpr ⟨(Or.inr ⟨116, (r_117 (6, 3, .ldc2_w 116, .ldc2_w 3336403499907170636) (List.mem_of_getElem? (i := 6) rfl)), rfl, tw_t922⟩ : sm_F 117 6 (.ldc2_w 3336403499907170636) 3),
  List.forall_mem_cons.mpr ⟨(⟨rfl, mf_105, tw_t852, tw_p20, rfl, by decide, 112, (r_117 (9, 3, .invokevirtual 112, .invokevirtual 105) (List.mem_of_getElem? (i := 7) rfl)), Or.inl tw_t850⟩ : sm_F 117 9 (.invokevirtual 105) 3),
  List.forall_mem_cons.mpr ⟨(Or.inr ⟨118, (r_117 (13, 3, .ldc2_w 118, .ldc2_w 21829) (List.mem_of_getElem? (i := 8) rfl)), rfl, tw_t923⟩ : sm_F 117 13 (.ldc2_w 21829) 3),
  List.forall_mem_cons.mpr ⟨(⟨rfl, mf_105, tw_t852, tw_p20, rfl, by decide, 112, (r_117 (16, 3, .invokevirtual 112, .invokevirtual 105) (List.mem_of_getElem? (i := 9) rfl)), Or.inl tw_t850⟩ : sm_F 117 16 (.invokevirtual 105) 3),
  fun _ h => absurd h List.not_mem_nil⟩⟩⟩⟩⟩
theorem f_117 : ∀ q ∈ cd_117, sm_F 117 q.1 q.2.2.2 q.2.1 := List.forall_mem_append.mpr ⟨fs_117, fl_117⟩
theorem r_118 : ∀ q ∈ cd_118, decode (mB 118) q.1 = .ok (q.2.2.1, q.2.1) := sm_all (by decide +kernel)
theorem fs_118 : ∀ q ∈ sp_118, sm_F 118 q.1 q.2.2.2 q.2.1 := sm_rsl (fun q h => r_118 q (List.mem_append_left _ h)) (by decide +kernel)
theorem fl_118 : ∀ q ∈ lk_118, sm_F 118 q.1 q.2.2.2 q.2.1 := List.forall_mem_cons.mpr ⟨(⟨rfl, mf_106, tw_t857, tw_p21, rfl, by decide, 102, (r_118 (25, 3, .invokevirtual 102, .invokevirtual 106) (List.mem_of_getElem? (i := 42) rfl)), Or.inl tw_t855⟩ : sm_F 118 25 (.invokevirtual 106) 3),
  List.forall_mem_cons.mpr ⟨(Or.inr ⟨106, (r_118 (32, 3, .ldc2_w 106, .ldc2_w 9) (List.mem_of_getElem? (i := 43) rfl)), rfl, tw_t928⟩ : sm_F 118 32 (.ldc2_w 9) 3),
  List.forall_mem_cons.mpr ⟨(Or.inr ⟨108, (r_118 (41, 3, .ldc2_w 108, .ldc2_w 10) (List.mem_of_getElem? (i := 44) rfl)), rfl, tw_t929⟩ : sm_F 118 41 (.ldc2_w 10) 3),
  List.forall_mem_cons.mpr ⟨(Or.inr ⟨110, (r_118 (58, 3, .ldc2_w 110, .ldc2_w 48) (List.mem_of_getElem? (i := 45) rfl)), rfl, tw_t930⟩ : sm_F 118 58 (.ldc2_w 48) 3),
  List.forall_mem_cons.mpr ⟨(Or.inr ⟨108, (r_118 (65, 3, .ldc2_w 108, .ldc2_w 10) (List.mem_of_getElem? (i := 46) rfl)), rfl, tw_t929⟩ : sm_F 118 65 (.ldc2_w 10) 3),
  List.forall_mem_cons.mpr ⟨(⟨rfl, mf_106, tw_t857, tw_p21, rfl, by decide, 102, (r_118 (71, 3, .invokevirtual 102, .invokevirtual 106) (List.mem_of_getElem? (i := 47) rfl)), Or.inl tw_t855⟩ : sm_F 118 71 (.invokevirtual 106) 3),
  List.forall_mem_cons.mpr ⟨(Or.inr ⟨108, (r_118 (76, 3, .ldc2_w 108, .ldc2_w 10) (List.mem_of_getElem? (i := 48) rfl)), rfl, tw_t929⟩ : sm_F 118 76 (.ldc2_w 10) 3),
  fun _ h => absurd h List.not_mem_nil⟩⟩⟩⟩⟩⟩⟩
theorem f_118 : ∀ q ∈ cd_118, sm_F 118 q.1 q.2.2.2 q.2.1 := List.forall_mem_append.mpr ⟨fs_118, fl_118⟩
theorem r_119 : ∀ q ∈ cd_119, decode (mB 119) q.1 = .ok (q.2.2.1, q.2.1) := sm_all (by decide +kernel)
theorem fs_119 : ∀ q ∈ sp_119, sm_F 119 q.1 q.2.2.2 q.2.1 := sm_rsl (fun q h => r_119 q (List.mem_append_left _ h)) (by decide +kernel)
theorem fl_119 : ∀ q ∈ lk_119, sm_F 119 q.1 q.2.2.2 q.2.1 := List.forall_mem_cons.mpr ⟨(Or.inr ⟨120, (r_119 (20, 3, .ldc2_w 120, .ldc2_w 16777216) (List.mem_of_getElem? (i := 60) rfl)), rfl, tw_t935⟩ : sm_F 119 20 (.ldc2_w 16777216) 3),
  List.forall_mem_cons.mpr ⟨(Or.inr ⟨122, (r_119 (29, 3, .ldc2_w 122, .ldc2_w 2) (List.mem_of_getElem? (i := 61) rfl)), rfl, tw_t936⟩ : sm_F 119 29 (.ldc2_w 2) 3),
  List.forall_mem_cons.mpr ⟨(Or.inr ⟨122, (r_119 (50, 3, .ldc2_w 122, .ldc2_w 2) (List.mem_of_getElem? (i := 62) rfl)), rfl, tw_t936⟩ : sm_F 119 50 (.ldc2_w 2) 3),
  List.forall_mem_cons.mpr ⟨(Or.inr ⟨122, (r_119 (62, 3, .ldc2_w 122, .ldc2_w 2) (List.mem_of_getElem? (i := 63) rfl)), rfl, tw_t936⟩ : sm_F 119 62 (.ldc2_w 2) 3),
  List.forall_mem_cons.mpr ⟨(Or.inr ⟨122, (r_119 (76, 3, .ldc2_w 122, .ldc2_w 2) (List.mem_of_getElem? (i := 64) rfl)), rfl, tw_t936⟩ : sm_F 119 76 (.ldc2_w 2) 3),
  fun _ h => absurd h List.not_mem_nil⟩⟩⟩⟩⟩
theorem f_119 : ∀ q ∈ cd_119, sm_F 119 q.1 q.2.2.2 q.2.1 := List.forall_mem_append.mpr ⟨fs_119, fl_119⟩
theorem r_120 : ∀ q ∈ cd_120, decode (mB 120) q.1 = .ok (q.2.2.1, q.2.1) := sm_all (by decide +kernel)
theorem fs_120 : ∀ q ∈ sp_120, sm_F 120 q.1 q.2.2.2 q.2.1 := sm_rsl (fun q h => r_120 q (List.mem_append_left _ h)) (by decide +kernel)
theorem fl_120 : ∀ q ∈ lk_120, sm_F 120 q.1 q.2.2.2 q.2.1 := List.forall_mem_cons.mpr ⟨(⟨rfl, mf_106, tw_t857, tw_p21, rfl, by decide, 102, (r_120 (22, 3, .invokevirtual 102, .invokevirtual 106) (List.mem_of_getElem? (i := 55) rfl)), Or.inl tw_t855⟩ : sm_F 120 22 (.invokevirtual 106) 3),
  List.forall_mem_cons.mpr ⟨(Or.inr ⟨124, (r_120 (27, 3, .ldc2_w 124, .ldc2_w 8) (List.mem_of_getElem? (i := 56) rfl)), rfl, tw_t941⟩ : sm_F 120 27 (.ldc2_w 8) 3),
  List.forall_mem_cons.mpr ⟨(⟨rfl, mf_118, tw_t926, tw_p33, rfl, by decide, 126, (r_120 (31, 3, .invokevirtual 126, .invokevirtual 118) (List.mem_of_getElem? (i := 57) rfl)), Or.inl tw_t924⟩ : sm_F 120 31 (.invokevirtual 118) 3),
  List.forall_mem_cons.mpr ⟨(⟨rfl, mf_106, tw_t857, tw_p21, rfl, by decide, 102, (r_120 (37, 3, .invokevirtual 102, .invokevirtual 106) (List.mem_of_getElem? (i := 58) rfl)), Or.inl tw_t855⟩ : sm_F 120 37 (.invokevirtual 106) 3),
  List.forall_mem_cons.mpr ⟨(Or.inr ⟨124, (r_120 (41, 3, .ldc2_w 124, .ldc2_w 8) (List.mem_of_getElem? (i := 59) rfl)), rfl, tw_t941⟩ : sm_F 120 41 (.ldc2_w 8) 3),
  List.forall_mem_cons.mpr ⟨(⟨rfl, mf_106, tw_t857, tw_p21, rfl, by decide, 102, (r_120 (60, 3, .invokevirtual 102, .invokevirtual 106) (List.mem_of_getElem? (i := 60) rfl)), Or.inl tw_t855⟩ : sm_F 120 60 (.invokevirtual 106) 3),
  List.forall_mem_cons.mpr ⟨(⟨rfl, mf_106, tw_t857, tw_p21, rfl, by decide, 102, (r_120 (83, 3, .invokevirtual 102, .invokevirtual 106) (List.mem_of_getElem? (i := 61) rfl)), Or.inl tw_t855⟩ : sm_F 120 83 (.invokevirtual 106) 3),
  List.forall_mem_cons.mpr ⟨(⟨rfl, mf_106, tw_t857, tw_p21, rfl, by decide, 102, (r_120 (103, 3, .invokevirtual 102, .invokevirtual 106) (List.mem_of_getElem? (i := 62) rfl)), Or.inl tw_t855⟩ : sm_F 120 103 (.invokevirtual 106) 3),
  fun _ h => absurd h List.not_mem_nil⟩⟩⟩⟩⟩⟩⟩⟩
theorem f_120 : ∀ q ∈ cd_120, sm_F 120 q.1 q.2.2.2 q.2.1 := List.forall_mem_append.mpr ⟨fs_120, fl_120⟩
theorem r_121 : ∀ q ∈ cd_121, decode (mB 121) q.1 = .ok (q.2.2.1, q.2.1) := sm_all (by decide +kernel)
theorem fs_121 : ∀ q ∈ sp_121, sm_F 121 q.1 q.2.2.2 q.2.1 := sm_rsl (fun q h => r_121 q (List.mem_append_left _ h)) (by decide +kernel)
theorem fl_121 : ∀ q ∈ lk_121, sm_F 121 q.1 q.2.2.2 q.2.1 := List.forall_mem_cons.mpr ⟨(⟨rfl, mf_112, tw_t882, tw_p27, rfl, by decide, 129, (r_121 (1, 3, .invokevirtual 129, .invokevirtual 112) (List.mem_of_getElem? (i := 24) rfl)), Or.inl tw_t880⟩ : sm_F 121 1 (.invokevirtual 112) 3),
  List.forall_mem_cons.mpr ⟨(⟨rfl, mf_113, tw_t886, tw_p28, rfl, by decide, 151, (r_121 (10, 3, .invokevirtual 151, .invokevirtual 113) (List.mem_of_getElem? (i := 25) rfl)), Or.inl tw_t884⟩ : sm_F 121 10 (.invokevirtual 113) 3),
  List.forall_mem_cons.mpr ⟨(⟨rfl, mf_106, tw_t857, tw_p21, rfl, by decide, 102, (r_121 (17, 3, .invokevirtual 102, .invokevirtual 106) (List.mem_of_getElem? (i := 26) rfl)), Or.inl tw_t855⟩ : sm_F 121 17 (.invokevirtual 106) 3),
  List.forall_mem_cons.mpr ⟨(⟨rfl, mf_112, tw_t882, tw_p27, rfl, by decide, 129, (r_121 (31, 3, .invokevirtual 129, .invokevirtual 112) (List.mem_of_getElem? (i := 27) rfl)), Or.inl tw_t880⟩ : sm_F 121 31 (.invokevirtual 112) 3),
  List.forall_mem_cons.mpr ⟨(Or.inr (Or.inr (Or.inr ⟨154, (r_121 (34, 2, .ldc 154, .iconst 65535) (List.mem_of_getElem? (i := 28) rfl)), rfl, tw_t946⟩)) : sm_F 121 34 (.iconst 65535) 2),
  List.forall_mem_cons.mpr ⟨(⟨rfl, mf_122, tw_t949, tw_p37, rfl, by decide, 155, (r_121 (39, 3, .invokevirtual 155, .invokevirtual 122) (List.mem_of_getElem? (i := 29) rfl)), Or.inl tw_t947⟩ : sm_F 121 39 (.invokevirtual 122) 3),
  List.forall_mem_cons.mpr ⟨(⟨rfl, mf_106, tw_t857, tw_p21, rfl, by decide, 102, (r_121 (51, 3, .invokevirtual 102, .invokevirtual 106) (List.mem_of_getElem? (i := 30) rfl)), Or.inl tw_t855⟩ : sm_F 121 51 (.invokevirtual 106) 3),
  fun _ h => absurd h List.not_mem_nil⟩⟩⟩⟩⟩⟩⟩
theorem f_121 : ∀ q ∈ cd_121, sm_F 121 q.1 q.2.2.2 q.2.1 := List.forall_mem_append.mpr ⟨fs_121, fl_121⟩
theorem r_122 : ∀ q ∈ cd_122, decode (mB 122) q.1 = .ok (q.2.2.1, q.2.1) := sm_all (by decide +kernel)
theorem fs_122 : ∀ q ∈ sp_122, sm_F 122 q.1 q.2.2.2 q.2.1 := sm_rsl (fun q h => r_122 q (List.mem_append_left _ h)) (by decide +kernel)
theorem fl_122 : ∀ q ∈ lk_122, sm_F 122 q.1 q.2.2.2 q.2.1 := List.forall_mem_cons.mpr ⟨(⟨rfl, mf_106, tw_t857, tw_p21, rfl, by decide, 102, (r_122 (21, 3, .invokevirtual 102, .invokevirtual 106) (List.mem_of_getElem? (i := 74) rfl)), Or.inl tw_t855⟩ : sm_F 122 21 (.invokevirtual 106) 3),
  List.forall_mem_cons.mpr ⟨(⟨rfl, mf_106, tw_t857, tw_p21, rfl, by decide, 102, (r_122 (49, 3, .invokevirtual 102, .invokevirtual 106) (List.mem_of_getElem? (i := 75) rfl)), Or.inl tw_t855⟩ : sm_F 122 49 (.invokevirtual 106) 3),
  List.forall_mem_cons.mpr ⟨(⟨rfl, mf_106, tw_t857, tw_p21, rfl, by decide, 102, (r_122 (69, 3, .invokevirtual 102, .invokevirtual 106) (List.mem_of_getElem? (i := 76) rfl)), Or.inl tw_t855⟩ : sm_F 122 69 (.invokevirtual 106) 3),
  List.forall_mem_cons.mpr ⟨(⟨rfl, mf_106, tw_t857, tw_p21, rfl, by decide, 102, (r_122 (74, 3, .invokevirtual 102, .invokevirtual 106) (List.mem_of_getElem? (i := 77) rfl)), Or.inl tw_t855⟩ : sm_F 122 74 (.invokevirtual 106) 3),
  List.forall_mem_cons.mpr ⟨(⟨rfl, mf_106, tw_t857, tw_p21, rfl, by decide, 102, (r_122 (94, 3, .invokevirtual 102, .invokevirtual 106) (List.mem_of_getElem? (i := 78) rfl)), Or.inl tw_t855⟩ : sm_F 122 94 (.invokevirtual 106) 3),
  List.forall_mem_cons.mpr ⟨(⟨rfl, mf_106, tw_t857, tw_p21, rfl, by decide, 102, (r_122 (103, 3, .invokevirtual 102, .invokevirtual 106) (List.mem_of_getElem? (i := 79) rfl)), Or.inl tw_t855⟩ : sm_F 122 103 (.invokevirtual 106) 3),
  List.forall_mem_cons.mpr ⟨(⟨rfl, mf_106, tw_t857, tw_p21, rfl, by decide, 102, (r_122 (109, 3, .invokevirtual 102, .invokevirtual 106) (List.mem_of_getElem? (i := 80) rfl)), Or.inl tw_t855⟩ : sm_F 122 109 (.invokevirtual 106) 3),
  List.forall_mem_cons.mpr ⟨(⟨rfl, mf_106, tw_t857, tw_p21, rfl, by decide, 102, (r_122 (151, 3, .invokevirtual 102, .invokevirtual 106) (List.mem_of_getElem? (i := 81) rfl)), Or.inl tw_t855⟩ : sm_F 122 151 (.invokevirtual 106) 3),
  fun _ h => absurd h List.not_mem_nil⟩⟩⟩⟩⟩⟩⟩⟩
theorem f_122 : ∀ q ∈ cd_122, sm_F 122 q.1 q.2.2.2 q.2.1 := List.forall_mem_append.mpr ⟨fs_122, fl_122⟩
theorem r_123 : ∀ q ∈ cd_123, decode (mB 123) q.1 = .ok (q.2.2.1, q.2.1) := sm_all (by decide +kernel)
theorem fs_123 : ∀ q ∈ sp_123, sm_F 123 q.1 q.2.2.2 q.2.1 := sm_rsl (fun q h => r_123 q (List.mem_append_left _ h)) (by decide +kernel)
theorem fl_123 : ∀ q ∈ lk_123, sm_F 123 q.1 q.2.2.2 q.2.1 := List.forall_mem_cons.mpr ⟨(⟨rfl, mf_112, tw_t882, tw_p27, rfl, by decide, 129, (r_123 (1, 3, .invokevirtual 129, .invokevirtual 112) (List.mem_of_getElem? (i := 35) rfl)), Or.inl tw_t880⟩ : sm_F 123 1 (.invokevirtual 112) 3),
  List.forall_mem_cons.mpr ⟨(Or.inr ⟨133, (r_123 (12, 3, .ldc2_w 133, .ldc2_w 2910021850055122944) (List.mem_of_getElem? (i := 36) rfl)), rfl, tw_t955⟩ : sm_F 123 12 (.ldc2_w 2910021850055122944) 3),
  List.forall_mem_cons.mpr ⟨(⟨rfl, mf_105, tw_t852, tw_p20, rfl, by decide, 112, (r_123 (15, 3, .invokevirtual 112, .invokevirtual 105) (List.mem_of_getElem? (i := 37) rfl)), Or.inl tw_t850⟩ : sm_F 123 15 (.invokevirtual 105) 3),
  List.forall_mem_cons.mpr ⟨(Or.inr ⟨135, (r_123 (25, 3, .ldc2_w 135, .ldc2_w 2914788211709716768) (List.mem_of_getElem? (i := 38) rfl)), rfl, tw_t956⟩ : sm_F 123 25 (.ldc2_w 2914788211709716768) 3),
  List.forall_mem_cons.mpr ⟨(⟨rfl, mf_105, tw_t852, tw_p20, rfl, by decide, 112, (r_123 (28, 3, .invokevirtual 112, .invokevirtual 105) (List.mem_of_getElem? (i := 39) rfl)), Or.inl tw_t850⟩ : sm_F 123 28 (.invokevirtual 105) 3),
  List.forall_mem_cons.mpr ⟨(Or.inr (Or.inr (Or.inr ⟨137, (r_123 (38, 2, .ldc 137, .iconst (-2147483648)) (List.mem_of_getElem? (i := 40) rfl)), rfl, tw_t957⟩)) : sm_F 123 38 (.iconst (-2147483648)) 2),
  List.forall_mem_cons.mpr ⟨(Or.inr ⟨138, (r_123 (44, 3, .ldc2_w 138, .ldc2_w 20669119496414578) (List.mem_of_getElem? (i := 41) rfl)), rfl, tw_t958⟩ : sm_F 123 44 (.ldc2_w 20669119496414578) 3),
  List.forall_mem_cons.mpr ⟨(⟨rfl, mf_117, tw_t920, tw_p32, rfl, by decide, 140, (r_123 (47, 3, .invokevirtual 140, .invokevirtual 117) (List.mem_of_getElem? (i := 42) rfl)), Or.inl tw_t918⟩ : sm_F 123 47 (.invokevirtual 117) 3),
  List.forall_mem_cons.mpr ⟨(⟨rfl, mf_118, tw_t926, tw_p33, rfl, by decide, 126, (r_123 (80, 3, .invokevirtual 126, .invokevirtual 118) (List.mem_of_getElem? (i := 43) rfl)), Or.inl tw_t924⟩ : sm_F 123 80 (.invokevirtual 118) 3),
  fun _ h => absurd h List.not_mem_nil⟩⟩⟩⟩⟩⟩⟩⟩⟩
theorem f_123 : ∀ q ∈ cd_123, sm_F 123 q.1 q.2.2.2 q.2.1 := List.forall_mem_append.mpr ⟨fs_123, fl_123⟩
theorem r_124 : ∀ q ∈ cd_124, decode (mB 124) q.1 = .ok (q.2.2.1, q.2.1) := sm_all (by decide +kernel)
theorem fs_124 : ∀ q ∈ sp_124, sm_F 124 q.1 q.2.2.2 q.2.1 := sm_rsl (fun q h => r_124 q (List.mem_append_left _ h)) (by decide +kernel)
theorem fl_124 : ∀ q ∈ lk_124, sm_F 124 q.1 q.2.2.2 q.2.1 := List.forall_mem_cons.mpr ⟨(Or.inr ⟨230, (r_124 (1, 3, .ldc2_w 230, .ldc2_w 107148485161588) (List.mem_of_getElem? (i := 6) rfl)), rfl, tw_t965⟩ : sm_F 124 1 (.ldc2_w 107148485161588) 3),
  List.forall_mem_cons.mpr ⟨(⟨rfl, mf_105, tw_t852, tw_p20, rfl, by decide, 112, (r_124 (4, 3, .invokevirtual 112, .invokevirtual 105) (List.mem_of_getElem? (i := 7) rfl)), Or.inl tw_t850⟩ : sm_F 124 4 (.invokevirtual 105) 3),
  List.forall_mem_cons.mpr ⟨(⟨rfl, mf_105, tw_t852, tw_p20, rfl, by decide, 112, (r_124 (9, 3, .invokevirtual 112, .invokevirtual 105) (List.mem_of_getElem? (i := 8) rfl)), Or.inl tw_t850⟩ : sm_F 124 9 (.invokevirtual 105) 3),
  List.forall_mem_cons.mpr ⟨(⟨rfl, mf_106, tw_t857, tw_p21, rfl, by decide, 102, (r_124 (15, 3, .invokevirtual 102, .invokevirtual 106) (List.mem_of_getElem? (i := 9) rfl)), Or.inl tw_t855⟩ : sm_F 124 15 (.invokevirtual 106) 3),
  fun _ h => absurd h List.not_mem_nil⟩⟩⟩⟩
theorem f_124 : ∀ q ∈ cd_124, sm_F 124 q.1 q.2.2.2 q.2.1 := List.forall_mem_append.mpr ⟨fs_124, fl_124⟩
theorem r_125 : ∀ q ∈ cd_125, decode (mB 125) q.1 = .ok (q.2.2.1, q.2.1) := sm_all (by decide +kernel)
theorem fs_125 : ∀ q ∈ sp_125, sm_F 125 q.1 q.2.2.2 q.2.1 := sm_rsl (fun q h => r_125 q (List.mem_append_left _ h)) (by decide +kernel)
theorem fl_125 : ∀ q ∈ lk_125, sm_F 125 q.1 q.2.2.2 q.2.1 := List.forall_mem_cons.mpr ⟨(⟨by decide, by decide, rfl, 67, (r_125 (4, 3, .getfield 67, .getfield 275) (List.mem_of_getElem? (i := 23) rfl)), Or.inl tw_t747⟩ : sm_F 125 4 (.getfield 275) 3),
  List.forall_mem_cons.mpr ⟨(⟨by decide, by decide, rfl, 64, (r_125 (21, 3, .getfield 64, .getfield 274) (List.mem_of_getElem? (i := 24) rfl)), Or.inl tw_t746⟩ : sm_F 125 21 (.getfield 274) 3),
  List.forall_mem_cons.mpr ⟨(⟨rfl, mf_106, tw_t857, tw_p21, rfl, by decide, 102, (r_125 (37, 3, .invokevirtual 102, .invokevirtual 106) (List.mem_of_getElem? (i := 25) rfl)), Or.inl tw_t855⟩ : sm_F 125 37 (.invokevirtual 106) 3),
  fun _ h => absurd h List.not_mem_nil⟩⟩⟩
theorem f_125 : ∀ q ∈ cd_125, sm_F 125 q.1 q.2.2.2 q.2.1 := List.forall_mem_append.mpr ⟨fs_125, fl_125⟩
theorem r_126 : ∀ q ∈ cd_126, decode (mB 126) q.1 = .ok (q.2.2.1, q.2.1) := sm_all (by decide +kernel)
theorem fs_126 : ∀ q ∈ sp_126, sm_F 126 q.1 q.2.2.2 q.2.1 := sm_rsl (fun q h => r_126 q (List.mem_append_left _ h)) (by decide +kernel)
theorem fl_126 : ∀ q ∈ lk_126, sm_F 126 q.1 q.2.2.2 q.2.1 := List.forall_mem_cons.mpr ⟨(⟨by decide, by decide, rfl, 19, (r_126 (2, 3, .getfield 19, .getfield 260) (List.mem_of_getElem? (i := 92) rfl)), Or.inl tw_t732⟩ : sm_F 126 2 (.getfield 260) 3),
  List.forall_mem_cons.mpr ⟨(⟨by decide, by decide, rfl, 13, (r_126 (6, 3, .getfield 13, .getfield 258) (List.mem_of_getElem? (i := 93) rfl)), Or.inl tw_t730⟩ : sm_F 126 6 (.getfield 258) 3),
  List.forall_mem_cons.mpr ⟨(⟨by decide, by decide, rfl, 19, (r_126 (13, 3, .getfield 19, .getfield 260) (List.mem_of_getElem? (i := 94) rfl)), Or.inl tw_t732⟩ : sm_F 126 13 (.getfield 260) 3),
  List.forall_mem_cons.mpr ⟨(⟨by decide, by decide, rfl, 13, (r_126 (20, 3, .getfield 13, .getfield 258) (List.mem_of_getElem? (i := 95) rfl)), Or.inl tw_t730⟩ : sm_F 126 20 (.getfield 258) 3),
  List.forall_mem_cons.mpr ⟨(⟨by decide, by decide, rfl, 22, (r_126 (23, 3, .putfield 22, .putfield 261) (List.mem_of_getElem? (i := 96) rfl)), Or.inl ⟨rfl, Or.inl tw_t733⟩⟩ : sm_F 126 23 (.putfield 261) 3),
  List.forall_mem_cons.mpr ⟨(⟨by decide, by decide, rfl, 67, (r_126 (27, 3, .getfield 67, .getfield 275) (List.mem_of_getElem? (i := 97) rfl)), Or.inl tw_t747⟩ : sm_F 126 27 (.getfield 275) 3),
  List.forall_mem_cons.mpr ⟨(⟨by decide, by decide, rfl, 16, (r_126 (49, 3, .getfield 16, .getfield 259) (List.mem_of_getElem? (i := 98) rfl)), Or.inl tw_t731⟩ : sm_F 126 49 (.getfield 259) 3),
  List.forall_mem_cons.mpr ⟨(⟨rfl, mf_127, tw_t982, tw_p42, rfl, by decide, 232, (r_126 (58, 3, .invokevirtual 232, .invokevirtual 127) (List.mem_of_getElem? (i := 99) rfl)), Or.inl tw_t980⟩ : sm_F 126 58 (.invokevirtual 127) 3),
  List.forall_mem_cons.mpr ⟨(⟨by decide, by decide, rfl, 51, (r_126 (82, 3, .getfield 51, .getfield 270) (List.mem_of_getElem? (i := 100) rfl)), Or.inl tw_t742⟩ : sm_F 126 82 (.getfield 270) 3),
  List.forall_mem_cons.mpr ⟨(⟨by decide, by decide, rfl, 16, (r_126 (86, 3, .getfield 16, .getfield 259) (List.mem_of_getElem? (i := 101) rfl)), Or.inl tw_t731⟩ : sm_F 126 86 (.getfield 259) 3),
  List.forall_mem_cons.mpr ⟨(⟨by decide, by decide, rfl, 51, (r_126 (110, 3, .getfield 51, .getfield 270) (List.mem_of_getElem? (i := 102) rfl)), Or.inl tw_t742⟩ : sm_F 126 110 (.getfield 270) 3),
  List.forall_mem_cons.mpr ⟨(⟨by decide, by decide, rfl, 16, (r_126 (114, 3, .getfield 16, .getfield 259) (List.mem_of_getElem? (i := 103) rfl)), Or.inl tw_t731⟩ : sm_F 126 114 (.getfield 259) 3),
  List.forall_mem_cons.mpr ⟨(⟨by decide, by decide, rfl, 64, (r_126 (127, 3, .getfield 64, .getfield 274) (List.mem_of_getElem? (i := 104) rfl)), Or.inl tw_t746⟩ : sm_F 126 127 (.getfield 274) 3),
  List.forall_mem_cons.mpr ⟨(⟨by decide, by decide, rfl, 57, (r_126 (152, 3, .getfield 57, .getfield 272) (List.mem_of_getElem? (i := 105) rfl)), Or.inl tw_t744⟩ : sm_F 126 152 (.getfield 272) 3),
  List.forall_mem_cons.mpr ⟨(⟨by decide, by decide, rfl, 16, (r_126 (156, 3, .getfield 16, .getfield 259) (List.mem_of_getElem? (i := 106) rfl)), Or.inl tw_t731⟩ : sm_F 126 156 (.getfield 259) 3),
  List.forall_mem_cons.mpr ⟨(⟨by decide, by decide, rfl, 60, (r_126 (162, 3, .getfield 60, .getfield 273) (List.mem_of_getElem? (i := 107) rfl)), Or.inl tw_t745⟩ : sm_F 126 162 (.getfield 273) 3),
  List.forall_mem_cons.mpr ⟨(⟨by decide, by decide, rfl, 16, (r_126 (166, 3, .getfield 16, .getfield 259) (List.mem_of_getElem? (i := 108) rfl)), Or.inl tw_t731⟩ : sm_F 126 166 (.getfield 259) 3),
  List.forall_mem_cons.mpr ⟨(⟨by decide, by decide, rfl, 16, (r_126 (173, 3, .getfield 16, .getfield 259) (List.mem_of_getElem? (i := 109) rfl)), Or.inl tw_t731⟩ : sm_F 126 173 (.getfield 259) 3),
  List.forall_mem_cons.mpr ⟨(⟨by decide, by decide, rfl, 16, (r_126 (178, 3, .putfield 16, .putfield 259) (List.mem_of_getElem? (i := 110) rfl)), Or.inl ⟨rfl, Or.inl tw_t731⟩⟩ : sm_F 126 178 (.putfield 259) 3),
  List.forall_mem_cons.mpr ⟨(⟨by decide, by decide, rfl, 16, (r_126 (182, 3, .getfield 16, .getfield 259) (List.mem_of_getElem? (i := 111) rfl)), Or.inl tw_t731⟩ : sm_F 126 182 (.getfield 259) 3),
  fun _ h => absurd h List.not_mem_nil⟩⟩⟩⟩⟩⟩⟩⟩⟩⟩⟩⟩⟩⟩⟩⟩⟩⟩⟩⟩
theorem f_126 : ∀ q ∈ cd_126, sm_F 126 q.1 q.2.2.2 q.2.1 := List.forall_mem_append.mpr ⟨fs_126, fl_126⟩
theorem r_127 : ∀ q ∈ cd_127, decode (mB 127) q.1 = .ok (q.2.2.1, q.2.1) := sm_all (by decide +kernel)
theorem fs_127 : ∀ q ∈ sp_127, sm_F 127 q.1 q.2.2.2 q.2.1 := sm_rsl (fun q h => r_127 q (List.mem_append_left _ h)) (by decide +kernel)
theorem fl_127 : ∀ q ∈ lk_127, sm_F 127 q.1 q.2.2.2 q.2.1 := List.forall_mem_cons.mpr ⟨(⟨by decide, by decide, rfl, 57, (r_127 (1, 3, .getfield 57, .getfield 272) (List.mem_of_getElem? (i := 27) rfl)), Or.inl tw_t744⟩ : sm_F 127 1 (.getfield 272) 3),
  List.forall_mem_cons.mpr ⟨(⟨rfl, mf_128, tw_t986, tw_p43, rfl, by decide, 236, (r_127 (22, 3, .invokevirtual 236, .invokevirtual 128) (List.mem_of_getElem? (i := 28) rfl)), Or.inl tw_t984⟩ : sm_F 127 22 (.invokevirtual 128) 3),
  List.forall_mem_cons.mpr ⟨(⟨by decide, by decide, rfl, 64, (r_127 (26, 3, .getfield 64, .getfield 274) (List.mem_of_getElem? (i := 29) rfl)), Or.inl tw_t746⟩ : sm_F 127 26 (.getfield 274) 3),
  fun _ h => absurd h List.not_mem_nil⟩⟩⟩
theorem f_127 : ∀ q ∈ cd_127, sm_F 127 q.1 q.2.2.2 q.2.1 := List.forall_mem_append.mpr ⟨fs_127, fl_127⟩
theorem r_128 : ∀ q ∈ cd_128, decode (mB 128) q.1 = .ok (q.2.2.1, q.2.1) := sm_all (by decide +kernel)
theorem fs_128 : ∀ q ∈ sp_128, sm_F 128 q.1 q.2.2.2 q.2.1 := sm_rsl (fun q h => r_128 q (List.mem_append_left _ h)) (by decide +kernel)
theorem fl_128 : ∀ q ∈ lk_128, sm_F 128 q.1 q.2.2.2 q.2.1 := List.forall_mem_cons.mpr ⟨(⟨by decide, by decide, rfl, 51, (r_128 (1, 3, .getfield 51, .getfield 270) (List.mem_of_getElem? (i := 18) rfl)), Or.inl tw_t742⟩ : sm_F 128 1 (.getfield 270) 3),
  fun _ h => absurd h List.not_mem_nil⟩
theorem f_128 : ∀ q ∈ cd_128, sm_F 128 q.1 q.2.2.2 q.2.1 := List.forall_mem_append.mpr ⟨fs_128, fl_128⟩
theorem r_129 : ∀ q ∈ cd_129, decode (mB 129) q.1 = .ok (q.2.2.1, q.2.1) := sm_all (by decide +kernel)
theorem fs_129 : ∀ q ∈ sp_129, sm_F 129 q.1 q.2.2.2 q.2.1 := sm_rsl (fun q h => r_129 q (List.mem_append_left _ h)) (by decide +kernel)
theorem fl_129 : ∀ q ∈ lk_129, sm_F 129 q.1 q.2.2.2 q.2.1 := List.forall_mem_cons.mpr ⟨(⟨rfl, mf_130, tw_t994, tw_p44, rfl, by decide, 269, (r_129 (1, 3, .invokevirtual 269, .invokevirtual 130) (List.mem_of_getElem? (i := 38) rfl)), Or.inl tw_t992⟩ : sm_F 129 1 (.invokevirtual 130) 3),
  List.forall_mem_cons.mpr ⟨(⟨by decide, by decide, rfl, 7, (r_129 (6, 3, .getfield 7, .getfield 257) (List.mem_of_getElem? (i := 39) rfl)), Or.inl tw_t729⟩ : sm_F 129 6 (.getfield 257) 3),
  List.forall_mem_cons.mpr ⟨(⟨by decide, by decide, rfl, 7, (r_129 (12, 3, .putfield 7, .putfield 257) (List.mem_of_getElem? (i := 40) rfl)), Or.inl ⟨rfl, Or.inl tw_t729⟩⟩ : sm_F 129 12 (.putfield 257) 3),
  List.forall_mem_cons.mpr ⟨(⟨by decide, by decide, rfl, 16, (r_129 (23, 3, .getfield 16, .getfield 259) (List.mem_of_getElem? (i := 41) rfl)), Or.inl tw_t731⟩ : sm_F 129 23 (.getfield 259) 3),
  List.forall_mem_cons.mpr ⟨(⟨rfl, mf_104, tw_t847, tw_p19, rfl, by decide, 240, (r_129 (35, 3, .invokevirtual 240, .invokevirtual 104) (List.mem_of_getElem? (i := 42) rfl)), Or.inl tw_t845⟩ : sm_F 129 35 (.invokevirtual 104) 3),
  List.forall_mem_cons.mpr ⟨(⟨by decide, by decide, rfl, 70, (r_129 (40, 3, .putfield 70, .putfield 276) (List.mem_of_getElem? (i := 43) rfl)), Or.inl ⟨rfl, Or.inl tw_t748⟩⟩ : sm_F 129 40 (.putfield 276) 3),
  List.forall_mem_cons.mpr ⟨(⟨by decide, by decide, rfl, 67, (r_129 (44, 3, .getfield 67, .getfield 275) (List.mem_of_getElem? (i := 44) rfl)), Or.inl tw_t747⟩ : sm_F 129 44 (.getfield 275) 3),
  List.forall_mem_cons.mpr ⟨(Or.inr ⟨273, (r_129 (51, 3, .ldc2_w 273, .ldc2_w 8390902236154830880) (List.mem_of_getElem? (i := 45) rfl)), rfl, tw_t996⟩ : sm_F 129 51 (.ldc2_w 8390902236154830880) 3),
  List.forall_mem_cons.mpr ⟨(⟨rfl, mf_105, tw_t852, tw_p20, rfl, by decide, 112, (r_129 (54, 3, .invokevirtual 112, .invokevirtual 105) (List.mem_of_getElem? (i := 46) rfl)), Or.inl tw_t850⟩ : sm_F 129 54 (.invokevirtual 105) 3),
  List.forall_mem_cons.mpr ⟨(Or.inr ⟨275, (r_129 (58, 3, .ldc2_w 275, .ldc2_w 8224) (List.mem_of_getElem? (i := 47) rfl)), rfl, tw_t997⟩ : sm_F 129 58 (.ldc2_w 8224) 3),
  List.forall_mem_cons.mpr ⟨(⟨rfl, mf_105, tw_t852, tw_p20, rfl, by decide, 112, (r_129 (61, 3, .invokevirtual 112, .invokevirtual 105) (List.mem_of_getElem? (i := 48) rfl)), Or.inl tw_t850⟩ : sm_F 129 61 (.invokevirtual 105) 3),
  List.forall_mem_cons.mpr ⟨(⟨rfl, mf_125, tw_t972, tw_p40, rfl, by decide, 258, (r_129 (66, 3, .invokevirtual 258, .invokevirtual 125) (List.mem_of_getElem? (i := 49) rfl)), Or.inl tw_t970⟩ : sm_F 129 66 (.invokevirtual 125) 3),
  List.forall_mem_cons.mpr ⟨(Or.inr ⟨277, (r_129 (70, 3, .ldc2_w 277, .ldc2_w 64914674688032) (List.mem_of_getElem? (i := 50) rfl)), rfl, tw_t998⟩ : sm_F 129 70 (.ldc2_w 64914674688032) 3),
  List.forall_mem_cons.mpr ⟨(⟨rfl, mf_105, tw_t852, tw_p20, rfl, by decide, 112, (r_129 (73, 3, .invokevirtual 112, .invokevirtual 105) (List.mem_of_getElem? (i := 51) rfl)), Or.inl tw_t850⟩ : sm_F 129 73 (.invokevirtual 105) 3),
  List.forall_mem_cons.mpr ⟨(Or.inr ⟨279, (r_129 (77, 3, .ldc2_w 279, .ldc2_w 112568566556706) (List.mem_of_getElem? (i := 52) rfl)), rfl, tw_t999⟩ : sm_F 129 77 (.ldc2_w 112568566556706) 3),
  List.forall_mem_cons.mpr ⟨(⟨rfl, mf_105, tw_t852, tw_p20, rfl, by decide, 112, (r_129 (80, 3, .invokevirtual 112, .invokevirtual 105) (List.mem_of_getElem? (i := 53) rfl)), Or.inl tw_t850⟩ : sm_F 129 80 (.invokevirtual 105) 3),
  List.forall_mem_cons.mpr ⟨(⟨rfl, mf_131, tw_t1002, tw_p45, rfl, by decide, 281, (r_129 (85, 3, .invokevirtual 281, .invokevirtual 131) (List.mem_of_getElem? (i := 54) rfl)), Or.inl tw_t1000⟩ : sm_F 129 85 (.invokevirtual 131) 3),
  List.forall_mem_cons.mpr ⟨(Or.inr ⟨284, (r_129 (89, 3, .ldc2_w 284, .ldc2_w 37560479546656) (List.mem_of_getElem? (i := 55) rfl)), rfl, tw_t1004⟩ : sm_F 129 89 (.ldc2_w 37560479546656) 3),
  List.forall_mem_cons.mpr ⟨(⟨rfl, mf_105, tw_t852, tw_p20, rfl, by decide, 112, (r_129 (92, 3, .invokevirtual 112, .invokevirtual 105) (List.mem_of_getElem? (i := 56) rfl)), Or.inl tw_t850⟩ : sm_F 129 92 (.invokevirtual 105) 3),
  List.forall_mem_cons.mpr ⟨(Or.inr ⟨286, (r_129 (96, 3, .ldc2_w 286, .ldc2_w 7161132852793321472) (List.mem_of_getElem? (i := 57) rfl)), rfl, tw_t1005⟩ : sm_F 129 96 (.ldc2_w 7161132852793321472) 3),
  List.forall_mem_cons.mpr ⟨(⟨rfl, mf_105, tw_t852, tw_p20, rfl, by decide, 112, (r_129 (99, 3, .invokevirtual 112, .invokevirtual 105) (List.mem_of_getElem? (i := 58) rfl)), Or.inl tw_t850⟩ : sm_F 129 99 (.invokevirtual 105) 3),
  List.forall_mem_cons.mpr ⟨(⟨rfl, mf_131, tw_t1002, tw_p45, rfl, by decide, 281, (r_129 (104, 3, .invokevirtual 281, .invokevirtual 131) (List.mem_of_getElem? (i := 59) rfl)), Or.inl tw_t1000⟩ : sm_F 129 104 (.invokevirtual 131) 3),
  List.forall_mem_cons.mpr ⟨(Or.inr ⟨288, (r_129 (108, 3, .ldc2_w 288, .ldc2_w 9118426567740029) (List.mem_of_getElem? (i := 60) rfl)), rfl, tw_t1006⟩ : sm_F 129 108 (.ldc2_w 9118426567740029) 3),
  List.forall_mem_cons.mpr ⟨(⟨rfl, mf_105, tw_t852, tw_p20, rfl, by decide, 112, (r_129 (111, 3, .invokevirtual 112, .invokevirtual 105) (List.mem_of_getElem? (i := 61) rfl)), Or.inl tw_t850⟩ : sm_F 129 111 (.invokevirtual 105) 3),
  List.forall_mem_cons.mpr ⟨(⟨rfl, mf_126, tw_t978, tw_p41, rfl, by decide, 265, (r_129 (116, 3, .invokevirtual 265, .invokevirtual 126) (List.mem_of_getElem? (i := 62) rfl)), Or.inl tw_t976⟩ : sm_F 129 116 (.invokevirtual 126) 3),
  fun _ h => absurd h List.not_mem_nil⟩⟩⟩⟩⟩⟩⟩⟩⟩⟩⟩⟩⟩⟩⟩⟩⟩⟩⟩⟩⟩⟩⟩⟩⟩
theorem f_129 : ∀ q ∈ cd_129, sm_F 129 q.1 q.2.2.2 q.2.1 := List.forall_mem_append.mpr ⟨fs_129, fl_129⟩
theorem r_130 : ∀ q ∈ cd_130, decode (mB 130) q.1 = .ok (q.2.2.1, q.2.1) := sm_all (by decide +kernel)
theorem fs_130 : ∀ q ∈ sp_130, sm_F 130 q.1 q.2.2.2 q.2.1 := sm_rsl (fun q h => r_130 q (List.mem_append_left _ h)) (by decide +kernel)
theorem fl_130 : ∀ q ∈ lk_130, sm_F 130 q.1 q.2.2.2 q.2.1 := List.forall_mem_cons.mpr ⟨(⟨by decide, by decide, rfl, 7, (r_130 (4, 3, .getfield 7, .getfield 257) (List.mem_of_getElem? (i := 35) rfl)), Or.inl tw_t729⟩ : sm_F 130 4 (.getfield 257) 3),
  List.forall_mem_cons.mpr ⟨(⟨by decide, by decide, rfl, 37, (r_130 (11, 3, .getfield 37, .getfield 266) (List.mem_of_getElem? (i := 36) rfl)), Or.inl tw_t738⟩ : sm_F 130 11 (.getfield 266) 3),
  List.forall_mem_cons.mpr ⟨(⟨by decide, by decide, rfl, 37, (r_130 (22, 3, .getfield 37, .getfield 266) (List.mem_of_getElem? (i := 37) rfl)), Or.inl tw_t738⟩ : sm_F 130 22 (.getfield 266) 3),
  List.forall_mem_cons.mpr ⟨(⟨by decide, by decide, rfl, 37, (r_130 (33, 3, .getfield 37, .getfield 266) (List.mem_of_getElem? (i := 38) rfl)), Or.inl tw_t738⟩ : sm_F 130 33 (.getfield 266) 3),
  List.forall_mem_cons.mpr ⟨(⟨by decide, by decide, rfl, 37, (r_130 (44, 3, .getfield 37, .getfield 266) (List.mem_of_getElem? (i := 39) rfl)), Or.inl tw_t738⟩ : sm_F 130 44 (.getfield 266) 3),
  List.forall_mem_cons.mpr ⟨(⟨by decide, by decide, rfl, 7, (r_130 (63, 3, .getfield 7, .getfield 257) (List.mem_of_getElem? (i := 40) rfl)), Or.inl tw_t729⟩ : sm_F 130 63 (.getfield 257) 3),
  fun _ h => absurd h List.not_mem_nil⟩⟩⟩⟩⟩⟩
theorem f_130 : ∀ q ∈ cd_130, sm_F 130 q.1 q.2.2.2 q.2.1 := List.forall_mem_append.mpr ⟨fs_130, fl_130⟩
theorem r_131 : ∀ q ∈ cd_131, decode (mB 131) q.1 = .ok (q.2.2.1, q.2.1) := sm_all (by decide +kernel)
theorem fs_131 : ∀ q ∈ sp_131, sm_F 131 q.1 q.2.2.2 q.2.1 := sm_rsl (fun q h => r_131 q (List.mem_append_left _ h)) (by decide +kernel)
theorem fl_131 : ∀ q ∈ lk_131, sm_F 131 q.1 q.2.2.2 q.2.1 := List.forall_mem_cons.mpr ⟨(⟨by decide, by decide, rfl, 37, (r_131 (9, 3, .getfield 37, .getfield 266) (List.mem_of_getElem? (i := 12) rfl)), Or.inl tw_t738⟩ : sm_F 131 9 (.getfield 266) 3),
  List.forall_mem_cons.mpr ⟨(⟨rfl, mf_106, tw_t857, tw_p21, rfl, by decide, 102, (r_131 (14, 3, .invokevirtual 102, .invokevirtual 106) (List.mem_of_getElem? (i := 13) rfl)), Or.inl tw_t855⟩ : sm_F 131 14 (.invokevirtual 106) 3),
  fun _ h => absurd h List.not_mem_nil⟩⟩
theorem f_131 : ∀ q ∈ cd_131, sm_F 131 q.1 q.2.2.2 q.2.1 := List.forall_mem_append.mpr ⟨fs_131, fl_131⟩
theorem r_132 : ∀ q ∈ cd_132, decode (mB 132) q.1 = .ok (q.2.2.1, q.2.1) := sm_all (by decide +kernel)
theorem fs_132 : ∀ q ∈ sp_132, sm_F 132 q.1 q.2.2.2 q.2.1 := sm_rsl (fun q h => r_132 q (List.mem_append_left _ h)) (by decide +kernel)
theorem fl_132 : ∀ q ∈ lk_132, sm_F 132 q.1 q.2.2.2 q.2.1 := List.forall_mem_cons.mpr ⟨(⟨by decide, by decide, rfl, 22, (r_132 (1, 3, .getfield 22, .getfield 261) (List.mem_of_getElem? (i := 6) rfl)), Or.inl tw_t733⟩ : sm_F 132 1 (.getfield 261) 3),
  List.forall_mem_cons.mpr ⟨(⟨by decide, by decide, rfl, 22, (r_132 (12, 3, .getfield 22, .getfield 261) (List.mem_of_getElem? (i := 7) rfl)), Or.inl tw_t733⟩ : sm_F 132 12 (.getfield 261) 3),
  fun _ h => absurd h List.not_mem_nil⟩⟩
theorem f_132 : ∀ q ∈ cd_132, sm_F 132 q.1 q.2.2.2 q.2.1 := List.forall_mem_append.mpr ⟨fs_132, fl_132⟩
theorem r_133 : ∀ q ∈ cd_133, decode (mB 133) q.1 = .ok (q.2.2.1, q.2.1) := sm_all (by decide +kernel)
theorem fs_133 : ∀ q ∈ sp_133, sm_F 133 q.1 q.2.2.2 q.2.1 := sm_rsl (fun q h => r_133 q (List.mem_append_left _ h)) (by decide +kernel)
theorem fl_133 : ∀ q ∈ lk_133, sm_F 133 q.1 q.2.2.2 q.2.1 := List.forall_mem_cons.mpr ⟨(⟨by decide, by decide, rfl, 16, (r_133 (1, 3, .getfield 16, .getfield 259) (List.mem_of_getElem? (i := 6) rfl)), Or.inl tw_t731⟩ : sm_F 133 1 (.getfield 259) 3),
  List.forall_mem_cons.mpr ⟨(⟨by decide, by decide, rfl, 16, (r_133 (7, 3, .putfield 16, .putfield 259) (List.mem_of_getElem? (i := 7) rfl)), Or.inl ⟨rfl, Or.inl tw_t731⟩⟩ : sm_F 133 7 (.putfield 259) 3),
  fun _ h => absurd h List.not_mem_nil⟩⟩
theorem f_133 : ∀ q ∈ cd_133, sm_F 133 q.1 q.2.2.2 q.2.1 := List.forall_mem_append.mpr ⟨fs_133, fl_133⟩
theorem r_134 : ∀ q ∈ cd_134, decode (mB 134) q.1 = .ok (q.2.2.1, q.2.1) := sm_all (by decide +kernel)
theorem fs_134 : ∀ q ∈ sp_134, sm_F 134 q.1 q.2.2.2 q.2.1 := sm_rsl (fun q h => r_134 q (List.mem_append_left _ h)) (by decide +kernel)
theorem fl_134 : ∀ q ∈ lk_134, sm_F 134 q.1 q.2.2.2 q.2.1 := List.forall_mem_cons.mpr ⟨(⟨by decide, by decide, rfl, 25, (r_134 (2, 3, .putfield 25, .putfield 262) (List.mem_of_getElem? (i := 61) rfl)), Or.inl ⟨rfl, Or.inl tw_t734⟩⟩ : sm_F 134 2 (.putfield 262) 3),
  List.forall_mem_cons.mpr ⟨(⟨by decide, by decide, rfl, 28, (r_134 (7, 3, .putfield 28, .putfield 263) (List.mem_of_getElem? (i := 62) rfl)), Or.inl ⟨rfl, Or.inl tw_t735⟩⟩ : sm_F 134 7 (.putfield 263) 3),
  List.forall_mem_cons.mpr ⟨(⟨by decide, by decide, rfl, 31, (r_134 (12, 3, .putfield 31, .putfield 264) (List.mem_of_getElem? (i := 63) rfl)), Or.inl ⟨rfl, Or.inl tw_t736⟩⟩ : sm_F 134 12 (.putfield 264) 3),
  List.forall_mem_cons.mpr ⟨(⟨by decide, by decide, rfl, 34, (r_134 (17, 3, .putfield 34, .putfield 265) (List.mem_of_getElem? (i := 64) rfl)), Or.inl ⟨rfl, Or.inl tw_t737⟩⟩ : sm_F 134 17 (.putfield 265) 3),
  List.forall_mem_cons.mpr ⟨(Or.inr ⟨311, (r_134 (21, 3, .ldc2_w 311, .ldc2_w 8103491322287169635) (List.mem_of_getElem? (i := 65) rfl)), rfl, tw_t1019⟩ : sm_F 134 21 (.ldc2_w 8103491322287169635) 3),
  List.forall_mem_cons.mpr ⟨(⟨rfl, mf_135, tw_t1022, tw_p46, rfl, by decide, 313, (r_134 (24, 3, .invokevirtual 313, .invokevirtual 135) (List.mem_of_getElem? (i := 66) rfl)), Or.inl tw_t1020⟩ : sm_F 134 24 (.invokevirtual 135) 3),
  List.forall_mem_cons.mpr ⟨(Or.inr ⟨316, (r_134 (28, 3, .ldc2_w 316, .ldc2_w 465491424032) (List.mem_of_getElem? (i := 67) rfl)), rfl, tw_t1032⟩ : sm_F 134 28 (.ldc2_w 465491424032) 3),
  List.forall_mem_cons.mpr ⟨(⟨rfl, mf_135, tw_t1022, tw_p46, rfl, by decide, 313, (r_134 (31, 3, .invokevirtual 313, .invokevirtual 135) (List.mem_of_getElem? (i := 68) rfl)), Or.inl tw_t1020⟩ : sm_F 134 31 (.invokevirtual 135) 3),
  List.forall_mem_cons.mpr ⟨(Or.inr ⟨318, (r_134 (35, 3, .ldc2_w 318, .ldc2_w 6080266760336200805) (List.mem_of_getElem? (i := 69) rfl)), rfl, tw_t1033⟩ : sm_F 134 35 (.ldc2_w 6080266760336200805) 3),
  List.forall_mem_cons.mpr ⟨(⟨rfl, mf_135, tw_t1022, tw_p46, rfl, by decide, 313, (r_134 (38, 3, .invokevirtual 313, .invokevirtual 135) (List.mem_of_getElem? (i := 70) rfl)), Or.inl tw_t1020⟩ : sm_F 134 38 (.invokevirtual 135) 3),
  List.forall_mem_cons.mpr ⟨(Or.inr ⟨320, (r_134 (42, 3, .ldc2_w 320, .ldc2_w 1936990331) (List.mem_of_getElem? (i := 71) rfl)), rfl, tw_t1034⟩ : sm_F 134 42 (.ldc2_w 1936990331) 3),
  List.forall_mem_cons.mpr ⟨(⟨rfl, mf_135, tw_t1022, tw_p46, rfl, by decide, 313, (r_134 (45, 3, .invokevirtual 313, .invokevirtual 135) (List.mem_of_getElem? (i := 72) rfl)), Or.inl tw_t1020⟩ : sm_F 134 45 (.invokevirtual 135) 3),
  List.forall_mem_cons.mpr ⟨(⟨rfl, mf_138, tw_t1037, tw_p49, rfl, by decide, 302, (r_134 (50, 3, .invokevirtual 302, .invokevirtual 138) (List.mem_of_getElem? (i := 73) rfl)), Or.inl tw_t1035⟩ : sm_F 134 50 (.invokevirtual 138) 3),
  List.forall_mem_cons.mpr ⟨(⟨by decide, by decide, rfl, 16, (r_134 (57, 3, .getfield 16, .getfield 259) (List.mem_of_getElem? (i := 74) rfl)), Or.inl tw_t731⟩ : sm_F 134 57 (.getfield 259) 3),
  List.forall_mem_cons.mpr ⟨(⟨by decide, by decide, rfl, 25, (r_134 (69, 3, .getfield 25, .getfield 262) (List.mem_of_getElem? (i := 75) rfl)), Or.inl tw_t734⟩ : sm_F 134 69 (.getfield 262) 3),
  List.forall_mem_cons.mpr ⟨(⟨rfl, mf_138, tw_t1037, tw_p49, rfl, by decide, 302, (r_134 (72, 3, .invokevirtual 302, .invokevirtual 138) (List.mem_of_getElem? (i := 76) rfl)), Or.inl tw_t1035⟩ : sm_F 134 72 (.invokevirtual 138) 3),
  List.forall_mem_cons.mpr ⟨(⟨by decide, by decide, rfl, 25, (r_134 (76, 3, .getfield 25, .getfield 262) (List.mem_of_getElem? (i := 77) rfl)), Or.inl tw_t734⟩ : sm_F 134 76 (.getfield 262) 3),
  List.forall_mem_cons.mpr ⟨(⟨rfl, mf_139, tw_t1041, tw_p50, rfl, by decide, 305, (r_134 (82, 3, .invokevirtual 305, .invokevirtual 139) (List.mem_of_getElem? (i := 78) rfl)), Or.inl tw_t1039⟩ : sm_F 134 82 (.invokevirtual 139) 3),
  List.forall_mem_cons.mpr ⟨(Or.inr ⟨322, (r_134 (86, 3, .ldc2_w 322, .ldc2_w 276293841780) (List.mem_of_getElem? (i := 79) rfl)), rfl, tw_t1043⟩ : sm_F 134 86 (.ldc2_w 276293841780) 3),
  List.forall_mem_cons.mpr ⟨(⟨rfl, mf_135, tw_t1022, tw_p46, rfl, by decide, 313, (r_134 (89, 3, .invokevirtual 313, .invokevirtual 135) (List.mem_of_getElem? (i := 80) rfl)), Or.inl tw_t1020⟩ : sm_F 134 89 (.invokevirtual 135) 3),
  List.forall_mem_cons.mpr ⟨(⟨rfl, mf_138, tw_t1037, tw_p49, rfl, by decide, 302, (r_134 (94, 3, .invokevirtual 302, .invokevirtual 138) (List.mem_of_getElem? (i := 81) rfl)), Or.inl tw_t1035⟩ : sm_F 134 94 (.invokevirtual 138) 3),
  List.forall_mem_cons.mpr ⟨(⟨by decide, by decide, rfl, 25, (r_134 (98, 3, .getfield 25, .getfield 262) (List.mem_of_getElem? (i := 82) rfl)), Or.inl tw_t734⟩ : sm_F 134 98 (.getfield 262) 3),
  List.forall_mem_cons.mpr ⟨(⟨rfl, mf_139, tw_t1041, tw_p50, rfl, by decide, 305, (r_134 (104, 3, .invokevirtual 305, .invokevirtual 139) (List.mem_of_getElem? (i := 83) rfl)), Or.inl tw_t1039⟩ : sm_F 134 104 (.invokevirtual 139) 3),
  List.forall_mem_cons.mpr ⟨(Or.inr ⟨324, (r_134 (108, 3, .ldc2_w 324, .ldc2_w 8103491322287169654) (List.mem_of_getElem? (i := 84) rfl)), rfl, tw_t1044⟩ : sm_F 134 108 (.ldc2_w 8103491322287169654) 3),
  List.forall_mem_cons.mpr ⟨(⟨rfl, mf_135, tw_t1022, tw_p46, rfl, by decide, 313, (r_134 (111, 3, .invokevirtual 313, .invokevirtual 135) (List.mem_of_getElem? (i := 85) rfl)), Or.inl tw_t1020⟩ : sm_F 134 111 (.invokevirtual 135) 3),
  List.forall_mem_cons.mpr ⟨(Or.inr ⟨326, (r_134 (115, 3, .ldc2_w 326, .ldc2_w 8028057901319156596) (List.mem_of_getElem? (i := 86) rfl)), rfl, tw_t1045⟩ : sm_F 134 115 (.ldc2_w 8028057901319156596) 3),
  List.forall_mem_cons.mpr ⟨(⟨rfl, mf_135, tw_t1022, tw_p46, rfl, by decide, 313, (r_134 (118, 3, .invokevirtual 313, .invokevirtual 135) (List.mem_of_getElem? (i := 87) rfl)), Or.inl tw_t1020⟩ : sm_F 134 118 (.invokevirtual 135) 3),
  List.forall_mem_cons.mpr ⟨(⟨rfl, mf_140, tw_t1048, tw_p51, rfl, by decide, 328, (r_134 (123, 3, .invokevirtual 328, .invokevirtual 140) (List.mem_of_getElem? (i := 88) rfl)), Or.inl tw_t1046⟩ : sm_F 134 123 (.invokevirtual 140) 3),
  List.forall_mem_cons.mpr ⟨(Or.inr ⟨331, (r_134 (127, 3, .ldc2_w 331, .ldc2_w 673783931) (List.mem_of_getElem? (i := 89) rfl)), rfl, tw_t1050⟩ : sm_F 134 127 (.ldc2_w 673783931) 3),
  List.forall_mem_cons.mpr ⟨(⟨rfl, mf_135, tw_t1022, tw_p46, rfl, by decide, 313, (r_134 (130, 3, .invokevirtual 313, .invokevirtual 135) (List.mem_of_getElem? (i := 90) rfl)), Or.inl tw_t1020⟩ : sm_F 134 130 (.invokevirtual 135) 3),
  List.forall_mem_cons.mpr ⟨(⟨rfl, mf_138, tw_t1037, tw_p49, rfl, by decide, 302, (r_134 (135, 3, .invokevirtual 302, .invokevirtual 138) (List.mem_of_getElem? (i := 91) rfl)), Or.inl tw_t1035⟩ : sm_F 134 135 (.invokevirtual 138) 3),
  List.forall_mem_cons.mpr ⟨(⟨rfl, mf_141, tw_t1053, tw_p52, rfl, by decide, 333, (r_134 (140, 3, .invokevirtual 333, .invokevirtual 141) (List.mem_of_getElem? (i := 92) rfl)), Or.inl tw_t1051⟩ : sm_F 134 140 (.invokevirtual 141) 3),
  List.forall_mem_cons.mpr ⟨(⟨by decide, by decide, rfl, 25, (r_134 (144, 3, .getfield 25, .getfield 262) (List.mem_of_getElem? (i := 93) rfl)), Or.inl tw_t734⟩ : sm_F 134 144 (.getfield 262) 3),
  List.forall_mem_cons.mpr ⟨(⟨rfl, mf_139, tw_t1041, tw_p50, rfl, by decide, 305, (r_134 (150, 3, .invokevirtual 305, .invokevirtual 139) (List.mem_of_getElem? (i := 94) rfl)), Or.inl tw_t1039⟩ : sm_F 134 150 (.invokevirtual 139) 3),
  List.forall_mem_cons.mpr ⟨(⟨rfl, mf_136, tw_t1026, tw_p47, rfl, by decide, 293, (r_134 (156, 3, .invokevirtual 293, .invokevirtual 136) (List.mem_of_getElem? (i := 95) rfl)), Or.inl tw_t1024⟩ : sm_F 134 156 (.invokevirtual 136) 3),
  List.forall_mem_cons.mpr ⟨(⟨rfl, mf_138, tw_t1037, tw_p49, rfl, by decide, 302, (r_134 (161, 3, .invokevirtual 302, .invokevirtual 138) (List.mem_of_getElem? (i := 96) rfl)), Or.inl tw_t1035⟩ : sm_F 134 161 (.invokevirtual 138) 3),
  List.forall_mem_cons.mpr ⟨(⟨by decide, by decide, rfl, 25, (r_134 (171, 3, .getfield 25, .getfield 262) (List.mem_of_getElem? (i := 97) rfl)), Or.inl tw_t734⟩ : sm_F 134 171 (.getfield 262) 3),
  List.forall_mem_cons.mpr ⟨(⟨rfl, mf_136, tw_t1026, tw_p47, rfl, by decide, 293, (r_134 (178, 3, .invokevirtual 293, .invokevirtual 136) (List.mem_of_getElem? (i := 98) rfl)), Or.inl tw_t1024⟩ : sm_F 134 178 (.invokevirtual 136) 3),
  List.forall_mem_cons.mpr ⟨(⟨rfl, mf_138, tw_t1037, tw_p49, rfl, by decide, 302, (r_134 (183, 3, .invokevirtual 302, .invokevirtual 138) (List.mem_of_getElem? (i := 99) rfl)), Or.inl tw_t1035⟩ : sm_F 134 183 (.invokevirtual 138) 3),
  List.forall_mem_cons.mpr ⟨(⟨by decide, by decide, rfl, 25, (r_134 (187, 3, .getfield 25, .getfield 262) (List.mem_of_getElem? (i := 100) rfl)), Or.inl tw_t734⟩ : sm_F 134 187 (.getfield 262) 3),
  fun _ h => absurd h List.not_mem_nil⟩⟩⟩⟩⟩⟩⟩⟩⟩⟩⟩⟩⟩⟩⟩⟩⟩⟩⟩⟩⟩⟩⟩⟩⟩⟩⟩⟩⟩⟩⟩⟩⟩⟩⟩⟩⟩⟩⟩⟩
theorem f_134 : ∀ q ∈ cd_134, sm_F 134 q.1 q.2.2.2 q.2.1 := List.forall_mem_append.mpr ⟨fs_134, fl_134⟩
theorem r_135 : ∀ q ∈ cd_135, decode (mB 135) q.1 = .ok (q.2.2.1, q.2.1) := sm_all (by decide +kernel)
theorem fs_135 : ∀ q ∈ sp_135, sm_F 135 q.1 q.2.2.2 q.2.1 := sm_rsl (fun q h => r_135 q (List.mem_append_left _ h)) (by decide +kernel)
theorem fl_135 : ∀ q ∈ lk_135, sm_F 135 q.1 q.2.2.2 q.2.1 := List.forall_mem_cons.mpr ⟨(Or.inr ⟨100, (r_135 (10, 3, .ldc2_w 100, .ldc2_w 255) (List.mem_of_getElem? (i := 20) rfl)), rfl, tw_t854⟩ : sm_F 135 10 (.ldc2_w 255) 3),
  List.forall_mem_cons.mpr ⟨(Or.inr ⟨100, (r_135 (23, 3, .ldc2_w 100, .ldc2_w 255) (List.mem_of_getElem? (i := 21) rfl)), rfl, tw_t854⟩ : sm_F 135 23 (.ldc2_w 255) 3),
  List.forall_mem_cons.mpr ⟨(⟨rfl, mf_136, tw_t1026, tw_p47, rfl, by decide, 293, (r_135 (28, 3, .invokevirtual 293, .invokevirtual 136) (List.mem_of_getElem? (i := 22) rfl)), Or.inl tw_t1024⟩ : sm_F 135 28 (.invokevirtual 136) 3),
  fun _ h => absurd h List.not_mem_nil⟩⟩⟩
theorem f_135 : ∀ q ∈ cd_135, sm_F 135 q.1 q.2.2.2 q.2.1 := List.forall_mem_append.mpr ⟨fs_135, fl_135⟩
theorem r_136 : ∀ q ∈ cd_136, decode (mB 136) q.1 = .ok (q.2.2.1, q.2.1) := sm_all (by decide +kernel)
theorem fs_136 : ∀ q ∈ sp_136, sm_F 136 q.1 q.2.2.2 q.2.1 := sm_rsl (fun q h => r_136 q (List.mem_append_left _ h)) (by decide +kernel)
theorem fl_136 : ∀ q ∈ lk_136, sm_F 136 q.1 q.2.2.2 q.2.1 := List.forall_mem_cons.mpr ⟨(⟨by decide, by decide, rfl, 25, (r_136 (2, 3, .getfield 25, .getfield 262) (List.mem_of_getElem? (i := 8) rfl)), Or.inl tw_t734⟩ : sm_F 136 2 (.getfield 262) 3),
  List.forall_mem_cons.mpr ⟨(⟨rfl, mf_137, tw_t1030, tw_p48, rfl, by decide, 290, (r_136 (6, 3, .invokevirtual 290, .invokevirtual 137) (List.mem_of_getElem? (i := 9) rfl)), Or.inl tw_t1028⟩ : sm_F 136 6 (.invokevirtual 137) 3),
  List.forall_mem_cons.mpr ⟨(⟨by decide, by decide, rfl, 25, (r_136 (11, 3, .getfield 25, .getfield 262) (List.mem_of_getElem? (i := 10) rfl)), Or.inl tw_t734⟩ : sm_F 136 11 (.getfield 262) 3),
  List.forall_mem_cons.mpr ⟨(⟨by decide, by decide, rfl, 25, (r_136 (16, 3, .putfield 25, .putfield 262) (List.mem_of_getElem? (i := 11) rfl)), Or.inl ⟨rfl, Or.inl tw_t734⟩⟩ : sm_F 136 16 (.putfield 262) 3),
  fun _ h => absurd h List.not_mem_nil⟩⟩⟩⟩
theorem f_136 : ∀ q ∈ cd_136, sm_F 136 q.1 q.2.2.2 q.2.1 := List.forall_mem_append.mpr ⟨fs_136, fl_136⟩
theorem r_137 : ∀ q ∈ cd_137, decode (mB 137) q.1 = .ok (q.2.2.1, q.2.1) := sm_all (by decide +kernel)
theorem fs_137 : ∀ q ∈ sp_137, sm_F 137 q.1 q.2.2.2 q.2.1 := sm_rsl (fun q h => r_137 q (List.mem_append_left _ h)) (by decide +kernel)
theorem fl_137 : ∀ q ∈ lk_137, sm_F 137 q.1 q.2.2.2 q.2.1 := List.forall_mem_cons.mpr ⟨(⟨by decide, by decide, rfl, 54, (r_137 (1, 3, .getfield 54, .getfield 271) (List.mem_of_getElem? (i := 29) rfl)), Or.inl tw_t743⟩ : sm_F 137 1 (.getfield 271) 3),
  List.forall_mem_cons.mpr ⟨(⟨by decide, by decide, rfl, 54, (r_137 (8, 3, .getfield 54, .getfield 271) (List.mem_of_getElem? (i := 30) rfl)), Or.inl tw_t743⟩ : sm_F 137 8 (.getfield 271) 3),
  fun _ h => absurd h List.not_mem_nil⟩⟩
theorem f_137 : ∀ q ∈ cd_137, sm_F 137 q.1 q.2.2.2 q.2.1 := List.forall_mem_append.mpr ⟨fs_137, fl_137⟩
theorem r_138 : ∀ q ∈ cd_138, decode (mB 138) q.1 = .ok (q.2.2.1, q.2.1) := sm_all (by decide +kernel)
theorem fs_138 : ∀ q ∈ sp_138, sm_F 138 q.1 q.2.2.2 q.2.1 := sm_rsl (fun q h => r_138 q (List.mem_append_left _ h)) (by decide +kernel)
theorem fl_138 : ∀ q ∈ lk_138, sm_F 138 q.1 q.2.2.2 q.2.1 := List.forall_mem_cons.mpr ⟨(⟨by decide, by decide, rfl, 25, (r_138 (1, 3, .getfield 25, .getfield 262) (List.mem_of_getElem? (i := 16) rfl)), Or.inl tw_t734⟩ : sm_F 138 1 (.getfield 262) 3),
  List.forall_mem_cons.mpr ⟨(⟨by decide, by decide, rfl, 31, (r_138 (7, 3, .getfield 31, .getfield 264) (List.mem_of_getElem? (i := 17) rfl)), Or.inl tw_t736⟩ : sm_F 138 7 (.getfield 264) 3),
  List.forall_mem_cons.mpr ⟨(⟨by decide, by decide, rfl, 25, (r_138 (15, 3, .getfield 25, .getfield 262) (List.mem_of_getElem? (i := 18) rfl)), Or.inl tw_t734⟩ : sm_F 138 15 (.getfield 262) 3),
  List.forall_mem_cons.mpr ⟨(⟨by decide, by decide, rfl, 31, (r_138 (20, 3, .putfield 31, .putfield 264) (List.mem_of_getElem? (i := 19) rfl)), Or.inl ⟨rfl, Or.inl tw_t736⟩⟩ : sm_F 138 20 (.putfield 264) 3),
  List.forall_mem_cons.mpr ⟨(⟨rfl, mf_136, tw_t1026, tw_p47, rfl, by decide, 293, (r_138 (26, 3, .invokevirtual 293, .invokevirtual 136) (List.mem_of_getElem? (i := 20) rfl)), Or.inl tw_t1024⟩ : sm_F 138 26 (.invokevirtual 136) 3),
  List.forall_mem_cons.mpr ⟨(⟨by decide, by decide, rfl, 28, (r_138 (31, 3, .getfield 28, .getfield 263) (List.mem_of_getElem? (i := 21) rfl)), Or.inl tw_t735⟩ : sm_F 138 31 (.getfield 263) 3),
  List.forall_mem_cons.mpr ⟨(⟨by decide, by decide, rfl, 28, (r_138 (36, 3, .putfield 28, .putfield 263) (List.mem_of_getElem? (i := 22) rfl)), Or.inl ⟨rfl, Or.inl tw_t735⟩⟩ : sm_F 138 36 (.putfield 263) 3),
  fun _ h => absurd h List.not_mem_nil⟩⟩⟩⟩⟩⟩⟩
theorem f_138 : ∀ q ∈ cd_138, sm_F 138 q.1 q.2.2.2 q.2.1 := List.forall_mem_append.mpr ⟨fs_138, fl_138⟩
theorem r_139 : ∀ q ∈ cd_139, decode (mB 139) q.1 = .ok (q.2.2.1, q.2.1) := sm_all (by decide +kernel)
theorem fs_139 : ∀ q ∈ sp_139, sm_F 139 q.1 q.2.2.2 q.2.1 := sm_rsl (fun q h => r_139 q (List.mem_append_left _ h)) (by decide +kernel)
theorem fl_139 : ∀ q ∈ lk_139, sm_F 139 q.1 q.2.2.2 q.2.1 := List.forall_mem_cons.mpr ⟨(⟨rfl, mf_136, tw_t1026, tw_p47, rfl, by decide, 293, (r_139 (10, 3, .invokevirtual 293, .invokevirtual 136) (List.mem_of_getElem? (i := 10) rfl)), Or.inl tw_t1024⟩ : sm_F 139 10 (.invokevirtual 136) 3),
  fun _ h => absurd h List.not_mem_nil⟩
theorem f_139 : ∀ q ∈ cd_139, sm_F 139 q.1 q.2.2.2 q.2.1 := List.forall_mem_append.mpr ⟨fs_139, fl_139⟩
theorem r_140 : ∀ q ∈ cd_140, decode (mB 140) q.1 = .ok (q.2.2.1, q.2.1) := sm_all (by decide +kernel)
theorem fs_140 : ∀ q ∈ sp_140, sm_F 140 q.1 q.2.2.2 q.2.1 := sm_rsl (fun q h => r_140 q (List.mem_append_left _ h)) (by decide +kernel)
theorem fl_140 : ∀ q ∈ lk_140, sm_F 140 q.1 q.2.2.2 q.2.1 := List.forall_mem_cons.mpr ⟨(⟨rfl, mf_136, tw_t1026, tw_p47, rfl, by decide, 293, (r_140 (14, 3, .invokevirtual 293, .invokevirtual 136) (List.mem_of_getElem? (i := 16) rfl)), Or.inl tw_t1024⟩ : sm_F 140 14 (.invokevirtual 136) 3),
  List.forall_mem_cons.mpr ⟨(⟨rfl, mf_136, tw_t1026, tw_p47, rfl, by decide, 293, (r_140 (25, 3, .invokevirtual 293, .invokevirtual 136) (List.mem_of_getElem? (i := 17) rfl)), Or.inl tw_t1024⟩ : sm_F 140 25 (.invokevirtual 136) 3),
  fun _ h => absurd h List.not_mem_nil⟩⟩
theorem f_140 : ∀ q ∈ cd_140, sm_F 140 q.1 q.2.2.2 q.2.1 := List.forall_mem_append.mpr ⟨fs_140, fl_140⟩
theorem r_141 : ∀ q ∈ cd_141, decode (mB 141) q.1 = .ok (q.2.2.1, q.2.1) := sm_all (by decide +kernel)
theorem fs_141 : ∀ q ∈ sp_141, sm_F 141 q.1 q.2.2.2 q.2.1 := sm_rsl (fun q h => r_141 q (List.mem_append_left _ h)) (by decide +kernel)
theorem fl_141 : ∀ q ∈ lk_141, sm_F 141 q.1 q.2.2.2 q.2.1 := List.forall_mem_cons.mpr ⟨(⟨by decide, by decide, rfl, 25, (r_141 (1, 3, .getfield 25, .getfield 262) (List.mem_of_getElem? (i := 32) rfl)), Or.inl tw_t734⟩ : sm_F 141 1 (.getfield 262) 3),
  List.forall_mem_cons.mpr ⟨(⟨rfl, mf_139, tw_t1041, tw_p50, rfl, by decide, 305, (r_141 (8, 3, .invokevirtual 305, .invokevirtual 139) (List.mem_of_getElem? (i := 33) rfl)), Or.inl tw_t1039⟩ : sm_F 141 8 (.invokevirtual 139) 3),
  List.forall_mem_cons.mpr ⟨(⟨by decide, by decide, rfl, 57, (r_141 (15, 3, .getfield 57, .getfield 272) (List.mem_of_getElem? (i := 34) rfl)), Or.inl tw_t744⟩ : sm_F 141 15 (.getfield 272) 3),
  List.forall_mem_cons.mpr ⟨(⟨rfl, mf_128, tw_t986, tw_p43, rfl, by decide, 236, (r_141 (26, 3, .invokevirtual 236, .invokevirtual 128) (List.mem_of_getElem? (i := 35) rfl)), Or.inl tw_t984⟩ : sm_F 141 26 (.invokevirtual 128) 3),
  List.forall_mem_cons.mpr ⟨(⟨rfl, mf_136, tw_t1026, tw_p47, rfl, by decide, 293, (r_141 (41, 3, .invokevirtual 293, .invokevirtual 136) (List.mem_of_getElem? (i := 36) rfl)), Or.inl tw_t1024⟩ : sm_F 141 41 (.invokevirtual 136) 3),
  List.forall_mem_cons.mpr ⟨(⟨rfl, mf_142, tw_t1057, tw_p53, rfl, by decide, 308, (r_141 (49, 3, .invokevirtual 308, .invokevirtual 142) (List.mem_of_getElem? (i := 37) rfl)), Or.inl tw_t1055⟩ : sm_F 141 49 (.invokevirtual 142) 3),
  List.forall_mem_cons.mpr ⟨(⟨by decide, by decide, rfl, 25, (r_141 (53, 3, .getfield 25, .getfield 262) (List.mem_of_getElem? (i := 38) rfl)), Or.inl tw_t734⟩ : sm_F 141 53 (.getfield 262) 3),
  List.forall_mem_cons.mpr ⟨(⟨rfl, mf_139, tw_t1041, tw_p50, rfl, by decide, 305, (r_141 (60, 3, .invokevirtual 305, .invokevirtual 139) (List.mem_of_getElem? (i := 39) rfl)), Or.inl tw_t1039⟩ : sm_F 141 60 (.invokevirtual 139) 3),
  List.forall_mem_cons.mpr ⟨(⟨rfl, mf_142, tw_t1057, tw_p53, rfl, by decide, 308, (r_141 (71, 3, .invokevirtual 308, .invokevirtual 142) (List.mem_of_getElem? (i := 40) rfl)), Or.inl tw_t1055⟩ : sm_F 141 71 (.invokevirtual 142) 3),
  fun _ h => absurd h List.not_mem_nil⟩⟩⟩⟩⟩⟩⟩⟩⟩
theorem f_141 : ∀ q ∈ cd_141, sm_F 141 q.1 q.2.2.2 q.2.1 := List.forall_mem_append.mpr ⟨fs_141, fl_141⟩
theorem r_142 : ∀ q ∈ cd_142, decode (mB 142) q.1 = .ok (q.2.2.1, q.2.1) := sm_all (by decide +kernel)
theorem fs_142 : ∀ q ∈ sp_142, sm_F 142 q.1 q.2.2.2 q.2.1 := sm_rsl (fun q h => r_142 q (List.mem_append_left _ h)) (by decide +kernel)
theorem fl_142 : ∀ q ∈ lk_142, sm_F 142 q.1 q.2.2.2 q.2.1 := List.forall_mem_cons.mpr ⟨(⟨rfl, mf_143, tw_t1061, tw_p54, rfl, by decide, 296, (r_142 (11, 3, .invokevirtual 296, .invokevirtual 143) (List.mem_of_getElem? (i := 122) rfl)), Or.inl tw_t1059⟩ : sm_F 142 11 (.invokevirtual 143) 3),
  List.forall_mem_cons.mpr ⟨(⟨by decide, by decide, rfl, 25, (r_142 (38, 3, .getfield 25, .getfield 262) (List.mem_of_getElem? (i := 123) rfl)), Or.inl tw_t734⟩ : sm_F 142 38 (.getfield 262) 3),
  List.forall_mem_cons.mpr ⟨(⟨by decide, by decide, rfl, 86, (r_142 (45, 3, .getfield 86, .getfield 256) (List.mem_of_getElem? (i := 124) rfl)), Or.inl tw_t728⟩ : sm_F 142 45 (.getfield 256) 3),
  List.forall_mem_cons.mpr ⟨(⟨rfl, mf_144, tw_t1065, tw_p55, rfl, by decide, 299, (r_142 (55, 3, .invokevirtual 299, .invokevirtual 144) (List.mem_of_getElem? (i := 125) rfl)), Or.inl tw_t1063⟩ : sm_F 142 55 (.invokevirtual 144) 3),
  List.forall_mem_cons.mpr ⟨(⟨by decide, by decide, rfl, 25, (r_142 (69, 3, .getfield 25, .getfield 262) (List.mem_of_getElem? (i := 126) rfl)), Or.inl tw_t734⟩ : sm_F 142 69 (.getfield 262) 3),
  List.forall_mem_cons.mpr ⟨(⟨rfl, mf_143, tw_t1061, tw_p54, rfl, by decide, 296, (r_142 (115, 3, .invokevirtual 296, .invokevirtual 143) (List.mem_of_getElem? (i := 127) rfl)), Or.inl tw_t1059⟩ : sm_F 142 115 (.invokevirtual 143) 3),
  List.forall_mem_cons.mpr ⟨(⟨rfl, mf_137, tw_t1030, tw_p48, rfl, by decide, 290, (r_142 (118, 3, .invokevirtual 290, .invokevirtual 137) (List.mem_of_getElem? (i := 128) rfl)), Or.inl tw_t1028⟩ : sm_F 142 118 (.invokevirtual 137) 3),
  List.forall_mem_cons.mpr ⟨(⟨rfl, mf_137, tw_t1030, tw_p48, rfl, by decide, 290, (r_142 (147, 3, .invokevirtual 290, .invokevirtual 137) (List.mem_of_getElem? (i := 129) rfl)), Or.inl tw_t1028⟩ : sm_F 142 147 (.invokevirtual 137) 3),
  List.forall_mem_cons.mpr ⟨(⟨rfl, mf_137, tw_t1030, tw_p48, rfl, by decide, 290, (r_142 (163, 3, .invokevirtual 290, .invokevirtual 137) (List.mem_of_getElem? (i := 130) rfl)), Or.inl tw_t1028⟩ : sm_F 142 163 (.invokevirtual 137) 3),
  List.forall_mem_cons.mpr ⟨(⟨by decide, by decide, rfl, 31, (r_142 (174, 3, .getfield 31, .getfield 264) (List.mem_of_getElem? (i := 131) rfl)), Or.inl tw_t736⟩ : sm_F 142 174 (.getfield 264) 3),
  List.forall_mem_cons.mpr ⟨(⟨by decide, by decide, rfl, 31, (r_142 (188, 3, .putfield 31, .putfield 264) (List.mem_of_getElem? (i := 132) rfl)), Or.inl ⟨rfl, Or.inl tw_t736⟩⟩ : sm_F 142 188 (.putfield 264) 3),
  List.forall_mem_cons.mpr ⟨(⟨by decide, by decide, rfl, 28, (r_142 (193, 3, .getfield 28, .getfield 263) (List.mem_of_getElem? (i := 133) rfl)), Or.inl tw_t735⟩ : sm_F 142 193 (.getfield 263) 3),
  List.forall_mem_cons.mpr ⟨(⟨by decide, by decide, rfl, 28, (r_142 (198, 3, .putfield 28, .putfield 263) (List.mem_of_getElem? (i := 134) rfl)), Or.inl ⟨rfl, Or.inl tw_t735⟩⟩ : sm_F 142 198 (.putfield 263) 3),
  List.forall_mem_cons.mpr ⟨(⟨by decide, by decide, rfl, 34, (r_142 (203, 3, .getfield 34, .getfield 265) (List.mem_of_getElem? (i := 135) rfl)), Or.inl tw_t737⟩ : sm_F 142 203 (.getfield 265) 3),
  List.forall_mem_cons.mpr ⟨(⟨by decide, by decide, rfl, 34, (r_142 (208, 3, .putfield 34, .putfield 265) (List.mem_of_getElem? (i := 136) rfl)), Or.inl ⟨rfl, Or.inl tw_t737⟩⟩ : sm_F 142 208 (.putfield 265) 3),
  List.forall_mem_cons.mpr ⟨(⟨by decide, by decide, rfl, 25, (r_142 (226, 3, .putfield 25, .putfield 262) (List.mem_of_getElem? (i := 137) rfl)), Or.inl ⟨rfl, Or.inl tw_t734⟩⟩ : sm_F 142 226 (.putfield 262) 3),
  List.forall_mem_cons.mpr ⟨(⟨rfl, mf_138, tw_t1037, tw_p49, rfl, by decide, 302, (r_142 (241, 3, .invokevirtual 302, .invokevirtual 138) (List.mem_of_getElem? (i := 138) rfl)), Or.inl tw_t1035⟩ : sm_F 142 241 (.invokevirtual 138) 3),
  fun _ h => absurd h List.not_mem_nil⟩⟩⟩⟩⟩⟩⟩⟩⟩⟩⟩⟩⟩⟩⟩⟩⟩
theorem f_142 : ∀ q ∈ cd_142, sm_F 142 q.1 q.2.2.2 q.2.1 := List.forall_mem_append.mpr ⟨fs_142, fl_142⟩
theorem r_143 : ∀ q ∈ cd_143, decode (mB 143) q.1 = .ok (q.2.2.1, q.2.1) := sm_all (by decide +kernel)
theorem fs_143 : ∀ q ∈ sp_143, sm_F 143 q.1 q.2.2.2 q.2.1 := sm_rsl (fun q h => r_143 q (List.mem_append_left _ h)) (by decide +kernel)
theorem fl_143 : ∀ q ∈ lk_143, sm_F 143 q.1 q.2.2.2 q.2.1 := List.forall_mem_cons.mpr ⟨(⟨by decide, by decide, rfl, 54, (r_143 (1, 3, .getfield 54, .getfield 271) (List.mem_of_getElem? (i := 14) rfl)), Or.inl tw_t743⟩ : sm_F 143 1 (.getfield 271) 3),
  fun _ h => absurd h List.not_mem_nil⟩
theorem f_143 : ∀ q ∈ cd_143, sm_F 143 q.1 q.2.2.2 q.2.1 := List.forall_mem_append.mpr ⟨fs_143, fl_143⟩
theorem r_144 : ∀ q ∈ cd_144, decode (mB 144) q.1 = .ok (q.2.2.1, q.2.1) := sm_all (by decide +kernel)
theorem fs_144 : ∀ q ∈ sp_144, sm_F 144 q.1 q.2.2.2 q.2.1 := sm_rsl (fun q h => r_144 q (List.mem_append_left _ h)) (by decide +kernel)
theorem fl_144 : ∀ q ∈ lk_144, sm_F 144 q.1 q.2.2.2 q.2.1 := List.forall_mem_cons.mpr ⟨(⟨by decide, by decide, rfl, 25, (r_144 (11, 3, .getfield 25, .getfield 262) (List.mem_of_getElem? (i := 66) rfl)), Or.inl tw_t734⟩ : sm_F 144 11 (.getfield 262) 3),
  List.forall_mem_cons.mpr ⟨(⟨rfl, mf_143, tw_t1061, tw_p54, rfl, by decide, 296, (r_144 (20, 3, .invokevirtual 296, .invokevirtual 143) (List.mem_of_getElem? (i := 67) rfl)), Or.inl tw_t1059⟩ : sm_F 144 20 (.invokevirtual 143) 3),
  List.forall_mem_cons.mpr ⟨(⟨by decide, by decide, rfl, 25, (r_144 (94, 3, .getfield 25, .getfield 262) (List.mem_of_getElem? (i := 68) rfl)), Or.inl tw_t734⟩ : sm_F 144 94 (.getfield 262) 3),
  List.forall_mem_cons.mpr ⟨(⟨rfl, mf_143, tw_t1061, tw_p54, rfl, by decide, 296, (r_144 (105, 3, .invokevirtual 296, .invokevirtual 143) (List.mem_of_getElem? (i := 69) rfl)), Or.inl tw_t1059⟩ : sm_F 144 105 (.invokevirtual 143) 3),
  List.forall_mem_cons.mpr ⟨(⟨by decide, by decide, rfl, 86, (r_144 (118, 3, .getfield 86, .getfield 256) (List.mem_of_getElem? (i := 70) rfl)), Or.inl tw_t728⟩ : sm_F 144 118 (.getfield 256) 3),
  fun _ h => absurd h List.not_mem_nil⟩⟩⟩⟩⟩
theorem f_144 : ∀ q ∈ cd_144, sm_F 144 q.1 q.2.2.2 q.2.1 := List.forall_mem_append.mpr ⟨fs_144, fl_144⟩
theorem r_145 : ∀ q ∈ cd_145, decode (mB 145) q.1 = .ok (q.2.2.1, q.2.1) := sm_all (by decide +kernel)
theorem fs_145 : ∀ q ∈ sp_145, sm_F 145 q.1 q.2.2.2 q.2.1 := sm_rsl (fun q h => r_145 q (List.mem_append_left _ h)) (by decide +kernel)
theorem fl_145 : ∀ q ∈ lk_145, sm_F 145 q.1 q.2.2.2 q.2.1 := List.forall_mem_cons.mpr ⟨(⟨by decide, by decide, rfl, 25, (r_145 (6, 3, .getfield 25, .getfield 262) (List.mem_of_getElem? (i := 10) rfl)), Or.inl tw_t734⟩ : sm_F 145 6 (.getfield 262) 3),
  List.forall_mem_cons.mpr ⟨(⟨rfl, mf_143, tw_t1061, tw_p54, rfl, by decide, 296, (r_145 (18, 3, .invokevirtual 296, .invokevirtual 143) (List.mem_of_getElem? (i := 11) rfl)), Or.inl tw_t1059⟩ : sm_F 145 18 (.invokevirtual 143) 3),
  fun _ h => absurd h List.not_mem_nil⟩⟩
theorem f_145 : ∀ q ∈ cd_145, sm_F 145 q.1 q.2.2.2 q.2.1 := List.forall_mem_append.mpr ⟨fs_145, fl_145⟩
theorem r_146 : ∀ q ∈ cd_146, decode (mB 146) q.1 = .ok (q.2.2.1, q.2.1) := sm_all (by decide +kernel)
theorem fs_146 : ∀ q ∈ sp_146, sm_F 146 q.1 q.2.2.2 q.2.1 := sm_rsl (fun q h => r_146 q (List.mem_append_left _ h)) (by decide +kernel)
theorem fl_146 : ∀ q ∈ lk_146, sm_F 146 q.1 q.2.2.2 q.2.1 := List.forall_mem_cons.mpr ⟨(⟨by decide, by decide, rfl, 28, (r_146 (6, 3, .getfield 28, .getfield 263) (List.mem_of_getElem? (i := 22) rfl)), Or.inl tw_t735⟩ : sm_F 146 6 (.getfield 263) 3),
  List.forall_mem_cons.mpr ⟨(⟨rfl, mf_143, tw_t1061, tw_p54, rfl, by decide, 296, (r_146 (24, 3, .invokevirtual 296, .invokevirtual 143) (List.mem_of_getElem? (i := 23) rfl)), Or.inl tw_t1059⟩ : sm_F 146 24 (.invokevirtual 143) 3),
  fun _ h => absurd h List.not_mem_nil⟩⟩
theorem f_146 : ∀ q ∈ cd_146, sm_F 146 q.1 q.2.2.2 q.2.1 := List.forall_mem_append.mpr ⟨fs_146, fl_146⟩
theorem r_147 : ∀ q ∈ cd_147, decode (mB 147) q.1 = .ok (q.2.2.1, q.2.1) := sm_all (by decide +kernel)
theorem fs_147 : ∀ q ∈ sp_147, sm_F 147 q.1 q.2.2.2 q.2.1 := sm_rsl (fun q h => r_147 q (List.mem_append_left _ h)) (by decide +kernel)
theorem fl_147 : ∀ q ∈ lk_147, sm_F 147 q.1 q.2.2.2 q.2.1 := List.forall_mem_cons.mpr ⟨(⟨by decide, by decide, rfl, 16, (r_147 (6, 3, .getfield 16, .getfield 259) (List.mem_of_getElem? (i := 55) rfl)), Or.inl tw_t731⟩ : sm_F 147 6 (.getfield 259) 3),
  List.forall_mem_cons.mpr ⟨(⟨by decide, by decide, rfl, 60, (r_147 (13, 3, .getfield 60, .getfield 273) (List.mem_of_getElem? (i := 56) rfl)), Or.inl tw_t745⟩ : sm_F 147 13 (.getfield 273) 3),
  List.forall_mem_cons.mpr ⟨(⟨by decide, by decide, rfl, 16, (r_147 (35, 3, .getfield 16, .getfield 259) (List.mem_of_getElem? (i := 57) rfl)), Or.inl tw_t731⟩ : sm_F 147 35 (.getfield 259) 3),
  List.forall_mem_cons.mpr ⟨(⟨by decide, by decide, rfl, 7, (r_147 (47, 3, .getfield 7, .getfield 257) (List.mem_of_getElem? (i := 58) rfl)), Or.inl tw_t729⟩ : sm_F 147 47 (.getfield 257) 3),
  List.forall_mem_cons.mpr ⟨(⟨by decide, by decide, rfl, 13, (r_147 (59, 3, .getfield 13, .getfield 258) (List.mem_of_getElem? (i := 59) rfl)), Or.inl tw_t730⟩ : sm_F 147 59 (.getfield 258) 3),
  List.forall_mem_cons.mpr ⟨(⟨by decide, by decide, rfl, 25, (r_147 (71, 3, .getfield 25, .getfield 262) (List.mem_of_getElem? (i := 60) rfl)), Or.inl tw_t734⟩ : sm_F 147 71 (.getfield 262) 3),
  List.forall_mem_cons.mpr ⟨(⟨by decide, by decide, rfl, 28, (r_147 (83, 3, .getfield 28, .getfield 263) (List.mem_of_getElem? (i := 61) rfl)), Or.inl tw_t735⟩ : sm_F 147 83 (.getfield 263) 3),
  List.forall_mem_cons.mpr ⟨(⟨by decide, by decide, rfl, 31, (r_147 (95, 3, .getfield 31, .getfield 264) (List.mem_of_getElem? (i := 62) rfl)), Or.inl tw_t736⟩ : sm_F 147 95 (.getfield 264) 3),
  List.forall_mem_cons.mpr ⟨(⟨by decide, by decide, rfl, 34, (r_147 (108, 3, .getfield 34, .getfield 265) (List.mem_of_getElem? (i := 63) rfl)), Or.inl tw_t737⟩ : sm_F 147 108 (.getfield 265) 3),
  fun _ h => absurd h List.not_mem_nil⟩⟩⟩⟩⟩⟩⟩⟩⟩
theorem f_147 : ∀ q ∈ cd_147, sm_F 147 q.1 q.2.2.2 q.2.1 := List.forall_mem_append.mpr ⟨fs_147, fl_147⟩
theorem r_148 : ∀ q ∈ cd_148, decode (mB 148) q.1 = .ok (q.2.2.1, q.2.1) := sm_all (by decide +kernel)
theorem fs_148 : ∀ q ∈ sp_148, sm_F 148 q.1 q.2.2.2 q.2.1 := sm_rsl (fun q h => r_148 q (List.mem_append_left _ h)) (by decide +kernel)
theorem fl_148 : ∀ q ∈ lk_148, sm_F 148 q.1 q.2.2.2 q.2.1 := List.forall_mem_cons.mpr ⟨(⟨by decide, by decide, rfl, 9, (r_148 (1, 3, .getfield 9, .getfield 288) (List.mem_of_getElem? (i := 5) rfl)), Or.inl tw_t1080⟩ : sm_F 148 1 (.getfield 288) 3),
  List.forall_mem_cons.mpr ⟨(⟨rfl, mf_149, tw_t247, tw_t248, rfl, by decide, 335, (r_148 (6, 3, .invokevirtual 335, .invokevirtual 149) (List.mem_of_getElem? (i := 6) rfl)), Or.inl tw_t246⟩ : sm_F 148 6 (.invokevirtual 149) 3),
  fun _ h => absurd h List.not_mem_nil⟩⟩
theorem f_148 : ∀ q ∈ cd_148, sm_F 148 q.1 q.2.2.2 q.2.1 := List.forall_mem_append.mpr ⟨fs_148, fl_148⟩
theorem r_149 : ∀ q ∈ cd_149, decode (mB 149) q.1 = .ok (q.2.2.1, q.2.1) := sm_all (by decide +kernel)
theorem fs_149 : ∀ q ∈ sp_149, sm_F 149 q.1 q.2.2.2 q.2.1 := sm_rsl (fun q h => r_149 q (List.mem_append_left _ h)) (by decide +kernel)
theorem fl_149 : ∀ q ∈ lk_149, sm_F 149 q.1 q.2.2.2 q.2.1 := List.forall_mem_cons.mpr ⟨(⟨38, (r_149 (0, 3, .getstatic 38, .getstatic 0) (List.mem_of_getElem? (i := 5) rfl)), rfl, by decide, tw_t240⟩ : sm_F 149 0 (.getstatic 0) 3),
  List.forall_mem_cons.mpr ⟨(⟨by decide, by decide, rfl, 15, (r_149 (7, 3, .getfield 15, .getfield 289) (List.mem_of_getElem? (i := 6) rfl)), Or.inl tw_t1079⟩ : sm_F 149 7 (.getfield 289) 3),
  fun _ h => absurd h List.not_mem_nil⟩⟩
theorem f_149 : ∀ q ∈ cd_149, sm_F 149 q.1 q.2.2.2 q.2.1 := List.forall_mem_append.mpr ⟨fs_149, fl_149⟩
theorem r_150 : ∀ q ∈ cd_150, decode (mB 150) q.1 = .ok (q.2.2.1, q.2.1) := sm_all (by decide +kernel)
theorem fs_150 : ∀ q ∈ sp_150, sm_F 150 q.1 q.2.2.2 q.2.1 := sm_rsl (fun q h => r_150 q (List.mem_append_left _ h)) (by decide +kernel)
theorem fl_150 : ∀ q ∈ lk_150, sm_F 150 q.1 q.2.2.2 q.2.1 := List.forall_mem_cons.mpr ⟨(⟨rfl, mf_151, tw_t237, tw_t238, rfl, by decide, 492, (r_150 (1, 3, .invokevirtual 492, .invokevirtual 151) (List.mem_of_getElem? (i := 8) rfl)), Or.inl tw_t236⟩ : sm_F 150 1 (.invokevirtual 151) 3),
  List.forall_mem_cons.mpr ⟨(⟨by decide, by decide, rfl, 9, (r_150 (8, 3, .getfield 9, .getfield 288) (List.mem_of_getElem? (i := 9) rfl)), Or.inl tw_t1080⟩ : sm_F 150 8 (.getfield 288) 3),
  List.forall_mem_cons.mpr ⟨(⟨rfl, mf_155, tw_t349, 495, (r_150 (12, 3, .invokestatic 495, .invokestatic 155) (List.mem_of_getElem? (i := 10) rfl)), Or.inl tw_t348⟩ : sm_F 150 12 (.invokestatic 155) 3),
  List.forall_mem_cons.mpr ⟨(⟨by decide, by decide, rfl, 9, (r_150 (17, 3, .getfield 9, .getfield 288) (List.mem_of_getElem? (i := 11) rfl)), Or.inl tw_t1080⟩ : sm_F 150 17 (.getfield 288) 3),
  fun _ h => absurd h List.not_mem_nil⟩⟩⟩⟩
theorem f_150 : ∀ q ∈ cd_150, sm_F 150 q.1 q.2.2.2 q.2.1 := List.forall_mem_append.mpr ⟨fs_150, fl_150⟩
theorem r_151 : ∀ q ∈ cd_151, decode (mB 151) q.1 = .ok (q.2.2.1, q.2.1) := sm_all (by decide +kernel)
theorem fs_151 : ∀ q ∈ sp_151, sm_F 151 q.1 q.2.2.2 q.2.1 := sm_rsl (fun q h => r_151 q (List.mem_append_left _ h)) (by decide +kernel)
theorem fl_151 : ∀ q ∈ lk_151, sm_F 151 q.1 q.2.2.2 q.2.1 := List.forall_mem_cons.mpr ⟨(⟨38, (r_151 (0, 3, .getstatic 38, .getstatic 0) (List.mem_of_getElem? (i := 7) rfl)), rfl, by decide, tw_t240⟩ : sm_F 151 0 (.getstatic 0) 3),
  List.forall_mem_cons.mpr ⟨(⟨by decide, by decide, rfl, 15, (r_151 (7, 3, .getfield 15, .getfield 289) (List.mem_of_getElem? (i := 8) rfl)), Or.inl tw_t1079⟩ : sm_F 151 7 (.getfield 289) 3),
  fun _ h => absurd h List.not_mem_nil⟩⟩
theorem f_151 : ∀ q ∈ cd_151, sm_F 151 q.1 q.2.2.2 q.2.1 := List.forall_mem_append.mpr ⟨fs_151, fl_151⟩
theorem r_152 : ∀ q ∈ cd_152, decode (mB 152) q.1 = .ok (q.2.2.1, q.2.1) := sm_all (by decide +kernel)
theorem fs_152 : ∀ q ∈ sp_152, sm_F 152 q.1 q.2.2.2 q.2.1 := sm_rsl (fun q h => r_152 q (List.mem_append_left _ h)) (by decide +kernel)
theorem fl_152 : ∀ q ∈ lk_152, sm_F 152 q.1 q.2.2.2 q.2.1 := List.forall_mem_cons.mpr ⟨(⟨rfl, mf_153, tw_t233, tw_t234, rfl, by decide, 633, (r_152 (3, 3, .invokevirtual 633, .invokevirtual 153) (List.mem_of_getElem? (i := 4) rfl)), Or.inl tw_t232⟩ : sm_F 152 3 (.invokevirtual 153) 3),
  fun _ h => absurd h List.not_mem_nil⟩
theorem f_152 : ∀ q ∈ cd_152, sm_F 152 q.1 q.2.2.2 q.2.1 := List.forall_mem_append.mpr ⟨fs_152, fl_152⟩
theorem r_153 : ∀ q ∈ cd_153, decode (mB 153) q.1 = .ok (q.2.2.1, q.2.1) := sm_all (by decide +kernel)
theorem fs_153 : ∀ q ∈ sp_153, sm_F 153 q.1 q.2.2.2 q.2.1 := sm_rsl (fun q h => r_153 q (List.mem_append_left _ h)) (by decide +kernel)
theorem fl_153 : ∀ q ∈ lk_153, sm_F 153 q.1 q.2.2.2 q.2.1 := List.forall_mem_cons.mpr ⟨(⟨rfl, mf_151, tw_t237, tw_t238, rfl, by decide, 492, (r_153 (1, 3, .invokevirtual 492, .invokevirtual 151) (List.mem_of_getElem? (i := 12) rfl)), Or.inl tw_t236⟩ : sm_F 153 1 (.invokevirtual 151) 3),
  List.forall_mem_cons.mpr ⟨(⟨by decide, by decide, rfl, 9, (r_153 (8, 3, .getfield 9, .getfield 288) (List.mem_of_getElem? (i := 13) rfl)), Or.inl tw_t1080⟩ : sm_F 153 8 (.getfield 288) 3),
  List.forall_mem_cons.mpr ⟨(⟨rfl, mf_148, tw_t243, tw_t244, rfl, by decide, 505, (r_153 (14, 3, .invokevirtual 505, .invokevirtual 148) (List.mem_of_getElem? (i := 14) rfl)), Or.inl tw_t242⟩ : sm_F 153 14 (.invokevirtual 148) 3),
  List.forall_mem_cons.mpr ⟨(⟨rfl, mf_156, tw_t251, 637, (r_153 (17, 3, .invokestatic 637, .invokestatic 156) (List.mem_of_getElem? (i := 15) rfl)), Or.inl tw_t250⟩ : sm_F 153 17 (.invokestatic 156) 3),
  List.forall_mem_cons.mpr ⟨(⟨by decide, by decide, rfl, 9, (r_153 (24, 3, .getfield 9, .getfield 288) (List.mem_of_getElem? (i := 16) rfl)), Or.inl tw_t1080⟩ : sm_F 153 24 (.getfield 288) 3),
  List.forall_mem_cons.mpr ⟨(⟨rfl, mf_148, tw_t243, tw_t244, rfl, by decide, 505, (r_153 (30, 3, .invokevirtual 505, .invokevirtual 148) (List.mem_of_getElem? (i := 17) rfl)), Or.inl tw_t242⟩ : sm_F 153 30 (.invokevirtual 148) 3),
  fun _ h => absurd h List.not_mem_nil⟩⟩⟩⟩⟩⟩
theorem f_153 : ∀ q ∈ cd_153, sm_F 153 q.1 q.2.2.2 q.2.1 := List.forall_mem_append.mpr ⟨fs_153, fl_153⟩
theorem r_154 : ∀ q ∈ cd_154, decode (mB 154) q.1 = .ok (q.2.2.1, q.2.1) := sm_all (by decide +kernel)
theorem fs_154 : ∀ q ∈ sp_154, sm_F 154 q.1 q.2.2.2 q.2.1 := sm_rsl (fun q h => r_154 q (List.mem_append_left _ h)) (by decide +kernel)
theorem fl_154 : ∀ q ∈ lk_154, sm_F 154 q.1 q.2.2.2 q.2.1 := List.forall_mem_cons.mpr ⟨(⟨rfl, 1053, (r_154 (2, 3, .getstatic 1053, .nop) (List.mem_of_getElem? (i := 4) rfl)), tw_t279⟩ : sm_F 154 2 .nop 3),
  List.forall_mem_cons.mpr ⟨(⟨rfl, mf_159, tw_t355, 1059, (r_154 (5, 3, .invokestatic 1059, .invokestatic 159) (List.mem_of_getElem? (i := 5) rfl)), Or.inl tw_t354⟩ : sm_F 154 5 (.invokestatic 159) 3),
  fun _ h => absurd h List.not_mem_nil⟩⟩
theorem f_154 : ∀ q ∈ cd_154, sm_F 154 q.1 q.2.2.2 q.2.1 := List.forall_mem_append.mpr ⟨fs_154, fl_154⟩
theorem r_155 : ∀ q ∈ cd_155, decode (mB 155) q.1 = .ok (q.2.2.1, q.2.1) := sm_all (by decide +kernel)
theorem fs_155 : ∀ q ∈ sp_155, sm_F 155 q.1 q.2.2.2 q.2.1 := sm_rsl (fun q h => r_155 q (List.mem_append_left _ h)) (by decide +kernel)
theorem fl_155 : ∀ q ∈ lk_155, sm_F 155 q.1 q.2.2.2 q.2.1 := List.forall_mem_cons.mpr ⟨(⟨rfl, mf_154, tw_t352, 9, (r_155 (3, 3, .invokestatic 9, .invokestatic 154) (List.mem_of_getElem? (i := 10) rfl)), Or.inl tw_t351⟩ : sm_F 155 3 (.invokestatic 154) 3),
  fun _ h => absurd h List.not_mem_nil⟩
theorem f_155 : ∀ q ∈ cd_155, sm_F 155 q.1 q.2.2.2 q.2.1 := List.forall_mem_append.mpr ⟨fs_155, fl_155⟩
theorem r_156 : ∀ q ∈ cd_156, decode (mB 156) q.1 = .ok (q.2.2.1, q.2.1) := sm_all (by decide +kernel)
theorem fs_156 : ∀ q ∈ sp_156, sm_F 156 q.1 q.2.2.2 q.2.1 := sm_rsl (fun q h => r_156 q (List.mem_append_left _ h)) (by decide +kernel)
theorem fl_156 : ∀ q ∈ lk_156, sm_F 156 q.1 q.2.2.2 q.2.1 := List.forall_mem_cons.mpr ⟨(⟨rfl, mf_157, tw_t254, 88, (r_156 (1, 3, .invokestatic 88, .invokestatic 157) (List.mem_of_getElem? (i := 21) rfl)), Or.inl tw_t253⟩ : sm_F 156 1 (.invokestatic 157) 3),
  List.forall_mem_cons.mpr ⟨(⟨rfl, 92, (r_156 (11, 3, .invokestatic 92, .dadd) (List.mem_of_getElem? (i := 22) rfl)), tw_t256, tw_t127, tw_t9, tw_t128⟩ : sm_F 156 11 .dadd 3),
  List.forall_mem_cons.mpr ⟨(⟨rfl, 38, (r_156 (18, 3, .invokestatic 38, .dsub) (List.mem_of_getElem? (i := 23) rfl)), tw_t257, tw_t124, tw_t9, tw_t125⟩ : sm_F 156 18 .dsub 3),
  List.forall_mem_cons.mpr ⟨(⟨rfl, mf_158, tw_t259, 95, (r_156 (33, 3, .invokestatic 95, .invokestatic 158) (List.mem_of_getElem? (i := 24) rfl)), Or.inl tw_t258⟩ : sm_F 156 33 (.invokestatic 158) 3),
  fun _ h => absurd h List.not_mem_nil⟩⟩⟩⟩
theorem f_156 : ∀ q ∈ cd_156, sm_F 156 q.1 q.2.2.2 q.2.1 := List.forall_mem_append.mpr ⟨fs_156, fl_156⟩
theorem r_157 : ∀ q ∈ cd_157, decode (mB 157) q.1 = .ok (q.2.2.1, q.2.1) := sm_all (by decide +kernel)
theorem fs_157 : ∀ q ∈ sp_157, sm_F 157 q.1 q.2.2.2 q.2.1 := sm_rsl (fun q h => r_157 q (List.mem_append_left _ h)) (by decide +kernel)
theorem fl_157 : ∀ q ∈ lk_157, sm_F 157 q.1 q.2.2.2 q.2.1 := fun _ h => absurd h List.not_mem_nil
theorem f_157 : ∀ q ∈ cd_157, sm_F 157 q.1 q.2.2.2 q.2.1 := List.forall_mem_append.mpr ⟨fs_157, fl_157⟩
theorem r_158 : ∀ q ∈ cd_158, decode (mB 158) q.1 = .ok (q.2.2.1, q.2.1) := sm_all (by decide +kernel)
theorem fs_158 : ∀ q ∈ sp_158, sm_F 158 q.1 q.2.2.2 q.2.1 := sm_rsl (fun q h => r_158 q (List.mem_append_left _ h)) (by decide +kernel)
theorem fl_158 : ∀ q ∈ lk_158, sm_F 158 q.1 q.2.2.2 q.2.1 := fun _ h => absurd h List.not_mem_nil
theorem f_158 : ∀ q ∈ cd_158, sm_F 158 q.1 q.2.2.2 q.2.1 := List.forall_mem_append.mpr ⟨fs_158, fl_158⟩
theorem r_159 : ∀ q ∈ cd_159, decode (mB 159) q.1 = .ok (q.2.2.1, q.2.1) := sm_all (by decide +kernel)
theorem fs_159 : ∀ q ∈ sp_159, sm_F 159 q.1 q.2.2.2 q.2.1 := sm_rsl (fun q h => r_159 q (List.mem_append_left _ h)) (by decide +kernel)
theorem fl_159 : ∀ q ∈ lk_159, sm_F 159 q.1 q.2.2.2 q.2.1 := fun _ h => absurd h List.not_mem_nil
theorem f_159 : ∀ q ∈ cd_159, sm_F 159 q.1 q.2.2.2 q.2.1 := List.forall_mem_append.mpr ⟨fs_159, fl_159⟩
