theorem jw_sub : ∀ c ∈ jwc, ∀ w ∈ c, w ∈ wsL_law := by
  intro c hc w hw
  rw [wsL_eq]
  exact List.mem_append_left _ (List.mem_flatten.mpr ⟨c, hc, hw⟩)
theorem jw_mem {p : Nat} {w : Jvm.Cond} (h : jw p = some w) : w ∈ wsL_law := by
  unfold jw at h
  have h1 := List.mem_of_getElem? h
  rw [List.getD_eq_getElem?_getD] at h1
  cases hc : jwc[p / 64]? with
  | none => rw [hc] at h1; cases h1
  | some c =>
    rw [hc] at h1
    exact jw_sub c (List.mem_of_getElem? hc) w h1
def jfP (q : Nat × Nat × Nat × Nat) : Prop := Jvm.Cond.fieldLink (jcn q.1) q.2.1 (jcn q.2.2.1) (jT_ q.2.2.1 q.2.2.2).2.1 (jT_ q.2.2.1 q.2.2.2).2.2.1 ∈ wsL_law ∧ (jT_ q.2.2.1 q.2.2.2).1 = jcn q.2.2.1
def jmP (q : Nat × Nat × Nat) : Prop := Jvm.Cond.methodLink (jcn q.1) q.2.1 (jmt q.2.2).1 ∈ wsL_law
def jnN (k : Nat) : MethodName := if k = 4 then Lib.Math.max.name else if k = 5 then Lib.Math.min.name else arraycopyName
def jnP (q : Nat × Nat × Nat) : Prop := Jvm.Cond.methodLink (jcn q.1) q.2.1 (jnN q.2.2) ∈ wsL_law
/-- of method z: its class, its words -/
def jhP (z : Nat) : Prop := (jmt z).1.cls = jcn (jh z).2.2 ∧ Jvm.Cond.code (jmt z).1 (jmt z).2.1 (jmt z).2.2.1 (jmt z).2.2.2.1 ∈ wsL_law ∧ Jvm.Cond.initialized (jmt z).1.cls ∈ wsL_law ∧ (bif (jh z).2.1 == 1 then Jvm.Cond.static (jmt z).1 ∈ wsL_law else Jvm.Cond.instanceMethod (jmt z).1 ∈ wsL_law ∧ Jvm.Cond.selects (jmt z).1.cls (jmt z).1 (jmt z).1 ∈ wsL_law) ∧
  (parseMethodDescriptor (jmt z).1.desc).map (fun d => d.parameters.length) = some (jh z).1 ∧ Nat.ble (jmt z).2.2.1 40 = true
theorem jf_0 : jfP (9, 42, 9, 0) := ⟨jw_mem (p := 71) rfl, rfl⟩
theorem jf_1 : jfP (9, 110, 3, 0) := ⟨jw_mem (p := 524) rfl, rfl⟩
theorem jf_2 : jfP (9, 113, 3, 1) := ⟨jw_mem (p := 525) rfl, rfl⟩
theorem jf_3 : jfP (9, 121, 3, 2) := ⟨jw_mem (p := 656) rfl, rfl⟩
theorem jf_4 : jfP (9, 132, 3, 3) := ⟨jw_mem (p := 772) rfl, rfl⟩
theorem jf_5 : jfP (9, 9, 9, 8) := ⟨jw_mem (p := 12) rfl, rfl⟩
theorem jf_6 : jfP (9, 46, 9, 1) := ⟨jw_mem (p := 72) rfl, rfl⟩
theorem jf_7 : jfP (9, 149, 4, 0) := ⟨jw_mem (p := 916) rfl, rfl⟩
theorem jf_8 : jfP (9, 155, 4, 3) := ⟨jw_mem (p := 917) rfl, rfl⟩
theorem jf_9 : jfP (9, 158, 4, 2) := ⟨jw_mem (p := 973) rfl, rfl⟩
theorem jf_10 : jfP (9, 165, 4, 1) := ⟨jw_mem (p := 982) rfl, rfl⟩
theorem jf_11 : jfP (9, 176, 4, 4) := ⟨jw_mem (p := 1152) rfl, rfl⟩
theorem jf_12 : jfP (9, 179, 4, 5) := ⟨jw_mem (p := 1153) rfl, rfl⟩
theorem jf_13 : jfP (9, 180, 4, 6) := ⟨jw_mem (p := 1154) rfl, rfl⟩
theorem jf_14 : jfP (9, 183, 4, 7) := ⟨jw_mem (p := 1155) rfl, rfl⟩
theorem jf_15 : jfP (9, 58, 9, 4) := ⟨jw_mem (p := 75) rfl, rfl⟩
theorem jf_16 : jfP (9, 54, 9, 3) := ⟨jw_mem (p := 74) rfl, rfl⟩
theorem jf_17 : jfP (9, 64, 2, 3) := ⟨jw_mem (p := 79) rfl, rfl⟩
theorem jf_18 : jfP (9, 202, 2, 4) := ⟨jw_mem (p := 533) rfl, rfl⟩
theorem jf_19 : jfP (9, 50, 9, 2) := ⟨jw_mem (p := 73) rfl, rfl⟩
theorem jf_20 : jfP (9, 68, 0, 5) := ⟨jw_mem (p := 80) rfl, rfl⟩
theorem jf_21 : jfP (9, 72, 0, 6) := ⟨jw_mem (p := 81) rfl, rfl⟩
theorem jf_22 : jfP (9, 213, 2, 0) := ⟨jw_mem (p := 1863) rfl, rfl⟩
theorem jf_23 : jfP (9, 216, 2, 5) := ⟨jw_mem (p := 1864) rfl, rfl⟩
theorem jf_24 : jfP (9, 217, 2, 6) := ⟨jw_mem (p := 1873) rfl, rfl⟩
theorem jf_25 : jfP (9, 240, 2, 7) := ⟨jw_mem (p := 2054) rfl, rfl⟩
theorem jf_26 : jfP (9, 243, 1, 3) := ⟨jw_mem (p := 2055) rfl, rfl⟩
theorem jf_27 : jfP (9, 246, 1, 4) := ⟨jw_mem (p := 2056) rfl, rfl⟩
theorem jf_28 : jfP (9, 258, 2, 1) := ⟨jw_mem (p := 2194) rfl, rfl⟩
theorem jf_29 : jfP (9, 261, 2, 2) := ⟨jw_mem (p := 2195) rfl, rfl⟩
theorem jf_30 : jfP (9, 96, 9, 7) := ⟨jw_mem (p := 130) rfl, rfl⟩
theorem jf_31 : jfP (9, 13, 9, 9) := ⟨jw_mem (p := 13) rfl, rfl⟩
theorem jf_32 : jfP (9, 281, 6, 3) := ⟨jw_mem (p := 2368) rfl, rfl⟩
theorem jf_33 : jfP (9, 16, 9, 10) := ⟨jw_mem (p := 14) rfl, rfl⟩
theorem jf_34 : jfP (9, 284, 6, 4) := ⟨jw_mem (p := 2369) rfl, rfl⟩
theorem jf_35 : jfP (9, 20, 9, 11) := ⟨jw_mem (p := 15) rfl, rfl⟩
theorem jf_36 : jfP (9, 87, 9, 6) := ⟨jw_mem (p := 86) rfl, rfl⟩
theorem jf_37 : jfP (9, 294, 8, 2) := ⟨jw_mem (p := 2445) rfl, rfl⟩
theorem jf_38 : jfP (9, 78, 9, 5) := ⟨jw_mem (p := 82) rfl, rfl⟩
theorem jf_39 : jfP (10, 32, 10, 8) := ⟨jw_mem (p := 465) rfl, rfl⟩
theorem jf_40 : jfP (10, 35, 10, 9) := ⟨jw_mem (p := 466) rfl, rfl⟩
theorem jf_41 : jfP (10, 89, 10, 17) := ⟨jw_mem (p := 640) rfl, rfl⟩
theorem jf_42 : jfP (10, 17, 10, 2) := ⟨jw_mem (p := 460) rfl, rfl⟩
theorem jf_43 : jfP (10, 20, 10, 3) := ⟨jw_mem (p := 461) rfl, rfl⟩
theorem jf_44 : jfP (10, 7, 10, 0) := ⟨jw_mem (p := 458) rfl, rfl⟩
theorem jf_45 : jfP (10, 13, 10, 1) := ⟨jw_mem (p := 459) rfl, rfl⟩
theorem jf_46 : jfP (10, 114, 10, 4) := ⟨jw_mem (p := 849) rfl, rfl⟩
theorem jf_47 : jfP (10, 23, 10, 5) := ⟨jw_mem (p := 462) rfl, rfl⟩
theorem jf_48 : jfP (10, 29, 10, 7) := ⟨jw_mem (p := 464) rfl, rfl⟩
theorem jf_49 : jfP (10, 26, 10, 6) := ⟨jw_mem (p := 463) rfl, rfl⟩
theorem jf_50 : jfP (10, 38, 10, 10) := ⟨jw_mem (p := 467) rfl, rfl⟩
theorem jf_51 : jfP (10, 41, 10, 11) := ⟨jw_mem (p := 468) rfl, rfl⟩
theorem jf_52 : jfP (10, 155, 10, 12) := ⟨jw_mem (p := 1739) rfl, rfl⟩
theorem jf_53 : jfP (10, 172, 10, 14) := ⟨jw_mem (p := 1736) rfl, rfl⟩
theorem jf_54 : jfP (10, 175, 10, 15) := ⟨jw_mem (p := 1737) rfl, rfl⟩
theorem jf_55 : jfP (10, 178, 10, 16) := ⟨jw_mem (p := 1738) rfl, rfl⟩
theorem jf_56 : jfP (10, 44, 10, 13) := ⟨jw_mem (p := 469) rfl, rfl⟩
theorem jf_57 : jfP (10, 201, 10, 18) := ⟨jw_mem (p := 1687) rfl, rfl⟩
theorem jf_58 : jfP (10, 204, 10, 19) := ⟨jw_mem (p := 1728) rfl, rfl⟩
theorem jf_59 : jfP (10, 47, 10, 20) := ⟨jw_mem (p := 470) rfl, rfl⟩
theorem jf_60 : jfP (10, 50, 10, 21) := ⟨jw_mem (p := 471) rfl, rfl⟩
theorem jf_61 : jfP (10, 56, 10, 24) := ⟨jw_mem (p := 513) rfl, rfl⟩
theorem jf_62 : jfP (10, 210, 10, 22) := ⟨jw_mem (p := 2061) rfl, rfl⟩
theorem jf_63 : jfP (10, 53, 10, 23) := ⟨jw_mem (p := 512) rfl, rfl⟩
theorem jf_64 : jfP (10, 237, 10, 25) := ⟨jw_mem (p := 2385) rfl, rfl⟩
theorem jf_65 : jfP (10, 240, 10, 26) := ⟨jw_mem (p := 2387) rfl, rfl⟩
theorem jf_66 : jfP (10, 246, 10, 27) := ⟨jw_mem (p := 2384) rfl, rfl⟩
theorem jf_67 : jfP (10, 249, 10, 28) := ⟨jw_mem (p := 2386) rfl, rfl⟩
theorem jf_68 : jfP (10, 252, 10, 29) := ⟨jw_mem (p := 2388) rfl, rfl⟩
theorem jf_69 : jfP (10, 59, 10, 30) := ⟨jw_mem (p := 514) rfl, rfl⟩
theorem jf_70 : jfP (10, 62, 10, 31) := ⟨jw_mem (p := 515) rfl, rfl⟩
theorem jf_71 : jfP (10, 65, 10, 32) := ⟨jw_mem (p := 516) rfl, rfl⟩
theorem jf_72 : jfP (10, 74, 10, 35) := ⟨jw_mem (p := 519) rfl, rfl⟩
theorem jf_73 : jfP (10, 68, 10, 33) := ⟨jw_mem (p := 517) rfl, rfl⟩
theorem jf_74 : jfP (10, 71, 10, 34) := ⟨jw_mem (p := 518) rfl, rfl⟩
theorem jf_75 : jfP (0, 12, 0, 1) := ⟨jw_mem (p := 146) rfl, rfl⟩
theorem jf_76 : jfP (0, 18, 0, 2) := ⟨jw_mem (p := 147) rfl, rfl⟩
theorem jf_77 : jfP (0, 21, 0, 3) := ⟨jw_mem (p := 148) rfl, rfl⟩
theorem jf_78 : jfP (0, 28, 0, 4) := ⟨jw_mem (p := 192) rfl, rfl⟩
theorem jf_79 : jfP (0, 68, 4, 1) := ⟨jw_mem (p := 1349) rfl, rfl⟩
theorem jf_80 : jfP (0, 54, 0, 12) := ⟨jw_mem (p := 200) rfl, rfl⟩
theorem jf_81 : jfP (0, 42, 0, 8) := ⟨jw_mem (p := 196) rfl, rfl⟩
theorem jf_82 : jfP (0, 45, 0, 9) := ⟨jw_mem (p := 197) rfl, rfl⟩
theorem jf_83 : jfP (0, 48, 0, 10) := ⟨jw_mem (p := 198) rfl, rfl⟩
theorem jf_84 : jfP (0, 51, 0, 11) := ⟨jw_mem (p := 199) rfl, rfl⟩
theorem jf_85 : jfP (0, 60, 0, 0) := ⟨jw_mem (p := 202) rfl, rfl⟩
theorem jf_86 : jfP (0, 79, 4, 4) := ⟨jw_mem (p := 1364) rfl, rfl⟩
theorem jf_87 : jfP (0, 88, 4, 6) := ⟨jw_mem (p := 1365) rfl, rfl⟩
theorem jf_88 : jfP (0, 91, 3, 1) := ⟨jw_mem (p := 1366) rfl, rfl⟩
theorem jf_89 : jfP (0, 95, 4, 5) := ⟨jw_mem (p := 1412) rfl, rfl⟩
theorem jf_90 : jfP (0, 98, 4, 0) := ⟨jw_mem (p := 1605) rfl, rfl⟩
theorem jf_91 : jfP (0, 32, 0, 5) := ⟨jw_mem (p := 193) rfl, rfl⟩
theorem jf_92 : jfP (0, 36, 0, 6) := ⟨jw_mem (p := 194) rfl, rfl⟩
theorem jf_93 : jfP (0, 105, 7, 2) := ⟨jw_mem (p := 1428) rfl, rfl⟩
theorem jf_94 : jfP (0, 39, 0, 7) := ⟨jw_mem (p := 195) rfl, rfl⟩
theorem jf_95 : jfP (0, 116, 4, 7) := ⟨jw_mem (p := 1429) rfl, rfl⟩
theorem jf_96 : jfP (0, 57, 0, 13) := ⟨jw_mem (p := 201) rfl, rfl⟩
theorem jf_97 : jfP (0, 145, 7, 3) := ⟨jw_mem (p := 1614) rfl, rfl⟩
theorem jf_98 : jfP (0, 152, 4, 3) := ⟨jw_mem (p := 1992) rfl, rfl⟩
theorem jf_99 : jfP (1, 9, 1, 3) := ⟨jw_mem (p := 384) rfl, rfl⟩
theorem jf_100 : jfP (1, 22, 1, 0) := ⟨jw_mem (p := 387) rfl, rfl⟩
theorem jf_101 : jfP (1, 32, 4, 1) := ⟨jw_mem (p := 1673) rfl, rfl⟩
theorem jf_102 : jfP (1, 19, 1, 5) := ⟨jw_mem (p := 386) rfl, rfl⟩
theorem jf_103 : jfP (1, 29, 1, 2) := ⟨jw_mem (p := 389) rfl, rfl⟩
theorem jf_104 : jfP (1, 15, 1, 4) := ⟨jw_mem (p := 385) rfl, rfl⟩
theorem jf_105 : jfP (1, 40, 4, 5) := ⟨jw_mem (p := 1678) rfl, rfl⟩
theorem jf_106 : jfP (1, 26, 1, 1) := ⟨jw_mem (p := 388) rfl, rfl⟩
theorem jf_107 : jfP (1, 47, 4, 4) := ⟨jw_mem (p := 2126) rfl, rfl⟩
theorem jf_108 : jfP (1, 54, 3, 3) := ⟨jw_mem (p := 2177) rfl, rfl⟩
theorem jf_109 : jfP (2, 9, 2, 0) := ⟨jw_mem (p := 330) rfl, rfl⟩
theorem jf_110 : jfP (2, 15, 2, 1) := ⟨jw_mem (p := 331) rfl, rfl⟩
theorem jf_111 : jfP (2, 19, 2, 2) := ⟨jw_mem (p := 332) rfl, rfl⟩
theorem jf_112 : jfP (2, 29, 2, 3) := ⟨jw_mem (p := 335) rfl, rfl⟩
theorem jf_113 : jfP (2, 25, 2, 4) := ⟨jw_mem (p := 334) rfl, rfl⟩
theorem jf_114 : jfP (2, 32, 2, 5) := ⟨jw_mem (p := 336) rfl, rfl⟩
theorem jf_115 : jfP (2, 36, 2, 6) := ⟨jw_mem (p := 337) rfl, rfl⟩
theorem jf_116 : jfP (2, 44, 2, 7) := ⟨jw_mem (p := 339) rfl, rfl⟩
theorem jf_117 : jfP (2, 61, 4, 0) := ⟨jw_mem (p := 2240) rfl, rfl⟩
theorem jf_118 : jfP (3, 19, 3, 2) := ⟨jw_mem (p := 139) rfl, rfl⟩
theorem jf_119 : jfP (3, 22, 3, 3) := ⟨jw_mem (p := 140) rfl, rfl⟩
theorem jf_120 : jfP (3, 9, 3, 0) := ⟨jw_mem (p := 136) rfl, rfl⟩
theorem jf_121 : jfP (4, 9, 4, 0) := ⟨jw_mem (p := 206) rfl, rfl⟩
theorem jf_122 : jfP (4, 15, 4, 1) := ⟨jw_mem (p := 207) rfl, rfl⟩
theorem jf_123 : jfP (4, 18, 4, 2) := ⟨jw_mem (p := 208) rfl, rfl⟩
theorem jf_124 : jfP (4, 21, 4, 3) := ⟨jw_mem (p := 209) rfl, rfl⟩
theorem jf_125 : jfP (4, 25, 4, 4) := ⟨jw_mem (p := 210) rfl, rfl⟩
theorem jf_126 : jfP (4, 28, 4, 5) := ⟨jw_mem (p := 211) rfl, rfl⟩
theorem jf_127 : jfP (4, 31, 4, 6) := ⟨jw_mem (p := 212) rfl, rfl⟩
theorem jf_128 : jfP (4, 34, 4, 7) := ⟨jw_mem (p := 213) rfl, rfl⟩
theorem jf_129 : jfP (4, 47, 3, 1) := ⟨jw_mem (p := 1035) rfl, rfl⟩
theorem jf_130 : jfP (5, 42, 5, 10) := ⟨jw_mem (p := 279) rfl, rfl⟩
theorem jf_131 : jfP (5, 63, 5, 1) := ⟨jw_mem (p := 325) rfl, rfl⟩
theorem jf_132 : jfP (5, 54, 5, 0) := ⟨jw_mem (p := 323) rfl, rfl⟩
theorem jf_133 : jfP (5, 36, 5, 8) := ⟨jw_mem (p := 277) rfl, rfl⟩
theorem jf_134 : jfP (5, 45, 5, 11) := ⟨jw_mem (p := 320) rfl, rfl⟩
theorem jf_135 : jfP (5, 48, 5, 12) := ⟨jw_mem (p := 321) rfl, rfl⟩
theorem jf_136 : jfP (5, 51, 5, 13) := ⟨jw_mem (p := 322) rfl, rfl⟩
theorem jf_137 : jfP (5, 12, 5, 2) := ⟨jw_mem (p := 271) rfl, rfl⟩
theorem jf_138 : jfP (5, 85, 4, 0) := ⟨jw_mem (p := 1302) rfl, rfl⟩
theorem jf_139 : jfP (5, 88, 4, 1) := ⟨jw_mem (p := 2005) rfl, rfl⟩
theorem jf_140 : jfP (5, 39, 5, 9) := ⟨jw_mem (p := 278) rfl, rfl⟩
theorem jf_141 : jfP (5, 18, 5, 3) := ⟨jw_mem (p := 272) rfl, rfl⟩
theorem jf_142 : jfP (5, 21, 5, 4) := ⟨jw_mem (p := 273) rfl, rfl⟩
theorem jf_143 : jfP (5, 94, 0, 4) := ⟨jw_mem (p := 1300) rfl, rfl⟩
theorem jf_144 : jfP (5, 98, 7, 2) := ⟨jw_mem (p := 1301) rfl, rfl⟩
theorem jf_145 : jfP (5, 33, 5, 7) := ⟨jw_mem (p := 276) rfl, rfl⟩
theorem jf_146 : jfP (5, 25, 5, 5) := ⟨jw_mem (p := 274) rfl, rfl⟩
theorem jf_147 : jfP (5, 109, 4, 3) := ⟨jw_mem (p := 1344) rfl, rfl⟩
theorem jf_148 : jfP (5, 29, 5, 6) := ⟨jw_mem (p := 275) rfl, rfl⟩
theorem jf_149 : jfP (6, 22, 6, 0) := ⟨jw_mem (p := 452) rfl, rfl⟩
theorem jf_150 : jfP (6, 30, 4, 1) := ⟨jw_mem (p := 2305) rfl, rfl⟩
theorem jf_151 : jfP (6, 9, 6, 2) := ⟨jw_mem (p := 449) rfl, rfl⟩
theorem jf_152 : jfP (6, 15, 6, 3) := ⟨jw_mem (p := 450) rfl, rfl⟩
theorem jf_153 : jfP (6, 19, 6, 4) := ⟨jw_mem (p := 451) rfl, rfl⟩
theorem jf_154 : jfP (6, 26, 6, 1) := ⟨jw_mem (p := 453) rfl, rfl⟩
theorem jf_155 : jfP (6, 49, 4, 4) := ⟨jw_mem (p := 2306) rfl, rfl⟩
theorem jf_156 : jfP (6, 52, 4, 7) := ⟨jw_mem (p := 2307) rfl, rfl⟩
theorem jf_157 : jfP (6, 72, 4, 0) := ⟨jw_mem (p := 2314) rfl, rfl⟩
theorem jf_158 : jfP (6, 75, 4, 3) := ⟨jw_mem (p := 2315) rfl, rfl⟩
theorem jf_159 : jfP (7, 12, 7, 0) := ⟨jw_mem (p := 258) rfl, rfl⟩
theorem jf_160 : jfP (7, 18, 7, 1) := ⟨jw_mem (p := 259) rfl, rfl⟩
theorem jf_161 : jfP (7, 21, 7, 2) := ⟨jw_mem (p := 260) rfl, rfl⟩
theorem jf_162 : jfP (7, 32, 7, 5) := ⟨jw_mem (p := 263) rfl, rfl⟩
theorem jf_163 : jfP (7, 29, 7, 4) := ⟨jw_mem (p := 262) rfl, rfl⟩
theorem jf_164 : jfP (7, 25, 7, 3) := ⟨jw_mem (p := 261) rfl, rfl⟩
theorem jf_165 : jfP (7, 46, 4, 1) := ⟨jw_mem (p := 1354) rfl, rfl⟩
theorem jf_166 : jfP (7, 49, 4, 6) := ⟨jw_mem (p := 1355) rfl, rfl⟩
theorem jf_167 : jfP (7, 36, 7, 6) := ⟨jw_mem (p := 264) rfl, rfl⟩
theorem jf_168 : jfP (7, 39, 7, 7) := ⟨jw_mem (p := 265) rfl, rfl⟩
theorem jf_169 : jfP (8, 12, 8, 2) := ⟨jw_mem (p := 396) rfl, rfl⟩
theorem jf_170 : jfP (8, 52, 4, 0) := ⟨jw_mem (p := 2450) rfl, rfl⟩
theorem jf_171 : jfP (8, 41, 8, 1) := ⟨jw_mem (p := 404) rfl, rfl⟩
theorem jf_172 : jfP (8, 56, 0, 5) := ⟨jw_mem (p := 2451) rfl, rfl⟩
theorem jf_173 : jfP (8, 25, 8, 5) := ⟨jw_mem (p := 399) rfl, rfl⟩
theorem jf_174 : jfP (8, 61, 4, 3) := ⟨jw_mem (p := 2452) rfl, rfl⟩
theorem jf_175 : jfP (8, 64, 4, 1) := ⟨jw_mem (p := 2453) rfl, rfl⟩
theorem jf_176 : jfP (8, 67, 0, 6) := ⟨jw_mem (p := 2454) rfl, rfl⟩
theorem jf_177 : jfP (8, 37, 8, 0) := ⟨jw_mem (p := 403) rfl, rfl⟩
theorem jf_178 : jfP (8, 74, 4, 4) := ⟨jw_mem (p := 2455) rfl, rfl⟩
theorem jf_179 : jfP (8, 28, 8, 6) := ⟨jw_mem (p := 400) rfl, rfl⟩
theorem jf_180 : jfP (8, 18, 8, 3) := ⟨jw_mem (p := 397) rfl, rfl⟩
theorem jf_181 : jfP (8, 22, 8, 4) := ⟨jw_mem (p := 398) rfl, rfl⟩
theorem jf_182 : jfP (8, 94, 4, 2) := ⟨jw_mem (p := 2583) rfl, rfl⟩
theorem jf_183 : jfP (8, 97, 4, 6) := ⟨jw_mem (p := 2624) rfl, rfl⟩
theorem jf_184 : jfP (8, 31, 8, 7) := ⟨jw_mem (p := 401) rfl, rfl⟩
theorem jf_185 : jfP (8, 106, 4, 5) := ⟨jw_mem (p := 2506) rfl, rfl⟩
theorem jf_186 : jfP (8, 34, 8, 8) := ⟨jw_mem (p := 402) rfl, rfl⟩
theorem jm__0 : jmP (9, 100, 29) := jw_mem (p := 526) rfl
theorem jm__1 : jmP (9, 104, 36) := jw_mem (p := 529) rfl
theorem jm__2 : jmP (9, 107, 134) := jw_mem (p := 582) rfl
theorem jm__3 : jmP (9, 117, 135) := jw_mem (p := 657) rfl
theorem jm__4 : jmP (9, 124, 33) := jw_mem (p := 661) rfl
theorem jm__5 : jmP (9, 128, 136) := jw_mem (p := 712) rfl
theorem jm__6 : jmP (9, 135, 35) := jw_mem (p := 534) rfl
theorem jm__7 : jmP (9, 138, 139) := jw_mem (p := 781) rfl
theorem jm__8 : jmP (9, 142, 30) := jw_mem (p := 854) rfl
theorem jm__9 : jmP (9, 145, 140) := jw_mem (p := 897) rfl
theorem jm__10 : jmP (9, 152, 32) := jw_mem (p := 918) rfl
theorem jm__11 : jmP (9, 161, 142) := jw_mem (p := 983) rfl
theorem jm__12 : jmP (9, 168, 144) := jw_mem (p := 1031) rfl
theorem jm__13 : jmP (9, 172, 145) := jw_mem (p := 1036) rfl
theorem jm__14 : jmP (9, 186, 147) := jw_mem (p := 1164) rfl
theorem jm__15 : jmP (9, 190, 141) := jw_mem (p := 1220) rfl
theorem jm__16 : jmP (9, 194, 34) := jw_mem (p := 1280) rfl
theorem jm__17 : jmP (9, 198, 131) := jw_mem (p := 1286) rfl
theorem jm__18 : jmP (9, 205, 150) := jw_mem (p := 1291) rfl
theorem jm__19 : jmP (9, 209, 132) := jw_mem (p := 1664) rfl
theorem jm__20 : jmP (9, 218, 151) := jw_mem (p := 1922) rfl
theorem jm__21 : jmP (9, 221, 152) := jw_mem (p := 1926) rfl
theorem jm__22 : jmP (9, 224, 111) := jw_mem (p := 1942) rfl
theorem jm__23 : jmP (9, 227, 114) := jw_mem (p := 1943) rfl
theorem jm__24 : jmP (9, 230, 115) := jw_mem (p := 1987) rfl
theorem jm__25 : jmP (9, 233, 123) := jw_mem (p := 1988) rfl
theorem jm__26 : jmP (9, 236, 154) := jw_mem (p := 2001) rfl
theorem jm__27 : jmP (9, 248, 127) := jw_mem (p := 2118) rfl
theorem jm__28 : jmP (9, 251, 128) := jw_mem (p := 2122) rfl
theorem jm__29 : jmP (9, 255, 129) := jw_mem (p := 2133) rfl
theorem jm__30 : jmP (9, 262, 133) := jw_mem (p := 2196) rfl
theorem jm__31 : jmP (9, 265, 181) := jw_mem (p := 2241) rfl
theorem jm__32 : jmP (9, 270, 38) := jw_mem (p := 2242) rfl
theorem jm__33 : jmP (9, 273, 164) := jw_mem (p := 2262) rfl
theorem jm__34 : jmP (9, 277, 162) := jw_mem (p := 2370) rfl
theorem jm__35 : jmP (9, 287, 31) := jw_mem (p := 1283) rfl
theorem jm__36 : jmP (9, 290, 172) := jw_mem (p := 2446) rfl
theorem jm__37 : jmP (9, 297, 173) := jw_mem (p := 2575) rfl
theorem jm__38 : jmP (9, 300, 174) := jw_mem (p := 2579) rfl
theorem jm__39 : jmP (9, 303, 175) := jw_mem (p := 2626) rfl
theorem jm__40 : jmP (9, 306, 176) := jw_mem (p := 2630) rfl
theorem jm__41 : jmP (9, 309, 153) := jw_mem (p := 2646) rfl
theorem jm__42 : jmP (9, 313, 37) := jw_mem (p := 2698) rfl
theorem jm__43 : jmP (9, 316, 148) := jw_mem (p := 578) rfl
theorem jm__44 : jmP (9, 319, 124) := jw_mem (p := 2246) rfl
theorem jm__45 : jmP (10, 77, 39) := jw_mem (p := 593) rfl
theorem jm__46 : jmP (10, 81, 42) := jw_mem (p := 645) rfl
theorem jm__47 : jmP (10, 85, 43) := jw_mem (p := 641) rfl
theorem jm__48 : jmP (10, 93, 40) := jw_mem (p := 590) rfl
theorem jm__49 : jmP (10, 97, 44) := jw_mem (p := 596) rfl
theorem jm__50 : jmP (10, 100, 45) := jw_mem (p := 648) rfl
theorem jm__51 : jmP (10, 103, 49) := jw_mem (p := 724) rfl
theorem jm__52 : jmP (10, 107, 47) := jw_mem (p := 837) rfl
theorem jm__53 : jmP (10, 110, 52) := jw_mem (p := 833) rfl
theorem jm__54 : jmP (10, 118, 41) := jw_mem (p := 905) rfl
theorem jm__55 : jmP (10, 121, 55) := jw_mem (p := 908) rfl
theorem jm__56 : jmP (10, 125, 57) := jw_mem (p := 965) rfl
theorem jm__57 : jmP (10, 129, 62) := jw_mem (p := 1104) rfl
theorem jm__58 : jmP (10, 133, 60) := jw_mem (p := 1092) rfl
theorem jm__59 : jmP (10, 136, 61) := jw_mem (p := 1096) rfl
theorem jm__60 : jmP (10, 139, 63) := jw_mem (p := 1100) rfl
theorem jm__61 : jmP (10, 143, 66) := jw_mem (p := 1172) rfl
theorem jm__62 : jmP (10, 146, 68) := jw_mem (p := 1232) rfl
theorem jm__63 : jmP (10, 149, 71) := jw_mem (p := 1812) rfl
theorem jm__64 : jmP (10, 152, 70) := jw_mem (p := 1804) rfl
theorem jm__65 : jmP (10, 158, 73) := jw_mem (p := 1800) rfl
theorem jm__66 : jmP (10, 162, 72) := jw_mem (p := 1808) rfl
theorem jm__67 : jmP (10, 166, 76) := jw_mem (p := 1748) rfl
theorem jm__68 : jmP (10, 169, 75) := jw_mem (p := 1792) rfl
theorem jm__69 : jmP (10, 181, 77) := jw_mem (p := 1740) rfl
theorem jm__70 : jmP (10, 184, 79) := jw_mem (p := 1744) rfl
theorem jm__71 : jmP (10, 188, 74) := jw_mem (p := 1796) rfl
theorem jm__72 : jmP (10, 192, 78) := jw_mem (p := 1815) rfl
theorem jm__73 : jmP (10, 195, 81) := jw_mem (p := 1729) rfl
theorem jm__74 : jmP (10, 198, 80) := jw_mem (p := 1732) rfl
theorem jm__75 : jmP (10, 207, 85) := jw_mem (p := 1934) rfl
theorem jm__76 : jmP (10, 213, 89) := jw_mem (p := 2070) rfl
theorem jm__77 : jmP (10, 216, 91) := jw_mem (p := 2182) rfl
theorem jm__78 : jmP (10, 219, 90) := jw_mem (p := 2066) rfl
theorem jm__79 : jmP (10, 222, 93) := jw_mem (p := 2062) rfl
theorem jm__80 : jmP (10, 225, 92) := jw_mem (p := 2186) rfl
theorem jm__81 : jmP (10, 228, 96) := jw_mem (p := 2251) rfl
theorem jm__82 : jmP (10, 231, 97) := jw_mem (p := 2254) rfl
theorem jm__83 : jmP (10, 234, 99) := jw_mem (p := 2320) rfl
theorem jm__84 : jmP (10, 243, 101) := jw_mem (p := 2389) rfl
theorem jm__85 : jmP (10, 255, 104) := jw_mem (p := 2563) rfl
theorem jm__86 : jmP (10, 258, 105) := jw_mem (p := 2567) rfl
theorem jm__87 : jmP (10, 261, 107) := jw_mem (p := 2638) rfl
theorem jm__88 : jmP (0, 64, 166) := jw_mem (p := 1350) rfl
theorem jm__89 : jmP (0, 71, 112) := jw_mem (p := 1360) rfl
theorem jm__90 : jmP (0, 75, 113) := jw_mem (p := 1408) rfl
theorem jm__91 : jmP (0, 82, 139) := jw_mem (p := 1367) rfl
theorem jm__92 : jmP (0, 101, 119) := jw_mem (p := 1430) rfl
theorem jm__93 : jmP (0, 109, 167) := jw_mem (p := 1478) rfl
theorem jm__94 : jmP (0, 113, 121) := jw_mem (p := 1486) rfl
theorem jm__95 : jmP (0, 119, 118) := jw_mem (p := 1490) rfl
theorem jm__96 : jmP (0, 123, 117) := jw_mem (p := 1601) rfl
theorem jm__97 : jmP (0, 126, 169) := jw_mem (p := 1606) rfl
theorem jm__98 : jmP (0, 130, 122) := jw_mem (p := 1610) rfl
theorem jm__99 : jmP (0, 133, 171) := jw_mem (p := 1619) rfl
theorem jm__100 : jmP (0, 142, 120) := jw_mem (p := 1474) rfl
theorem jm__101 : jmP (0, 148, 170) := jw_mem (p := 1615) rfl
theorem jm__102 : jmP (1, 36, 125) := jw_mem (p := 1674) rfl
theorem jm__103 : jmP (1, 43, 126) := jw_mem (p := 1679) rfl
theorem jm__104 : jmP (1, 50, 130) := jw_mem (p := 2127) rfl
theorem jm__105 : jmP (1, 59, 127) := jw_mem (p := 2131) rfl
theorem jm__106 : jmP (1, 63, 144) := jw_mem (p := 2132) rfl
theorem jm__107 : jmP (2, 48, 141) := jw_mem (p := 1290) rfl
theorem jm__108 : jmP (2, 58, 124) := jw_mem (p := 1669) rfl
theorem jm__109 : jmP (3, 25, 137) := jw_mem (p := 716) rfl
theorem jm__110 : jmP (3, 29, 138) := jw_mem (p := 785) rfl
theorem jm__111 : jmP (4, 43, 143) := jw_mem (p := 1027) rfl
theorem jm__112 : jmP (4, 53, 146) := jw_mem (p := 1044) rfl
theorem jm__113 : jmP (5, 64, 155) := jw_mem (p := 1296) rfl
theorem jm__114 : jmP (5, 68, 157) := jw_mem (p := 1417) rfl
theorem jm__115 : jmP (5, 78, 115) := jw_mem (p := 1424) rfl
theorem jm__116 : jmP (5, 82, 156) := jw_mem (p := 1413) rfl
theorem jm__117 : jmP (5, 91, 111) := jw_mem (p := 1345) rfl
theorem jm__118 : jmP (5, 112, 160) := jw_mem (p := 1420) rfl
theorem jm__119 : jmP (5, 115, 158) := jw_mem (p := 1549) rfl
theorem jm__120 : jmP (5, 119, 181) := jw_mem (p := 1538) rfl
theorem jm__121 : jmP (5, 128, 116) := jw_mem (p := 1556) rfl
theorem jm__122 : jmP (5, 131, 159) := jw_mem (p := 1494) rfl
theorem jm__123 : jmP (5, 134, 161) := jw_mem (p := 1545) rfl
theorem jm__124 : jmP (6, 35, 164) := jw_mem (p := 2374) rfl
theorem jm__125 : jmP (6, 39, 163) := jw_mem (p := 2375) rfl
theorem jm__126 : jmP (6, 43, 150) := jw_mem (p := 2379) rfl
theorem jm__127 : jmP (6, 61, 148) := jw_mem (p := 2310) rfl
theorem jm__128 : jmP (6, 68, 165) := jw_mem (p := 2311) rfl
theorem jm__129 : jmP (7, 42, 149) := jw_mem (p := 1356) rfl
theorem jm__130 : jmP (7, 52, 168) := jw_mem (p := 1482) rfl
theorem jm__131 : jmP (8, 45, 177) := jw_mem (p := 2497) rfl
theorem jm__132 : jmP (8, 48, 140) := jw_mem (p := 2501) rfl
theorem jm__133 : jmP (8, 70, 178) := jw_mem (p := 2502) rfl
theorem jm__134 : jmP (8, 77, 139) := jw_mem (p := 2511) rfl
theorem jm__135 : jmP (8, 88, 138) := jw_mem (p := 2512) rfl
theorem jm__136 : jmP (8, 91, 180) := jw_mem (p := 2513) rfl
theorem jm__137 : jmP (8, 109, 179) := jw_mem (p := 2507) rfl
theorem jm__138 : jmP (8, 113, 144) := jw_mem (p := 2517) rfl
theorem jm__139 : jmP (8, 117, 145) := jw_mem (p := 2518) rfl
theorem jn_0 : jnP (0, 137, 5) := jw_mem (p := 1600) rfl
theorem jn_1 : jnP (2, 52, 6) := jw_mem (p := 1668) rfl
theorem jn_2 : jnP (4, 37, 6) := jw_mem (p := 1224) rfl
theorem jn_3 : jnP (4, 57, 4) := jw_mem (p := 1040) rfl
theorem jn_4 : jnP (5, 72, 6) := jw_mem (p := 1295) rfl
theorem jn_5 : jnP (5, 103, 4) := jw_mem (p := 1303) rfl
theorem jn_6 : jnP (5, 125, 5) := jw_mem (p := 1553) rfl
theorem jn_7 : jnP (6, 55, 4) := jw_mem (p := 2308) rfl
theorem jn_8 : jnP (6, 65, 5) := jw_mem (p := 2309) rfl
theorem jn_9 : jnP (7, 56, 4) := jw_mem (p := 1623) rfl
theorem jn_10 : jnP (8, 83, 4) := jw_mem (p := 2496) rfl
theorem jn_11 : jnP (8, 100, 6) := jw_mem (p := 2625) rfl
theorem jhp_0 : jhP 0 := ⟨rfl, jw_mem (p := 523) rfl, jw_mem (p := 2) rfl, ⟨jw_mem (p := 521) rfl, jw_mem (p := 522) rfl⟩, by decide +kernel, rfl⟩
theorem jhp_1 : jhP 1 := ⟨rfl, jw_mem (p := 655) rfl, jw_mem (p := 2) rfl, ⟨jw_mem (p := 653) rfl, jw_mem (p := 654) rfl⟩, by decide +kernel, rfl⟩
theorem jhp_2 : jhP 2 := ⟨rfl, jw_mem (p := 711) rfl, jw_mem (p := 2) rfl, ⟨jw_mem (p := 709) rfl, jw_mem (p := 710) rfl⟩, by decide +kernel, rfl⟩
theorem jhp_3 : jhP 3 := ⟨rfl, jw_mem (p := 771) rfl, jw_mem (p := 2) rfl, ⟨jw_mem (p := 769) rfl, jw_mem (p := 770) rfl⟩, by decide +kernel, rfl⟩
theorem jhp_4 : jhP 4 := ⟨rfl, jw_mem (p := 780) rfl, jw_mem (p := 2) rfl, ⟨jw_mem (p := 778) rfl, jw_mem (p := 779) rfl⟩, by decide +kernel, rfl⟩
theorem jhp_5 : jhP 5 := ⟨rfl, jw_mem (p := 844) rfl, jw_mem (p := 2) rfl, ⟨jw_mem (p := 842) rfl, jw_mem (p := 843) rfl⟩, by decide +kernel, rfl⟩
theorem jhp_6 : jhP 6 := ⟨rfl, jw_mem (p := 853) rfl, jw_mem (p := 2) rfl, ⟨jw_mem (p := 851) rfl, jw_mem (p := 852) rfl⟩, by decide +kernel, rfl⟩
theorem jhp_7 : jhP 7 := ⟨rfl, jw_mem (p := 915) rfl, jw_mem (p := 2) rfl, ⟨jw_mem (p := 913) rfl, jw_mem (p := 914) rfl⟩, by decide +kernel, rfl⟩
theorem jhp_8 : jhP 8 := ⟨rfl, jw_mem (p := 972) rfl, jw_mem (p := 2) rfl, ⟨jw_mem (p := 970) rfl, jw_mem (p := 971) rfl⟩, by decide +kernel, rfl⟩
theorem jhp_9 : jhP 9 := ⟨rfl, jw_mem (p := 981) rfl, jw_mem (p := 2) rfl, ⟨jw_mem (p := 979) rfl, jw_mem (p := 980) rfl⟩, by decide +kernel, rfl⟩
theorem jhp_10 : jhP 10 := ⟨rfl, jw_mem (p := 1111) rfl, jw_mem (p := 2) rfl, ⟨jw_mem (p := 1109) rfl, jw_mem (p := 1110) rfl⟩, by decide +kernel, rfl⟩
theorem jhp_11 : jhP 11 := ⟨rfl, jw_mem (p := 1163) rfl, jw_mem (p := 2) rfl, ⟨jw_mem (p := 1161) rfl, jw_mem (p := 1162) rfl⟩, by decide +kernel, rfl⟩
theorem jhp_12 : jhP 12 := ⟨rfl, jw_mem (p := 1219) rfl, jw_mem (p := 2) rfl, ⟨jw_mem (p := 1217) rfl, jw_mem (p := 1218) rfl⟩, by decide +kernel, rfl⟩
theorem jhp_13 : jhP 13 := ⟨rfl, jw_mem (p := 1239) rfl, jw_mem (p := 2) rfl, ⟨jw_mem (p := 1237) rfl, jw_mem (p := 1238) rfl⟩, by decide +kernel, rfl⟩
theorem jhp_14 : jhP 14 := ⟨rfl, jw_mem (p := 1862) rfl, jw_mem (p := 2) rfl, ⟨jw_mem (p := 1860) rfl, jw_mem (p := 1861) rfl⟩, by decide +kernel, rfl⟩
theorem jhp_15 : jhP 15 := ⟨rfl, jw_mem (p := 1872) rfl, jw_mem (p := 2) rfl, ⟨jw_mem (p := 1870) rfl, jw_mem (p := 1871) rfl⟩, by decide +kernel, rfl⟩
theorem jhp_16 : jhP 16 := ⟨rfl, jw_mem (p := 1921) rfl, jw_mem (p := 2) rfl, ⟨jw_mem (p := 1879) rfl, jw_mem (p := 1920) rfl⟩, by decide +kernel, rfl⟩
theorem jhp_17 : jhP 17 := ⟨rfl, jw_mem (p := 1941) rfl, jw_mem (p := 2) rfl, ⟨jw_mem (p := 1939) rfl, jw_mem (p := 1940) rfl⟩, by decide +kernel, rfl⟩
theorem jhp_18 : jhP 18 := ⟨rfl, jw_mem (p := 2000) rfl, jw_mem (p := 2) rfl, ⟨jw_mem (p := 1998) rfl, jw_mem (p := 1999) rfl⟩, by decide +kernel, rfl⟩
theorem jhp_19 : jhP 19 := ⟨rfl, jw_mem (p := 2053) rfl, jw_mem (p := 2) rfl, ⟨jw_mem (p := 2051) rfl, jw_mem (p := 2052) rfl⟩, by decide +kernel, rfl⟩
theorem jhp_20 : jhP 20 := ⟨rfl, jw_mem (p := 2117) rfl, jw_mem (p := 2) rfl, ⟨jw_mem (p := 2115) rfl, jw_mem (p := 2116) rfl⟩, by decide +kernel, rfl⟩
theorem jhp_21 : jhP 21 := ⟨rfl, jw_mem (p := 2193) rfl, jw_mem (p := 2) rfl, ⟨jw_mem (p := 2191) rfl, jw_mem (p := 2192) rfl⟩, by decide +kernel, rfl⟩
theorem jhp_22 : jhP 22 := ⟨rfl, jw_mem (p := 2261) rfl, jw_mem (p := 2) rfl, ⟨jw_mem (p := 2259) rfl, jw_mem (p := 2260) rfl⟩, by decide +kernel, rfl⟩
theorem jhp_23 : jhP 23 := ⟨rfl, jw_mem (p := 2327) rfl, jw_mem (p := 2) rfl, ⟨jw_mem (p := 2325) rfl, jw_mem (p := 2326) rfl⟩, by decide +kernel, rfl⟩
theorem jhp_24 : jhP 24 := ⟨rfl, jw_mem (p := 2436) rfl, jw_mem (p := 2) rfl, ⟨jw_mem (p := 2434) rfl, jw_mem (p := 2435) rfl⟩, by decide +kernel, rfl⟩
theorem jhp_25 : jhP 25 := ⟨rfl, jw_mem (p := 2444) rfl, jw_mem (p := 2) rfl, ⟨jw_mem (p := 2442) rfl, jw_mem (p := 2443) rfl⟩, by decide +kernel, rfl⟩
theorem jhp_26 : jhP 26 := ⟨rfl, jw_mem (p := 2574) rfl, jw_mem (p := 2) rfl, ⟨jw_mem (p := 2572) rfl, jw_mem (p := 2573) rfl⟩, by decide +kernel, rfl⟩
theorem jhp_27 : jhP 27 := ⟨rfl, jw_mem (p := 2645) rfl, jw_mem (p := 2) rfl, ⟨jw_mem (p := 2643) rfl, jw_mem (p := 2644) rfl⟩, by decide +kernel, rfl⟩
theorem jhp_28 : jhP 28 := ⟨rfl, jw_mem (p := 2697) rfl, jw_mem (p := 2) rfl, ⟨jw_mem (p := 2695) rfl, jw_mem (p := 2696) rfl⟩, by decide +kernel, rfl⟩
theorem jhp_29 : jhP 29 := ⟨rfl, jw_mem (p := 528) rfl, jw_mem (p := 2) rfl, jw_mem (p := 527) rfl, by decide +kernel, rfl⟩
theorem jhp_30 : jhP 30 := ⟨rfl, jw_mem (p := 896) rfl, jw_mem (p := 2) rfl, jw_mem (p := 855) rfl, by decide +kernel, rfl⟩
theorem jhp_31 : jhP 31 := ⟨rfl, jw_mem (p := 1285) rfl, jw_mem (p := 2) rfl, jw_mem (p := 1284) rfl, by decide +kernel, rfl⟩
theorem jhp_32 : jhP 32 := ⟨rfl, jw_mem (p := 960) rfl, jw_mem (p := 2) rfl, jw_mem (p := 919) rfl, by decide +kernel, rfl⟩
theorem jhp_33 : jhP 33 := ⟨rfl, jw_mem (p := 663) rfl, jw_mem (p := 2) rfl, jw_mem (p := 662) rfl, by decide +kernel, rfl⟩
theorem jhp_34 : jhP 34 := ⟨rfl, jw_mem (p := 1282) rfl, jw_mem (p := 2) rfl, jw_mem (p := 1281) rfl, by decide +kernel, rfl⟩
theorem jhp_35 : jhP 35 := ⟨rfl, jw_mem (p := 577) rfl, jw_mem (p := 2) rfl, ⟨jw_mem (p := 535) rfl, jw_mem (p := 576) rfl⟩, by decide +kernel, rfl⟩
theorem jhp_36 : jhP 36 := ⟨rfl, jw_mem (p := 532) rfl, jw_mem (p := 2) rfl, ⟨jw_mem (p := 530) rfl, jw_mem (p := 531) rfl⟩, by decide +kernel, rfl⟩
theorem jhp_37 : jhP 37 := ⟨rfl, jw_mem (p := 2701) rfl, jw_mem (p := 2) rfl, ⟨jw_mem (p := 2699) rfl, jw_mem (p := 2700) rfl⟩, by decide +kernel, rfl⟩
theorem jhp_38 : jhP 38 := ⟨rfl, jw_mem (p := 2245) rfl, jw_mem (p := 2) rfl, ⟨jw_mem (p := 2243) rfl, jw_mem (p := 2244) rfl⟩, by decide +kernel, rfl⟩
theorem jhp_39 : jhP 39 := ⟨rfl, jw_mem (p := 595) rfl, jw_mem (p := 5) rfl, jw_mem (p := 594) rfl, by decide +kernel, rfl⟩
theorem jhp_40 : jhP 40 := ⟨rfl, jw_mem (p := 592) rfl, jw_mem (p := 5) rfl, jw_mem (p := 591) rfl, by decide +kernel, rfl⟩
theorem jhp_41 : jhP 41 := ⟨rfl, jw_mem (p := 907) rfl, jw_mem (p := 5) rfl, jw_mem (p := 906) rfl, by decide +kernel, rfl⟩
theorem jhp_42 : jhP 42 := ⟨rfl, jw_mem (p := 647) rfl, jw_mem (p := 5) rfl, jw_mem (p := 646) rfl, by decide +kernel, rfl⟩
theorem jhp_43 : jhP 43 := ⟨rfl, jw_mem (p := 644) rfl, jw_mem (p := 5) rfl, ⟨jw_mem (p := 642) rfl, jw_mem (p := 643) rfl⟩, by decide +kernel, rfl⟩
theorem jhp_44 : jhP 44 := ⟨rfl, jw_mem (p := 599) rfl, jw_mem (p := 5) rfl, ⟨jw_mem (p := 597) rfl, jw_mem (p := 598) rfl⟩, by decide +kernel, rfl⟩
theorem jhp_45 : jhP 45 := ⟨rfl, jw_mem (p := 651) rfl, jw_mem (p := 5) rfl, ⟨jw_mem (p := 649) rfl, jw_mem (p := 650) rfl⟩, by decide +kernel, rfl⟩
theorem jhp_46 : jhP 46 := ⟨rfl, jw_mem (p := 589) rfl, jw_mem (p := 5) rfl, ⟨jw_mem (p := 587) rfl, jw_mem (p := 588) rfl⟩, by decide +kernel, rfl⟩
theorem jhp_47 : jhP 47 := ⟨rfl, jw_mem (p := 840) rfl, jw_mem (p := 5) rfl, ⟨jw_mem (p := 838) rfl, jw_mem (p := 839) rfl⟩, by decide +kernel, rfl⟩
theorem jhp_48 : jhP 48 := ⟨rfl, jw_mem (p := 707) rfl, jw_mem (p := 5) rfl, ⟨jw_mem (p := 705) rfl, jw_mem (p := 706) rfl⟩, by decide +kernel, rfl⟩
theorem jhp_49 : jhP 49 := ⟨rfl, jw_mem (p := 727) rfl, jw_mem (p := 5) rfl, ⟨jw_mem (p := 725) rfl, jw_mem (p := 726) rfl⟩, by decide +kernel, rfl⟩
theorem jhp_50 : jhP 50 := ⟨rfl, jw_mem (p := 723) rfl, jw_mem (p := 5) rfl, ⟨jw_mem (p := 721) rfl, jw_mem (p := 722) rfl⟩, by decide +kernel, rfl⟩
theorem jhp_51 : jhP 51 := ⟨rfl, jw_mem (p := 776) rfl, jw_mem (p := 5) rfl, ⟨jw_mem (p := 774) rfl, jw_mem (p := 775) rfl⟩, by decide +kernel, rfl⟩
theorem jhp_52 : jhP 52 := ⟨rfl, jw_mem (p := 836) rfl, jw_mem (p := 5) rfl, ⟨jw_mem (p := 834) rfl, jw_mem (p := 835) rfl⟩, by decide +kernel, rfl⟩
theorem jhp_53 : jhP 53 := ⟨rfl, jw_mem (p := 832) rfl, jw_mem (p := 5) rfl, ⟨jw_mem (p := 790) rfl, jw_mem (p := 791) rfl⟩, by decide +kernel, rfl⟩
theorem jhp_54 : jhP 54 := ⟨rfl, jw_mem (p := 848) rfl, jw_mem (p := 5) rfl, ⟨jw_mem (p := 846) rfl, jw_mem (p := 847) rfl⟩, by decide +kernel, rfl⟩
theorem jhp_55 : jhP 55 := ⟨rfl, jw_mem (p := 911) rfl, jw_mem (p := 5) rfl, ⟨jw_mem (p := 909) rfl, jw_mem (p := 910) rfl⟩, by decide +kernel, rfl⟩
theorem jhp_56 : jhP 56 := ⟨rfl, jw_mem (p := 904) rfl, jw_mem (p := 5) rfl, ⟨jw_mem (p := 902) rfl, jw_mem (p := 903) rfl⟩, by decide +kernel, rfl⟩
theorem jhp_57 : jhP 57 := ⟨rfl, jw_mem (p := 968) rfl, jw_mem (p := 5) rfl, ⟨jw_mem (p := 966) rfl, jw_mem (p := 967) rfl⟩, by decide +kernel, rfl⟩
theorem jhp_58 : jhP 58 := ⟨rfl, jw_mem (p := 964) rfl, jw_mem (p := 5) rfl, ⟨jw_mem (p := 962) rfl, jw_mem (p := 963) rfl⟩, by decide +kernel, rfl⟩
theorem jhp_59 : jhP 59 := ⟨rfl, jw_mem (p := 977) rfl, jw_mem (p := 5) rfl, ⟨jw_mem (p := 975) rfl, jw_mem (p := 976) rfl⟩, by decide +kernel, rfl⟩
theorem jhp_60 : jhP 60 := ⟨rfl, jw_mem (p := 1095) rfl, jw_mem (p := 5) rfl, ⟨jw_mem (p := 1093) rfl, jw_mem (p := 1094) rfl⟩, by decide +kernel, rfl⟩
theorem jhp_61 : jhP 61 := ⟨rfl, jw_mem (p := 1099) rfl, jw_mem (p := 5) rfl, ⟨jw_mem (p := 1097) rfl, jw_mem (p := 1098) rfl⟩, by decide +kernel, rfl⟩
theorem jhp_62 : jhP 62 := ⟨rfl, jw_mem (p := 1107) rfl, jw_mem (p := 5) rfl, ⟨jw_mem (p := 1105) rfl, jw_mem (p := 1106) rfl⟩, by decide +kernel, rfl⟩
theorem jhp_63 : jhP 63 := ⟨rfl, jw_mem (p := 1103) rfl, jw_mem (p := 5) rfl, ⟨jw_mem (p := 1101) rfl, jw_mem (p := 1102) rfl⟩, by decide +kernel, rfl⟩
theorem jhp_64 : jhP 64 := ⟨rfl, jw_mem (p := 1091) rfl, jw_mem (p := 5) rfl, ⟨jw_mem (p := 1089) rfl, jw_mem (p := 1090) rfl⟩, by decide +kernel, rfl⟩
theorem jhp_65 : jhP 65 := ⟨rfl, jw_mem (p := 1159) rfl, jw_mem (p := 5) rfl, ⟨jw_mem (p := 1157) rfl, jw_mem (p := 1158) rfl⟩, by decide +kernel, rfl⟩
theorem jhp_66 : jhP 66 := ⟨rfl, jw_mem (p := 1175) rfl, jw_mem (p := 5) rfl, ⟨jw_mem (p := 1173) rfl, jw_mem (p := 1174) rfl⟩, by decide +kernel, rfl⟩
theorem jhp_67 : jhP 67 := ⟨rfl, jw_mem (p := 1171) rfl, jw_mem (p := 5) rfl, ⟨jw_mem (p := 1169) rfl, jw_mem (p := 1170) rfl⟩, by decide +kernel, rfl⟩
theorem jhp_68 : jhP 68 := ⟨rfl, jw_mem (p := 1235) rfl, jw_mem (p := 5) rfl, ⟨jw_mem (p := 1233) rfl, jw_mem (p := 1234) rfl⟩, by decide +kernel, rfl⟩
theorem jhp_69 : jhP 69 := ⟨rfl, jw_mem (p := 1231) rfl, jw_mem (p := 5) rfl, ⟨jw_mem (p := 1229) rfl, jw_mem (p := 1230) rfl⟩, by decide +kernel, rfl⟩
theorem jhp_70 : jhP 70 := ⟨rfl, jw_mem (p := 1807) rfl, jw_mem (p := 5) rfl, ⟨jw_mem (p := 1805) rfl, jw_mem (p := 1806) rfl⟩, by decide +kernel, rfl⟩
theorem jhp_71 : jhP 71 := ⟨rfl, jw_mem (p := 1814) rfl, jw_mem (p := 5) rfl, jw_mem (p := 1813) rfl, by decide +kernel, rfl⟩
theorem jhp_72 : jhP 72 := ⟨rfl, jw_mem (p := 1811) rfl, jw_mem (p := 5) rfl, ⟨jw_mem (p := 1809) rfl, jw_mem (p := 1810) rfl⟩, by decide +kernel, rfl⟩
theorem jhp_73 : jhP 73 := ⟨rfl, jw_mem (p := 1803) rfl, jw_mem (p := 5) rfl, ⟨jw_mem (p := 1801) rfl, jw_mem (p := 1802) rfl⟩, by decide +kernel, rfl⟩
theorem jhp_74 : jhP 74 := ⟨rfl, jw_mem (p := 1799) rfl, jw_mem (p := 5) rfl, ⟨jw_mem (p := 1797) rfl, jw_mem (p := 1798) rfl⟩, by decide +kernel, rfl⟩
theorem jhp_75 : jhP 75 := ⟨rfl, jw_mem (p := 1795) rfl, jw_mem (p := 5) rfl, ⟨jw_mem (p := 1793) rfl, jw_mem (p := 1794) rfl⟩, by decide +kernel, rfl⟩
theorem jhp_76 : jhP 76 := ⟨rfl, jw_mem (p := 1751) rfl, jw_mem (p := 5) rfl, ⟨jw_mem (p := 1749) rfl, jw_mem (p := 1750) rfl⟩, by decide +kernel, rfl⟩
theorem jhp_77 : jhP 77 := ⟨rfl, jw_mem (p := 1743) rfl, jw_mem (p := 5) rfl, ⟨jw_mem (p := 1741) rfl, jw_mem (p := 1742) rfl⟩, by decide +kernel, rfl⟩
theorem jhp_78 : jhP 78 := ⟨rfl, jw_mem (p := 1858) rfl, jw_mem (p := 5) rfl, ⟨jw_mem (p := 1856) rfl, jw_mem (p := 1857) rfl⟩, by decide +kernel, rfl⟩
theorem jhp_79 : jhP 79 := ⟨rfl, jw_mem (p := 1747) rfl, jw_mem (p := 5) rfl, ⟨jw_mem (p := 1745) rfl, jw_mem (p := 1746) rfl⟩, by decide +kernel, rfl⟩
theorem jhp_80 : jhP 80 := ⟨rfl, jw_mem (p := 1735) rfl, jw_mem (p := 5) rfl, ⟨jw_mem (p := 1733) rfl, jw_mem (p := 1734) rfl⟩, by decide +kernel, rfl⟩
theorem jhp_81 : jhP 81 := ⟨rfl, jw_mem (p := 1731) rfl, jw_mem (p := 5) rfl, jw_mem (p := 1730) rfl, by decide +kernel, rfl⟩
theorem jhp_82 : jhP 82 := ⟨rfl, jw_mem (p := 1686) rfl, jw_mem (p := 5) rfl, ⟨jw_mem (p := 1684) rfl, jw_mem (p := 1685) rfl⟩, by decide +kernel, rfl⟩
theorem jhp_83 : jhP 83 := ⟨rfl, jw_mem (p := 1868) rfl, jw_mem (p := 5) rfl, ⟨jw_mem (p := 1866) rfl, jw_mem (p := 1867) rfl⟩, by decide +kernel, rfl⟩
theorem jhp_84 : jhP 84 := ⟨rfl, jw_mem (p := 1877) rfl, jw_mem (p := 5) rfl, ⟨jw_mem (p := 1875) rfl, jw_mem (p := 1876) rfl⟩, by decide +kernel, rfl⟩
theorem jhp_85 : jhP 85 := ⟨rfl, jw_mem (p := 1937) rfl, jw_mem (p := 5) rfl, ⟨jw_mem (p := 1935) rfl, jw_mem (p := 1936) rfl⟩, by decide +kernel, rfl⟩
theorem jhp_86 : jhP 86 := ⟨rfl, jw_mem (p := 1933) rfl, jw_mem (p := 5) rfl, ⟨jw_mem (p := 1931) rfl, jw_mem (p := 1932) rfl⟩, by decide +kernel, rfl⟩
theorem jhp_87 : jhP 87 := ⟨rfl, jw_mem (p := 1996) rfl, jw_mem (p := 5) rfl, ⟨jw_mem (p := 1994) rfl, jw_mem (p := 1995) rfl⟩, by decide +kernel, rfl⟩
theorem jhp_88 : jhP 88 := ⟨rfl, jw_mem (p := 2049) rfl, jw_mem (p := 5) rfl, ⟨jw_mem (p := 2007) rfl, jw_mem (p := 2048) rfl⟩, by decide +kernel, rfl⟩
theorem jhp_89 : jhP 89 := ⟨rfl, jw_mem (p := 2113) rfl, jw_mem (p := 5) rfl, ⟨jw_mem (p := 2071) rfl, jw_mem (p := 2112) rfl⟩, by decide +kernel, rfl⟩
theorem jhp_90 : jhP 90 := ⟨rfl, jw_mem (p := 2069) rfl, jw_mem (p := 5) rfl, ⟨jw_mem (p := 2067) rfl, jw_mem (p := 2068) rfl⟩, by decide +kernel, rfl⟩
theorem jhp_91 : jhP 91 := ⟨rfl, jw_mem (p := 2185) rfl, jw_mem (p := 5) rfl, ⟨jw_mem (p := 2183) rfl, jw_mem (p := 2184) rfl⟩, by decide +kernel, rfl⟩
theorem jhp_92 : jhP 92 := ⟨rfl, jw_mem (p := 2189) rfl, jw_mem (p := 5) rfl, ⟨jw_mem (p := 2187) rfl, jw_mem (p := 2188) rfl⟩, by decide +kernel, rfl⟩
theorem jhp_93 : jhP 93 := ⟨rfl, jw_mem (p := 2065) rfl, jw_mem (p := 5) rfl, ⟨jw_mem (p := 2063) rfl, jw_mem (p := 2064) rfl⟩, by decide +kernel, rfl⟩
theorem jhp_94 : jhP 94 := ⟨rfl, jw_mem (p := 2060) rfl, jw_mem (p := 5) rfl, ⟨jw_mem (p := 2058) rfl, jw_mem (p := 2059) rfl⟩, by decide +kernel, rfl⟩
theorem jhp_95 : jhP 95 := ⟨rfl, jw_mem (p := 2181) rfl, jw_mem (p := 5) rfl, ⟨jw_mem (p := 2179) rfl, jw_mem (p := 2180) rfl⟩, by decide +kernel, rfl⟩
theorem jhp_96 : jhP 96 := ⟨rfl, jw_mem (p := 2253) rfl, jw_mem (p := 5) rfl, jw_mem (p := 2252) rfl, by decide +kernel, rfl⟩
theorem jhp_97 : jhP 97 := ⟨rfl, jw_mem (p := 2257) rfl, jw_mem (p := 5) rfl, ⟨jw_mem (p := 2255) rfl, jw_mem (p := 2256) rfl⟩, by decide +kernel, rfl⟩
theorem jhp_98 : jhP 98 := ⟨rfl, jw_mem (p := 2250) rfl, jw_mem (p := 5) rfl, ⟨jw_mem (p := 2248) rfl, jw_mem (p := 2249) rfl⟩, by decide +kernel, rfl⟩
theorem jhp_99 : jhP 99 := ⟨rfl, jw_mem (p := 2323) rfl, jw_mem (p := 5) rfl, ⟨jw_mem (p := 2321) rfl, jw_mem (p := 2322) rfl⟩, by decide +kernel, rfl⟩
theorem jhp_100 : jhP 100 := ⟨rfl, jw_mem (p := 2319) rfl, jw_mem (p := 5) rfl, ⟨jw_mem (p := 2317) rfl, jw_mem (p := 2318) rfl⟩, by decide +kernel, rfl⟩
theorem jhp_101 : jhP 101 := ⟨rfl, jw_mem (p := 2432) rfl, jw_mem (p := 5) rfl, ⟨jw_mem (p := 2390) rfl, jw_mem (p := 2391) rfl⟩, by decide +kernel, rfl⟩
theorem jhp_102 : jhP 102 := ⟨rfl, jw_mem (p := 2383) rfl, jw_mem (p := 5) rfl, ⟨jw_mem (p := 2381) rfl, jw_mem (p := 2382) rfl⟩, by decide +kernel, rfl⟩
theorem jhp_103 : jhP 103 := ⟨rfl, jw_mem (p := 2440) rfl, jw_mem (p := 5) rfl, ⟨jw_mem (p := 2438) rfl, jw_mem (p := 2439) rfl⟩, by decide +kernel, rfl⟩
theorem jhp_104 : jhP 104 := ⟨rfl, jw_mem (p := 2566) rfl, jw_mem (p := 5) rfl, ⟨jw_mem (p := 2564) rfl, jw_mem (p := 2565) rfl⟩, by decide +kernel, rfl⟩
theorem jhp_105 : jhP 105 := ⟨rfl, jw_mem (p := 2570) rfl, jw_mem (p := 5) rfl, ⟨jw_mem (p := 2568) rfl, jw_mem (p := 2569) rfl⟩, by decide +kernel, rfl⟩
theorem jhp_106 : jhP 106 := ⟨rfl, jw_mem (p := 2562) rfl, jw_mem (p := 5) rfl, ⟨jw_mem (p := 2560) rfl, jw_mem (p := 2561) rfl⟩, by decide +kernel, rfl⟩
theorem jhp_107 : jhP 107 := ⟨rfl, jw_mem (p := 2641) rfl, jw_mem (p := 5) rfl, ⟨jw_mem (p := 2639) rfl, jw_mem (p := 2640) rfl⟩, by decide +kernel, rfl⟩
theorem jhp_108 : jhP 108 := ⟨rfl, jw_mem (p := 2637) rfl, jw_mem (p := 5) rfl, ⟨jw_mem (p := 2635) rfl, jw_mem (p := 2636) rfl⟩, by decide +kernel, rfl⟩
theorem jhp_109 : jhP 109 := ⟨rfl, jw_mem (p := 2693) rfl, jw_mem (p := 5) rfl, ⟨jw_mem (p := 2691) rfl, jw_mem (p := 2692) rfl⟩, by decide +kernel, rfl⟩
theorem jhp_110 : jhP 110 := ⟨rfl, jw_mem (p := 2705) rfl, jw_mem (p := 5) rfl, ⟨jw_mem (p := 2703) rfl, jw_mem (p := 2704) rfl⟩, by decide +kernel, rfl⟩
theorem jhp_111 : jhP 111 := ⟨rfl, jw_mem (p := 1348) rfl, jw_mem (p := 21) rfl, ⟨jw_mem (p := 1346) rfl, jw_mem (p := 1347) rfl⟩, by decide +kernel, rfl⟩
theorem jhp_112 : jhP 112 := ⟨rfl, jw_mem (p := 1363) rfl, jw_mem (p := 21) rfl, ⟨jw_mem (p := 1361) rfl, jw_mem (p := 1362) rfl⟩, by decide +kernel, rfl⟩
theorem jhp_113 : jhP 113 := ⟨rfl, jw_mem (p := 1411) rfl, jw_mem (p := 21) rfl, ⟨jw_mem (p := 1409) rfl, jw_mem (p := 1410) rfl⟩, by decide +kernel, rfl⟩
theorem jhp_114 : jhP 114 := ⟨rfl, jw_mem (p := 1986) rfl, jw_mem (p := 21) rfl, ⟨jw_mem (p := 1984) rfl, jw_mem (p := 1985) rfl⟩, by decide +kernel, rfl⟩
theorem jhp_115 : jhP 115 := ⟨rfl, jw_mem (p := 1427) rfl, jw_mem (p := 21) rfl, ⟨jw_mem (p := 1425) rfl, jw_mem (p := 1426) rfl⟩, by decide +kernel, rfl⟩
theorem jhp_116 : jhP 116 := ⟨rfl, jw_mem (p := 1559) rfl, jw_mem (p := 21) rfl, ⟨jw_mem (p := 1557) rfl, jw_mem (p := 1558) rfl⟩, by decide +kernel, rfl⟩
theorem jhp_117 : jhP 117 := ⟨rfl, jw_mem (p := 1604) rfl, jw_mem (p := 21) rfl, ⟨jw_mem (p := 1602) rfl, jw_mem (p := 1603) rfl⟩, by decide +kernel, rfl⟩
theorem jhp_118 : jhP 118 := ⟨rfl, jw_mem (p := 1493) rfl, jw_mem (p := 21) rfl, ⟨jw_mem (p := 1491) rfl, jw_mem (p := 1492) rfl⟩, by decide +kernel, rfl⟩
theorem jhp_119 : jhP 119 := ⟨rfl, jw_mem (p := 1473) rfl, jw_mem (p := 21) rfl, ⟨jw_mem (p := 1431) rfl, jw_mem (p := 1472) rfl⟩, by decide +kernel, rfl⟩
theorem jhp_120 : jhP 120 := ⟨rfl, jw_mem (p := 1477) rfl, jw_mem (p := 21) rfl, ⟨jw_mem (p := 1475) rfl, jw_mem (p := 1476) rfl⟩, by decide +kernel, rfl⟩
theorem jhp_121 : jhP 121 := ⟨rfl, jw_mem (p := 1489) rfl, jw_mem (p := 21) rfl, ⟨jw_mem (p := 1487) rfl, jw_mem (p := 1488) rfl⟩, by decide +kernel, rfl⟩
theorem jhp_122 : jhP 122 := ⟨rfl, jw_mem (p := 1613) rfl, jw_mem (p := 21) rfl, ⟨jw_mem (p := 1611) rfl, jw_mem (p := 1612) rfl⟩, by decide +kernel, rfl⟩
theorem jhp_123 : jhP 123 := ⟨rfl, jw_mem (p := 1991) rfl, jw_mem (p := 21) rfl, ⟨jw_mem (p := 1989) rfl, jw_mem (p := 1990) rfl⟩, by decide +kernel, rfl⟩
theorem jhp_124 : jhP 124 := ⟨rfl, jw_mem (p := 1672) rfl, jw_mem (p := 78) rfl, ⟨jw_mem (p := 1670) rfl, jw_mem (p := 1671) rfl⟩, by decide +kernel, rfl⟩
theorem jhp_125 : jhP 125 := ⟨rfl, jw_mem (p := 1677) rfl, jw_mem (p := 78) rfl, ⟨jw_mem (p := 1675) rfl, jw_mem (p := 1676) rfl⟩, by decide +kernel, rfl⟩
theorem jhp_126 : jhP 126 := ⟨rfl, jw_mem (p := 1682) rfl, jw_mem (p := 78) rfl, ⟨jw_mem (p := 1680) rfl, jw_mem (p := 1681) rfl⟩, by decide +kernel, rfl⟩
theorem jhp_127 : jhP 127 := ⟨rfl, jw_mem (p := 2121) rfl, jw_mem (p := 78) rfl, ⟨jw_mem (p := 2119) rfl, jw_mem (p := 2120) rfl⟩, by decide +kernel, rfl⟩
theorem jhp_128 : jhP 128 := ⟨rfl, jw_mem (p := 2125) rfl, jw_mem (p := 78) rfl, ⟨jw_mem (p := 2123) rfl, jw_mem (p := 2124) rfl⟩, by decide +kernel, rfl⟩
theorem jhp_129 : jhP 129 := ⟨rfl, jw_mem (p := 2176) rfl, jw_mem (p := 78) rfl, ⟨jw_mem (p := 2134) rfl, jw_mem (p := 2135) rfl⟩, by decide +kernel, rfl⟩
theorem jhp_130 : jhP 130 := ⟨rfl, jw_mem (p := 2130) rfl, jw_mem (p := 78) rfl, ⟨jw_mem (p := 2128) rfl, jw_mem (p := 2129) rfl⟩, by decide +kernel, rfl⟩
theorem jhp_131 : jhP 131 := ⟨rfl, jw_mem (p := 1289) rfl, jw_mem (p := 67) rfl, ⟨jw_mem (p := 1287) rfl, jw_mem (p := 1288) rfl⟩, by decide +kernel, rfl⟩
theorem jhp_132 : jhP 132 := ⟨rfl, jw_mem (p := 1667) rfl, jw_mem (p := 67) rfl, ⟨jw_mem (p := 1665) rfl, jw_mem (p := 1666) rfl⟩, by decide +kernel, rfl⟩
theorem jhp_133 : jhP 133 := ⟨rfl, jw_mem (p := 2199) rfl, jw_mem (p := 67) rfl, ⟨jw_mem (p := 2197) rfl, jw_mem (p := 2198) rfl⟩, by decide +kernel, rfl⟩
theorem jhp_134 : jhP 134 := ⟨rfl, jw_mem (p := 585) rfl, jw_mem (p := 18) rfl, ⟨jw_mem (p := 583) rfl, jw_mem (p := 584) rfl⟩, by decide +kernel, rfl⟩
theorem jhp_135 : jhP 135 := ⟨rfl, jw_mem (p := 660) rfl, jw_mem (p := 18) rfl, ⟨jw_mem (p := 658) rfl, jw_mem (p := 659) rfl⟩, by decide +kernel, rfl⟩
theorem jhp_136 : jhP 136 := ⟨rfl, jw_mem (p := 715) rfl, jw_mem (p := 18) rfl, ⟨jw_mem (p := 713) rfl, jw_mem (p := 714) rfl⟩, by decide +kernel, rfl⟩
theorem jhp_137 : jhP 137 := ⟨rfl, jw_mem (p := 719) rfl, jw_mem (p := 18) rfl, ⟨jw_mem (p := 717) rfl, jw_mem (p := 718) rfl⟩, by decide +kernel, rfl⟩
theorem jhp_138 : jhP 138 := ⟨rfl, jw_mem (p := 788) rfl, jw_mem (p := 18) rfl, ⟨jw_mem (p := 786) rfl, jw_mem (p := 787) rfl⟩, by decide +kernel, rfl⟩
theorem jhp_139 : jhP 139 := ⟨rfl, jw_mem (p := 784) rfl, jw_mem (p := 18) rfl, ⟨jw_mem (p := 782) rfl, jw_mem (p := 783) rfl⟩, by decide +kernel, rfl⟩
theorem jhp_140 : jhP 140 := ⟨rfl, jw_mem (p := 900) rfl, jw_mem (p := 70) rfl, ⟨jw_mem (p := 898) rfl, jw_mem (p := 899) rfl⟩, by decide +kernel, rfl⟩
theorem jhp_141 : jhP 141 := ⟨rfl, jw_mem (p := 1223) rfl, jw_mem (p := 70) rfl, ⟨jw_mem (p := 1221) rfl, jw_mem (p := 1222) rfl⟩, by decide +kernel, rfl⟩
theorem jhp_142 : jhP 142 := ⟨rfl, jw_mem (p := 1026) rfl, jw_mem (p := 70) rfl, ⟨jw_mem (p := 1024) rfl, jw_mem (p := 1025) rfl⟩, by decide +kernel, rfl⟩
theorem jhp_143 : jhP 143 := ⟨rfl, jw_mem (p := 1030) rfl, jw_mem (p := 70) rfl, ⟨jw_mem (p := 1028) rfl, jw_mem (p := 1029) rfl⟩, by decide +kernel, rfl⟩
theorem jhp_144 : jhP 144 := ⟨rfl, jw_mem (p := 1034) rfl, jw_mem (p := 70) rfl, ⟨jw_mem (p := 1032) rfl, jw_mem (p := 1033) rfl⟩, by decide +kernel, rfl⟩
theorem jhp_145 : jhP 145 := ⟨rfl, jw_mem (p := 1039) rfl, jw_mem (p := 70) rfl, ⟨jw_mem (p := 1037) rfl, jw_mem (p := 1038) rfl⟩, by decide +kernel, rfl⟩
theorem jhp_146 : jhP 146 := ⟨rfl, jw_mem (p := 1047) rfl, jw_mem (p := 70) rfl, ⟨jw_mem (p := 1045) rfl, jw_mem (p := 1046) rfl⟩, by decide +kernel, rfl⟩
theorem jhp_147 : jhP 147 := ⟨rfl, jw_mem (p := 1167) rfl, jw_mem (p := 70) rfl, ⟨jw_mem (p := 1165) rfl, jw_mem (p := 1166) rfl⟩, by decide +kernel, rfl⟩
theorem jhp_148 : jhP 148 := ⟨rfl, jw_mem (p := 581) rfl, jw_mem (p := 70) rfl, ⟨jw_mem (p := 579) rfl, jw_mem (p := 580) rfl⟩, by decide +kernel, rfl⟩
theorem jhp_149 : jhP 149 := ⟨rfl, jw_mem (p := 1359) rfl, jw_mem (p := 70) rfl, ⟨jw_mem (p := 1357) rfl, jw_mem (p := 1358) rfl⟩, by decide +kernel, rfl⟩
theorem jhp_150 : jhP 150 := ⟨rfl, jw_mem (p := 1294) rfl, jw_mem (p := 64) rfl, ⟨jw_mem (p := 1292) rfl, jw_mem (p := 1293) rfl⟩, by decide +kernel, rfl⟩
theorem jhp_151 : jhP 151 := ⟨rfl, jw_mem (p := 1925) rfl, jw_mem (p := 64) rfl, ⟨jw_mem (p := 1923) rfl, jw_mem (p := 1924) rfl⟩, by decide +kernel, rfl⟩
theorem jhp_152 : jhP 152 := ⟨rfl, jw_mem (p := 1929) rfl, jw_mem (p := 64) rfl, ⟨jw_mem (p := 1927) rfl, jw_mem (p := 1928) rfl⟩, by decide +kernel, rfl⟩
theorem jhp_153 : jhP 153 := ⟨rfl, jw_mem (p := 2689) rfl, jw_mem (p := 64) rfl, ⟨jw_mem (p := 2647) rfl, jw_mem (p := 2688) rfl⟩, by decide +kernel, rfl⟩
theorem jhp_154 : jhP 154 := ⟨rfl, jw_mem (p := 2004) rfl, jw_mem (p := 64) rfl, ⟨jw_mem (p := 2002) rfl, jw_mem (p := 2003) rfl⟩, by decide +kernel, rfl⟩
theorem jhp_155 : jhP 155 := ⟨rfl, jw_mem (p := 1299) rfl, jw_mem (p := 64) rfl, ⟨jw_mem (p := 1297) rfl, jw_mem (p := 1298) rfl⟩, by decide +kernel, rfl⟩
theorem jhp_156 : jhP 156 := ⟨rfl, jw_mem (p := 1416) rfl, jw_mem (p := 64) rfl, ⟨jw_mem (p := 1414) rfl, jw_mem (p := 1415) rfl⟩, by decide +kernel, rfl⟩
theorem jhp_157 : jhP 157 := ⟨rfl, jw_mem (p := 1419) rfl, jw_mem (p := 64) rfl, jw_mem (p := 1418) rfl, by decide +kernel, rfl⟩
theorem jhp_158 : jhP 158 := ⟨rfl, jw_mem (p := 1552) rfl, jw_mem (p := 64) rfl, ⟨jw_mem (p := 1550) rfl, jw_mem (p := 1551) rfl⟩, by decide +kernel, rfl⟩
theorem jhp_159 : jhP 159 := ⟨rfl, jw_mem (p := 1537) rfl, jw_mem (p := 64) rfl, ⟨jw_mem (p := 1495) rfl, jw_mem (p := 1536) rfl⟩, by decide +kernel, rfl⟩
theorem jhp_160 : jhP 160 := ⟨rfl, jw_mem (p := 1423) rfl, jw_mem (p := 64) rfl, ⟨jw_mem (p := 1421) rfl, jw_mem (p := 1422) rfl⟩, by decide +kernel, rfl⟩
theorem jhp_161 : jhP 161 := ⟨rfl, jw_mem (p := 1548) rfl, jw_mem (p := 64) rfl, ⟨jw_mem (p := 1546) rfl, jw_mem (p := 1547) rfl⟩, by decide +kernel, rfl⟩
theorem jhp_162 : jhP 162 := ⟨rfl, jw_mem (p := 2373) rfl, jw_mem (p := 129) rfl, ⟨jw_mem (p := 2371) rfl, jw_mem (p := 2372) rfl⟩, by decide +kernel, rfl⟩
theorem jhp_163 : jhP 163 := ⟨rfl, jw_mem (p := 2378) rfl, jw_mem (p := 129) rfl, ⟨jw_mem (p := 2376) rfl, jw_mem (p := 2377) rfl⟩, by decide +kernel, rfl⟩
theorem jhp_164 : jhP 164 := ⟨rfl, jw_mem (p := 2304) rfl, jw_mem (p := 129) rfl, jw_mem (p := 2263) rfl, by decide +kernel, rfl⟩
theorem jhp_165 : jhP 165 := ⟨rfl, jw_mem (p := 2313) rfl, jw_mem (p := 129) rfl, jw_mem (p := 2312) rfl, by decide +kernel, rfl⟩
theorem jhp_166 : jhP 166 := ⟨rfl, jw_mem (p := 1353) rfl, jw_mem (p := 151) rfl, ⟨jw_mem (p := 1351) rfl, jw_mem (p := 1352) rfl⟩, by decide +kernel, rfl⟩
theorem jhp_167 : jhP 167 := ⟨rfl, jw_mem (p := 1481) rfl, jw_mem (p := 151) rfl, ⟨jw_mem (p := 1479) rfl, jw_mem (p := 1480) rfl⟩, by decide +kernel, rfl⟩
theorem jhp_168 : jhP 168 := ⟨rfl, jw_mem (p := 1485) rfl, jw_mem (p := 151) rfl, ⟨jw_mem (p := 1483) rfl, jw_mem (p := 1484) rfl⟩, by decide +kernel, rfl⟩
theorem jhp_169 : jhP 169 := ⟨rfl, jw_mem (p := 1609) rfl, jw_mem (p := 151) rfl, ⟨jw_mem (p := 1607) rfl, jw_mem (p := 1608) rfl⟩, by decide +kernel, rfl⟩
theorem jhp_170 : jhP 170 := ⟨rfl, jw_mem (p := 1618) rfl, jw_mem (p := 151) rfl, ⟨jw_mem (p := 1616) rfl, jw_mem (p := 1617) rfl⟩, by decide +kernel, rfl⟩
theorem jhp_171 : jhP 171 := ⟨rfl, jw_mem (p := 1622) rfl, jw_mem (p := 151) rfl, ⟨jw_mem (p := 1620) rfl, jw_mem (p := 1621) rfl⟩, by decide +kernel, rfl⟩
theorem jhp_172 : jhP 172 := ⟨rfl, jw_mem (p := 2449) rfl, jw_mem (p := 85) rfl, ⟨jw_mem (p := 2447) rfl, jw_mem (p := 2448) rfl⟩, by decide +kernel, rfl⟩
theorem jhp_173 : jhP 173 := ⟨rfl, jw_mem (p := 2578) rfl, jw_mem (p := 85) rfl, ⟨jw_mem (p := 2576) rfl, jw_mem (p := 2577) rfl⟩, by decide +kernel, rfl⟩
theorem jhp_174 : jhP 174 := ⟨rfl, jw_mem (p := 2582) rfl, jw_mem (p := 85) rfl, ⟨jw_mem (p := 2580) rfl, jw_mem (p := 2581) rfl⟩, by decide +kernel, rfl⟩
theorem jhp_175 : jhP 175 := ⟨rfl, jw_mem (p := 2629) rfl, jw_mem (p := 85) rfl, ⟨jw_mem (p := 2627) rfl, jw_mem (p := 2628) rfl⟩, by decide +kernel, rfl⟩
theorem jhp_176 : jhP 176 := ⟨rfl, jw_mem (p := 2633) rfl, jw_mem (p := 85) rfl, ⟨jw_mem (p := 2631) rfl, jw_mem (p := 2632) rfl⟩, by decide +kernel, rfl⟩
theorem jhp_177 : jhP 177 := ⟨rfl, jw_mem (p := 2500) rfl, jw_mem (p := 85) rfl, ⟨jw_mem (p := 2498) rfl, jw_mem (p := 2499) rfl⟩, by decide +kernel, rfl⟩
theorem jhp_178 : jhP 178 := ⟨rfl, jw_mem (p := 2505) rfl, jw_mem (p := 85) rfl, ⟨jw_mem (p := 2503) rfl, jw_mem (p := 2504) rfl⟩, by decide +kernel, rfl⟩
theorem jhp_179 : jhP 179 := ⟨rfl, jw_mem (p := 2510) rfl, jw_mem (p := 85) rfl, ⟨jw_mem (p := 2508) rfl, jw_mem (p := 2509) rfl⟩, by decide +kernel, rfl⟩
theorem jhp_180 : jhP 180 := ⟨rfl, jw_mem (p := 2516) rfl, jw_mem (p := 85) rfl, ⟨jw_mem (p := 2514) rfl, jw_mem (p := 2515) rfl⟩, by decide +kernel, rfl⟩
theorem jhp_181 : jhP 181 := ⟨rfl, jw_mem (p := 1541) rfl, jw_mem (p := 1540) rfl, jw_mem (p := 1539) rfl, by decide +kernel, rfl⟩
theorem jf_g0 : ∀ q ∈ [(9, 42, 9, 0), (9, 110, 3, 0), (9, 113, 3, 1), (9, 121, 3, 2), (9, 132, 3, 3), (9, 9, 9, 8), (9, 46, 9, 1), (9, 149, 4, 0), (9, 155, 4, 3), (9, 158, 4, 2), (9, 165, 4, 1), (9, 176, 4, 4), (9, 179, 4, 5), (9, 180, 4, 6), (9, 183, 4, 7), (9, 58, 9, 4), (9, 54, 9, 3), (9, 64, 2, 3), (9, 202, 2, 4), (9, 50, 9, 2), (9, 68, 0, 5), (9, 72, 0, 6), (9, 213, 2, 0), (9, 216, 2, 5)], jfP q := List.forall_mem_cons.mpr ⟨jf_0, List.forall_mem_cons.mpr ⟨jf_1, List.forall_mem_cons.mpr ⟨jf_2, List.forall_mem_cons.mpr ⟨jf_3, List.forall_mem_cons.mpr ⟨jf_4, List.forall_mem_cons.mpr ⟨jf_5, List.forall_mem_cons.mpr ⟨jf_6, List.forall_mem_cons.mpr ⟨jf_7, List.forall_mem_cons.mpr ⟨jf_8, List.forall_mem_cons.mpr ⟨jf_9, List.forall_mem_cons.mpr ⟨jf_10, List.forall_mem_cons.mpr ⟨jf_11, List.forall_mem_cons.mpr ⟨jf_12, List.forall_mem_cons.mpr ⟨jf_13, List.forall_mem_cons.mpr ⟨jf_14, List.forall_mem_cons.mpr ⟨jf_15, List.forall_mem_cons.mpr ⟨jf_16, List.forall_mem_cons.mpr ⟨jf_17, List.forall_mem_cons.mpr ⟨jf_18, List.forall_mem_cons.mpr ⟨jf_19, List.forall_mem_cons.mpr ⟨jf_20, List.forall_mem_cons.mpr ⟨jf_21, List.forall_mem_cons.mpr ⟨jf_22, List.forall_mem_cons.mpr ⟨jf_23, fun _ h => absurd h List.not_mem_nil⟩⟩⟩⟩⟩⟩⟩⟩⟩⟩⟩⟩⟩⟩⟩⟩⟩⟩⟩⟩⟩⟩⟩⟩
theorem jf_g1 : ∀ q ∈ [(9, 217, 2, 6), (9, 240, 2, 7), (9, 243, 1, 3), (9, 246, 1, 4), (9, 258, 2, 1), (9, 261, 2, 2), (9, 96, 9, 7), (9, 13, 9, 9), (9, 281, 6, 3), (9, 16, 9, 10), (9, 284, 6, 4), (9, 20, 9, 11), (9, 87, 9, 6), (9, 294, 8, 2), (9, 78, 9, 5), (10, 32, 10, 8), (10, 35, 10, 9), (10, 89, 10, 17), (10, 17, 10, 2), (10, 20, 10, 3), (10, 7, 10, 0), (10, 13, 10, 1), (10, 114, 10, 4), (10, 23, 10, 5)], jfP q := List.forall_mem_cons.mpr ⟨jf_24, List.forall_mem_cons.mpr ⟨jf_25, List.forall_mem_cons.mpr ⟨jf_26, List.forall_mem_cons.mpr ⟨jf_27, List.forall_mem_cons.mpr ⟨jf_28, List.forall_mem_cons.mpr ⟨jf_29, List.forall_mem_cons.mpr ⟨jf_30, List.forall_mem_cons.mpr ⟨jf_31, List.forall_mem_cons.mpr ⟨jf_32, List.forall_mem_cons.mpr ⟨jf_33, List.forall_mem_cons.mpr ⟨jf_34, List.forall_mem_cons.mpr ⟨jf_35, List.forall_mem_cons.mpr ⟨jf_36, List.forall_mem_cons.mpr ⟨jf_37, List.forall_mem_cons.mpr ⟨jf_38, List.forall_mem_cons.mpr ⟨jf_39, List.forall_mem_cons.mpr ⟨jf_40, List.forall_mem_cons.mpr ⟨jf_41, List.forall_mem_cons.mpr ⟨jf_42, List.forall_mem_cons.mpr ⟨jf_43, List.forall_mem_cons.mpr ⟨jf_44, List.forall_mem_cons.mpr ⟨jf_45, List.forall_mem_cons.mpr ⟨jf_46, List.forall_mem_cons.mpr ⟨jf_47, fun _ h => absurd h List.not_mem_nil⟩⟩⟩⟩⟩⟩⟩⟩⟩⟩⟩⟩⟩⟩⟩⟩⟩⟩⟩⟩⟩⟩⟩⟩
theorem jf_g2 : ∀ q ∈ [(10, 29, 10, 7), (10, 26, 10, 6), (10, 38, 10, 10), (10, 41, 10, 11), (10, 155, 10, 12), (10, 172, 10, 14), (10, 175, 10, 15), (10, 178, 10, 16), (10, 44, 10, 13), (10, 201, 10, 18), (10, 204, 10, 19), (10, 47, 10, 20), (10, 50, 10, 21), (10, 56, 10, 24), (10, 210, 10, 22), (10, 53, 10, 23), (10, 237, 10, 25), (10, 240, 10, 26), (10, 246, 10, 27), (10, 249, 10, 28), (10, 252, 10, 29), (10, 59, 10, 30), (10, 62, 10, 31), (10, 65, 10, 32)], jfP q := List.forall_mem_cons.mpr ⟨jf_48, List.forall_mem_cons.mpr ⟨jf_49, List.forall_mem_cons.mpr ⟨jf_50, List.forall_mem_cons.mpr ⟨jf_51, List.forall_mem_cons.mpr ⟨jf_52, List.forall_mem_cons.mpr ⟨jf_53, List.forall_mem_cons.mpr ⟨jf_54, List.forall_mem_cons.mpr ⟨jf_55, List.forall_mem_cons.mpr ⟨jf_56, List.forall_mem_cons.mpr ⟨jf_57, List.forall_mem_cons.mpr ⟨jf_58, List.forall_mem_cons.mpr ⟨jf_59, List.forall_mem_cons.mpr ⟨jf_60, List.forall_mem_cons.mpr ⟨jf_61, List.forall_mem_cons.mpr ⟨jf_62, List.forall_mem_cons.mpr ⟨jf_63, List.forall_mem_cons.mpr ⟨jf_64, List.forall_mem_cons.mpr ⟨jf_65, List.forall_mem_cons.mpr ⟨jf_66, List.forall_mem_cons.mpr ⟨jf_67, List.forall_mem_cons.mpr ⟨jf_68, List.forall_mem_cons.mpr ⟨jf_69, List.forall_mem_cons.mpr ⟨jf_70, List.forall_mem_cons.mpr ⟨jf_71, fun _ h => absurd h List.not_mem_nil⟩⟩⟩⟩⟩⟩⟩⟩⟩⟩⟩⟩⟩⟩⟩⟩⟩⟩⟩⟩⟩⟩⟩⟩
theorem jf_g3 : ∀ q ∈ [(10, 74, 10, 35), (10, 68, 10, 33), (10, 71, 10, 34), (0, 12, 0, 1), (0, 18, 0, 2), (0, 21, 0, 3), (0, 28, 0, 4), (0, 68, 4, 1), (0, 54, 0, 12), (0, 42, 0, 8), (0, 45, 0, 9), (0, 48, 0, 10), (0, 51, 0, 11), (0, 60, 0, 0), (0, 79, 4, 4), (0, 88, 4, 6), (0, 91, 3, 1), (0, 95, 4, 5), (0, 98, 4, 0), (0, 32, 0, 5), (0, 36, 0, 6), (0, 105, 7, 2), (0, 39, 0, 7), (0, 116, 4, 7)], jfP q := List.forall_mem_cons.mpr ⟨jf_72, List.forall_mem_cons.mpr ⟨jf_73, List.forall_mem_cons.mpr ⟨jf_74, List.forall_mem_cons.mpr ⟨jf_75, List.forall_mem_cons.mpr ⟨jf_76, List.forall_mem_cons.mpr ⟨jf_77, List.forall_mem_cons.mpr ⟨jf_78, List.forall_mem_cons.mpr ⟨jf_79, List.forall_mem_cons.mpr ⟨jf_80, List.forall_mem_cons.mpr ⟨jf_81, List.forall_mem_cons.mpr ⟨jf_82, List.forall_mem_cons.mpr ⟨jf_83, List.forall_mem_cons.mpr ⟨jf_84, List.forall_mem_cons.mpr ⟨jf_85, List.forall_mem_cons.mpr ⟨jf_86, List.forall_mem_cons.mpr ⟨jf_87, List.forall_mem_cons.mpr ⟨jf_88, List.forall_mem_cons.mpr ⟨jf_89, List.forall_mem_cons.mpr ⟨jf_90, List.forall_mem_cons.mpr ⟨jf_91, List.forall_mem_cons.mpr ⟨jf_92, List.forall_mem_cons.mpr ⟨jf_93, List.forall_mem_cons.mpr ⟨jf_94, List.forall_mem_cons.mpr ⟨jf_95, fun _ h => absurd h List.not_mem_nil⟩⟩⟩⟩⟩⟩⟩⟩⟩⟩⟩⟩⟩⟩⟩⟩⟩⟩⟩⟩⟩⟩⟩⟩
theorem jf_g4 : ∀ q ∈ [(0, 57, 0, 13), (0, 145, 7, 3), (0, 152, 4, 3), (1, 9, 1, 3), (1, 22, 1, 0), (1, 32, 4, 1), (1, 19, 1, 5), (1, 29, 1, 2), (1, 15, 1, 4), (1, 40, 4, 5), (1, 26, 1, 1), (1, 47, 4, 4), (1, 54, 3, 3), (2, 9, 2, 0), (2, 15, 2, 1), (2, 19, 2, 2), (2, 29, 2, 3), (2, 25, 2, 4), (2, 32, 2, 5), (2, 36, 2, 6), (2, 44, 2, 7), (2, 61, 4, 0), (3, 19, 3, 2), (3, 22, 3, 3)], jfP q := List.forall_mem_cons.mpr ⟨jf_96, List.forall_mem_cons.mpr ⟨jf_97, List.forall_mem_cons.mpr ⟨jf_98, List.forall_mem_cons.mpr ⟨jf_99, List.forall_mem_cons.mpr ⟨jf_100, List.forall_mem_cons.mpr ⟨jf_101, List.forall_mem_cons.mpr ⟨jf_102, List.forall_mem_cons.mpr ⟨jf_103, List.forall_mem_cons.mpr ⟨jf_104, List.forall_mem_cons.mpr ⟨jf_105, List.forall_mem_cons.mpr ⟨jf_106, List.forall_mem_cons.mpr ⟨jf_107, List.forall_mem_cons.mpr ⟨jf_108, List.forall_mem_cons.mpr ⟨jf_109, List.forall_mem_cons.mpr ⟨jf_110, List.forall_mem_cons.mpr ⟨jf_111, List.forall_mem_cons.mpr ⟨jf_112, List.forall_mem_cons.mpr ⟨jf_113, List.forall_mem_cons.mpr ⟨jf_114, List.forall_mem_cons.mpr ⟨jf_115, List.forall_mem_cons.mpr ⟨jf_116, List.forall_mem_cons.mpr ⟨jf_117, List.forall_mem_cons.mpr ⟨jf_118, List.forall_mem_cons.mpr ⟨jf_119, fun _ h => absurd h List.not_mem_nil⟩⟩⟩⟩⟩⟩⟩⟩⟩⟩⟩⟩⟩⟩⟩⟩⟩⟩⟩⟩⟩⟩⟩⟩
theorem jf_g5 : ∀ q ∈ [(3, 9, 3, 0), (4, 9, 4, 0), (4, 15, 4, 1), (4, 18, 4, 2), (4, 21, 4, 3), (4, 25, 4, 4), (4, 28, 4, 5), (4, 31, 4, 6), (4, 34, 4, 7), (4, 47, 3, 1), (5, 42, 5, 10), (5, 63, 5, 1), (5, 54, 5, 0), (5, 36, 5, 8), (5, 45, 5, 11), (5, 48, 5, 12), (5, 51, 5, 13), (5, 12, 5, 2), (5, 85, 4, 0), (5, 88, 4, 1), (5, 39, 5, 9), (5, 18, 5, 3), (5, 21, 5, 4), (5, 94, 0, 4)], jfP q := List.forall_mem_cons.mpr ⟨jf_120, List.forall_mem_cons.mpr ⟨jf_121, List.forall_mem_cons.mpr ⟨jf_122, List.forall_mem_cons.mpr ⟨jf_123, List.forall_mem_cons.mpr ⟨jf_124, List.forall_mem_cons.mpr ⟨jf_125, List.forall_mem_cons.mpr ⟨jf_126, List.forall_mem_cons.mpr ⟨jf_127, List.forall_mem_cons.mpr ⟨jf_128, List.forall_mem_cons.mpr ⟨jf_129, List.forall_mem_cons.mpr ⟨jf_130, List.forall_mem_cons.mpr ⟨jf_131, List.forall_mem_cons.mpr ⟨jf_132, List.forall_mem_cons.mpr ⟨jf_133, List.forall_mem_cons.mpr ⟨jf_134, List.forall_mem_cons.mpr ⟨jf_135, List.forall_mem_cons.mpr ⟨jf_136, List.forall_mem_cons.mpr ⟨jf_137, List.forall_mem_cons.mpr ⟨jf_138, List.forall_mem_cons.mpr ⟨jf_139, List.forall_mem_cons.mpr ⟨jf_140, List.forall_mem_cons.mpr ⟨jf_141, List.forall_mem_cons.mpr ⟨jf_142, List.forall_mem_cons.mpr ⟨jf_143, fun _ h => absurd h List.not_mem_nil⟩⟩⟩⟩⟩⟩⟩⟩⟩⟩⟩⟩⟩⟩⟩⟩⟩⟩⟩⟩⟩⟩⟩⟩
theorem jf_g6 : ∀ q ∈ [(5, 98, 7, 2), (5, 33, 5, 7), (5, 25, 5, 5), (5, 109, 4, 3), (5, 29, 5, 6), (6, 22, 6, 0), (6, 30, 4, 1), (6, 9, 6, 2), (6, 15, 6, 3), (6, 19, 6, 4), (6, 26, 6, 1), (6, 49, 4, 4), (6, 52, 4, 7), (6, 72, 4, 0), (6, 75, 4, 3), (7, 12, 7, 0), (7, 18, 7, 1), (7, 21, 7, 2), (7, 32, 7, 5), (7, 29, 7, 4), (7, 25, 7, 3), (7, 46, 4, 1), (7, 49, 4, 6), (7, 36, 7, 6)], jfP q := List.forall_mem_cons.mpr ⟨jf_144, List.forall_mem_cons.mpr ⟨jf_145, List.forall_mem_cons.mpr ⟨jf_146, List.forall_mem_cons.mpr ⟨jf_147, List.forall_mem_cons.mpr ⟨jf_148, List.forall_mem_cons.mpr ⟨jf_149, List.forall_mem_cons.mpr ⟨jf_150, List.forall_mem_cons.mpr ⟨jf_151, List.forall_mem_cons.mpr ⟨jf_152, List.forall_mem_cons.mpr ⟨jf_153, List.forall_mem_cons.mpr ⟨jf_154, List.forall_mem_cons.mpr ⟨jf_155, List.forall_mem_cons.mpr ⟨jf_156, List.forall_mem_cons.mpr ⟨jf_157, List.forall_mem_cons.mpr ⟨jf_158, List.forall_mem_cons.mpr ⟨jf_159, List.forall_mem_cons.mpr ⟨jf_160, List.forall_mem_cons.mpr ⟨jf_161, List.forall_mem_cons.mpr ⟨jf_162, List.forall_mem_cons.mpr ⟨jf_163, List.forall_mem_cons.mpr ⟨jf_164, List.forall_mem_cons.mpr ⟨jf_165, List.forall_mem_cons.mpr ⟨jf_166, List.forall_mem_cons.mpr ⟨jf_167, fun _ h => absurd h List.not_mem_nil⟩⟩⟩⟩⟩⟩⟩⟩⟩⟩⟩⟩⟩⟩⟩⟩⟩⟩⟩⟩⟩⟩⟩⟩
theorem jf_g7 : ∀ q ∈ [(7, 39, 7, 7), (8, 12, 8, 2), (8, 52, 4, 0), (8, 41, 8, 1), (8, 56, 0, 5), (8, 25, 8, 5), (8, 61, 4, 3), (8, 64, 4, 1), (8, 67, 0, 6), (8, 37, 8, 0), (8, 74, 4, 4), (8, 28, 8, 6), (8, 18, 8, 3), (8, 22, 8, 4), (8, 94, 4, 2), (8, 97, 4, 6), (8, 31, 8, 7), (8, 106, 4, 5), (8, 34, 8, 8)], jfP q := List.forall_mem_cons.mpr ⟨jf_168, List.forall_mem_cons.mpr ⟨jf_169, List.forall_mem_cons.mpr ⟨jf_170, List.forall_mem_cons.mpr ⟨jf_171, List.forall_mem_cons.mpr ⟨jf_172, List.forall_mem_cons.mpr ⟨jf_173, List.forall_mem_cons.mpr ⟨jf_174, List.forall_mem_cons.mpr ⟨jf_175, List.forall_mem_cons.mpr ⟨jf_176, List.forall_mem_cons.mpr ⟨jf_177, List.forall_mem_cons.mpr ⟨jf_178, List.forall_mem_cons.mpr ⟨jf_179, List.forall_mem_cons.mpr ⟨jf_180, List.forall_mem_cons.mpr ⟨jf_181, List.forall_mem_cons.mpr ⟨jf_182, List.forall_mem_cons.mpr ⟨jf_183, List.forall_mem_cons.mpr ⟨jf_184, List.forall_mem_cons.mpr ⟨jf_185, List.forall_mem_cons.mpr ⟨jf_186, fun _ h => absurd h List.not_mem_nil⟩⟩⟩⟩⟩⟩⟩⟩⟩⟩⟩⟩⟩⟩⟩⟩⟩⟩⟩
theorem jf_all : ∀ q ∈ jfes, jfP q := List.forall_mem_append.mpr ⟨jf_g0, List.forall_mem_append.mpr ⟨jf_g1, List.forall_mem_append.mpr ⟨jf_g2, List.forall_mem_append.mpr ⟨jf_g3, List.forall_mem_append.mpr ⟨jf_g4, List.forall_mem_append.mpr ⟨jf_g5, List.forall_mem_append.mpr ⟨jf_g6, jf_g7⟩⟩⟩⟩⟩⟩⟩
theorem jm__g0 : ∀ q ∈ [(9, 100, 29), (9, 104, 36), (9, 107, 134), (9, 117, 135), (9, 124, 33), (9, 128, 136), (9, 135, 35), (9, 138, 139), (9, 142, 30), (9, 145, 140), (9, 152, 32), (9, 161, 142), (9, 168, 144), (9, 172, 145), (9, 186, 147), (9, 190, 141), (9, 194, 34), (9, 198, 131), (9, 205, 150), (9, 209, 132), (9, 218, 151), (9, 221, 152), (9, 224, 111), (9, 227, 114)], jmP q := List.forall_mem_cons.mpr ⟨jm__0, List.forall_mem_cons.mpr ⟨jm__1, List.forall_mem_cons.mpr ⟨jm__2, List.forall_mem_cons.mpr ⟨jm__3, List.forall_mem_cons.mpr ⟨jm__4, List.forall_mem_cons.mpr ⟨jm__5, List.forall_mem_cons.mpr ⟨jm__6, List.forall_mem_cons.mpr ⟨jm__7, List.forall_mem_cons.mpr ⟨jm__8, List.forall_mem_cons.mpr ⟨jm__9, List.forall_mem_cons.mpr ⟨jm__10, List.forall_mem_cons.mpr ⟨jm__11, List.forall_mem_cons.mpr ⟨jm__12, List.forall_mem_cons.mpr ⟨jm__13, List.forall_mem_cons.mpr ⟨jm__14, List.forall_mem_cons.mpr ⟨jm__15, List.forall_mem_cons.mpr ⟨jm__16, List.forall_mem_cons.mpr ⟨jm__17, List.forall_mem_cons.mpr ⟨jm__18, List.forall_mem_cons.mpr ⟨jm__19, List.forall_mem_cons.mpr ⟨jm__20, List.forall_mem_cons.mpr ⟨jm__21, List.forall_mem_cons.mpr ⟨jm__22, List.forall_mem_cons.mpr ⟨jm__23, fun _ h => absurd h List.not_mem_nil⟩⟩⟩⟩⟩⟩⟩⟩⟩⟩⟩⟩⟩⟩⟩⟩⟩⟩⟩⟩⟩⟩⟩⟩
theorem jm__g1 : ∀ q ∈ [(9, 230, 115), (9, 233, 123), (9, 236, 154), (9, 248, 127), (9, 251, 128), (9, 255, 129), (9, 262, 133), (9, 265, 181), (9, 270, 38), (9, 273, 164), (9, 277, 162), (9, 287, 31), (9, 290, 172), (9, 297, 173), (9, 300, 174), (9, 303, 175), (9, 306, 176), (9, 309, 153), (9, 313, 37), (9, 316, 148), (9, 319, 124), (10, 77, 39), (10, 81, 42), (10, 85, 43)], jmP q := List.forall_mem_cons.mpr ⟨jm__24, List.forall_mem_cons.mpr ⟨jm__25, List.forall_mem_cons.mpr ⟨jm__26, List.forall_mem_cons.mpr ⟨jm__27, List.forall_mem_cons.mpr ⟨jm__28, List.forall_mem_cons.mpr ⟨jm__29, List.forall_mem_cons.mpr ⟨jm__30, List.forall_mem_cons.mpr ⟨jm__31, List.forall_mem_cons.mpr ⟨jm__32, List.forall_mem_cons.mpr ⟨jm__33, List.forall_mem_cons.mpr ⟨jm__34, List.forall_mem_cons.mpr ⟨jm__35, List.forall_mem_cons.mpr ⟨jm__36, List.forall_mem_cons.mpr ⟨jm__37, List.forall_mem_cons.mpr ⟨jm__38, List.forall_mem_cons.mpr ⟨jm__39, List.forall_mem_cons.mpr ⟨jm__40, List.forall_mem_cons.mpr ⟨jm__41, List.forall_mem_cons.mpr ⟨jm__42, List.forall_mem_cons.mpr ⟨jm__43, List.forall_mem_cons.mpr ⟨jm__44, List.forall_mem_cons.mpr ⟨jm__45, List.forall_mem_cons.mpr ⟨jm__46, List.forall_mem_cons.mpr ⟨jm__47, fun _ h => absurd h List.not_mem_nil⟩⟩⟩⟩⟩⟩⟩⟩⟩⟩⟩⟩⟩⟩⟩⟩⟩⟩⟩⟩⟩⟩⟩⟩
theorem jm__g2 : ∀ q ∈ [(10, 93, 40), (10, 97, 44), (10, 100, 45), (10, 103, 49), (10, 107, 47), (10, 110, 52), (10, 118, 41), (10, 121, 55), (10, 125, 57), (10, 129, 62), (10, 133, 60), (10, 136, 61), (10, 139, 63), (10, 143, 66), (10, 146, 68), (10, 149, 71), (10, 152, 70), (10, 158, 73), (10, 162, 72), (10, 166, 76), (10, 169, 75), (10, 181, 77), (10, 184, 79), (10, 188, 74)], jmP q := List.forall_mem_cons.mpr ⟨jm__48, List.forall_mem_cons.mpr ⟨jm__49, List.forall_mem_cons.mpr ⟨jm__50, List.forall_mem_cons.mpr ⟨jm__51, List.forall_mem_cons.mpr ⟨jm__52, List.forall_mem_cons.mpr ⟨jm__53, List.forall_mem_cons.mpr ⟨jm__54, List.forall_mem_cons.mpr ⟨jm__55, List.forall_mem_cons.mpr ⟨jm__56, List.forall_mem_cons.mpr ⟨jm__57, List.forall_mem_cons.mpr ⟨jm__58, List.forall_mem_cons.mpr ⟨jm__59, List.forall_mem_cons.mpr ⟨jm__60, List.forall_mem_cons.mpr ⟨jm__61, List.forall_mem_cons.mpr ⟨jm__62, List.forall_mem_cons.mpr ⟨jm__63, List.forall_mem_cons.mpr ⟨jm__64, List.forall_mem_cons.mpr ⟨jm__65, List.forall_mem_cons.mpr ⟨jm__66, List.forall_mem_cons.mpr ⟨jm__67, List.forall_mem_cons.mpr ⟨jm__68, List.forall_mem_cons.mpr ⟨jm__69, List.forall_mem_cons.mpr ⟨jm__70, List.forall_mem_cons.mpr ⟨jm__71, fun _ h => absurd h List.not_mem_nil⟩⟩⟩⟩⟩⟩⟩⟩⟩⟩⟩⟩⟩⟩⟩⟩⟩⟩⟩⟩⟩⟩⟩⟩
theorem jm__g3 : ∀ q ∈ [(10, 192, 78), (10, 195, 81), (10, 198, 80), (10, 207, 85), (10, 213, 89), (10, 216, 91), (10, 219, 90), (10, 222, 93), (10, 225, 92), (10, 228, 96), (10, 231, 97), (10, 234, 99), (10, 243, 101), (10, 255, 104), (10, 258, 105), (10, 261, 107), (0, 64, 166), (0, 71, 112), (0, 75, 113), (0, 82, 139), (0, 101, 119), (0, 109, 167), (0, 113, 121), (0, 119, 118)], jmP q := List.forall_mem_cons.mpr ⟨jm__72, List.forall_mem_cons.mpr ⟨jm__73, List.forall_mem_cons.mpr ⟨jm__74, List.forall_mem_cons.mpr ⟨jm__75, List.forall_mem_cons.mpr ⟨jm__76, List.forall_mem_cons.mpr ⟨jm__77, List.forall_mem_cons.mpr ⟨jm__78, List.forall_mem_cons.mpr ⟨jm__79, List.forall_mem_cons.mpr ⟨jm__80, List.forall_mem_cons.mpr ⟨jm__81, List.forall_mem_cons.mpr ⟨jm__82, List.forall_mem_cons.mpr ⟨jm__83, List.forall_mem_cons.mpr ⟨jm__84, List.forall_mem_cons.mpr ⟨jm__85, List.forall_mem_cons.mpr ⟨jm__86, List.forall_mem_cons.mpr ⟨jm__87, List.forall_mem_cons.mpr ⟨jm__88, List.forall_mem_cons.mpr ⟨jm__89, List.forall_mem_cons.mpr ⟨jm__90, List.forall_mem_cons.mpr ⟨jm__91, List.forall_mem_cons.mpr ⟨jm__92, List.forall_mem_cons.mpr ⟨jm__93, List.forall_mem_cons.mpr ⟨jm__94, List.forall_mem_cons.mpr ⟨jm__95, fun _ h => absurd h List.not_mem_nil⟩⟩⟩⟩⟩⟩⟩⟩⟩⟩⟩⟩⟩⟩⟩⟩⟩⟩⟩⟩⟩⟩⟩⟩
theorem jm__g4 : ∀ q ∈ [(0, 123, 117), (0, 126, 169), (0, 130, 122), (0, 133, 171), (0, 142, 120), (0, 148, 170), (1, 36, 125), (1, 43, 126), (1, 50, 130), (1, 59, 127), (1, 63, 144), (2, 48, 141), (2, 58, 124), (3, 25, 137), (3, 29, 138), (4, 43, 143), (4, 53, 146), (5, 64, 155), (5, 68, 157), (5, 78, 115), (5, 82, 156), (5, 91, 111), (5, 112, 160), (5, 115, 158)], jmP q := List.forall_mem_cons.mpr ⟨jm__96, List.forall_mem_cons.mpr ⟨jm__97, List.forall_mem_cons.mpr ⟨jm__98, List.forall_mem_cons.mpr ⟨jm__99, List.forall_mem_cons.mpr ⟨jm__100, List.forall_mem_cons.mpr ⟨jm__101, List.forall_mem_cons.mpr ⟨jm__102, List.forall_mem_cons.mpr ⟨jm__103, List.forall_mem_cons.mpr ⟨jm__104, List.forall_mem_cons.mpr ⟨jm__105, List.forall_mem_cons.mpr ⟨jm__106, List.forall_mem_cons.mpr ⟨jm__107, List.forall_mem_cons.mpr ⟨jm__108, List.forall_mem_cons.mpr ⟨jm__109, List.forall_mem_cons.mpr ⟨jm__110, List.forall_mem_cons.mpr ⟨jm__111, List.forall_mem_cons.mpr ⟨jm__112, List.forall_mem_cons.mpr ⟨jm__113, List.forall_mem_cons.mpr ⟨jm__114, List.forall_mem_cons.mpr ⟨jm__115, List.forall_mem_cons.mpr ⟨jm__116, List.forall_mem_cons.mpr ⟨jm__117, List.forall_mem_cons.mpr ⟨jm__118, List.forall_mem_cons.mpr ⟨jm__119, fun _ h => absurd h List.not_mem_nil⟩⟩⟩⟩⟩⟩⟩⟩⟩⟩⟩⟩⟩⟩⟩⟩⟩⟩⟩⟩⟩⟩⟩⟩
theorem jm__g5 : ∀ q ∈ [(5, 119, 181), (5, 128, 116), (5, 131, 159), (5, 134, 161), (6, 35, 164), (6, 39, 163), (6, 43, 150), (6, 61, 148), (6, 68, 165), (7, 42, 149), (7, 52, 168), (8, 45, 177), (8, 48, 140), (8, 70, 178), (8, 77, 139), (8, 88, 138), (8, 91, 180), (8, 109, 179), (8, 113, 144), (8, 117, 145)], jmP q := List.forall_mem_cons.mpr ⟨jm__120, List.forall_mem_cons.mpr ⟨jm__121, List.forall_mem_cons.mpr ⟨jm__122, List.forall_mem_cons.mpr ⟨jm__123, List.forall_mem_cons.mpr ⟨jm__124, List.forall_mem_cons.mpr ⟨jm__125, List.forall_mem_cons.mpr ⟨jm__126, List.forall_mem_cons.mpr ⟨jm__127, List.forall_mem_cons.mpr ⟨jm__128, List.forall_mem_cons.mpr ⟨jm__129, List.forall_mem_cons.mpr ⟨jm__130, List.forall_mem_cons.mpr ⟨jm__131, List.forall_mem_cons.mpr ⟨jm__132, List.forall_mem_cons.mpr ⟨jm__133, List.forall_mem_cons.mpr ⟨jm__134, List.forall_mem_cons.mpr ⟨jm__135, List.forall_mem_cons.mpr ⟨jm__136, List.forall_mem_cons.mpr ⟨jm__137, List.forall_mem_cons.mpr ⟨jm__138, List.forall_mem_cons.mpr ⟨jm__139, fun _ h => absurd h List.not_mem_nil⟩⟩⟩⟩⟩⟩⟩⟩⟩⟩⟩⟩⟩⟩⟩⟩⟩⟩⟩⟩
theorem jm__all : ∀ q ∈ jmes, jmP q := List.forall_mem_append.mpr ⟨jm__g0, List.forall_mem_append.mpr ⟨jm__g1, List.forall_mem_append.mpr ⟨jm__g2, List.forall_mem_append.mpr ⟨jm__g3, List.forall_mem_append.mpr ⟨jm__g4, jm__g5⟩⟩⟩⟩⟩
theorem jn_g0 : ∀ q ∈ [(0, 137, 5), (2, 52, 6), (4, 37, 6), (4, 57, 4), (5, 72, 6), (5, 103, 4), (5, 125, 5), (6, 55, 4), (6, 65, 5), (7, 56, 4), (8, 83, 4), (8, 100, 6)], jnP q := List.forall_mem_cons.mpr ⟨jn_0, List.forall_mem_cons.mpr ⟨jn_1, List.forall_mem_cons.mpr ⟨jn_2, List.forall_mem_cons.mpr ⟨jn_3, List.forall_mem_cons.mpr ⟨jn_4, List.forall_mem_cons.mpr ⟨jn_5, List.forall_mem_cons.mpr ⟨jn_6, List.forall_mem_cons.mpr ⟨jn_7, List.forall_mem_cons.mpr ⟨jn_8, List.forall_mem_cons.mpr ⟨jn_9, List.forall_mem_cons.mpr ⟨jn_10, List.forall_mem_cons.mpr ⟨jn_11, fun _ h => absurd h List.not_mem_nil⟩⟩⟩⟩⟩⟩⟩⟩⟩⟩⟩⟩
theorem jn_all : ∀ q ∈ jnes, jnP q := jn_g0
def jyl : List Nat := [0, 1, 2, 3, 4, 5, 6, 7, 8, 9, 10, 11, 12, 13, 14, 15, 16, 17, 18, 19, 20, 21, 22, 23, 24, 25, 26, 27, 28, 29, 30, 31, 32, 33, 34, 35, 36, 37, 38, 39, 40, 41, 42, 43, 44, 45, 46, 47, 48, 49, 50, 51, 52, 53, 54, 55, 56, 57, 58, 59, 60, 61, 62, 63, 64, 65, 66, 67, 68, 69, 70, 71, 72, 73, 74, 75, 76, 77, 78, 79, 80, 81, 82, 83, 84, 85, 86, 87, 88, 89, 90, 91, 92, 93, 94, 95, 96, 97, 98, 99, 100, 101, 102, 103, 104, 105, 106, 107, 108, 109, 110, 111, 112, 113, 114, 115, 116, 117, 118, 119, 120, 121, 122, 123, 124, 125, 126, 127, 128, 129, 130, 131, 132, 133, 134, 135, 136, 137, 138, 139, 140, 141, 142, 143, 144, 145, 146, 147, 148, 149, 150, 151, 152, 153, 154, 155, 156, 157, 158, 159, 160, 161, 162, 163, 164, 165, 166, 167, 168, 169, 170, 171, 172, 173, 174, 175, 176, 177, 178, 179, 180, 181]
theorem jhp_l_g0 : ∀ q ∈ [0, 1, 2, 3, 4, 5, 6, 7, 8, 9, 10, 11, 12, 13, 14, 15, 16, 17, 18, 19, 20, 21, 22, 23], jhP q := List.forall_mem_cons.mpr ⟨jhp_0, List.forall_mem_cons.mpr ⟨jhp_1, List.forall_mem_cons.mpr ⟨jhp_2, List.forall_mem_cons.mpr ⟨jhp_3, List.forall_mem_cons.mpr ⟨jhp_4, List.forall_mem_cons.mpr ⟨jhp_5, List.forall_mem_cons.mpr ⟨jhp_6, List.forall_mem_cons.mpr ⟨jhp_7, List.forall_mem_cons.mpr ⟨jhp_8, List.forall_mem_cons.mpr ⟨jhp_9, List.forall_mem_cons.mpr ⟨jhp_10, List.forall_mem_cons.mpr ⟨jhp_11, List.forall_mem_cons.mpr ⟨jhp_12, List.forall_mem_cons.mpr ⟨jhp_13, List.forall_mem_cons.mpr ⟨jhp_14, List.forall_mem_cons.mpr ⟨jhp_15, List.forall_mem_cons.mpr ⟨jhp_16, List.forall_mem_cons.mpr ⟨jhp_17, List.forall_mem_cons.mpr ⟨jhp_18, List.forall_mem_cons.mpr ⟨jhp_19, List.forall_mem_cons.mpr ⟨jhp_20, List.forall_mem_cons.mpr ⟨jhp_21, List.forall_mem_cons.mpr ⟨jhp_22, List.forall_mem_cons.mpr ⟨jhp_23, fun _ h => absurd h List.not_mem_nil⟩⟩⟩⟩⟩⟩⟩⟩⟩⟩⟩⟩⟩⟩⟩⟩⟩⟩⟩⟩⟩⟩⟩⟩
theorem jhp_l_g1 : ∀ q ∈ [24, 25, 26, 27, 28, 29, 30, 31, 32, 33, 34, 35, 36, 37, 38, 39, 40, 41, 42, 43, 44, 45, 46, 47], jhP q := List.forall_mem_cons.mpr ⟨jhp_24, List.forall_mem_cons.mpr ⟨jhp_25, List.forall_mem_cons.mpr ⟨jhp_26, List.forall_mem_cons.mpr ⟨jhp_27, List.forall_mem_cons.mpr ⟨jhp_28, List.forall_mem_cons.mpr ⟨jhp_29, List.forall_mem_cons.mpr ⟨jhp_30, List.forall_mem_cons.mpr ⟨jhp_31, List.forall_mem_cons.mpr ⟨jhp_32, List.forall_mem_cons.mpr ⟨jhp_33, List.forall_mem_cons.mpr ⟨jhp_34, List.forall_mem_cons.mpr ⟨jhp_35, List.forall_mem_cons.mpr ⟨jhp_36, List.forall_mem_cons.mpr ⟨jhp_37, List.forall_mem_cons.mpr ⟨jhp_38, List.forall_mem_cons.mpr ⟨jhp_39, List.forall_mem_cons.mpr ⟨jhp_40, List.forall_mem_cons.mpr ⟨jhp_41, List.forall_mem_cons.mpr ⟨jhp_42, List.forall_mem_cons.mpr ⟨jhp_43, List.forall_mem_cons.mpr ⟨jhp_44, List.forall_mem_cons.mpr ⟨jhp_45, List.forall_mem_cons.mpr ⟨jhp_46, List.forall_mem_cons.mpr ⟨jhp_47, fun _ h => absurd h List.not_mem_nil⟩⟩⟩⟩⟩⟩⟩⟩⟩⟩⟩⟩⟩⟩⟩⟩⟩⟩⟩⟩⟩⟩⟩⟩
theorem jhp_l_g2 : ∀ q ∈ [48, 49, 50, 51, 52, 53, 54, 55, 56, 57, 58, 59, 60, 61, 62, 63, 64, 65, 66, 67, 68, 69, 70, 71], jhP q := List.forall_mem_cons.mpr ⟨jhp_48, List.forall_mem_cons.mpr ⟨jhp_49, List.forall_mem_cons.mpr ⟨jhp_50, List.forall_mem_cons.mpr ⟨jhp_51, List.forall_mem_cons.mpr ⟨jhp_52, List.forall_mem_cons.mpr ⟨jhp_53, List.forall_mem_cons.mpr ⟨jhp_54, List.forall_mem_cons.mpr ⟨jhp_55, List.forall_mem_cons.mpr ⟨jhp_56, List.forall_mem_cons.mpr ⟨jhp_57, List.forall_mem_cons.mpr ⟨jhp_58, List.forall_mem_cons.mpr ⟨jhp_59, List.forall_mem_cons.mpr ⟨jhp_60, List.forall_mem_cons.mpr ⟨jhp_61, List.forall_mem_cons.mpr ⟨jhp_62, List.forall_mem_cons.mpr ⟨jhp_63, List.forall_mem_cons.mpr ⟨jhp_64, List.forall_mem_cons.mpr ⟨jhp_65, List.forall_mem_cons.mpr ⟨jhp_66, List.forall_mem_cons.mpr ⟨jhp_67, List.forall_mem_cons.mpr ⟨jhp_68, List.forall_mem_cons.mpr ⟨jhp_69, List.forall_mem_cons.mpr ⟨jhp_70, List.forall_mem_cons.mpr ⟨jhp_71, fun _ h => absurd h List.not_mem_nil⟩⟩⟩⟩⟩⟩⟩⟩⟩⟩⟩⟩⟩⟩⟩⟩⟩⟩⟩⟩⟩⟩⟩⟩
theorem jhp_l_g3 : ∀ q ∈ [72, 73, 74, 75, 76, 77, 78, 79, 80, 81, 82, 83, 84, 85, 86, 87, 88, 89, 90, 91, 92, 93, 94, 95], jhP q := List.forall_mem_cons.mpr ⟨jhp_72, List.forall_mem_cons.mpr ⟨jhp_73, List.forall_mem_cons.mpr ⟨jhp_74, List.forall_mem_cons.mpr ⟨jhp_75, List.forall_mem_cons.mpr ⟨jhp_76, List.forall_mem_cons.mpr ⟨jhp_77, List.forall_mem_cons.mpr ⟨jhp_78, List.forall_mem_cons.mpr ⟨jhp_79, List.forall_mem_cons.mpr ⟨jhp_80, List.forall_mem_cons.mpr ⟨jhp_81, List.forall_mem_cons.mpr ⟨jhp_82, List.forall_mem_cons.mpr ⟨jhp_83, List.forall_mem_cons.mpr ⟨jhp_84, List.forall_mem_cons.mpr ⟨jhp_85, List.forall_mem_cons.mpr ⟨jhp_86, List.forall_mem_cons.mpr ⟨jhp_87, List.forall_mem_cons.mpr ⟨jhp_88, List.forall_mem_cons.mpr ⟨jhp_89, List.forall_mem_cons.mpr ⟨jhp_90, List.forall_mem_cons.mpr ⟨jhp_91, List.forall_mem_cons.mpr ⟨jhp_92, List.forall_mem_cons.mpr ⟨jhp_93, List.forall_mem_cons.mpr ⟨jhp_94, List.forall_mem_cons.mpr ⟨jhp_95, fun _ h => absurd h List.not_mem_nil⟩⟩⟩⟩⟩⟩⟩⟩⟩⟩⟩⟩⟩⟩⟩⟩⟩⟩⟩⟩⟩⟩⟩⟩
theorem jhp_l_g4 : ∀ q ∈ [96, 97, 98, 99, 100, 101, 102, 103, 104, 105, 106, 107, 108, 109, 110, 111, 112, 113, 114, 115, 116, 117, 118, 119], jhP q := List.forall_mem_cons.mpr ⟨jhp_96, List.forall_mem_cons.mpr ⟨jhp_97, List.forall_mem_cons.mpr ⟨jhp_98, List.forall_mem_cons.mpr ⟨jhp_99, List.forall_mem_cons.mpr ⟨jhp_100, List.forall_mem_cons.mpr ⟨jhp_101, List.forall_mem_cons.mpr ⟨jhp_102, List.forall_mem_cons.mpr ⟨jhp_103, List.forall_mem_cons.mpr ⟨jhp_104, List.forall_mem_cons.mpr ⟨jhp_105, List.forall_mem_cons.mpr ⟨jhp_106, List.forall_mem_cons.mpr ⟨jhp_107, List.forall_mem_cons.mpr ⟨jhp_108, List.forall_mem_cons.mpr ⟨jhp_109, List.forall_mem_cons.mpr ⟨jhp_110, List.forall_mem_cons.mpr ⟨jhp_111, List.forall_mem_cons.mpr ⟨jhp_112, List.forall_mem_cons.mpr ⟨jhp_113, List.forall_mem_cons.mpr ⟨jhp_114, List.forall_mem_cons.mpr ⟨jhp_115, List.forall_mem_cons.mpr ⟨jhp_116, List.forall_mem_cons.mpr ⟨jhp_117, List.forall_mem_cons.mpr ⟨jhp_118, List.forall_mem_cons.mpr ⟨jhp_119, fun _ h => absurd h List.not_mem_nil⟩⟩⟩⟩⟩⟩⟩⟩⟩⟩⟩⟩⟩⟩⟩⟩⟩⟩⟩⟩⟩⟩⟩⟩
theorem jhp_l_g5 : ∀ q ∈ [120, 121, 122, 123, 124, 125, 126, 127, 128, 129, 130, 131, 132, 133, 134, 135, 136, 137, 138, 139, 140, 141, 142, 143], jhP q := List.forall_mem_cons.mpr ⟨jhp_120, List.forall_mem_cons.mpr ⟨jhp_121, List.forall_mem_cons.mpr ⟨jhp_122, List.forall_mem_cons.mpr ⟨jhp_123, List.forall_mem_cons.mpr ⟨jhp_124, List.forall_mem_cons.mpr ⟨jhp_125, List.forall_mem_cons.mpr ⟨jhp_126, List.forall_mem_cons.mpr ⟨jhp_127, List.forall_mem_cons.mpr ⟨jhp_128, List.forall_mem_cons.mpr ⟨jhp_129, List.forall_mem_cons.mpr ⟨jhp_130, List.forall_mem_cons.mpr ⟨jhp_131, List.forall_mem_cons.mpr ⟨jhp_132, List.forall_mem_cons.mpr ⟨jhp_133, List.forall_mem_cons.mpr ⟨jhp_134, List.forall_mem_cons.mpr ⟨jhp_135, List.forall_mem_cons.mpr ⟨jhp_136, List.forall_mem_cons.mpr ⟨jhp_137, List.forall_mem_cons.mpr ⟨jhp_138, List.forall_mem_cons.mpr ⟨jhp_139, List.forall_mem_cons.mpr ⟨jhp_140, List.forall_mem_cons.mpr ⟨jhp_141, List.forall_mem_cons.mpr ⟨jhp_142, List.forall_mem_cons.mpr ⟨jhp_143, fun _ h => absurd h List.not_mem_nil⟩⟩⟩⟩⟩⟩⟩⟩⟩⟩⟩⟩⟩⟩⟩⟩⟩⟩⟩⟩⟩⟩⟩⟩
theorem jhp_l_g6 : ∀ q ∈ [144, 145, 146, 147, 148, 149, 150, 151, 152, 153, 154, 155, 156, 157, 158, 159, 160, 161, 162, 163, 164, 165, 166, 167], jhP q := List.forall_mem_cons.mpr ⟨jhp_144, List.forall_mem_cons.mpr ⟨jhp_145, List.forall_mem_cons.mpr ⟨jhp_146, List.forall_mem_cons.mpr ⟨jhp_147, List.forall_mem_cons.mpr ⟨jhp_148, List.forall_mem_cons.mpr ⟨jhp_149, List.forall_mem_cons.mpr ⟨jhp_150, List.forall_mem_cons.mpr ⟨jhp_151, List.forall_mem_cons.mpr ⟨jhp_152, List.forall_mem_cons.mpr ⟨jhp_153, List.forall_mem_cons.mpr ⟨jhp_154, List.forall_mem_cons.mpr ⟨jhp_155, List.forall_mem_cons.mpr ⟨jhp_156, List.forall_mem_cons.mpr ⟨jhp_157, List.forall_mem_cons.mpr ⟨jhp_158, List.forall_mem_cons.mpr ⟨jhp_159, List.forall_mem_cons.mpr ⟨jhp_160, List.forall_mem_cons.mpr ⟨jhp_161, List.forall_mem_cons.mpr ⟨jhp_162, List.forall_mem_cons.mpr ⟨jhp_163, List.forall_mem_cons.mpr ⟨jhp_164, List.forall_mem_cons.mpr ⟨jhp_165, List.forall_mem_cons.mpr ⟨jhp_166, List.forall_mem_cons.mpr ⟨jhp_167, fun _ h => absurd h List.not_mem_nil⟩⟩⟩⟩⟩⟩⟩⟩⟩⟩⟩⟩⟩⟩⟩⟩⟩⟩⟩⟩⟩⟩⟩⟩
theorem jhp_l_g7 : ∀ q ∈ [168, 169, 170, 171, 172, 173, 174, 175, 176, 177, 178, 179, 180, 181], jhP q := List.forall_mem_cons.mpr ⟨jhp_168, List.forall_mem_cons.mpr ⟨jhp_169, List.forall_mem_cons.mpr ⟨jhp_170, List.forall_mem_cons.mpr ⟨jhp_171, List.forall_mem_cons.mpr ⟨jhp_172, List.forall_mem_cons.mpr ⟨jhp_173, List.forall_mem_cons.mpr ⟨jhp_174, List.forall_mem_cons.mpr ⟨jhp_175, List.forall_mem_cons.mpr ⟨jhp_176, List.forall_mem_cons.mpr ⟨jhp_177, List.forall_mem_cons.mpr ⟨jhp_178, List.forall_mem_cons.mpr ⟨jhp_179, List.forall_mem_cons.mpr ⟨jhp_180, List.forall_mem_cons.mpr ⟨jhp_181, fun _ h => absurd h List.not_mem_nil⟩⟩⟩⟩⟩⟩⟩⟩⟩⟩⟩⟩⟩⟩
theorem jhp_l_all : ∀ q ∈ jyl, jhP q := List.forall_mem_append.mpr ⟨jhp_l_g0, List.forall_mem_append.mpr ⟨jhp_l_g1, List.forall_mem_append.mpr ⟨jhp_l_g2, List.forall_mem_append.mpr ⟨jhp_l_g3, List.forall_mem_append.mpr ⟨jhp_l_g4, List.forall_mem_append.mpr ⟨jhp_l_g5, List.forall_mem_append.mpr ⟨jhp_l_g6, jhp_l_g7⟩⟩⟩⟩⟩⟩⟩
theorem jyl_eq : List.range 182 = jyl := by decide +kernel
theorem jhp_all : ∀ q ∈ List.range 182, jhP q := fun q hq => jhp_l_all q (by rw [← jyl_eq]; exact hq)
theorem jn_max : Jvm.Cond.static Lib.Math.max.name ∈ wsL_law ∧ Jvm.Cond.initialized "java/lang/Math" ∈ wsL_law ∧ Jvm.Cond.code Lib.Math.max.name Lib.Math.max.code 2 (some .int) ∈ wsL_law := ⟨jw_mem (p := 1041) rfl, jw_mem (p := 1042) rfl, jw_mem (p := 1043) rfl⟩
theorem jn_min : Jvm.Cond.static Lib.Math.min.name ∈ wsL_law ∧ Jvm.Cond.code Lib.Math.min.name Lib.Math.min.code 2 (some .int) ∈ wsL_law := ⟨jw_mem (p := 1554) rfl, jw_mem (p := 1555) rfl⟩
theorem jn_cpy : Jvm.Cond.native arraycopyName ∈ wsL_law ∧ Jvm.Cond.static arraycopyName ∈ wsL_law ∧ Jvm.Cond.initialized "java/lang/System" ∈ wsL_law := ⟨jw_mem (p := 1225) rfl, jw_mem (p := 1226) rfl, jw_mem (p := 1227) rfl⟩
theorem jn_bc : Jvm.Cond.constant RJ6 265 (jI 1431655765) ∈ wsL_law ∧ Jvm.Cond.constant RJ6 266 (jI 858993459) ∈ wsL_law ∧ Jvm.Cond.constant RJ6 267 (jI 252645135) ∈ wsL_law := ⟨jw_mem (p := 1542) rfl, jw_mem (p := 1543) rfl, jw_mem (p := 1544) rfl⟩
theorem jcn_plain : ∀ c, c < 12 → plainName (jcn c) = true ∧ jcn c ≠ "java/lang/invoke/MethodHandle" ∧ jcn c ≠ "java/lang/invoke/VarHandle" := by decide +kernel
