/-- HoldHouse.<init>()V -/
abbrev b86_0 : List e_En := [(0, .aload_n 0, 1, []), (1, .invokespecial 3, 3, []), (4, .aload_n 0, 1, []), (5, .new 9, 3, []), (8, .dup, 1, []), (9, .invokespecial 11, 3, []), (12, .putfield 12, 3, []), (15, .aload_n 0, 1, []), (16, .new 9, 3, []), (19, .dup, 1, []), (20, .invokespecial 11, 3, []), (23, .putfield 16, 3, []), (26, .aload_n 0, 1, []), (27, .new 9, 3, []), (30, .dup, 1, []), (31, .invokespecial 11, 3, []), (34, .putfield 19, 3, []), (37, .aload_n 0, 1, []), (38, .bipush 40, 2, []), (40, .anewarray 22, 3, []), (43, .putfield 24, 3, []), (46, .aload_n 0, 1, []), (47, .new 28, 3, []), (50, .dup, 1, []), (51, .invokespecial 30, 3, []), (54, .putfield 31, 3, []), (57, .aload_n 0, 1, []), (58, .new 28, 3, []), (61, .dup, 1, []), (62, .invokespecial 30, 3, []), (65, .putfield 35, 3, []), (68, .aload_n 0, 1, []), (69, .new 28, 3, []), (72, .dup, 1, []), (73, .invokespecial 30, 3, []), (76, .putfield 38, 3, []), (79, .aload_n 0, 1, []), (80, .new 41, 3, []), (83, .dup, 1, []), (84, .invokespecial 43, 3, []), (87, .putfield 44, 3, []), (90, .aload_n 0, 1, []), (91, .new 48, 3, []), (94, .dup, 1, []), (95, .invokespecial 50, 3, []), (98, .putfield 51, 3, []), (101, .aload_n 0, 1, []), (102, .new 55, 3, []), (105, .dup, 1, []), (106, .invokespecial 57, 3, []), (109, .putfield 58, 3, []), (112, .aload_n 0, 1, []), (113, .iconst 0, 1, []), (114, .putfield 62, 3, []), (117, .aload_n 0, 1, []), (118, .sipush 200, 3, []), (121, .putfield 66, 3, []), (124, .return_, 1, [])]
def cd86 : e_Cd := [(0, b86_0, 0)]
set_option maxRecDepth 20000 in
theorem ok86 : e_chk 86 12 cd86 = true := by decide +kernel
theorem u86_0 {g : e_G} {Ψ : e_Q} {lv : e_Lv} {st : List Value} {h : e_Hp} : e_Sm g 86 12 cd86 Ψ 0 lv st h = e_exec g 86 12 [(0, .aload_n 0, 1, []), (1, .invokespecial 3, 3, []), (4, .aload_n 0, 1, []), (5, .new 9, 3, []), (8, .dup, 1, []), (9, .invokespecial 11, 3, []), (12, .putfield 12, 3, []), (15, .aload_n 0, 1, []), (16, .new 9, 3, []), (19, .dup, 1, []), (20, .invokespecial 11, 3, []), (23, .putfield 16, 3, []), (26, .aload_n 0, 1, []), (27, .new 9, 3, []), (30, .dup, 1, []), (31, .invokespecial 11, 3, []), (34, .putfield 19, 3, []), (37, .aload_n 0, 1, []), (38, .bipush 40, 2, []), (40, .anewarray 22, 3, []), (43, .putfield 24, 3, []), (46, .aload_n 0, 1, []), (47, .new 28, 3, []), (50, .dup, 1, []), (51, .invokespecial 30, 3, []), (54, .putfield 31, 3, []), (57, .aload_n 0, 1, []), (58, .new 28, 3, []), (61, .dup, 1, []), (62, .invokespecial 30, 3, []), (65, .putfield 35, 3, []), (68, .aload_n 0, 1, []), (69, .new 28, 3, []), (72, .dup, 1, []), (73, .invokespecial 30, 3, []), (76, .putfield 38, 3, []), (79, .aload_n 0, 1, []), (80, .new 41, 3, []), (83, .dup, 1, []), (84, .invokespecial 43, 3, []), (87, .putfield 44, 3, []), (90, .aload_n 0, 1, []), (91, .new 48, 3, []), (94, .dup, 1, []), (95, .invokespecial 50, 3, []), (98, .putfield 51, 3, []), (101, .aload_n 0, 1, []), (102, .new 55, 3, []), (105, .dup, 1, []), (106, .invokespecial 57, 3, []), (109, .putfield 58, 3, []), (112, .aload_n 0, 1, []), (113, .iconst 0, 1, []), (114, .putfield 62, 3, []), (117, .aload_n 0, 1, []), (118, .sipush 200, 3, []), (121, .putfield 66, 3, []), (124, .return_, 1, [])] 0 lv st h (e_Sm g 86 12 cd86 Ψ) Ψ := e_unf rfl
theorem mL86 : e_mL 86 = 1 := by decide +kernel
/-- HoldHouse.make(III)I -/
abbrev b87_0 : List e_En := [(0, .iload_n 1, 1, []), (1, .ifCond .lt 9, 3, [10]), (4, .iload_n 1, 1, []), (5, .bipush 8, 2, []), (7, .if_icmp .lt 5, 3, [12])]
abbrev b87_10 : List e_En := [(10, .iconst (-1), 1, []), (11, .ireturn, 1, [])]
abbrev b87_12 : List e_En := [(12, .aload_n 0, 1, []), (13, .getfield 12, 3, []), (16, .iload_n 2, 1, []), (17, .invokevirtual 69, 3, []), (20, .astore 4, 2, []), (22, .iload_n 2, 1, []), (23, .iconst (-1), 1, []), (24, .if_icmp .eq 18, 3, [42]), (27, .aload 4, 2, []), (29, .ifnull 11, 3, [40]), (32, .aload 4, 2, []), (34, .getfield 73, 3, []), (37, .ifCond .eq 5, 3, [42])]
abbrev b87_40 : List e_En := [(40, .iconst (-1), 1, []), (41, .ireturn, 1, [])]
abbrev b87_42 : List e_En := [(42, .iload_n 1, 1, []), (43, .bipush 6, 2, []), (45, .if_icmp .ne 15, 3, [60]), (48, .iload_n 3, 1, []), (49, .ifCond .lt 9, 3, [58]), (52, .iload_n 3, 1, []), (53, .ldc 78, 2, []), (55, .if_icmp .le 5, 3, [60])]
abbrev b87_58 : List e_En := [(58, .iconst (-1), 1, []), (59, .ireturn, 1, [])]
abbrev b87_60 : List e_En := [(60, .aload_n 0, 1, []), (61, .getfield 35, 3, []), (64, .invokevirtual 79, 3, []), (67, .ifCond .ne 6, 3, [73]), (70, .bipush (-2), 2, []), (72, .ireturn, 1, [])]
abbrev b87_73 : List e_En := [(73, .iload_n 1, 1, []), (74, .ifCond .ne 23, 3, [97]), (77, .aload 4, 2, []), (79, .ifnull 18, 3, [97]), (82, .aload 4, 2, []), (84, .getfield 83, 3, []), (87, .iconst 1, 1, []), (88, .iadd, 1, []), (89, .iconst 5, 1, []), (90, .if_icmp .lt 7, 3, [97]), (93, .iconst 1, 1, []), (94, .goto 4, 3, [98])]
abbrev b87_97 : List e_En := [(97, .iconst 0, 1, [])]
abbrev b87_98 : List e_En := [(98, .istore 5, 2, []), (100, .aload_n 0, 1, []), (101, .getfield 12, 3, []), (104, .getfield 86, 3, []), (107, .bipush 40, 2, []), (109, .if_icmp .ge 8, 3, [117]), (112, .iload 5, 2, []), (114, .ifCond .eq 6, 3, [120])]
abbrev b87_117 : List e_En := [(117, .bipush (-3), 2, []), (119, .ireturn, 1, [])]
abbrev b87_120 : List e_En := [(120, .aload_n 0, 1, []), (121, .getfield 12, 3, []), (124, .getfield 86, 3, []), (127, .istore 6, 2, []), (129, .iload_n 1, 1, []), (130, .invokestatic 89, 3, []), (133, .ifCond .eq 7, 3, [140]), (136, .iload_n 3, 1, []), (137, .goto 4, 3, [141])]
abbrev b87_140 : List e_En := [(140, .iconst 0, 1, [])]
abbrev b87_141 : List e_En := [(141, .istore 7, 2, []), (143, .aload_n 0, 1, []), (144, .getfield 12, 3, []), (147, .iload_n 1, 1, []), (148, .iload_n 2, 1, []), (149, .iload 7, 2, []), (151, .invokevirtual 93, 3, []), (154, .aload_n 0, 1, []), (155, .getfield 16, 3, []), (158, .iload_n 1, 1, []), (159, .iload_n 2, 1, []), (160, .iload 7, 2, []), (162, .invokevirtual 93, 3, []), (165, .aload_n 0, 1, []), (166, .iload 6, 2, []), (168, .invokevirtual 97, 3, []), (171, .aload_n 0, 1, []), (172, .getfield 44, 3, []), (175, .new 101, 3, []), (178, .dup, 1, []), (179, .iconst 0, 1, []), (180, .iconst 0, 1, []), (181, .iload 6, 2, []), (183, .iload_n 1, 1, []), (184, .iload 7, 2, []), (186, .iload_n 2, 1, []), (187, .iconst 0, 1, []), (188, .invokespecial 103, 3, []), (191, .invokevirtual 106, 3, []), (194, .iload 6, 2, []), (196, .ireturn, 1, [])]
def cd87 : e_Cd := [(0, b87_0, 10), (10, b87_10, 0), (12, b87_12, 40), (40, b87_40, 0), (42, b87_42, 58), (58, b87_58, 0), (60, b87_60, 0), (73, b87_73, 0), (97, b87_97, 98), (98, b87_98, 117), (117, b87_117, 0), (120, b87_120, 0), (140, b87_140, 141), (141, b87_141, 0)]
set_option maxRecDepth 20000 in
theorem ok87 : e_chk 87 12 cd87 = true := by decide +kernel
theorem u87_0 {g : e_G} {Ψ : e_Q} {lv : e_Lv} {st : List Value} {h : e_Hp} : e_Sm g 87 12 cd87 Ψ 0 lv st h = e_exec g 87 12 [(0, .iload_n 1, 1, []), (1, .ifCond .lt 9, 3, [10]), (4, .iload_n 1, 1, []), (5, .bipush 8, 2, []), (7, .if_icmp .lt 5, 3, [12])] 10 lv st h (e_Sm g 87 12 cd87 Ψ) Ψ := e_unf rfl
theorem u87_10 {g : e_G} {Ψ : e_Q} {lv : e_Lv} {st : List Value} {h : e_Hp} : e_Sm g 87 12 cd87 Ψ 10 lv st h = e_exec g 87 12 [(10, .iconst (-1), 1, []), (11, .ireturn, 1, [])] 0 lv st h (e_Sm g 87 12 cd87 Ψ) Ψ := e_unf rfl
theorem u87_12 {g : e_G} {Ψ : e_Q} {lv : e_Lv} {st : List Value} {h : e_Hp} : e_Sm g 87 12 cd87 Ψ 12 lv st h = e_exec g 87 12 [(12, .aload_n 0, 1, []), (13, .getfield 12, 3, []), (16, .iload_n 2, 1, []), (17, .invokevirtual 69, 3, []), (20, .astore 4, 2, []), (22, .iload_n 2, 1, []), (23, .iconst (-1), 1, []), (24, .if_icmp .eq 18, 3, [42]), (27, .aload 4, 2, []), (29, .ifnull 11, 3, [40]), (32, .aload 4, 2, []), (34, .getfield 73, 3, []), (37, .ifCond .eq 5, 3, [42])] 40 lv st h (e_Sm g 87 12 cd87 Ψ) Ψ := e_unf rfl
theorem u87_40 {g : e_G} {Ψ : e_Q} {lv : e_Lv} {st : List Value} {h : e_Hp} : e_Sm g 87 12 cd87 Ψ 40 lv st h = e_exec g 87 12 [(40, .iconst (-1), 1, []), (41, .ireturn, 1, [])] 0 lv st h (e_Sm g 87 12 cd87 Ψ) Ψ := e_unf rfl
theorem u87_42 {g : e_G} {Ψ : e_Q} {lv : e_Lv} {st : List Value} {h : e_Hp} : e_Sm g 87 12 cd87 Ψ 42 lv st h = e_exec g 87 12 [(42, .iload_n 1, 1, []), (43, .bipush 6, 2, []), (45, .if_icmp .ne 15, 3, [60]), (48, .iload_n 3, 1, []), (49, .ifCond .lt 9, 3, [58]), (52, .iload_n 3, 1, []), (53, .ldc 78, 2, []), (55, .if_icmp .le 5, 3, [60])] 58 lv st h (e_Sm g 87 12 cd87 Ψ) Ψ := e_unf rfl
theorem u87_58 {g : e_G} {Ψ : e_Q} {lv : e_Lv} {st : List Value} {h : e_Hp} : e_Sm g 87 12 cd87 Ψ 58 lv st h = e_exec g 87 12 [(58, .iconst (-1), 1, []), (59, .ireturn, 1, [])] 0 lv st h (e_Sm g 87 12 cd87 Ψ) Ψ := e_unf rfl
theorem u87_60 {g : e_G} {Ψ : e_Q} {lv : e_Lv} {st : List Value} {h : e_Hp} : e_Sm g 87 12 cd87 Ψ 60 lv st h = e_exec g 87 12 [(60, .aload_n 0, 1, []), (61, .getfield 35, 3, []), (64, .invokevirtual 79, 3, []), (67, .ifCond .ne 6, 3, [73]), (70, .bipush (-2), 2, []), (72, .ireturn, 1, [])] 0 lv st h (e_Sm g 87 12 cd87 Ψ) Ψ := e_unf rfl
theorem u87_73 {g : e_G} {Ψ : e_Q} {lv : e_Lv} {st : List Value} {h : e_Hp} : e_Sm g 87 12 cd87 Ψ 73 lv st h = e_exec g 87 12 [(73, .iload_n 1, 1, []), (74, .ifCond .ne 23, 3, [97]), (77, .aload 4, 2, []), (79, .ifnull 18, 3, [97]), (82, .aload 4, 2, []), (84, .getfield 83, 3, []), (87, .iconst 1, 1, []), (88, .iadd, 1, []), (89, .iconst 5, 1, []), (90, .if_icmp .lt 7, 3, [97]), (93, .iconst 1, 1, []), (94, .goto 4, 3, [98])] 0 lv st h (e_Sm g 87 12 cd87 Ψ) Ψ := e_unf rfl
theorem u87_97 {g : e_G} {Ψ : e_Q} {lv : e_Lv} {st : List Value} {h : e_Hp} : e_Sm g 87 12 cd87 Ψ 97 lv st h = e_exec g 87 12 [(97, .iconst 0, 1, [])] 98 lv st h (e_Sm g 87 12 cd87 Ψ) Ψ := e_unf rfl
theorem u87_98 {g : e_G} {Ψ : e_Q} {lv : e_Lv} {st : List Value} {h : e_Hp} : e_Sm g 87 12 cd87 Ψ 98 lv st h = e_exec g 87 12 [(98, .istore 5, 2, []), (100, .aload_n 0, 1, []), (101, .getfield 12, 3, []), (104, .getfield 86, 3, []), (107, .bipush 40, 2, []), (109, .if_icmp .ge 8, 3, [117]), (112, .iload 5, 2, []), (114, .ifCond .eq 6, 3, [120])] 117 lv st h (e_Sm g 87 12 cd87 Ψ) Ψ := e_unf rfl
theorem u87_117 {g : e_G} {Ψ : e_Q} {lv : e_Lv} {st : List Value} {h : e_Hp} : e_Sm g 87 12 cd87 Ψ 117 lv st h = e_exec g 87 12 [(117, .bipush (-3), 2, []), (119, .ireturn, 1, [])] 0 lv st h (e_Sm g 87 12 cd87 Ψ) Ψ := e_unf rfl
theorem u87_120 {g : e_G} {Ψ : e_Q} {lv : e_Lv} {st : List Value} {h : e_Hp} : e_Sm g 87 12 cd87 Ψ 120 lv st h = e_exec g 87 12 [(120, .aload_n 0, 1, []), (121, .getfield 12, 3, []), (124, .getfield 86, 3, []), (127, .istore 6, 2, []), (129, .iload_n 1, 1, []), (130, .invokestatic 89, 3, []), (133, .ifCond .eq 7, 3, [140]), (136, .iload_n 3, 1, []), (137, .goto 4, 3, [141])] 0 lv st h (e_Sm g 87 12 cd87 Ψ) Ψ := e_unf rfl
theorem u87_140 {g : e_G} {Ψ : e_Q} {lv : e_Lv} {st : List Value} {h : e_Hp} : e_Sm g 87 12 cd87 Ψ 140 lv st h = e_exec g 87 12 [(140, .iconst 0, 1, [])] 141 lv st h (e_Sm g 87 12 cd87 Ψ) Ψ := e_unf rfl
theorem u87_141 {g : e_G} {Ψ : e_Q} {lv : e_Lv} {st : List Value} {h : e_Hp} : e_Sm g 87 12 cd87 Ψ 141 lv st h = e_exec g 87 12 [(141, .istore 7, 2, []), (143, .aload_n 0, 1, []), (144, .getfield 12, 3, []), (147, .iload_n 1, 1, []), (148, .iload_n 2, 1, []), (149, .iload 7, 2, []), (151, .invokevirtual 93, 3, []), (154, .aload_n 0, 1, []), (155, .getfield 16, 3, []), (158, .iload_n 1, 1, []), (159, .iload_n 2, 1, []), (160, .iload 7, 2, []), (162, .invokevirtual 93, 3, []), (165, .aload_n 0, 1, []), (166, .iload 6, 2, []), (168, .invokevirtual 97, 3, []), (171, .aload_n 0, 1, []), (172, .getfield 44, 3, []), (175, .new 101, 3, []), (178, .dup, 1, []), (179, .iconst 0, 1, []), (180, .iconst 0, 1, []), (181, .iload 6, 2, []), (183, .iload_n 1, 1, []), (184, .iload 7, 2, []), (186, .iload_n 2, 1, []), (187, .iconst 0, 1, []), (188, .invokespecial 103, 3, []), (191, .invokevirtual 106, 3, []), (194, .iload 6, 2, []), (196, .ireturn, 1, [])] 0 lv st h (e_Sm g 87 12 cd87 Ψ) Ψ := e_unf rfl
theorem mL87 : e_mL 87 = 8 := by decide +kernel
theorem rt87 : e_rt 87 = (some .int) := by decide +kernel
/-- HoldHouse.object(II)I -/
abbrev b88_0 : List e_En := [(0, .aload_n 0, 1, []), (1, .getfield 12, 3, []), (4, .iload_n 1, 1, []), (5, .invokevirtual 69, 3, []), (8, .astore_n 3, 1, []), (9, .aload_n 0, 1, []), (10, .getfield 16, 3, []), (13, .iload_n 1, 1, []), (14, .invokevirtual 69, 3, []), (17, .astore 4, 2, []), (19, .aload_n 3, 1, []), (20, .ifnull 8, 3, [28]), (23, .aload 4, 2, []), (25, .ifnonnull 5, 3, [30])]
abbrev b88_28 : List e_En := [(28, .iconst (-1), 1, []), (29, .ireturn, 1, [])]
abbrev b88_30 : List e_En := [(30, .iload_n 2, 1, []), (31, .tableswitch 50 0 3 #[29, 34, 39, 44], 29, [81, 60, 65, 70, 75])]
abbrev b88_60 : List e_En := [(60, .aload_n 3, 1, []), (61, .getfield 73, 3, []), (64, .ireturn, 1, [])]
abbrev b88_65 : List e_En := [(65, .aload_n 3, 1, []), (66, .getfield 110, 3, []), (69, .ireturn, 1, [])]
abbrev b88_70 : List e_En := [(70, .aload_n 3, 1, []), (71, .invokevirtual 113, 3, []), (74, .ireturn, 1, [])]
abbrev b88_75 : List e_En := [(75, .aload 4, 2, []), (77, .invokevirtual 113, 3, []), (80, .ireturn, 1, [])]
abbrev b88_81 : List e_En := [(81, .iconst (-1), 1, []), (82, .ireturn, 1, [])]
def cd88 : e_Cd := [(0, b88_0, 28), (28, b88_28, 0), (30, b88_30, 0), (60, b88_60, 0), (65, b88_65, 0), (70, b88_70, 0), (75, b88_75, 0), (81, b88_81, 0)]
set_option maxRecDepth 20000 in
theorem ok88 : e_chk 88 12 cd88 = true := by decide +kernel
theorem u88_0 {g : e_G} {Ψ : e_Q} {lv : e_Lv} {st : List Value} {h : e_Hp} : e_Sm g 88 12 cd88 Ψ 0 lv st h = e_exec g 88 12 [(0, .aload_n 0, 1, []), (1, .getfield 12, 3, []), (4, .iload_n 1, 1, []), (5, .invokevirtual 69, 3, []), (8, .astore_n 3, 1, []), (9, .aload_n 0, 1, []), (10, .getfield 16, 3, []), (13, .iload_n 1, 1, []), (14, .invokevirtual 69, 3, []), (17, .astore 4, 2, []), (19, .aload_n 3, 1, []), (20, .ifnull 8, 3, [28]), (23, .aload 4, 2, []), (25, .ifnonnull 5, 3, [30])] 28 lv st h (e_Sm g 88 12 cd88 Ψ) Ψ := e_unf rfl
theorem u88_28 {g : e_G} {Ψ : e_Q} {lv : e_Lv} {st : List Value} {h : e_Hp} : e_Sm g 88 12 cd88 Ψ 28 lv st h = e_exec g 88 12 [(28, .iconst (-1), 1, []), (29, .ireturn, 1, [])] 0 lv st h (e_Sm g 88 12 cd88 Ψ) Ψ := e_unf rfl
theorem u88_30 {g : e_G} {Ψ : e_Q} {lv : e_Lv} {st : List Value} {h : e_Hp} : e_Sm g 88 12 cd88 Ψ 30 lv st h = e_exec g 88 12 [(30, .iload_n 2, 1, []), (31, .tableswitch 50 0 3 #[29, 34, 39, 44], 29, [81, 60, 65, 70, 75])] 0 lv st h (e_Sm g 88 12 cd88 Ψ) Ψ := e_unf rfl
theorem u88_60 {g : e_G} {Ψ : e_Q} {lv : e_Lv} {st : List Value} {h : e_Hp} : e_Sm g 88 12 cd88 Ψ 60 lv st h = e_exec g 88 12 [(60, .aload_n 3, 1, []), (61, .getfield 73, 3, []), (64, .ireturn, 1, [])] 0 lv st h (e_Sm g 88 12 cd88 Ψ) Ψ := e_unf rfl
theorem u88_65 {g : e_G} {Ψ : e_Q} {lv : e_Lv} {st : List Value} {h : e_Hp} : e_Sm g 88 12 cd88 Ψ 65 lv st h = e_exec g 88 12 [(65, .aload_n 3, 1, []), (66, .getfield 110, 3, []), (69, .ireturn, 1, [])] 0 lv st h (e_Sm g 88 12 cd88 Ψ) Ψ := e_unf rfl
theorem u88_70 {g : e_G} {Ψ : e_Q} {lv : e_Lv} {st : List Value} {h : e_Hp} : e_Sm g 88 12 cd88 Ψ 70 lv st h = e_exec g 88 12 [(70, .aload_n 3, 1, []), (71, .invokevirtual 113, 3, []), (74, .ireturn, 1, [])] 0 lv st h (e_Sm g 88 12 cd88 Ψ) Ψ := e_unf rfl
theorem u88_75 {g : e_G} {Ψ : e_Q} {lv : e_Lv} {st : List Value} {h : e_Hp} : e_Sm g 88 12 cd88 Ψ 75 lv st h = e_exec g 88 12 [(75, .aload 4, 2, []), (77, .invokevirtual 113, 3, []), (80, .ireturn, 1, [])] 0 lv st h (e_Sm g 88 12 cd88 Ψ) Ψ := e_unf rfl
theorem u88_81 {g : e_G} {Ψ : e_Q} {lv : e_Lv} {st : List Value} {h : e_Hp} : e_Sm g 88 12 cd88 Ψ 81 lv st h = e_exec g 88 12 [(81, .iconst (-1), 1, []), (82, .ireturn, 1, [])] 0 lv st h (e_Sm g 88 12 cd88 Ψ) Ψ := e_unf rfl
theorem mL88 : e_mL 88 = 5 := by decide +kernel
theorem rt88 : e_rt 88 = (some .int) := by decide +kernel
/-- HoldHouse.digest()I -/
abbrev b89_0 : List e_En := [(0, .bipush 17, 2, []), (2, .istore_n 1, 1, []), (3, .iconst 0, 1, []), (4, .istore_n 2, 1, [])]
abbrev b89_5 : List e_En := [(5, .iload_n 2, 1, []), (6, .aload_n 0, 1, []), (7, .getfield 12, 3, []), (10, .getfield 86, 3, []), (13, .if_icmp .ge 36, 3, [49]), (16, .aload_n 0, 1, []), (17, .getfield 12, 3, []), (20, .iload_n 2, 1, []), (21, .invokevirtual 69, 3, []), (24, .astore_n 3, 1, []), (25, .bipush 31, 2, []), (27, .iload_n 1, 1, []), (28, .imul, 1, []), (29, .aload_n 3, 1, []), (30, .ifnonnull 7, 3, [37]), (33, .iconst 0, 1, []), (34, .goto 7, 3, [41])]
abbrev b89_37 : List e_En := [(37, .aload_n 3, 1, []), (38, .invokevirtual 113, 3, [])]
abbrev b89_41 : List e_En := [(41, .iadd, 1, []), (42, .istore_n 1, 1, []), (43, .iinc 2 1, 3, []), (46, .goto (-41), 3, [5])]
abbrev b89_49 : List e_En := [(49, .iload_n 1, 1, []), (50, .ireturn, 1, [])]
def cd89 : e_Cd := [(0, b89_0, 5), (5, b89_5, 0), (37, b89_37, 41), (41, b89_41, 0), (49, b89_49, 0)]
set_option maxRecDepth 20000 in
theorem ok89 : e_chk 89 12 cd89 = true := by decide +kernel
theorem u89_0 {g : e_G} {Ψ : e_Q} {lv : e_Lv} {st : List Value} {h : e_Hp} : e_Sm g 89 12 cd89 Ψ 0 lv st h = e_exec g 89 12 [(0, .bipush 17, 2, []), (2, .istore_n 1, 1, []), (3, .iconst 0, 1, []), (4, .istore_n 2, 1, [])] 5 lv st h (e_Sm g 89 12 cd89 Ψ) Ψ := e_unf rfl
theorem u89_5 {g : e_G} {Ψ : e_Q} {lv : e_Lv} {st : List Value} {h : e_Hp} : e_Sm g 89 12 cd89 Ψ 5 lv st h = e_exec g 89 12 [(5, .iload_n 2, 1, []), (6, .aload_n 0, 1, []), (7, .getfield 12, 3, []), (10, .getfield 86, 3, []), (13, .if_icmp .ge 36, 3, [49]), (16, .aload_n 0, 1, []), (17, .getfield 12, 3, []), (20, .iload_n 2, 1, []), (21, .invokevirtual 69, 3, []), (24, .astore_n 3, 1, []), (25, .bipush 31, 2, []), (27, .iload_n 1, 1, []), (28, .imul, 1, []), (29, .aload_n 3, 1, []), (30, .ifnonnull 7, 3, [37]), (33, .iconst 0, 1, []), (34, .goto 7, 3, [41])] 0 lv st h (e_Sm g 89 12 cd89 Ψ) Ψ := e_unf rfl
theorem u89_37 {g : e_G} {Ψ : e_Q} {lv : e_Lv} {st : List Value} {h : e_Hp} : e_Sm g 89 12 cd89 Ψ 37 lv st h = e_exec g 89 12 [(37, .aload_n 3, 1, []), (38, .invokevirtual 113, 3, [])] 41 lv st h (e_Sm g 89 12 cd89 Ψ) Ψ := e_unf rfl
theorem u89_41 {g : e_G} {Ψ : e_Q} {lv : e_Lv} {st : List Value} {h : e_Hp} : e_Sm g 89 12 cd89 Ψ 41 lv st h = e_exec g 89 12 [(41, .iadd, 1, []), (42, .istore_n 1, 1, []), (43, .iinc 2 1, 3, []), (46, .goto (-41), 3, [5])] 0 lv st h (e_Sm g 89 12 cd89 Ψ) Ψ := e_unf rfl
theorem u89_49 {g : e_G} {Ψ : e_Q} {lv : e_Lv} {st : List Value} {h : e_Hp} : e_Sm g 89 12 cd89 Ψ 49 lv st h = e_exec g 89 12 [(49, .iload_n 1, 1, []), (50, .ireturn, 1, [])] 0 lv st h (e_Sm g 89 12 cd89 Ψ) Ψ := e_unf rfl
theorem mL89 : e_mL 89 = 4 := by decide +kernel
theorem rt89 : e_rt 89 = (some .int) := by decide +kernel
/-- HoldHouse.begin(I)I -/
abbrev b90_0 : List e_En := [(0, .aload_n 0, 1, []), (1, .iload_n 1, 1, []), (2, .iconst 0, 1, []), (3, .invokevirtual 117, 3, []), (6, .ireturn, 1, [])]
def cd90 : e_Cd := [(0, b90_0, 0)]
set_option maxRecDepth 20000 in
theorem ok90 : e_chk 90 12 cd90 = true := by decide +kernel
theorem u90_0 {g : e_G} {Ψ : e_Q} {lv : e_Lv} {st : List Value} {h : e_Hp} : e_Sm g 90 12 cd90 Ψ 0 lv st h = e_exec g 90 12 [(0, .aload_n 0, 1, []), (1, .iload_n 1, 1, []), (2, .iconst 0, 1, []), (3, .invokevirtual 117, 3, []), (6, .ireturn, 1, [])] 0 lv st h (e_Sm g 90 12 cd90 Ψ) Ψ := e_unf rfl
theorem mL90 : e_mL 90 = 2 := by decide +kernel
theorem rt90 : e_rt 90 = (some .int) := by decide +kernel
/-- HoldHouse.nest(I)I -/
abbrev b91_0 : List e_En := [(0, .aload_n 0, 1, []), (1, .iload_n 1, 1, []), (2, .invokevirtual 121, 3, []), (5, .astore_n 2, 1, []), (6, .aload_n 2, 1, []), (7, .ifnonnull 5, 3, [12]), (10, .iconst (-1), 1, []), (11, .ireturn, 1, [])]
abbrev b91_12 : List e_En := [(12, .aload_n 2, 1, []), (13, .getfield 125, 3, []), (16, .iconst 1, 1, []), (17, .if_icmp .eq 6, 3, [23]), (20, .bipush (-2), 2, []), (22, .ireturn, 1, [])]
abbrev b91_23 : List e_En := [(23, .aload_n 2, 1, []), (24, .getfield 130, 3, []), (27, .iconst 4, 1, []), (28, .if_icmp .lt 6, 3, [34]), (31, .bipush (-3), 2, []), (33, .ireturn, 1, [])]
abbrev b91_34 : List e_En := [(34, .aload_n 2, 1, []), (35, .dup, 1, []), (36, .getfield 130, 3, []), (39, .iconst 1, 1, []), (40, .iadd, 1, []), (41, .putfield 130, 3, []), (44, .aload_n 2, 1, []), (45, .invokevirtual 133, 3, []), (48, .aload_n 2, 1, []), (49, .getfield 130, 3, []), (52, .ireturn, 1, [])]
def cd91 : e_Cd := [(0, b91_0, 0), (12, b91_12, 0), (23, b91_23, 0), (34, b91_34, 0)]
set_option maxRecDepth 20000 in
theorem ok91 : e_chk 91 12 cd91 = true := by decide +kernel
theorem u91_0 {g : e_G} {Ψ : e_Q} {lv : e_Lv} {st : List Value} {h : e_Hp} : e_Sm g 91 12 cd91 Ψ 0 lv st h = e_exec g 91 12 [(0, .aload_n 0, 1, []), (1, .iload_n 1, 1, []), (2, .invokevirtual 121, 3, []), (5, .astore_n 2, 1, []), (6, .aload_n 2, 1, []), (7, .ifnonnull 5, 3, [12]), (10, .iconst (-1), 1, []), (11, .ireturn, 1, [])] 0 lv st h (e_Sm g 91 12 cd91 Ψ) Ψ := e_unf rfl
theorem u91_12 {g : e_G} {Ψ : e_Q} {lv : e_Lv} {st : List Value} {h : e_Hp} : e_Sm g 91 12 cd91 Ψ 12 lv st h = e_exec g 91 12 [(12, .aload_n 2, 1, []), (13, .getfield 125, 3, []), (16, .iconst 1, 1, []), (17, .if_icmp .eq 6, 3, [23]), (20, .bipush (-2), 2, []), (22, .ireturn, 1, [])] 0 lv st h (e_Sm g 91 12 cd91 Ψ) Ψ := e_unf rfl
theorem u91_23 {g : e_G} {Ψ : e_Q} {lv : e_Lv} {st : List Value} {h : e_Hp} : e_Sm g 91 12 cd91 Ψ 23 lv st h = e_exec g 91 12 [(23, .aload_n 2, 1, []), (24, .getfield 130, 3, []), (27, .iconst 4, 1, []), (28, .if_icmp .lt 6, 3, [34]), (31, .bipush (-3), 2, []), (33, .ireturn, 1, [])] 0 lv st h (e_Sm g 91 12 cd91 Ψ) Ψ := e_unf rfl
theorem u91_34 {g : e_G} {Ψ : e_Q} {lv : e_Lv} {st : List Value} {h : e_Hp} : e_Sm g 91 12 cd91 Ψ 34 lv st h = e_exec g 91 12 [(34, .aload_n 2, 1, []), (35, .dup, 1, []), (36, .getfield 130, 3, []), (39, .iconst 1, 1, []), (40, .iadd, 1, []), (41, .putfield 130, 3, []), (44, .aload_n 2, 1, []), (45, .invokevirtual 133, 3, []), (48, .aload_n 2, 1, []), (49, .getfield 130, 3, []), (52, .ireturn, 1, [])] 0 lv st h (e_Sm g 91 12 cd91 Ψ) Ψ := e_unf rfl
theorem mL91 : e_mL 91 = 3 := by decide +kernel
theorem rt91 : e_rt 91 = (some .int) := by decide +kernel
/-- HoldHouse.join(I)I -/
abbrev b92_0 : List e_En := [(0, .aload_n 0, 1, []), (1, .iload_n 1, 1, []), (2, .invokevirtual 121, 3, []), (5, .astore_n 2, 1, []), (6, .aload_n 2, 1, []), (7, .ifnonnull 5, 3, [12]), (10, .iconst (-1), 1, []), (11, .ireturn, 1, [])]
abbrev b92_12 : List e_En := [(12, .aload_n 2, 1, []), (13, .getfield 125, 3, []), (16, .iconst 1, 1, []), (17, .if_icmp .ne 10, 3, [27]), (20, .aload_n 2, 1, []), (21, .getfield 130, 3, []), (24, .ifCond .ne 6, 3, [30])]
abbrev b92_27 : List e_En := [(27, .bipush (-2), 2, []), (29, .ireturn, 1, [])]
abbrev b92_30 : List e_En := [(30, .iconst 0, 1, []), (31, .istore_n 3, 1, [])]
abbrev b92_32 : List e_En := [(32, .iload_n 3, 1, []), (33, .aload_n 0, 1, []), (34, .getfield 12, 3, []), (37, .getfield 86, 3, []), (40, .if_icmp .ge 27, 3, [67]), (43, .aload_n 0, 1, []), (44, .iload_n 3, 1, []), (45, .invokevirtual 136, 3, []), (48, .astore 4, 2, []), (50, .aload 4, 2, []), (52, .ifnull 9, 3, [61]), (55, .aload 4, 2, []), (57, .aload_n 2, 1, []), (58, .invokevirtual 140, 3, [])]
abbrev b92_61 : List e_En := [(61, .iinc 3 1, 3, []), (64, .goto (-32), 3, [32])]
abbrev b92_67 : List e_En := [(67, .aload_n 2, 1, []), (68, .dup, 1, []), (69, .getfield 130, 3, []), (72, .iconst 1, 1, []), (73, .isub, 1, []), (74, .putfield 130, 3, []), (77, .aload_n 2, 1, []), (78, .getfield 130, 3, []), (81, .ireturn, 1, [])]
def cd92 : e_Cd := [(0, b92_0, 0), (12, b92_12, 27), (27, b92_27, 0), (30, b92_30, 32), (32, b92_32, 61), (61, b92_61, 0), (67, b92_67, 0)]
set_option maxRecDepth 20000 in
theorem ok92 : e_chk 92 12 cd92 = true := by decide +kernel
theorem u92_0 {g : e_G} {Ψ : e_Q} {lv : e_Lv} {st : List Value} {h : e_Hp} : e_Sm g 92 12 cd92 Ψ 0 lv st h = e_exec g 92 12 [(0, .aload_n 0, 1, []), (1, .iload_n 1, 1, []), (2, .invokevirtual 121, 3, []), (5, .astore_n 2, 1, []), (6, .aload_n 2, 1, []), (7, .ifnonnull 5, 3, [12]), (10, .iconst (-1), 1, []), (11, .ireturn, 1, [])] 0 lv st h (e_Sm g 92 12 cd92 Ψ) Ψ := e_unf rfl
theorem u92_12 {g : e_G} {Ψ : e_Q} {lv : e_Lv} {st : List Value} {h : e_Hp} : e_Sm g 92 12 cd92 Ψ 12 lv st h = e_exec g 92 12 [(12, .aload_n 2, 1, []), (13, .getfield 125, 3, []), (16, .iconst 1, 1, []), (17, .if_icmp .ne 10, 3, [27]), (20, .aload_n 2, 1, []), (21, .getfield 130, 3, []), (24, .ifCond .ne 6, 3, [30])] 27 lv st h (e_Sm g 92 12 cd92 Ψ) Ψ := e_unf rfl
theorem u92_27 {g : e_G} {Ψ : e_Q} {lv : e_Lv} {st : List Value} {h : e_Hp} : e_Sm g 92 12 cd92 Ψ 27 lv st h = e_exec g 92 12 [(27, .bipush (-2), 2, []), (29, .ireturn, 1, [])] 0 lv st h (e_Sm g 92 12 cd92 Ψ) Ψ := e_unf rfl
theorem u92_30 {g : e_G} {Ψ : e_Q} {lv : e_Lv} {st : List Value} {h : e_Hp} : e_Sm g 92 12 cd92 Ψ 30 lv st h = e_exec g 92 12 [(30, .iconst 0, 1, []), (31, .istore_n 3, 1, [])] 32 lv st h (e_Sm g 92 12 cd92 Ψ) Ψ := e_unf rfl
theorem u92_32 {g : e_G} {Ψ : e_Q} {lv : e_Lv} {st : List Value} {h : e_Hp} : e_Sm g 92 12 cd92 Ψ 32 lv st h = e_exec g 92 12 [(32, .iload_n 3, 1, []), (33, .aload_n 0, 1, []), (34, .getfield 12, 3, []), (37, .getfield 86, 3, []), (40, .if_icmp .ge 27, 3, [67]), (43, .aload_n 0, 1, []), (44, .iload_n 3, 1, []), (45, .invokevirtual 136, 3, []), (48, .astore 4, 2, []), (50, .aload 4, 2, []), (52, .ifnull 9, 3, [61]), (55, .aload 4, 2, []), (57, .aload_n 2, 1, []), (58, .invokevirtual 140, 3, [])] 61 lv st h (e_Sm g 92 12 cd92 Ψ) Ψ := e_unf rfl
theorem u92_61 {g : e_G} {Ψ : e_Q} {lv : e_Lv} {st : List Value} {h : e_Hp} : e_Sm g 92 12 cd92 Ψ 61 lv st h = e_exec g 92 12 [(61, .iinc 3 1, 3, []), (64, .goto (-32), 3, [32])] 0 lv st h (e_Sm g 92 12 cd92 Ψ) Ψ := e_unf rfl
theorem u92_67 {g : e_G} {Ψ : e_Q} {lv : e_Lv} {st : List Value} {h : e_Hp} : e_Sm g 92 12 cd92 Ψ 67 lv st h = e_exec g 92 12 [(67, .aload_n 2, 1, []), (68, .dup, 1, []), (69, .getfield 130, 3, []), (72, .iconst 1, 1, []), (73, .isub, 1, []), (74, .putfield 130, 3, []), (77, .aload_n 2, 1, []), (78, .getfield 130, 3, []), (81, .ireturn, 1, [])] 0 lv st h (e_Sm g 92 12 cd92 Ψ) Ψ := e_unf rfl
theorem mL92 : e_mL 92 = 5 := by decide +kernel
theorem rt92 : e_rt 92 = (some .int) := by decide +kernel
/-- HoldHouse.back(I)I -/
abbrev b93_0 : List e_En := [(0, .aload_n 0, 1, []), (1, .iload_n 1, 1, []), (2, .invokevirtual 121, 3, []), (5, .astore_n 2, 1, []), (6, .aload_n 2, 1, []), (7, .ifnonnull 5, 3, [12]), (10, .iconst (-1), 1, []), (11, .ireturn, 1, [])]
abbrev b93_12 : List e_En := [(12, .aload_n 2, 1, []), (13, .getfield 125, 3, []), (16, .iconst 1, 1, []), (17, .if_icmp .ne 10, 3, [27]), (20, .aload_n 2, 1, []), (21, .getfield 130, 3, []), (24, .ifCond .ne 6, 3, [30])]
abbrev b93_27 : List e_En := [(27, .bipush (-2), 2, []), (29, .ireturn, 1, [])]
abbrev b93_30 : List e_En := [(30, .aload_n 0, 1, []), (31, .aload_n 2, 1, []), (32, .aload_n 2, 1, []), (33, .invokevirtual 144, 3, []), (36, .invokevirtual 147, 3, []), (39, .istore_n 3, 1, []), (40, .aload_n 0, 1, []), (41, .aload_n 2, 1, []), (42, .aload_n 2, 1, []), (43, .getfield 130, 3, []), (46, .iconst 0, 1, []), (47, .invokevirtual 151, 3, []), (50, .aload_n 2, 1, []), (51, .dup, 1, []), (52, .getfield 130, 3, []), (55, .iconst 1, 1, []), (56, .isub, 1, []), (57, .putfield 130, 3, []), (60, .aload_n 0, 1, []), (61, .aconst_null, 1, []), (62, .invokevirtual 155, 3, []), (65, .iload_n 3, 1, []), (66, .ireturn, 1, [])]
def cd93 : e_Cd := [(0, b93_0, 0), (12, b93_12, 27), (27, b93_27, 0), (30, b93_30, 0)]
set_option maxRecDepth 20000 in
theorem ok93 : e_chk 93 12 cd93 = true := by decide +kernel
theorem u93_0 {g : e_G} {Ψ : e_Q} {lv : e_Lv} {st : List Value} {h : e_Hp} : e_Sm g 93 12 cd93 Ψ 0 lv st h = e_exec g 93 12 [(0, .aload_n 0, 1, []), (1, .iload_n 1, 1, []), (2, .invokevirtual 121, 3, []), (5, .astore_n 2, 1, []), (6, .aload_n 2, 1, []), (7, .ifnonnull 5, 3, [12]), (10, .iconst (-1), 1, []), (11, .ireturn, 1, [])] 0 lv st h (e_Sm g 93 12 cd93 Ψ) Ψ := e_unf rfl
theorem u93_12 {g : e_G} {Ψ : e_Q} {lv : e_Lv} {st : List Value} {h : e_Hp} : e_Sm g 93 12 cd93 Ψ 12 lv st h = e_exec g 93 12 [(12, .aload_n 2, 1, []), (13, .getfield 125, 3, []), (16, .iconst 1, 1, []), (17, .if_icmp .ne 10, 3, [27]), (20, .aload_n 2, 1, []), (21, .getfield 130, 3, []), (24, .ifCond .ne 6, 3, [30])] 27 lv st h (e_Sm g 93 12 cd93 Ψ) Ψ := e_unf rfl
theorem u93_27 {g : e_G} {Ψ : e_Q} {lv : e_Lv} {st : List Value} {h : e_Hp} : e_Sm g 93 12 cd93 Ψ 27 lv st h = e_exec g 93 12 [(27, .bipush (-2), 2, []), (29, .ireturn, 1, [])] 0 lv st h (e_Sm g 93 12 cd93 Ψ) Ψ := e_unf rfl
theorem u93_30 {g : e_G} {Ψ : e_Q} {lv : e_Lv} {st : List Value} {h : e_Hp} : e_Sm g 93 12 cd93 Ψ 30 lv st h = e_exec g 93 12 [(30, .aload_n 0, 1, []), (31, .aload_n 2, 1, []), (32, .aload_n 2, 1, []), (33, .invokevirtual 144, 3, []), (36, .invokevirtual 147, 3, []), (39, .istore_n 3, 1, []), (40, .aload_n 0, 1, []), (41, .aload_n 2, 1, []), (42, .aload_n 2, 1, []), (43, .getfield 130, 3, []), (46, .iconst 0, 1, []), (47, .invokevirtual 151, 3, []), (50, .aload_n 2, 1, []), (51, .dup, 1, []), (52, .getfield 130, 3, []), (55, .iconst 1, 1, []), (56, .isub, 1, []), (57, .putfield 130, 3, []), (60, .aload_n 0, 1, []), (61, .aconst_null, 1, []), (62, .invokevirtual 155, 3, []), (65, .iload_n 3, 1, []), (66, .ireturn, 1, [])] 0 lv st h (e_Sm g 93 12 cd93 Ψ) Ψ := e_unf rfl
theorem mL93 : e_mL 93 = 4 := by decide +kernel
theorem rt93 : e_rt 93 = (some .int) := by decide +kernel
/-- HoldHouse.save(I)I -/
abbrev b94_0 : List e_En := [(0, .aload_n 0, 1, []), (1, .iload_n 1, 1, []), (2, .invokevirtual 121, 3, []), (5, .astore_n 2, 1, []), (6, .aload_n 2, 1, []), (7, .ifnonnull 5, 3, [12]), (10, .iconst (-1), 1, []), (11, .ireturn, 1, [])]
abbrev b94_12 : List e_En := [(12, .aload_n 2, 1, []), (13, .getfield 125, 3, []), (16, .iconst 1, 1, []), (17, .if_icmp .ne 10, 3, [27]), (20, .aload_n 2, 1, []), (21, .getfield 158, 3, []), (24, .goto 5, 3, [29])]
abbrev b94_27 : List e_En := [(27, .bipush (-2), 2, [])]
abbrev b94_29 : List e_En := [(29, .ireturn, 1, [])]
def cd94 : e_Cd := [(0, b94_0, 0), (12, b94_12, 0), (27, b94_27, 29), (29, b94_29, 0)]
set_option maxRecDepth 20000 in
theorem ok94 : e_chk 94 12 cd94 = true := by decide +kernel
theorem u94_0 {g : e_G} {Ψ : e_Q} {lv : e_Lv} {st : List Value} {h : e_Hp} : e_Sm g 94 12 cd94 Ψ 0 lv st h = e_exec g 94 12 [(0, .aload_n 0, 1, []), (1, .iload_n 1, 1, []), (2, .invokevirtual 121, 3, []), (5, .astore_n 2, 1, []), (6, .aload_n 2, 1, []), (7, .ifnonnull 5, 3, [12]), (10, .iconst (-1), 1, []), (11, .ireturn, 1, [])] 0 lv st h (e_Sm g 94 12 cd94 Ψ) Ψ := e_unf rfl
theorem u94_12 {g : e_G} {Ψ : e_Q} {lv : e_Lv} {st : List Value} {h : e_Hp} : e_Sm g 94 12 cd94 Ψ 12 lv st h = e_exec g 94 12 [(12, .aload_n 2, 1, []), (13, .getfield 125, 3, []), (16, .iconst 1, 1, []), (17, .if_icmp .ne 10, 3, [27]), (20, .aload_n 2, 1, []), (21, .getfield 158, 3, []), (24, .goto 5, 3, [29])] 0 lv st h (e_Sm g 94 12 cd94 Ψ) Ψ := e_unf rfl
theorem u94_27 {g : e_G} {Ψ : e_Q} {lv : e_Lv} {st : List Value} {h : e_Hp} : e_Sm g 94 12 cd94 Ψ 27 lv st h = e_exec g 94 12 [(27, .bipush (-2), 2, [])] 29 lv st h (e_Sm g 94 12 cd94 Ψ) Ψ := e_unf rfl
theorem u94_29 {g : e_G} {Ψ : e_Q} {lv : e_Lv} {st : List Value} {h : e_Hp} : e_Sm g 94 12 cd94 Ψ 29 lv st h = e_exec g 94 12 [(29, .ireturn, 1, [])] 0 lv st h (e_Sm g 94 12 cd94 Ψ) Ψ := e_unf rfl
theorem mL94 : e_mL 94 = 3 := by decide +kernel
theorem rt94 : e_rt 94 = (some .int) := by decide +kernel
/-- HoldHouse.backTo(II)I -/
abbrev b95_0 : List e_En := [(0, .aload_n 0, 1, []), (1, .iload_n 1, 1, []), (2, .invokevirtual 121, 3, []), (5, .astore_n 3, 1, []), (6, .aload_n 3, 1, []), (7, .ifnull 19, 3, [26]), (10, .iload_n 2, 1, []), (11, .aload_n 3, 1, []), (12, .getfield 158, 3, []), (15, .if_icmp .gt 11, 3, [26]), (18, .iload_n 2, 1, []), (19, .aload_n 3, 1, []), (20, .invokevirtual 144, 3, []), (23, .if_icmp .ge 5, 3, [28])]
abbrev b95_26 : List e_En := [(26, .iconst (-1), 1, []), (27, .ireturn, 1, [])]
abbrev b95_28 : List e_En := [(28, .aload_n 3, 1, []), (29, .getfield 125, 3, []), (32, .iconst 1, 1, []), (33, .if_icmp .eq 6, 3, [39]), (36, .bipush (-2), 2, []), (38, .ireturn, 1, [])]
abbrev b95_39 : List e_En := [(39, .aload_n 0, 1, []), (40, .aload_n 3, 1, []), (41, .iload_n 2, 1, []), (42, .invokevirtual 147, 3, []), (45, .ireturn, 1, [])]
def cd95 : e_Cd := [(0, b95_0, 26), (26, b95_26, 0), (28, b95_28, 0), (39, b95_39, 0)]
set_option maxRecDepth 20000 in
theorem ok95 : e_chk 95 12 cd95 = true := by decide +kernel
theorem u95_0 {g : e_G} {Ψ : e_Q} {lv : e_Lv} {st : List Value} {h : e_Hp} : e_Sm g 95 12 cd95 Ψ 0 lv st h = e_exec g 95 12 [(0, .aload_n 0, 1, []), (1, .iload_n 1, 1, []), (2, .invokevirtual 121, 3, []), (5, .astore_n 3, 1, []), (6, .aload_n 3, 1, []), (7, .ifnull 19, 3, [26]), (10, .iload_n 2, 1, []), (11, .aload_n 3, 1, []), (12, .getfield 158, 3, []), (15, .if_icmp .gt 11, 3, [26]), (18, .iload_n 2, 1, []), (19, .aload_n 3, 1, []), (20, .invokevirtual 144, 3, []), (23, .if_icmp .ge 5, 3, [28])] 26 lv st h (e_Sm g 95 12 cd95 Ψ) Ψ := e_unf rfl
theorem u95_26 {g : e_G} {Ψ : e_Q} {lv : e_Lv} {st : List Value} {h : e_Hp} : e_Sm g 95 12 cd95 Ψ 26 lv st h = e_exec g 95 12 [(26, .iconst (-1), 1, []), (27, .ireturn, 1, [])] 0 lv st h (e_Sm g 95 12 cd95 Ψ) Ψ := e_unf rfl
theorem u95_28 {g : e_G} {Ψ : e_Q} {lv : e_Lv} {st : List Value} {h : e_Hp} : e_Sm g 95 12 cd95 Ψ 28 lv st h = e_exec g 95 12 [(28, .aload_n 3, 1, []), (29, .getfield 125, 3, []), (32, .iconst 1, 1, []), (33, .if_icmp .eq 6, 3, [39]), (36, .bipush (-2), 2, []), (38, .ireturn, 1, [])] 0 lv st h (e_Sm g 95 12 cd95 Ψ) Ψ := e_unf rfl
theorem u95_39 {g : e_G} {Ψ : e_Q} {lv : e_Lv} {st : List Value} {h : e_Hp} : e_Sm g 95 12 cd95 Ψ 39 lv st h = e_exec g 95 12 [(39, .aload_n 0, 1, []), (40, .aload_n 3, 1, []), (41, .iload_n 2, 1, []), (42, .invokevirtual 147, 3, []), (45, .ireturn, 1, [])] 0 lv st h (e_Sm g 95 12 cd95 Ψ) Ψ := e_unf rfl
theorem mL95 : e_mL 95 = 4 := by decide +kernel
theorem rt95 : e_rt 95 = (some .int) := by decide +kernel
/-- HoldHouse.end(I)I -/
abbrev b96_0 : List e_En := [(0, .aload_n 0, 1, []), (1, .iload_n 1, 1, []), (2, .invokevirtual 121, 3, []), (5, .astore_n 2, 1, []), (6, .aload_n 2, 1, []), (7, .ifnonnull 5, 3, [12]), (10, .iconst (-1), 1, []), (11, .ireturn, 1, [])]
abbrev b96_12 : List e_En := [(12, .aload_n 2, 1, []), (13, .getfield 125, 3, []), (16, .iconst 1, 1, []), (17, .if_icmp .ne 10, 3, [27]), (20, .aload_n 2, 1, []), (21, .getfield 130, 3, []), (24, .ifCond .le 6, 3, [30])]
abbrev b96_27 : List e_En := [(27, .bipush (-2), 2, []), (29, .ireturn, 1, [])]
abbrev b96_30 : List e_En := [(30, .aload_n 0, 1, []), (31, .getfield 38, 3, []), (34, .aload_n 2, 1, []), (35, .invokevirtual 161, 3, []), (38, .pop, 1, []), (39, .aload_n 2, 1, []), (40, .aload_n 0, 1, []), (41, .getfield 38, 3, []), (44, .invokevirtual 165, 3, []), (47, .putfield 167, 3, []), (50, .aload_n 0, 1, []), (51, .getfield 44, 3, []), (54, .new 101, 3, []), (57, .dup, 1, []), (58, .iconst 4, 1, []), (59, .aload_n 2, 1, []), (60, .getfield 170, 3, []), (63, .iconst (-1), 1, []), (64, .iconst (-1), 1, []), (65, .iconst 0, 1, []), (66, .iconst 0, 1, []), (67, .aload_n 2, 1, []), (68, .getfield 167, 3, []), (71, .invokespecial 103, 3, []), (74, .invokevirtual 106, 3, []), (77, .aload_n 0, 1, []), (78, .getfield 44, 3, []), (81, .invokevirtual 173, 3, []), (84, .aload_n 0, 1, []), (85, .aload_n 2, 1, []), (86, .aload_n 0, 1, []), (87, .getfield 44, 3, []), (90, .invokevirtual 176, 3, []), (93, .aload_n 0, 1, []), (94, .getfield 16, 3, []), (97, .invokevirtual 177, 3, []), (100, .pop, 1, []), (101, .aload_n 0, 1, []), (102, .aload_n 2, 1, []), (103, .aload_n 0, 1, []), (104, .getfield 44, 3, []), (107, .invokevirtual 176, 3, []), (110, .invokevirtual 181, 3, []), (113, .aload_n 0, 1, []), (114, .aload_n 2, 1, []), (115, .invokevirtual 185, 3, []), (118, .aload_n 2, 1, []), (119, .iconst 3, 1, []), (120, .putfield 125, 3, []), (123, .aload_n 0, 1, []), (124, .aconst_null, 1, []), (125, .invokevirtual 155, 3, []), (128, .aload_n 2, 1, []), (129, .getfield 167, 3, []), (132, .ireturn, 1, [])]
def cd96 : e_Cd := [(0, b96_0, 0), (12, b96_12, 27), (27, b96_27, 0), (30, b96_30, 0)]
set_option maxRecDepth 20000 in
theorem ok96 : e_chk 96 12 cd96 = true := by decide +kernel
theorem u96_0 {g : e_G} {Ψ : e_Q} {lv : e_Lv} {st : List Value} {h : e_Hp} : e_Sm g 96 12 cd96 Ψ 0 lv st h = e_exec g 96 12 [(0, .aload_n 0, 1, []), (1, .iload_n 1, 1, []), (2, .invokevirtual 121, 3, []), (5, .astore_n 2, 1, []), (6, .aload_n 2, 1, []), (7, .ifnonnull 5, 3, [12]), (10, .iconst (-1), 1, []), (11, .ireturn, 1, [])] 0 lv st h (e_Sm g 96 12 cd96 Ψ) Ψ := e_unf rfl
theorem u96_12 {g : e_G} {Ψ : e_Q} {lv : e_Lv} {st : List Value} {h : e_Hp} : e_Sm g 96 12 cd96 Ψ 12 lv st h = e_exec g 96 12 [(12, .aload_n 2, 1, []), (13, .getfield 125, 3, []), (16, .iconst 1, 1, []), (17, .if_icmp .ne 10, 3, [27]), (20, .aload_n 2, 1, []), (21, .getfield 130, 3, []), (24, .ifCond .le 6, 3, [30])] 27 lv st h (e_Sm g 96 12 cd96 Ψ) Ψ := e_unf rfl
theorem u96_27 {g : e_G} {Ψ : e_Q} {lv : e_Lv} {st : List Value} {h : e_Hp} : e_Sm g 96 12 cd96 Ψ 27 lv st h = e_exec g 96 12 [(27, .bipush (-2), 2, []), (29, .ireturn, 1, [])] 0 lv st h (e_Sm g 96 12 cd96 Ψ) Ψ := e_unf rfl
theorem u96_30 {g : e_G} {Ψ : e_Q} {lv : e_Lv} {st : List Value} {h : e_Hp} : e_Sm g 96 12 cd96 Ψ 30 lv st h = e_exec g 96 12 [(30, .aload_n 0, 1, []), (31, .getfield 38, 3, []), (34, .aload_n 2, 1, []), (35, .invokevirtual 161, 3, []), (38, .pop, 1, []), (39, .aload_n 2, 1, []), (40, .aload_n 0, 1, []), (41, .getfield 38, 3, []), (44, .invokevirtual 165, 3, []), (47, .putfield 167, 3, []), (50, .aload_n 0, 1, []), (51, .getfield 44, 3, []), (54, .new 101, 3, []), (57, .dup, 1, []), (58, .iconst 4, 1, []), (59, .aload_n 2, 1, []), (60, .getfield 170, 3, []), (63, .iconst (-1), 1, []), (64, .iconst (-1), 1, []), (65, .iconst 0, 1, []), (66, .iconst 0, 1, []), (67, .aload_n 2, 1, []), (68, .getfield 167, 3, []), (71, .invokespecial 103, 3, []), (74, .invokevirtual 106, 3, []), (77, .aload_n 0, 1, []), (78, .getfield 44, 3, []), (81, .invokevirtual 173, 3, []), (84, .aload_n 0, 1, []), (85, .aload_n 2, 1, []), (86, .aload_n 0, 1, []), (87, .getfield 44, 3, []), (90, .invokevirtual 176, 3, []), (93, .aload_n 0, 1, []), (94, .getfield 16, 3, []), (97, .invokevirtual 177, 3, []), (100, .pop, 1, []), (101, .aload_n 0, 1, []), (102, .aload_n 2, 1, []), (103, .aload_n 0, 1, []), (104, .getfield 44, 3, []), (107, .invokevirtual 176, 3, []), (110, .invokevirtual 181, 3, []), (113, .aload_n 0, 1, []), (114, .aload_n 2, 1, []), (115, .invokevirtual 185, 3, []), (118, .aload_n 2, 1, []), (119, .iconst 3, 1, []), (120, .putfield 125, 3, []), (123, .aload_n 0, 1, []), (124, .aconst_null, 1, []), (125, .invokevirtual 155, 3, []), (128, .aload_n 2, 1, []), (129, .getfield 167, 3, []), (132, .ireturn, 1, [])] 0 lv st h (e_Sm g 96 12 cd96 Ψ) Ψ := e_unf rfl
theorem mL96 : e_mL 96 = 3 := by decide +kernel
theorem rt96 : e_rt 96 = (some .int) := by decide +kernel
/-- HoldHouse.undo(I)I -/
abbrev b97_0 : List e_En := [(0, .aload_n 0, 1, []), (1, .iload_n 1, 1, []), (2, .invokevirtual 121, 3, []), (5, .astore_n 2, 1, []), (6, .aload_n 2, 1, []), (7, .ifnonnull 5, 3, [12]), (10, .iconst (-1), 1, []), (11, .ireturn, 1, [])]
abbrev b97_12 : List e_En := [(12, .aload_n 2, 1, []), (13, .invokevirtual 188, 3, []), (16, .ifCond .ne 6, 3, [22]), (19, .bipush (-2), 2, []), (21, .ireturn, 1, [])]
abbrev b97_22 : List e_En := [(22, .aload_n 0, 1, []), (23, .aload_n 2, 1, []), (24, .iconst 3, 1, []), (25, .invokevirtual 191, 3, []), (28, .istore_n 3, 1, []), (29, .aload_n 0, 1, []), (30, .aconst_null, 1, []), (31, .invokevirtual 155, 3, []), (34, .iload_n 3, 1, []), (35, .ireturn, 1, [])]
def cd97 : e_Cd := [(0, b97_0, 0), (12, b97_12, 0), (22, b97_22, 0)]
set_option maxRecDepth 20000 in
theorem ok97 : e_chk 97 12 cd97 = true := by decide +kernel
theorem u97_0 {g : e_G} {Ψ : e_Q} {lv : e_Lv} {st : List Value} {h : e_Hp} : e_Sm g 97 12 cd97 Ψ 0 lv st h = e_exec g 97 12 [(0, .aload_n 0, 1, []), (1, .iload_n 1, 1, []), (2, .invokevirtual 121, 3, []), (5, .astore_n 2, 1, []), (6, .aload_n 2, 1, []), (7, .ifnonnull 5, 3, [12]), (10, .iconst (-1), 1, []), (11, .ireturn, 1, [])] 0 lv st h (e_Sm g 97 12 cd97 Ψ) Ψ := e_unf rfl
theorem u97_12 {g : e_G} {Ψ : e_Q} {lv : e_Lv} {st : List Value} {h : e_Hp} : e_Sm g 97 12 cd97 Ψ 12 lv st h = e_exec g 97 12 [(12, .aload_n 2, 1, []), (13, .invokevirtual 188, 3, []), (16, .ifCond .ne 6, 3, [22]), (19, .bipush (-2), 2, []), (21, .ireturn, 1, [])] 0 lv st h (e_Sm g 97 12 cd97 Ψ) Ψ := e_unf rfl
theorem u97_22 {g : e_G} {Ψ : e_Q} {lv : e_Lv} {st : List Value} {h : e_Hp} : e_Sm g 97 12 cd97 Ψ 22 lv st h = e_exec g 97 12 [(22, .aload_n 0, 1, []), (23, .aload_n 2, 1, []), (24, .iconst 3, 1, []), (25, .invokevirtual 191, 3, []), (28, .istore_n 3, 1, []), (29, .aload_n 0, 1, []), (30, .aconst_null, 1, []), (31, .invokevirtual 155, 3, []), (34, .iload_n 3, 1, []), (35, .ireturn, 1, [])] 0 lv st h (e_Sm g 97 12 cd97 Ψ) Ψ := e_unf rfl
theorem mL97 : e_mL 97 = 4 := by decide +kernel
theorem rt97 : e_rt 97 = (some .int) := by decide +kernel
/-- HoldHouse.retry(I)I -/
abbrev b98_0 : List e_En := [(0, .aload_n 0, 1, []), (1, .iload_n 1, 1, []), (2, .invokevirtual 121, 3, []), (5, .astore_n 2, 1, []), (6, .aload_n 2, 1, []), (7, .ifnonnull 5, 3, [12]), (10, .iconst (-1), 1, []), (11, .ireturn, 1, [])]
abbrev b98_12 : List e_En := [(12, .aload_n 2, 1, []), (13, .getfield 125, 3, []), (16, .iconst 4, 1, []), (17, .if_icmp .ne 19, 3, [36]), (20, .aload_n 2, 1, []), (21, .getfield 194, 3, []), (24, .iconst 1, 1, []), (25, .if_icmp .eq 14, 3, [39]), (28, .aload_n 2, 1, []), (29, .getfield 194, 3, []), (32, .iconst 2, 1, []), (33, .if_icmp .eq 6, 3, [39])]
abbrev b98_36 : List e_En := [(36, .bipush (-2), 2, []), (38, .ireturn, 1, [])]
abbrev b98_39 : List e_En := [(39, .aload_n 0, 1, []), (40, .aload_n 2, 1, []), (41, .getfield 197, 3, []), (44, .aload_n 2, 1, []), (45, .getfield 200, 3, []), (48, .iconst 1, 1, []), (49, .iadd, 1, []), (50, .invokevirtual 117, 3, []), (53, .ireturn, 1, [])]
def cd98 : e_Cd := [(0, b98_0, 0), (12, b98_12, 36), (36, b98_36, 0), (39, b98_39, 0)]
set_option maxRecDepth 20000 in
theorem ok98 : e_chk 98 12 cd98 = true := by decide +kernel
theorem u98_0 {g : e_G} {Ψ : e_Q} {lv : e_Lv} {st : List Value} {h : e_Hp} : e_Sm g 98 12 cd98 Ψ 0 lv st h = e_exec g 98 12 [(0, .aload_n 0, 1, []), (1, .iload_n 1, 1, []), (2, .invokevirtual 121, 3, []), (5, .astore_n 2, 1, []), (6, .aload_n 2, 1, []), (7, .ifnonnull 5, 3, [12]), (10, .iconst (-1), 1, []), (11, .ireturn, 1, [])] 0 lv st h (e_Sm g 98 12 cd98 Ψ) Ψ := e_unf rfl
theorem u98_12 {g : e_G} {Ψ : e_Q} {lv : e_Lv} {st : List Value} {h : e_Hp} : e_Sm g 98 12 cd98 Ψ 12 lv st h = e_exec g 98 12 [(12, .aload_n 2, 1, []), (13, .getfield 125, 3, []), (16, .iconst 4, 1, []), (17, .if_icmp .ne 19, 3, [36]), (20, .aload_n 2, 1, []), (21, .getfield 194, 3, []), (24, .iconst 1, 1, []), (25, .if_icmp .eq 14, 3, [39]), (28, .aload_n 2, 1, []), (29, .getfield 194, 3, []), (32, .iconst 2, 1, []), (33, .if_icmp .eq 6, 3, [39])] 36 lv st h (e_Sm g 98 12 cd98 Ψ) Ψ := e_unf rfl
theorem u98_36 {g : e_G} {Ψ : e_Q} {lv : e_Lv} {st : List Value} {h : e_Hp} : e_Sm g 98 12 cd98 Ψ 36 lv st h = e_exec g 98 12 [(36, .bipush (-2), 2, []), (38, .ireturn, 1, [])] 0 lv st h (e_Sm g 98 12 cd98 Ψ) Ψ := e_unf rfl
theorem u98_39 {g : e_G} {Ψ : e_Q} {lv : e_Lv} {st : List Value} {h : e_Hp} : e_Sm g 98 12 cd98 Ψ 39 lv st h = e_exec g 98 12 [(39, .aload_n 0, 1, []), (40, .aload_n 2, 1, []), (41, .getfield 197, 3, []), (44, .aload_n 2, 1, []), (45, .getfield 200, 3, []), (48, .iconst 1, 1, []), (49, .iadd, 1, []), (50, .invokevirtual 117, 3, []), (53, .ireturn, 1, [])] 0 lv st h (e_Sm g 98 12 cd98 Ψ) Ψ := e_unf rfl
theorem mL98 : e_mL 98 = 3 := by decide +kernel
theorem rt98 : e_rt 98 = (some .int) := by decide +kernel
/-- HoldHouse.act(IIIII)I -/
abbrev b99_0 : List e_En := [(0, .aload_n 0, 1, []), (1, .iload_n 1, 1, []), (2, .invokevirtual 121, 3, []), (5, .astore 6, 2, []), (7, .aload 6, 2, []), (9, .ifnull 30, 3, [39]), (12, .aload_n 0, 1, []), (13, .getfield 12, 3, []), (16, .iload_n 2, 1, []), (17, .invokevirtual 69, 3, []), (20, .ifnull 19, 3, [39]), (23, .iload_n 3, 1, []), (24, .iload 4, 2, []), (26, .aload_n 0, 1, []), (27, .getfield 12, 3, []), (30, .getfield 86, 3, []), (33, .invokestatic 203, 3, []), (36, .ifCond .ne 5, 3, [41])]
abbrev b99_39 : List e_En := [(39, .iconst (-1), 1, []), (40, .ireturn, 1, [])]
abbrev b99_41 : List e_En := [(41, .iload_n 3, 1, []), (42, .bipush 19, 2, []), (44, .if_icmp .ne 23, 3, [67]), (47, .aload_n 0, 1, []), (48, .getfield 12, 3, []), (51, .iload 5, 2, []), (53, .invokevirtual 69, 3, []), (56, .ifnull 9, 3, [65]), (59, .iload 5, 2, []), (61, .iload_n 2, 1, []), (62, .if_icmp .ne 5, 3, [67])]
abbrev b99_65 : List e_En := [(65, .iconst (-1), 1, []), (66, .ireturn, 1, [])]
abbrev b99_67 : List e_En := [(67, .aload 6, 2, []), (69, .getfield 125, 3, []), (72, .iconst 1, 1, []), (73, .if_icmp .eq 6, 3, [79]), (76, .bipush (-2), 2, []), (78, .ireturn, 1, [])]
abbrev b99_79 : List e_En := [(79, .aload_n 0, 1, []), (80, .getfield 58, 3, []), (83, .getfield 207, 3, []), (86, .sipush 700, 3, []), (89, .if_icmp .lt 6, 3, [95]), (92, .bipush (-3), 2, []), (94, .ireturn, 1, [])]
abbrev b99_95 : List e_En := [(95, .aload 6, 2, []), (97, .getfield 210, 3, []), (100, .aload_n 0, 1, []), (101, .getfield 66, 3, []), (104, .if_icmp .lt 22, 3, [126]), (107, .aload_n 0, 1, []), (108, .aload 6, 2, []), (110, .iconst 2, 1, []), (111, .invokevirtual 191, 3, []), (114, .pop, 1, []), (115, .aload_n 0, 1, []), (116, .aconst_null, 1, []), (117, .invokevirtual 155, 3, []), (120, .aload 6, 2, []), (122, .invokevirtual 211, 3, []), (125, .ireturn, 1, [])]
abbrev b99_126 : List e_En := [(126, .aload 6, 2, []), (128, .dup, 1, []), (129, .getfield 210, 3, []), (132, .iconst 1, 1, []), (133, .iadd, 1, []), (134, .putfield 210, 3, []), (137, .aload_n 0, 1, []), (138, .getfield 58, 3, []), (141, .dup, 1, []), (142, .getfield 207, 3, []), (145, .iconst 1, 1, []), (146, .iadd, 1, []), (147, .putfield 207, 3, []), (150, .aload 6, 2, []), (152, .getfield 214, 3, []), (155, .iload_n 2, 1, []), (156, .iload_n 3, 1, []), (157, .iload 4, 2, []), (159, .iload 5, 2, []), (161, .invokevirtual 218, 3, []), (164, .aload_n 0, 1, []), (165, .aload 6, 2, []), (167, .invokevirtual 155, 3, []), (170, .aload 6, 2, []), (172, .invokevirtual 211, 3, []), (175, .ireturn, 1, [])]
def cd99 : e_Cd := [(0, b99_0, 39), (39, b99_39, 0), (41, b99_41, 65), (65, b99_65, 0), (67, b99_67, 0), (79, b99_79, 0), (95, b99_95, 0), (126, b99_126, 0)]
set_option maxRecDepth 20000 in
theorem ok99 : e_chk 99 12 cd99 = true := by decide +kernel
theorem u99_0 {g : e_G} {Ψ : e_Q} {lv : e_Lv} {st : List Value} {h : e_Hp} : e_Sm g 99 12 cd99 Ψ 0 lv st h = e_exec g 99 12 [(0, .aload_n 0, 1, []), (1, .iload_n 1, 1, []), (2, .invokevirtual 121, 3, []), (5, .astore 6, 2, []), (7, .aload 6, 2, []), (9, .ifnull 30, 3, [39]), (12, .aload_n 0, 1, []), (13, .getfield 12, 3, []), (16, .iload_n 2, 1, []), (17, .invokevirtual 69, 3, []), (20, .ifnull 19, 3, [39]), (23, .iload_n 3, 1, []), (24, .iload 4, 2, []), (26, .aload_n 0, 1, []), (27, .getfield 12, 3, []), (30, .getfield 86, 3, []), (33, .invokestatic 203, 3, []), (36, .ifCond .ne 5, 3, [41])] 39 lv st h (e_Sm g 99 12 cd99 Ψ) Ψ := e_unf rfl
theorem u99_39 {g : e_G} {Ψ : e_Q} {lv : e_Lv} {st : List Value} {h : e_Hp} : e_Sm g 99 12 cd99 Ψ 39 lv st h = e_exec g 99 12 [(39, .iconst (-1), 1, []), (40, .ireturn, 1, [])] 0 lv st h (e_Sm g 99 12 cd99 Ψ) Ψ := e_unf rfl
theorem u99_41 {g : e_G} {Ψ : e_Q} {lv : e_Lv} {st : List Value} {h : e_Hp} : e_Sm g 99 12 cd99 Ψ 41 lv st h = e_exec g 99 12 [(41, .iload_n 3, 1, []), (42, .bipush 19, 2, []), (44, .if_icmp .ne 23, 3, [67]), (47, .aload_n 0, 1, []), (48, .getfield 12, 3, []), (51, .iload 5, 2, []), (53, .invokevirtual 69, 3, []), (56, .ifnull 9, 3, [65]), (59, .iload 5, 2, []), (61, .iload_n 2, 1, []), (62, .if_icmp .ne 5, 3, [67])] 65 lv st h (e_Sm g 99 12 cd99 Ψ) Ψ := e_unf rfl
theorem u99_65 {g : e_G} {Ψ : e_Q} {lv : e_Lv} {st : List Value} {h : e_Hp} : e_Sm g 99 12 cd99 Ψ 65 lv st h = e_exec g 99 12 [(65, .iconst (-1), 1, []), (66, .ireturn, 1, [])] 0 lv st h (e_Sm g 99 12 cd99 Ψ) Ψ := e_unf rfl
theorem u99_67 {g : e_G} {Ψ : e_Q} {lv : e_Lv} {st : List Value} {h : e_Hp} : e_Sm g 99 12 cd99 Ψ 67 lv st h = e_exec g 99 12 [(67, .aload 6, 2, []), (69, .getfield 125, 3, []), (72, .iconst 1, 1, []), (73, .if_icmp .eq 6, 3, [79]), (76, .bipush (-2), 2, []), (78, .ireturn, 1, [])] 0 lv st h (e_Sm g 99 12 cd99 Ψ) Ψ := e_unf rfl
theorem u99_79 {g : e_G} {Ψ : e_Q} {lv : e_Lv} {st : List Value} {h : e_Hp} : e_Sm g 99 12 cd99 Ψ 79 lv st h = e_exec g 99 12 [(79, .aload_n 0, 1, []), (80, .getfield 58, 3, []), (83, .getfield 207, 3, []), (86, .sipush 700, 3, []), (89, .if_icmp .lt 6, 3, [95]), (92, .bipush (-3), 2, []), (94, .ireturn, 1, [])] 0 lv st h (e_Sm g 99 12 cd99 Ψ) Ψ := e_unf rfl
theorem u99_95 {g : e_G} {Ψ : e_Q} {lv : e_Lv} {st : List Value} {h : e_Hp} : e_Sm g 99 12 cd99 Ψ 95 lv st h = e_exec g 99 12 [(95, .aload 6, 2, []), (97, .getfield 210, 3, []), (100, .aload_n 0, 1, []), (101, .getfield 66, 3, []), (104, .if_icmp .lt 22, 3, [126]), (107, .aload_n 0, 1, []), (108, .aload 6, 2, []), (110, .iconst 2, 1, []), (111, .invokevirtual 191, 3, []), (114, .pop, 1, []), (115, .aload_n 0, 1, []), (116, .aconst_null, 1, []), (117, .invokevirtual 155, 3, []), (120, .aload 6, 2, []), (122, .invokevirtual 211, 3, []), (125, .ireturn, 1, [])] 0 lv st h (e_Sm g 99 12 cd99 Ψ) Ψ := e_unf rfl
theorem u99_126 {g : e_G} {Ψ : e_Q} {lv : e_Lv} {st : List Value} {h : e_Hp} : e_Sm g 99 12 cd99 Ψ 126 lv st h = e_exec g 99 12 [(126, .aload 6, 2, []), (128, .dup, 1, []), (129, .getfield 210, 3, []), (132, .iconst 1, 1, []), (133, .iadd, 1, []), (134, .putfield 210, 3, []), (137, .aload_n 0, 1, []), (138, .getfield 58, 3, []), (141, .dup, 1, []), (142, .getfield 207, 3, []), (145, .iconst 1, 1, []), (146, .iadd, 1, []), (147, .putfield 207, 3, []), (150, .aload 6, 2, []), (152, .getfield 214, 3, []), (155, .iload_n 2, 1, []), (156, .iload_n 3, 1, []), (157, .iload 4, 2, []), (159, .iload 5, 2, []), (161, .invokevirtual 218, 3, []), (164, .aload_n 0, 1, []), (165, .aload 6, 2, []), (167, .invokevirtual 155, 3, []), (170, .aload 6, 2, []), (172, .invokevirtual 211, 3, []), (175, .ireturn, 1, [])] 0 lv st h (e_Sm g 99 12 cd99 Ψ) Ψ := e_unf rfl
theorem mL99 : e_mL 99 = 7 := by decide +kernel
theorem rt99 : e_rt 99 = (some .int) := by decide +kernel
/-- HoldHouse.of(II)I -/
abbrev b100_0 : List e_En := [(0, .aload_n 0, 1, []), (1, .iload_n 1, 1, []), (2, .invokevirtual 121, 3, []), (5, .astore_n 3, 1, []), (6, .aload_n 3, 1, []), (7, .ifnonnull 5, 3, [12]), (10, .iconst (-1), 1, []), (11, .ireturn, 1, [])]
abbrev b100_12 : List e_En := [(12, .iload_n 2, 1, []), (13, .tableswitch 139 0 11 #[63, 68, 73, 78, 83, 88, 93, 98, 103, 108, 128, 134], 63, [152, 76, 81, 86, 91, 96, 101, 106, 111, 116, 121, 141, 147])]
abbrev b100_76 : List e_En := [(76, .aload_n 3, 1, []), (77, .getfield 125, 3, []), (80, .ireturn, 1, [])]
abbrev b100_81 : List e_En := [(81, .aload_n 3, 1, []), (82, .getfield 194, 3, []), (85, .ireturn, 1, [])]
abbrev b100_86 : List e_En := [(86, .aload_n 3, 1, []), (87, .getfield 130, 3, []), (90, .ireturn, 1, [])]
abbrev b100_91 : List e_En := [(91, .aload_n 3, 1, []), (92, .getfield 197, 3, []), (95, .ireturn, 1, [])]
abbrev b100_96 : List e_En := [(96, .aload_n 3, 1, []), (97, .getfield 200, 3, []), (100, .ireturn, 1, [])]
abbrev b100_101 : List e_En := [(101, .aload_n 3, 1, []), (102, .getfield 158, 3, []), (105, .ireturn, 1, [])]
abbrev b100_106 : List e_En := [(106, .aload_n 3, 1, []), (107, .getfield 210, 3, []), (110, .ireturn, 1, [])]
abbrev b100_111 : List e_En := [(111, .aload_n 3, 1, []), (112, .getfield 224, 3, []), (115, .ireturn, 1, [])]
abbrev b100_116 : List e_En := [(116, .aload_n 3, 1, []), (117, .getfield 227, 3, []), (120, .ireturn, 1, [])]
abbrev b100_121 : List e_En := [(121, .aload_n 3, 1, []), (122, .getfield 230, 3, []), (125, .ifnonnull 8, 3, [133]), (128, .bipush (-9), 2, []), (130, .goto 10, 3, [140])]
abbrev b100_133 : List e_En := [(133, .aload_n 3, 1, []), (134, .getfield 230, 3, []), (137, .getfield 234, 3, [])]
abbrev b100_140 : List e_En := [(140, .ireturn, 1, [])]
abbrev b100_141 : List e_En := [(141, .aload_n 0, 1, []), (142, .aload_n 3, 1, []), (143, .invokevirtual 239, 3, []), (146, .ireturn, 1, [])]
abbrev b100_147 : List e_En := [(147, .aload_n 3, 1, []), (148, .getfield 167, 3, []), (151, .ireturn, 1, [])]
abbrev b100_152 : List e_En := [(152, .iconst (-1), 1, []), (153, .ireturn, 1, [])]
def cd100 : e_Cd := [(0, b100_0, 0), (12, b100_12, 0), (76, b100_76, 0), (81, b100_81, 0), (86, b100_86, 0), (91, b100_91, 0), (96, b100_96, 0), (101, b100_101, 0), (106, b100_106, 0), (111, b100_111, 0), (116, b100_116, 0), (121, b100_121, 0), (133, b100_133, 140), (140, b100_140, 0), (141, b100_141, 0), (147, b100_147, 0), (152, b100_152, 0)]
set_option maxRecDepth 20000 in
theorem ok100 : e_chk 100 12 cd100 = true := by decide +kernel
theorem u100_0 {g : e_G} {Ψ : e_Q} {lv : e_Lv} {st : List Value} {h : e_Hp} : e_Sm g 100 12 cd100 Ψ 0 lv st h = e_exec g 100 12 [(0, .aload_n 0, 1, []), (1, .iload_n 1, 1, []), (2, .invokevirtual 121, 3, []), (5, .astore_n 3, 1, []), (6, .aload_n 3, 1, []), (7, .ifnonnull 5, 3, [12]), (10, .iconst (-1), 1, []), (11, .ireturn, 1, [])] 0 lv st h (e_Sm g 100 12 cd100 Ψ) Ψ := e_unf rfl
theorem u100_12 {g : e_G} {Ψ : e_Q} {lv : e_Lv} {st : List Value} {h : e_Hp} : e_Sm g 100 12 cd100 Ψ 12 lv st h = e_exec g 100 12 [(12, .iload_n 2, 1, []), (13, .tableswitch 139 0 11 #[63, 68, 73, 78, 83, 88, 93, 98, 103, 108, 128, 134], 63, [152, 76, 81, 86, 91, 96, 101, 106, 111, 116, 121, 141, 147])] 0 lv st h (e_Sm g 100 12 cd100 Ψ) Ψ := e_unf rfl
theorem u100_76 {g : e_G} {Ψ : e_Q} {lv : e_Lv} {st : List Value} {h : e_Hp} : e_Sm g 100 12 cd100 Ψ 76 lv st h = e_exec g 100 12 [(76, .aload_n 3, 1, []), (77, .getfield 125, 3, []), (80, .ireturn, 1, [])] 0 lv st h (e_Sm g 100 12 cd100 Ψ) Ψ := e_unf rfl
theorem u100_81 {g : e_G} {Ψ : e_Q} {lv : e_Lv} {st : List Value} {h : e_Hp} : e_Sm g 100 12 cd100 Ψ 81 lv st h = e_exec g 100 12 [(81, .aload_n 3, 1, []), (82, .getfield 194, 3, []), (85, .ireturn, 1, [])] 0 lv st h (e_Sm g 100 12 cd100 Ψ) Ψ := e_unf rfl
theorem u100_86 {g : e_G} {Ψ : e_Q} {lv : e_Lv} {st : List Value} {h : e_Hp} : e_Sm g 100 12 cd100 Ψ 86 lv st h = e_exec g 100 12 [(86, .aload_n 3, 1, []), (87, .getfield 130, 3, []), (90, .ireturn, 1, [])] 0 lv st h (e_Sm g 100 12 cd100 Ψ) Ψ := e_unf rfl
theorem u100_91 {g : e_G} {Ψ : e_Q} {lv : e_Lv} {st : List Value} {h : e_Hp} : e_Sm g 100 12 cd100 Ψ 91 lv st h = e_exec g 100 12 [(91, .aload_n 3, 1, []), (92, .getfield 197, 3, []), (95, .ireturn, 1, [])] 0 lv st h (e_Sm g 100 12 cd100 Ψ) Ψ := e_unf rfl
theorem u100_96 {g : e_G} {Ψ : e_Q} {lv : e_Lv} {st : List Value} {h : e_Hp} : e_Sm g 100 12 cd100 Ψ 96 lv st h = e_exec g 100 12 [(96, .aload_n 3, 1, []), (97, .getfield 200, 3, []), (100, .ireturn, 1, [])] 0 lv st h (e_Sm g 100 12 cd100 Ψ) Ψ := e_unf rfl
theorem u100_101 {g : e_G} {Ψ : e_Q} {lv : e_Lv} {st : List Value} {h : e_Hp} : e_Sm g 100 12 cd100 Ψ 101 lv st h = e_exec g 100 12 [(101, .aload_n 3, 1, []), (102, .getfield 158, 3, []), (105, .ireturn, 1, [])] 0 lv st h (e_Sm g 100 12 cd100 Ψ) Ψ := e_unf rfl
theorem u100_106 {g : e_G} {Ψ : e_Q} {lv : e_Lv} {st : List Value} {h : e_Hp} : e_Sm g 100 12 cd100 Ψ 106 lv st h = e_exec g 100 12 [(106, .aload_n 3, 1, []), (107, .getfield 210, 3, []), (110, .ireturn, 1, [])] 0 lv st h (e_Sm g 100 12 cd100 Ψ) Ψ := e_unf rfl
theorem u100_111 {g : e_G} {Ψ : e_Q} {lv : e_Lv} {st : List Value} {h : e_Hp} : e_Sm g 100 12 cd100 Ψ 111 lv st h = e_exec g 100 12 [(111, .aload_n 3, 1, []), (112, .getfield 224, 3, []), (115, .ireturn, 1, [])] 0 lv st h (e_Sm g 100 12 cd100 Ψ) Ψ := e_unf rfl
theorem u100_116 {g : e_G} {Ψ : e_Q} {lv : e_Lv} {st : List Value} {h : e_Hp} : e_Sm g 100 12 cd100 Ψ 116 lv st h = e_exec g 100 12 [(116, .aload_n 3, 1, []), (117, .getfield 227, 3, []), (120, .ireturn, 1, [])] 0 lv st h (e_Sm g 100 12 cd100 Ψ) Ψ := e_unf rfl
theorem u100_121 {g : e_G} {Ψ : e_Q} {lv : e_Lv} {st : List Value} {h : e_Hp} : e_Sm g 100 12 cd100 Ψ 121 lv st h = e_exec g 100 12 [(121, .aload_n 3, 1, []), (122, .getfield 230, 3, []), (125, .ifnonnull 8, 3, [133]), (128, .bipush (-9), 2, []), (130, .goto 10, 3, [140])] 0 lv st h (e_Sm g 100 12 cd100 Ψ) Ψ := e_unf rfl
theorem u100_133 {g : e_G} {Ψ : e_Q} {lv : e_Lv} {st : List Value} {h : e_Hp} : e_Sm g 100 12 cd100 Ψ 133 lv st h = e_exec g 100 12 [(133, .aload_n 3, 1, []), (134, .getfield 230, 3, []), (137, .getfield 234, 3, [])] 140 lv st h (e_Sm g 100 12 cd100 Ψ) Ψ := e_unf rfl
theorem u100_140 {g : e_G} {Ψ : e_Q} {lv : e_Lv} {st : List Value} {h : e_Hp} : e_Sm g 100 12 cd100 Ψ 140 lv st h = e_exec g 100 12 [(140, .ireturn, 1, [])] 0 lv st h (e_Sm g 100 12 cd100 Ψ) Ψ := e_unf rfl
theorem u100_141 {g : e_G} {Ψ : e_Q} {lv : e_Lv} {st : List Value} {h : e_Hp} : e_Sm g 100 12 cd100 Ψ 141 lv st h = e_exec g 100 12 [(141, .aload_n 0, 1, []), (142, .aload_n 3, 1, []), (143, .invokevirtual 239, 3, []), (146, .ireturn, 1, [])] 0 lv st h (e_Sm g 100 12 cd100 Ψ) Ψ := e_unf rfl
theorem u100_147 {g : e_G} {Ψ : e_Q} {lv : e_Lv} {st : List Value} {h : e_Hp} : e_Sm g 100 12 cd100 Ψ 147 lv st h = e_exec g 100 12 [(147, .aload_n 3, 1, []), (148, .getfield 167, 3, []), (151, .ireturn, 1, [])] 0 lv st h (e_Sm g 100 12 cd100 Ψ) Ψ := e_unf rfl
theorem u100_152 {g : e_G} {Ψ : e_Q} {lv : e_Lv} {st : List Value} {h : e_Hp} : e_Sm g 100 12 cd100 Ψ 152 lv st h = e_exec g 100 12 [(152, .iconst (-1), 1, []), (153, .ireturn, 1, [])] 0 lv st h (e_Sm g 100 12 cd100 Ψ) Ψ := e_unf rfl
theorem mL100 : e_mL 100 = 4 := by decide +kernel
theorem rt100 : e_rt 100 = (some .int) := by decide +kernel
/-- HoldHouse.lock(III)I -/
abbrev b101_0 : List e_En := [(0, .aload_n 0, 1, []), (1, .iload_n 1, 1, []), (2, .invokevirtual 136, 3, []), (5, .astore 4, 2, []), (7, .aload 4, 2, []), (9, .ifnull 12, 3, [21]), (12, .iload_n 3, 1, []), (13, .ifCond .lt 8, 3, [21]), (16, .iload_n 3, 1, []), (17, .iconst 3, 1, []), (18, .if_icmp .le 5, 3, [23])]
abbrev b101_21 : List e_En := [(21, .iconst (-1), 1, []), (22, .ireturn, 1, [])]
abbrev b101_23 : List e_En := [(23, .iload_n 2, 1, []), (24, .ifCond .lt 15, 3, [39]), (27, .iload_n 2, 1, []), (28, .aload 4, 2, []), (30, .getfield 243, 3, []), (33, .invokevirtual 165, 3, []), (36, .if_icmp .lt 6, 3, [42])]
abbrev b101_39 : List e_En := [(39, .bipush (-9), 2, []), (41, .ireturn, 1, [])]
abbrev b101_42 : List e_En := [(42, .aload 4, 2, []), (44, .getfield 243, 3, []), (47, .iload_n 2, 1, []), (48, .invokevirtual 246, 3, []), (51, .checkcast 235, 3, []), (54, .iload_n 3, 1, []), (55, .invokevirtual 250, 3, []), (58, .ireturn, 1, [])]
def cd101 : e_Cd := [(0, b101_0, 21), (21, b101_21, 0), (23, b101_23, 39), (39, b101_39, 0), (42, b101_42, 0)]
set_option maxRecDepth 20000 in
theorem ok101 : e_chk 101 12 cd101 = true := by decide +kernel
theorem u101_0 {g : e_G} {Ψ : e_Q} {lv : e_Lv} {st : List Value} {h : e_Hp} : e_Sm g 101 12 cd101 Ψ 0 lv st h = e_exec g 101 12 [(0, .aload_n 0, 1, []), (1, .iload_n 1, 1, []), (2, .invokevirtual 136, 3, []), (5, .astore 4, 2, []), (7, .aload 4, 2, []), (9, .ifnull 12, 3, [21]), (12, .iload_n 3, 1, []), (13, .ifCond .lt 8, 3, [21]), (16, .iload_n 3, 1, []), (17, .iconst 3, 1, []), (18, .if_icmp .le 5, 3, [23])] 21 lv st h (e_Sm g 101 12 cd101 Ψ) Ψ := e_unf rfl
theorem u101_21 {g : e_G} {Ψ : e_Q} {lv : e_Lv} {st : List Value} {h : e_Hp} : e_Sm g 101 12 cd101 Ψ 21 lv st h = e_exec g 101 12 [(21, .iconst (-1), 1, []), (22, .ireturn, 1, [])] 0 lv st h (e_Sm g 101 12 cd101 Ψ) Ψ := e_unf rfl
theorem u101_23 {g : e_G} {Ψ : e_Q} {lv : e_Lv} {st : List Value} {h : e_Hp} : e_Sm g 101 12 cd101 Ψ 23 lv st h = e_exec g 101 12 [(23, .iload_n 2, 1, []), (24, .ifCond .lt 15, 3, [39]), (27, .iload_n 2, 1, []), (28, .aload 4, 2, []), (30, .getfield 243, 3, []), (33, .invokevirtual 165, 3, []), (36, .if_icmp .lt 6, 3, [42])] 39 lv st h (e_Sm g 101 12 cd101 Ψ) Ψ := e_unf rfl
theorem u101_39 {g : e_G} {Ψ : e_Q} {lv : e_Lv} {st : List Value} {h : e_Hp} : e_Sm g 101 12 cd101 Ψ 39 lv st h = e_exec g 101 12 [(39, .bipush (-9), 2, []), (41, .ireturn, 1, [])] 0 lv st h (e_Sm g 101 12 cd101 Ψ) Ψ := e_unf rfl
theorem u101_42 {g : e_G} {Ψ : e_Q} {lv : e_Lv} {st : List Value} {h : e_Hp} : e_Sm g 101 12 cd101 Ψ 42 lv st h = e_exec g 101 12 [(42, .aload 4, 2, []), (44, .getfield 243, 3, []), (47, .iload_n 2, 1, []), (48, .invokevirtual 246, 3, []), (51, .checkcast 235, 3, []), (54, .iload_n 3, 1, []), (55, .invokevirtual 250, 3, []), (58, .ireturn, 1, [])] 0 lv st h (e_Sm g 101 12 cd101 Ψ) Ψ := e_unf rfl
theorem mL101 : e_mL 101 = 5 := by decide +kernel
theorem rt101 : e_rt 101 = (some .int) := by decide +kernel
/-- HoldHouse.waits(III)I -/
abbrev b102_0 : List e_En := [(0, .aload_n 0, 1, []), (1, .iload_n 1, 1, []), (2, .invokevirtual 136, 3, []), (5, .astore 4, 2, []), (7, .aload 4, 2, []), (9, .ifnull 12, 3, [21]), (12, .iload_n 3, 1, []), (13, .ifCond .lt 8, 3, [21]), (16, .iload_n 3, 1, []), (17, .iconst 3, 1, []), (18, .if_icmp .le 5, 3, [23])]
abbrev b102_21 : List e_En := [(21, .iconst (-1), 1, []), (22, .ireturn, 1, [])]
abbrev b102_23 : List e_En := [(23, .iload_n 2, 1, []), (24, .ifCond .lt 15, 3, [39]), (27, .iload_n 2, 1, []), (28, .aload 4, 2, []), (30, .getfield 254, 3, []), (33, .invokevirtual 165, 3, []), (36, .if_icmp .lt 6, 3, [42])]
abbrev b102_39 : List e_En := [(39, .bipush (-9), 2, []), (41, .ireturn, 1, [])]
abbrev b102_42 : List e_En := [(42, .aload 4, 2, []), (44, .getfield 254, 3, []), (47, .iload_n 2, 1, []), (48, .invokevirtual 246, 3, []), (51, .checkcast 235, 3, []), (54, .iload_n 3, 1, []), (55, .invokevirtual 250, 3, []), (58, .ireturn, 1, [])]
def cd102 : e_Cd := [(0, b102_0, 21), (21, b102_21, 0), (23, b102_23, 39), (39, b102_39, 0), (42, b102_42, 0)]
set_option maxRecDepth 20000 in
theorem ok102 : e_chk 102 12 cd102 = true := by decide +kernel
theorem u102_0 {g : e_G} {Ψ : e_Q} {lv : e_Lv} {st : List Value} {h : e_Hp} : e_Sm g 102 12 cd102 Ψ 0 lv st h = e_exec g 102 12 [(0, .aload_n 0, 1, []), (1, .iload_n 1, 1, []), (2, .invokevirtual 136, 3, []), (5, .astore 4, 2, []), (7, .aload 4, 2, []), (9, .ifnull 12, 3, [21]), (12, .iload_n 3, 1, []), (13, .ifCond .lt 8, 3, [21]), (16, .iload_n 3, 1, []), (17, .iconst 3, 1, []), (18, .if_icmp .le 5, 3, [23])] 21 lv st h (e_Sm g 102 12 cd102 Ψ) Ψ := e_unf rfl
theorem u102_21 {g : e_G} {Ψ : e_Q} {lv : e_Lv} {st : List Value} {h : e_Hp} : e_Sm g 102 12 cd102 Ψ 21 lv st h = e_exec g 102 12 [(21, .iconst (-1), 1, []), (22, .ireturn, 1, [])] 0 lv st h (e_Sm g 102 12 cd102 Ψ) Ψ := e_unf rfl
theorem u102_23 {g : e_G} {Ψ : e_Q} {lv : e_Lv} {st : List Value} {h : e_Hp} : e_Sm g 102 12 cd102 Ψ 23 lv st h = e_exec g 102 12 [(23, .iload_n 2, 1, []), (24, .ifCond .lt 15, 3, [39]), (27, .iload_n 2, 1, []), (28, .aload 4, 2, []), (30, .getfield 254, 3, []), (33, .invokevirtual 165, 3, []), (36, .if_icmp .lt 6, 3, [42])] 39 lv st h (e_Sm g 102 12 cd102 Ψ) Ψ := e_unf rfl
theorem u102_39 {g : e_G} {Ψ : e_Q} {lv : e_Lv} {st : List Value} {h : e_Hp} : e_Sm g 102 12 cd102 Ψ 39 lv st h = e_exec g 102 12 [(39, .bipush (-9), 2, []), (41, .ireturn, 1, [])] 0 lv st h (e_Sm g 102 12 cd102 Ψ) Ψ := e_unf rfl
theorem u102_42 {g : e_G} {Ψ : e_Q} {lv : e_Lv} {st : List Value} {h : e_Hp} : e_Sm g 102 12 cd102 Ψ 42 lv st h = e_exec g 102 12 [(42, .aload 4, 2, []), (44, .getfield 254, 3, []), (47, .iload_n 2, 1, []), (48, .invokevirtual 246, 3, []), (51, .checkcast 235, 3, []), (54, .iload_n 3, 1, []), (55, .invokevirtual 250, 3, []), (58, .ireturn, 1, [])] 0 lv st h (e_Sm g 102 12 cd102 Ψ) Ψ := e_unf rfl
theorem mL102 : e_mL 102 = 5 := by decide +kernel
theorem rt102 : e_rt 102 = (some .int) := by decide +kernel
/-- HoldHouse.ring(I)I -/
abbrev b103_0 : List e_En := [(0, .aload_n 0, 1, []), (1, .getfield 51, 3, []), (4, .iload_n 1, 1, []), (5, .invokevirtual 257, 3, []), (8, .ireturn, 1, [])]
def cd103 : e_Cd := [(0, b103_0, 0)]
set_option maxRecDepth 20000 in
theorem ok103 : e_chk 103 12 cd103 = true := by decide +kernel
theorem u103_0 {g : e_G} {Ψ : e_Q} {lv : e_Lv} {st : List Value} {h : e_Hp} : e_Sm g 103 12 cd103 Ψ 0 lv st h = e_exec g 103 12 [(0, .aload_n 0, 1, []), (1, .getfield 51, 3, []), (4, .iload_n 1, 1, []), (5, .invokevirtual 257, 3, []), (8, .ireturn, 1, [])] 0 lv st h (e_Sm g 103 12 cd103 Ψ) Ψ := e_unf rfl
theorem mL103 : e_mL 103 = 2 := by decide +kernel
theorem rt103 : e_rt 103 = (some .int) := by decide +kernel
/-- HoldHouse.rule(I)I -/
abbrev b104_0 : List e_En := [(0, .iload_n 1, 1, []), (1, .ifCond .lt 8, 3, [9]), (4, .iload_n 1, 1, []), (5, .iconst 3, 1, []), (6, .if_icmp .le 5, 3, [11])]
abbrev b104_9 : List e_En := [(9, .iconst (-1), 1, []), (10, .ireturn, 1, [])]
abbrev b104_11 : List e_En := [(11, .aload_n 0, 1, []), (12, .getfield 62, 3, []), (15, .istore_n 2, 1, []), (16, .aload_n 0, 1, []), (17, .iload_n 1, 1, []), (18, .putfield 62, 3, []), (21, .iload_n 2, 1, []), (22, .ireturn, 1, [])]
def cd104 : e_Cd := [(0, b104_0, 9), (9, b104_9, 0), (11, b104_11, 0)]
set_option maxRecDepth 20000 in
theorem ok104 : e_chk 104 12 cd104 = true := by decide +kernel
theorem u104_0 {g : e_G} {Ψ : e_Q} {lv : e_Lv} {st : List Value} {h : e_Hp} : e_Sm g 104 12 cd104 Ψ 0 lv st h = e_exec g 104 12 [(0, .iload_n 1, 1, []), (1, .ifCond .lt 8, 3, [9]), (4, .iload_n 1, 1, []), (5, .iconst 3, 1, []), (6, .if_icmp .le 5, 3, [11])] 9 lv st h (e_Sm g 104 12 cd104 Ψ) Ψ := e_unf rfl
theorem u104_9 {g : e_G} {Ψ : e_Q} {lv : e_Lv} {st : List Value} {h : e_Hp} : e_Sm g 104 12 cd104 Ψ 9 lv st h = e_exec g 104 12 [(9, .iconst (-1), 1, []), (10, .ireturn, 1, [])] 0 lv st h (e_Sm g 104 12 cd104 Ψ) Ψ := e_unf rfl
theorem u104_11 {g : e_G} {Ψ : e_Q} {lv : e_Lv} {st : List Value} {h : e_Hp} : e_Sm g 104 12 cd104 Ψ 11 lv st h = e_exec g 104 12 [(11, .aload_n 0, 1, []), (12, .getfield 62, 3, []), (15, .istore_n 2, 1, []), (16, .aload_n 0, 1, []), (17, .iload_n 1, 1, []), (18, .putfield 62, 3, []), (21, .iload_n 2, 1, []), (22, .ireturn, 1, [])] 0 lv st h (e_Sm g 104 12 cd104 Ψ) Ψ := e_unf rfl
theorem mL104 : e_mL 104 = 3 := by decide +kernel
theorem rt104 : e_rt 104 = (some .int) := by decide +kernel
/-- HoldHouse.limit(I)I -/
abbrev b105_0 : List e_En := [(0, .iload_n 1, 1, []), (1, .iconst 1, 1, []), (2, .if_icmp .lt 10, 3, [12]), (5, .iload_n 1, 1, []), (6, .sipush 200, 3, []), (9, .if_icmp .le 5, 3, [14])]
abbrev b105_12 : List e_En := [(12, .iconst (-1), 1, []), (13, .ireturn, 1, [])]
abbrev b105_14 : List e_En := [(14, .aload_n 0, 1, []), (15, .getfield 66, 3, []), (18, .istore_n 2, 1, []), (19, .aload_n 0, 1, []), (20, .iload_n 1, 1, []), (21, .putfield 66, 3, []), (24, .iload_n 2, 1, []), (25, .ireturn, 1, [])]
def cd105 : e_Cd := [(0, b105_0, 12), (12, b105_12, 0), (14, b105_14, 0)]
set_option maxRecDepth 20000 in
theorem ok105 : e_chk 105 12 cd105 = true := by decide +kernel
theorem u105_0 {g : e_G} {Ψ : e_Q} {lv : e_Lv} {st : List Value} {h : e_Hp} : e_Sm g 105 12 cd105 Ψ 0 lv st h = e_exec g 105 12 [(0, .iload_n 1, 1, []), (1, .iconst 1, 1, []), (2, .if_icmp .lt 10, 3, [12]), (5, .iload_n 1, 1, []), (6, .sipush 200, 3, []), (9, .if_icmp .le 5, 3, [14])] 12 lv st h (e_Sm g 105 12 cd105 Ψ) Ψ := e_unf rfl
theorem u105_12 {g : e_G} {Ψ : e_Q} {lv : e_Lv} {st : List Value} {h : e_Hp} : e_Sm g 105 12 cd105 Ψ 12 lv st h = e_exec g 105 12 [(12, .iconst (-1), 1, []), (13, .ireturn, 1, [])] 0 lv st h (e_Sm g 105 12 cd105 Ψ) Ψ := e_unf rfl
theorem u105_14 {g : e_G} {Ψ : e_Q} {lv : e_Lv} {st : List Value} {h : e_Hp} : e_Sm g 105 12 cd105 Ψ 14 lv st h = e_exec g 105 12 [(14, .aload_n 0, 1, []), (15, .getfield 66, 3, []), (18, .istore_n 2, 1, []), (19, .aload_n 0, 1, []), (20, .iload_n 1, 1, []), (21, .putfield 66, 3, []), (24, .iload_n 2, 1, []), (25, .ireturn, 1, [])] 0 lv st h (e_Sm g 105 12 cd105 Ψ) Ψ := e_unf rfl
theorem mL105 : e_mL 105 = 3 := by decide +kernel
theorem rt105 : e_rt 105 = (some .int) := by decide +kernel
/-- HoldHouse.group(I)I -/
abbrev b106_0 : List e_En := [(0, .iload_n 1, 1, []), (1, .iconst 1, 1, []), (2, .if_icmp .lt 9, 3, [11]), (5, .iload_n 1, 1, []), (6, .bipush 20, 2, []), (8, .if_icmp .le 5, 3, [13])]
abbrev b106_11 : List e_En := [(11, .iconst (-1), 1, []), (12, .ireturn, 1, [])]
abbrev b106_13 : List e_En := [(13, .aload_n 0, 1, []), (14, .getfield 44, 3, []), (17, .getfield 260, 3, []), (20, .istore_n 2, 1, []), (21, .aload_n 0, 1, []), (22, .getfield 44, 3, []), (25, .iload_n 1, 1, []), (26, .putfield 260, 3, []), (29, .iload_n 2, 1, []), (30, .ireturn, 1, [])]
def cd106 : e_Cd := [(0, b106_0, 11), (11, b106_11, 0), (13, b106_13, 0)]
set_option maxRecDepth 20000 in
theorem ok106 : e_chk 106 12 cd106 = true := by decide +kernel
theorem u106_0 {g : e_G} {Ψ : e_Q} {lv : e_Lv} {st : List Value} {h : e_Hp} : e_Sm g 106 12 cd106 Ψ 0 lv st h = e_exec g 106 12 [(0, .iload_n 1, 1, []), (1, .iconst 1, 1, []), (2, .if_icmp .lt 9, 3, [11]), (5, .iload_n 1, 1, []), (6, .bipush 20, 2, []), (8, .if_icmp .le 5, 3, [13])] 11 lv st h (e_Sm g 106 12 cd106 Ψ) Ψ := e_unf rfl
theorem u106_11 {g : e_G} {Ψ : e_Q} {lv : e_Lv} {st : List Value} {h : e_Hp} : e_Sm g 106 12 cd106 Ψ 11 lv st h = e_exec g 106 12 [(11, .iconst (-1), 1, []), (12, .ireturn, 1, [])] 0 lv st h (e_Sm g 106 12 cd106 Ψ) Ψ := e_unf rfl
theorem u106_13 {g : e_G} {Ψ : e_Q} {lv : e_Lv} {st : List Value} {h : e_Hp} : e_Sm g 106 12 cd106 Ψ 13 lv st h = e_exec g 106 12 [(13, .aload_n 0, 1, []), (14, .getfield 44, 3, []), (17, .getfield 260, 3, []), (20, .istore_n 2, 1, []), (21, .aload_n 0, 1, []), (22, .getfield 44, 3, []), (25, .iload_n 1, 1, []), (26, .putfield 260, 3, []), (29, .iload_n 2, 1, []), (30, .ireturn, 1, [])] 0 lv st h (e_Sm g 106 12 cd106 Ψ) Ψ := e_unf rfl
theorem mL106 : e_mL 106 = 3 := by decide +kernel
theorem rt106 : e_rt 106 = (some .int) := by decide +kernel
/-- HoldHouse.rest()I -/
abbrev b107_0 : List e_En := [(0, .aload_n 0, 1, []), (1, .getfield 35, 3, []), (4, .invokevirtual 79, 3, []), (7, .ifCond .ne 6, 3, [13]), (10, .bipush (-2), 2, []), (12, .ireturn, 1, [])]
abbrev b107_13 : List e_En := [(13, .aload_n 0, 1, []), (14, .getfield 58, 3, []), (17, .getfield 263, 3, []), (20, .bipush 100, 2, []), (22, .if_icmp .lt 6, 3, [28]), (25, .bipush (-3), 2, []), (27, .ireturn, 1, [])]
abbrev b107_28 : List e_En := [(28, .aload_n 0, 1, []), (29, .getfield 58, 3, []), (32, .dup, 1, []), (33, .getfield 263, 3, []), (36, .iconst 1, 1, []), (37, .iadd, 1, []), (38, .putfield 263, 3, []), (41, .aload_n 0, 1, []), (42, .getfield 44, 3, []), (45, .new 101, 3, []), (48, .dup, 1, []), (49, .bipush 6, 2, []), (51, .iconst 0, 1, []), (52, .iconst (-1), 1, []), (53, .iconst (-1), 1, []), (54, .iconst 0, 1, []), (55, .iconst 0, 1, []), (56, .iconst 0, 1, []), (57, .invokespecial 103, 3, []), (60, .invokevirtual 106, 3, []), (63, .aload_n 0, 1, []), (64, .getfield 44, 3, []), (67, .invokevirtual 266, 3, []), (70, .aload_n 0, 1, []), (71, .getfield 44, 3, []), (74, .invokevirtual 176, 3, []), (77, .ireturn, 1, [])]
def cd107 : e_Cd := [(0, b107_0, 0), (13, b107_13, 0), (28, b107_28, 0)]
set_option maxRecDepth 20000 in
theorem ok107 : e_chk 107 12 cd107 = true := by decide +kernel
theorem u107_0 {g : e_G} {Ψ : e_Q} {lv : e_Lv} {st : List Value} {h : e_Hp} : e_Sm g 107 12 cd107 Ψ 0 lv st h = e_exec g 107 12 [(0, .aload_n 0, 1, []), (1, .getfield 35, 3, []), (4, .invokevirtual 79, 3, []), (7, .ifCond .ne 6, 3, [13]), (10, .bipush (-2), 2, []), (12, .ireturn, 1, [])] 0 lv st h (e_Sm g 107 12 cd107 Ψ) Ψ := e_unf rfl
theorem u107_13 {g : e_G} {Ψ : e_Q} {lv : e_Lv} {st : List Value} {h : e_Hp} : e_Sm g 107 12 cd107 Ψ 13 lv st h = e_exec g 107 12 [(13, .aload_n 0, 1, []), (14, .getfield 58, 3, []), (17, .getfield 263, 3, []), (20, .bipush 100, 2, []), (22, .if_icmp .lt 6, 3, [28]), (25, .bipush (-3), 2, []), (27, .ireturn, 1, [])] 0 lv st h (e_Sm g 107 12 cd107 Ψ) Ψ := e_unf rfl
theorem u107_28 {g : e_G} {Ψ : e_Q} {lv : e_Lv} {st : List Value} {h : e_Hp} : e_Sm g 107 12 cd107 Ψ 28 lv st h = e_exec g 107 12 [(28, .aload_n 0, 1, []), (29, .getfield 58, 3, []), (32, .dup, 1, []), (33, .getfield 263, 3, []), (36, .iconst 1, 1, []), (37, .iadd, 1, []), (38, .putfield 263, 3, []), (41, .aload_n 0, 1, []), (42, .getfield 44, 3, []), (45, .new 101, 3, []), (48, .dup, 1, []), (49, .bipush 6, 2, []), (51, .iconst 0, 1, []), (52, .iconst (-1), 1, []), (53, .iconst (-1), 1, []), (54, .iconst 0, 1, []), (55, .iconst 0, 1, []), (56, .iconst 0, 1, []), (57, .invokespecial 103, 3, []), (60, .invokevirtual 106, 3, []), (63, .aload_n 0, 1, []), (64, .getfield 44, 3, []), (67, .invokevirtual 266, 3, []), (70, .aload_n 0, 1, []), (71, .getfield 44, 3, []), (74, .invokevirtual 176, 3, []), (77, .ireturn, 1, [])] 0 lv st h (e_Sm g 107 12 cd107 Ψ) Ψ := e_unf rfl
theorem mL107 : e_mL 107 = 1 := by decide +kernel
theorem rt107 : e_rt 107 = (some .int) := by decide +kernel
/-- HoldHouse.cut(I)I -/
abbrev b108_0 : List e_En := [(0, .iload_n 1, 1, []), (1, .ifCond .lt 14, 3, [15]), (4, .iload_n 1, 1, []), (5, .aload_n 0, 1, []), (6, .getfield 44, 3, []), (9, .invokevirtual 176, 3, []), (12, .if_icmp .le 5, 3, [17])]
abbrev b108_15 : List e_En := [(15, .iconst (-1), 1, []), (16, .ireturn, 1, [])]
abbrev b108_17 : List e_En := [(17, .aload_n 0, 1, []), (18, .iload_n 1, 1, []), (19, .invokevirtual 269, 3, []), (22, .aload_n 0, 1, []), (23, .invokevirtual 272, 3, []), (26, .aload_n 0, 1, []), (27, .getfield 38, 3, []), (30, .invokevirtual 165, 3, []), (33, .ireturn, 1, [])]
def cd108 : e_Cd := [(0, b108_0, 15), (15, b108_15, 0), (17, b108_17, 0)]
set_option maxRecDepth 20000 in
theorem ok108 : e_chk 108 12 cd108 = true := by decide +kernel
theorem u108_0 {g : e_G} {Ψ : e_Q} {lv : e_Lv} {st : List Value} {h : e_Hp} : e_Sm g 108 12 cd108 Ψ 0 lv st h = e_exec g 108 12 [(0, .iload_n 1, 1, []), (1, .ifCond .lt 14, 3, [15]), (4, .iload_n 1, 1, []), (5, .aload_n 0, 1, []), (6, .getfield 44, 3, []), (9, .invokevirtual 176, 3, []), (12, .if_icmp .le 5, 3, [17])] 15 lv st h (e_Sm g 108 12 cd108 Ψ) Ψ := e_unf rfl
theorem u108_15 {g : e_G} {Ψ : e_Q} {lv : e_Lv} {st : List Value} {h : e_Hp} : e_Sm g 108 12 cd108 Ψ 15 lv st h = e_exec g 108 12 [(15, .iconst (-1), 1, []), (16, .ireturn, 1, [])] 0 lv st h (e_Sm g 108 12 cd108 Ψ) Ψ := e_unf rfl
theorem u108_17 {g : e_G} {Ψ : e_Q} {lv : e_Lv} {st : List Value} {h : e_Hp} : e_Sm g 108 12 cd108 Ψ 17 lv st h = e_exec g 108 12 [(17, .aload_n 0, 1, []), (18, .iload_n 1, 1, []), (19, .invokevirtual 269, 3, []), (22, .aload_n 0, 1, []), (23, .invokevirtual 272, 3, []), (26, .aload_n 0, 1, []), (27, .getfield 38, 3, []), (30, .invokevirtual 165, 3, []), (33, .ireturn, 1, [])] 0 lv st h (e_Sm g 108 12 cd108 Ψ) Ψ := e_unf rfl
theorem mL108 : e_mL 108 = 2 := by decide +kernel
theorem rt108 : e_rt 108 = (some .int) := by decide +kernel
/-- HoldHouse.crash()I -/
abbrev b109_0 : List e_En := [(0, .aload_n 0, 1, []), (1, .aload_n 0, 1, []), (2, .getfield 44, 3, []), (5, .getfield 275, 3, []), (8, .invokevirtual 269, 3, []), (11, .aload_n 0, 1, []), (12, .invokevirtual 272, 3, []), (15, .aload_n 0, 1, []), (16, .getfield 38, 3, []), (19, .invokevirtual 165, 3, []), (22, .ireturn, 1, [])]
def cd109 : e_Cd := [(0, b109_0, 0)]
set_option maxRecDepth 20000 in
theorem ok109 : e_chk 109 12 cd109 = true := by decide +kernel
theorem u109_0 {g : e_G} {Ψ : e_Q} {lv : e_Lv} {st : List Value} {h : e_Hp} : e_Sm g 109 12 cd109 Ψ 0 lv st h = e_exec g 109 12 [(0, .aload_n 0, 1, []), (1, .aload_n 0, 1, []), (2, .getfield 44, 3, []), (5, .getfield 275, 3, []), (8, .invokevirtual 269, 3, []), (11, .aload_n 0, 1, []), (12, .invokevirtual 272, 3, []), (15, .aload_n 0, 1, []), (16, .getfield 38, 3, []), (19, .invokevirtual 165, 3, []), (22, .ireturn, 1, [])] 0 lv st h (e_Sm g 109 12 cd109 Ψ) Ψ := e_unf rfl
theorem mL109 : e_mL 109 = 1 := by decide +kernel
theorem rt109 : e_rt 109 = (some .int) := by decide +kernel
/-- HoldHouse.row(II)I -/
abbrev b110_0 : List e_En := [(0, .iload_n 2, 1, []), (1, .ifCond .lt 9, 3, [10]), (4, .iload_n 2, 1, []), (5, .bipush 7, 2, []), (7, .if_icmp .le 5, 3, [12])]
abbrev b110_10 : List e_En := [(10, .iconst (-1), 1, []), (11, .ireturn, 1, [])]
abbrev b110_12 : List e_En := [(12, .aload_n 0, 1, []), (13, .getfield 44, 3, []), (16, .iload_n 1, 1, []), (17, .invokevirtual 278, 3, []), (20, .astore_n 3, 1, []), (21, .aload_n 3, 1, []), (22, .ifnonnull 8, 3, [30]), (25, .bipush (-9), 2, []), (27, .goto 8, 3, [35])]
abbrev b110_30 : List e_En := [(30, .aload_n 3, 1, []), (31, .iload_n 2, 1, []), (32, .invokevirtual 282, 3, [])]
abbrev b110_35 : List e_En := [(35, .ireturn, 1, [])]
def cd110 : e_Cd := [(0, b110_0, 10), (10, b110_10, 0), (12, b110_12, 0), (30, b110_30, 35), (35, b110_35, 0)]
set_option maxRecDepth 20000 in
theorem ok110 : e_chk 110 12 cd110 = true := by decide +kernel
theorem u110_0 {g : e_G} {Ψ : e_Q} {lv : e_Lv} {st : List Value} {h : e_Hp} : e_Sm g 110 12 cd110 Ψ 0 lv st h = e_exec g 110 12 [(0, .iload_n 2, 1, []), (1, .ifCond .lt 9, 3, [10]), (4, .iload_n 2, 1, []), (5, .bipush 7, 2, []), (7, .if_icmp .le 5, 3, [12])] 10 lv st h (e_Sm g 110 12 cd110 Ψ) Ψ := e_unf rfl
theorem u110_10 {g : e_G} {Ψ : e_Q} {lv : e_Lv} {st : List Value} {h : e_Hp} : e_Sm g 110 12 cd110 Ψ 10 lv st h = e_exec g 110 12 [(10, .iconst (-1), 1, []), (11, .ireturn, 1, [])] 0 lv st h (e_Sm g 110 12 cd110 Ψ) Ψ := e_unf rfl
theorem u110_12 {g : e_G} {Ψ : e_Q} {lv : e_Lv} {st : List Value} {h : e_Hp} : e_Sm g 110 12 cd110 Ψ 12 lv st h = e_exec g 110 12 [(12, .aload_n 0, 1, []), (13, .getfield 44, 3, []), (16, .iload_n 1, 1, []), (17, .invokevirtual 278, 3, []), (20, .astore_n 3, 1, []), (21, .aload_n 3, 1, []), (22, .ifnonnull 8, 3, [30]), (25, .bipush (-9), 2, []), (27, .goto 8, 3, [35])] 0 lv st h (e_Sm g 110 12 cd110 Ψ) Ψ := e_unf rfl
theorem u110_30 {g : e_G} {Ψ : e_Q} {lv : e_Lv} {st : List Value} {h : e_Hp} : e_Sm g 110 12 cd110 Ψ 30 lv st h = e_exec g 110 12 [(30, .aload_n 3, 1, []), (31, .iload_n 2, 1, []), (32, .invokevirtual 282, 3, [])] 35 lv st h (e_Sm g 110 12 cd110 Ψ) Ψ := e_unf rfl
theorem u110_35 {g : e_G} {Ψ : e_Q} {lv : e_Lv} {st : List Value} {h : e_Hp} : e_Sm g 110 12 cd110 Ψ 35 lv st h = e_exec g 110 12 [(35, .ireturn, 1, [])] 0 lv st h (e_Sm g 110 12 cd110 Ψ) Ψ := e_unf rfl
theorem mL110 : e_mL 110 = 4 := by decide +kernel
theorem rt110 : e_rt 110 = (some .int) := by decide +kernel
/-- HoldHouse.ended(I)I -/
abbrev b111_0 : List e_En := [(0, .iload_n 1, 1, []), (1, .iconst 1, 1, []), (2, .if_icmp .lt 14, 3, [16]), (5, .iload_n 1, 1, []), (6, .aload_n 0, 1, []), (7, .getfield 38, 3, []), (10, .invokevirtual 165, 3, []), (13, .if_icmp .le 8, 3, [21])]
abbrev b111_16 : List e_En := [(16, .bipush (-9), 2, []), (18, .goto 19, 3, [37])]
abbrev b111_21 : List e_En := [(21, .aload_n 0, 1, []), (22, .getfield 38, 3, []), (25, .iload_n 1, 1, []), (26, .iconst 1, 1, []), (27, .isub, 1, []), (28, .invokevirtual 246, 3, []), (31, .checkcast 126, 3, []), (34, .getfield 170, 3, [])]
abbrev b111_37 : List e_En := [(37, .ireturn, 1, [])]
def cd111 : e_Cd := [(0, b111_0, 16), (16, b111_16, 0), (21, b111_21, 37), (37, b111_37, 0)]
set_option maxRecDepth 20000 in
theorem ok111 : e_chk 111 12 cd111 = true := by decide +kernel
theorem u111_0 {g : e_G} {Ψ : e_Q} {lv : e_Lv} {st : List Value} {h : e_Hp} : e_Sm g 111 12 cd111 Ψ 0 lv st h = e_exec g 111 12 [(0, .iload_n 1, 1, []), (1, .iconst 1, 1, []), (2, .if_icmp .lt 14, 3, [16]), (5, .iload_n 1, 1, []), (6, .aload_n 0, 1, []), (7, .getfield 38, 3, []), (10, .invokevirtual 165, 3, []), (13, .if_icmp .le 8, 3, [21])] 16 lv st h (e_Sm g 111 12 cd111 Ψ) Ψ := e_unf rfl
theorem u111_16 {g : e_G} {Ψ : e_Q} {lv : e_Lv} {st : List Value} {h : e_Hp} : e_Sm g 111 12 cd111 Ψ 16 lv st h = e_exec g 111 12 [(16, .bipush (-9), 2, []), (18, .goto 19, 3, [37])] 0 lv st h (e_Sm g 111 12 cd111 Ψ) Ψ := e_unf rfl
theorem u111_21 {g : e_G} {Ψ : e_Q} {lv : e_Lv} {st : List Value} {h : e_Hp} : e_Sm g 111 12 cd111 Ψ 21 lv st h = e_exec g 111 12 [(21, .aload_n 0, 1, []), (22, .getfield 38, 3, []), (25, .iload_n 1, 1, []), (26, .iconst 1, 1, []), (27, .isub, 1, []), (28, .invokevirtual 246, 3, []), (31, .checkcast 126, 3, []), (34, .getfield 170, 3, [])] 37 lv st h (e_Sm g 111 12 cd111 Ψ) Ψ := e_unf rfl
theorem u111_37 {g : e_G} {Ψ : e_Q} {lv : e_Lv} {st : List Value} {h : e_Hp} : e_Sm g 111 12 cd111 Ψ 37 lv st h = e_exec g 111 12 [(37, .ireturn, 1, [])] 0 lv st h (e_Sm g 111 12 cd111 Ψ) Ψ := e_unf rfl
theorem mL111 : e_mL 111 = 2 := by decide +kernel
theorem rt111 : e_rt 111 = (some .int) := by decide +kernel
/-- HoldHouse.version(II)I -/
abbrev b112_0 : List e_En := [(0, .aload_n 0, 1, []), (1, .iload_n 1, 1, []), (2, .invokevirtual 136, 3, []), (5, .astore_n 3, 1, []), (6, .aload_n 3, 1, []), (7, .ifnull 7, 3, [14]), (10, .iload_n 2, 1, []), (11, .ifCond .ge 5, 3, [16])]
abbrev b112_14 : List e_En := [(14, .iconst (-1), 1, []), (15, .ireturn, 1, [])]
abbrev b112_16 : List e_En := [(16, .aload_n 3, 1, []), (17, .iload_n 2, 1, []), (18, .invokevirtual 283, 3, []), (21, .ireturn, 1, [])]
def cd112 : e_Cd := [(0, b112_0, 14), (14, b112_14, 0), (16, b112_16, 0)]
set_option maxRecDepth 20000 in
theorem ok112 : e_chk 112 12 cd112 = true := by decide +kernel
theorem u112_0 {g : e_G} {Ψ : e_Q} {lv : e_Lv} {st : List Value} {h : e_Hp} : e_Sm g 112 12 cd112 Ψ 0 lv st h = e_exec g 112 12 [(0, .aload_n 0, 1, []), (1, .iload_n 1, 1, []), (2, .invokevirtual 136, 3, []), (5, .astore_n 3, 1, []), (6, .aload_n 3, 1, []), (7, .ifnull 7, 3, [14]), (10, .iload_n 2, 1, []), (11, .ifCond .ge 5, 3, [16])] 14 lv st h (e_Sm g 112 12 cd112 Ψ) Ψ := e_unf rfl
theorem u112_14 {g : e_G} {Ψ : e_Q} {lv : e_Lv} {st : List Value} {h : e_Hp} : e_Sm g 112 12 cd112 Ψ 14 lv st h = e_exec g 112 12 [(14, .iconst (-1), 1, []), (15, .ireturn, 1, [])] 0 lv st h (e_Sm g 112 12 cd112 Ψ) Ψ := e_unf rfl
theorem u112_16 {g : e_G} {Ψ : e_Q} {lv : e_Lv} {st : List Value} {h : e_Hp} : e_Sm g 112 12 cd112 Ψ 16 lv st h = e_exec g 112 12 [(16, .aload_n 3, 1, []), (17, .iload_n 2, 1, []), (18, .invokevirtual 283, 3, []), (21, .ireturn, 1, [])] 0 lv st h (e_Sm g 112 12 cd112 Ψ) Ψ := e_unf rfl
theorem mL112 : e_mL 112 = 4 := by decide +kernel
theorem rt112 : e_rt 112 = (some .int) := by decide +kernel
/-- HoldHouse.commute(IIIII)I -/
abbrev b113_0 : List e_En := [(0, .iload_n 1, 1, []), (1, .ifCond .lt 31, 3, [32]), (4, .iload_n 1, 1, []), (5, .bipush 8, 2, []), (7, .if_icmp .ge 25, 3, [32]), (10, .iload_n 2, 1, []), (11, .ifCond .lt 21, 3, [32]), (14, .iload_n 2, 1, []), (15, .bipush 22, 2, []), (17, .if_icmp .ge 15, 3, [32]), (20, .iload 4, 2, []), (22, .ifCond .lt 10, 3, [32]), (25, .iload 4, 2, []), (27, .bipush 22, 2, []), (29, .if_icmp .lt 5, 3, [34])]
abbrev b113_32 : List e_En := [(32, .iconst (-1), 1, []), (33, .ireturn, 1, [])]
abbrev b113_34 : List e_En := [(34, .iload_n 1, 1, []), (35, .iload_n 2, 1, []), (36, .iload_n 3, 1, []), (37, .iload 4, 2, []), (39, .iload 5, 2, []), (41, .invokestatic 286, 3, []), (44, .ifCond .eq 7, 3, [51]), (47, .iconst 1, 1, []), (48, .goto 4, 3, [52])]
abbrev b113_51 : List e_En := [(51, .iconst 0, 1, [])]
abbrev b113_52 : List e_En := [(52, .ireturn, 1, [])]
def cd113 : e_Cd := [(0, b113_0, 32), (32, b113_32, 0), (34, b113_34, 0), (51, b113_51, 52), (52, b113_52, 0)]
set_option maxRecDepth 20000 in
theorem ok113 : e_chk 113 12 cd113 = true := by decide +kernel
theorem u113_0 {g : e_G} {Ψ : e_Q} {lv : e_Lv} {st : List Value} {h : e_Hp} : e_Sm g 113 12 cd113 Ψ 0 lv st h = e_exec g 113 12 [(0, .iload_n 1, 1, []), (1, .ifCond .lt 31, 3, [32]), (4, .iload_n 1, 1, []), (5, .bipush 8, 2, []), (7, .if_icmp .ge 25, 3, [32]), (10, .iload_n 2, 1, []), (11, .ifCond .lt 21, 3, [32]), (14, .iload_n 2, 1, []), (15, .bipush 22, 2, []), (17, .if_icmp .ge 15, 3, [32]), (20, .iload 4, 2, []), (22, .ifCond .lt 10, 3, [32]), (25, .iload 4, 2, []), (27, .bipush 22, 2, []), (29, .if_icmp .lt 5, 3, [34])] 32 lv st h (e_Sm g 113 12 cd113 Ψ) Ψ := e_unf rfl
theorem u113_32 {g : e_G} {Ψ : e_Q} {lv : e_Lv} {st : List Value} {h : e_Hp} : e_Sm g 113 12 cd113 Ψ 32 lv st h = e_exec g 113 12 [(32, .iconst (-1), 1, []), (33, .ireturn, 1, [])] 0 lv st h (e_Sm g 113 12 cd113 Ψ) Ψ := e_unf rfl
theorem u113_34 {g : e_G} {Ψ : e_Q} {lv : e_Lv} {st : List Value} {h : e_Hp} : e_Sm g 113 12 cd113 Ψ 34 lv st h = e_exec g 113 12 [(34, .iload_n 1, 1, []), (35, .iload_n 2, 1, []), (36, .iload_n 3, 1, []), (37, .iload 4, 2, []), (39, .iload 5, 2, []), (41, .invokestatic 286, 3, []), (44, .ifCond .eq 7, 3, [51]), (47, .iconst 1, 1, []), (48, .goto 4, 3, [52])] 0 lv st h (e_Sm g 113 12 cd113 Ψ) Ψ := e_unf rfl
theorem u113_51 {g : e_G} {Ψ : e_Q} {lv : e_Lv} {st : List Value} {h : e_Hp} : e_Sm g 113 12 cd113 Ψ 51 lv st h = e_exec g 113 12 [(51, .iconst 0, 1, [])] 52 lv st h (e_Sm g 113 12 cd113 Ψ) Ψ := e_unf rfl
theorem u113_52 {g : e_G} {Ψ : e_Q} {lv : e_Lv} {st : List Value} {h : e_Hp} : e_Sm g 113 12 cd113 Ψ 52 lv st h = e_exec g 113 12 [(52, .ireturn, 1, [])] 0 lv st h (e_Sm g 113 12 cd113 Ψ) Ψ := e_unf rfl
theorem mL113 : e_mL 113 = 6 := by decide +kernel
theorem rt113 : e_rt 113 = (some .int) := by decide +kernel
/-- HoldHouse.tried(IIIII)I -/
abbrev b114_0 : List e_En := [(0, .iload_n 1, 1, []), (1, .ifCond .lt 29, 3, [30]), (4, .iload_n 1, 1, []), (5, .bipush 8, 2, []), (7, .if_icmp .ge 23, 3, [30]), (10, .iload_n 1, 1, []), (11, .iload_n 2, 1, []), (12, .iload_n 3, 1, []), (13, .invokestatic 290, 3, []), (16, .ifCond .eq 14, 3, [30]), (19, .iload_n 1, 1, []), (20, .iload 4, 2, []), (22, .iload 5, 2, []), (24, .invokestatic 290, 3, []), (27, .ifCond .ne 5, 3, [32])]
abbrev b114_30 : List e_En := [(30, .iconst (-1), 1, []), (31, .ireturn, 1, [])]
abbrev b114_32 : List e_En := [(32, .iconst 0, 1, []), (33, .istore 6, 2, [])]
abbrev b114_35 : List e_En := [(35, .iload 6, 2, []), (37, .getstatic 293, 3, []), (42, .if_icmp .ge 27, 3, [69]), (45, .aload_n 0, 1, []), (46, .iload_n 1, 1, []), (47, .iload 6, 2, []), (49, .iload_n 2, 1, []), (50, .iload_n 3, 1, []), (51, .iload 4, 2, []), (53, .iload 5, 2, []), (55, .invokevirtual 297, 3, []), (58, .ifCond .ne 5, 3, [63]), (61, .iconst 0, 1, []), (62, .ireturn, 1, [])]
abbrev b114_63 : List e_En := [(63, .iinc 6 1, 3, []), (66, .goto (-31), 3, [35])]
abbrev b114_69 : List e_En := [(69, .iconst 1, 1, []), (70, .ireturn, 1, [])]
def cd114 : e_Cd := [(0, b114_0, 30), (30, b114_30, 0), (32, b114_32, 35), (35, b114_35, 0), (63, b114_63, 0), (69, b114_69, 0)]
set_option maxRecDepth 20000 in
theorem ok114 : e_chk 114 12 cd114 = true := by decide +kernel
theorem u114_0 {g : e_G} {Ψ : e_Q} {lv : e_Lv} {st : List Value} {h : e_Hp} : e_Sm g 114 12 cd114 Ψ 0 lv st h = e_exec g 114 12 [(0, .iload_n 1, 1, []), (1, .ifCond .lt 29, 3, [30]), (4, .iload_n 1, 1, []), (5, .bipush 8, 2, []), (7, .if_icmp .ge 23, 3, [30]), (10, .iload_n 1, 1, []), (11, .iload_n 2, 1, []), (12, .iload_n 3, 1, []), (13, .invokestatic 290, 3, []), (16, .ifCond .eq 14, 3, [30]), (19, .iload_n 1, 1, []), (20, .iload 4, 2, []), (22, .iload 5, 2, []), (24, .invokestatic 290, 3, []), (27, .ifCond .ne 5, 3, [32])] 30 lv st h (e_Sm g 114 12 cd114 Ψ) Ψ := e_unf rfl
theorem u114_30 {g : e_G} {Ψ : e_Q} {lv : e_Lv} {st : List Value} {h : e_Hp} : e_Sm g 114 12 cd114 Ψ 30 lv st h = e_exec g 114 12 [(30, .iconst (-1), 1, []), (31, .ireturn, 1, [])] 0 lv st h (e_Sm g 114 12 cd114 Ψ) Ψ := e_unf rfl
theorem u114_32 {g : e_G} {Ψ : e_Q} {lv : e_Lv} {st : List Value} {h : e_Hp} : e_Sm g 114 12 cd114 Ψ 32 lv st h = e_exec g 114 12 [(32, .iconst 0, 1, []), (33, .istore 6, 2, [])] 35 lv st h (e_Sm g 114 12 cd114 Ψ) Ψ := e_unf rfl
theorem u114_35 {g : e_G} {Ψ : e_Q} {lv : e_Lv} {st : List Value} {h : e_Hp} : e_Sm g 114 12 cd114 Ψ 35 lv st h = e_exec g 114 12 [(35, .iload 6, 2, []), (37, .getstatic 293, 3, []), (42, .if_icmp .ge 27, 3, [69]), (45, .aload_n 0, 1, []), (46, .iload_n 1, 1, []), (47, .iload 6, 2, []), (49, .iload_n 2, 1, []), (50, .iload_n 3, 1, []), (51, .iload 4, 2, []), (53, .iload 5, 2, []), (55, .invokevirtual 297, 3, []), (58, .ifCond .ne 5, 3, [63]), (61, .iconst 0, 1, []), (62, .ireturn, 1, [])] 0 lv st h (e_Sm g 114 12 cd114 Ψ) Ψ := e_unf rfl
theorem u114_63 {g : e_G} {Ψ : e_Q} {lv : e_Lv} {st : List Value} {h : e_Hp} : e_Sm g 114 12 cd114 Ψ 63 lv st h = e_exec g 114 12 [(63, .iinc 6 1, 3, []), (66, .goto (-31), 3, [35])] 0 lv st h (e_Sm g 114 12 cd114 Ψ) Ψ := e_unf rfl
theorem u114_69 {g : e_G} {Ψ : e_Q} {lv : e_Lv} {st : List Value} {h : e_Hp} : e_Sm g 114 12 cd114 Ψ 69 lv st h = e_exec g 114 12 [(69, .iconst 1, 1, []), (70, .ireturn, 1, [])] 0 lv st h (e_Sm g 114 12 cd114 Ψ) Ψ := e_unf rfl
theorem mL114 : e_mL 114 = 7 := by decide +kernel
theorem rt114 : e_rt 114 = (some .int) := by decide +kernel
/-- HoldHouse.serial()I -/
abbrev b115_0 : List e_En := [(0, .aload_n 0, 1, []), (1, .getfield 19, 3, []), (4, .iconst 0, 1, []), (5, .putfield 86, 3, []), (8, .iconst 0, 1, []), (9, .istore_n 1, 1, [])]
abbrev b115_10 : List e_En := [(10, .iload_n 1, 1, []), (11, .aload_n 0, 1, []), (12, .getfield 44, 3, []), (15, .invokevirtual 176, 3, []), (18, .if_icmp .ge 82, 3, [100]), (21, .aload_n 0, 1, []), (22, .getfield 44, 3, []), (25, .iload_n 1, 1, []), (26, .invokevirtual 278, 3, []), (29, .astore_n 2, 1, []), (30, .aload_n 2, 1, []), (31, .ifnull 29, 3, [60]), (34, .aload_n 2, 1, []), (35, .getfield 301, 3, []), (38, .ifCond .ne 22, 3, [60]), (41, .aload_n 0, 1, []), (42, .getfield 19, 3, []), (45, .aload_n 2, 1, []), (46, .getfield 304, 3, []), (49, .aload_n 2, 1, []), (50, .getfield 307, 3, []), (53, .aload_n 2, 1, []), (54, .getfield 310, 3, []), (57, .invokevirtual 93, 3, [])]
abbrev b115_60 : List e_En := [(60, .aload_n 2, 1, []), (61, .ifnull 33, 3, [94]), (64, .aload_n 2, 1, []), (65, .getfield 301, 3, []), (68, .iconst 4, 1, []), (69, .if_icmp .ne 25, 3, [94]), (72, .aload_n 0, 1, []), (73, .aload_n 0, 1, []), (74, .aload_n 2, 1, []), (75, .getfield 313, 3, []), (78, .invokevirtual 121, 3, []), (81, .iload_n 1, 1, []), (82, .aload_n 0, 1, []), (83, .getfield 19, 3, []), (86, .invokevirtual 177, 3, []), (89, .ifCond .ne 5, 3, [94]), (92, .iconst 0, 1, []), (93, .ireturn, 1, [])]
abbrev b115_94 : List e_En := [(94, .iinc 1 1, 3, []), (97, .goto (-87), 3, [10])]
abbrev b115_100 : List e_En := [(100, .aload_n 0, 1, []), (101, .getfield 19, 3, []), (104, .aload_n 0, 1, []), (105, .getfield 16, 3, []), (108, .invokevirtual 316, 3, []), (111, .ifCond .eq 7, 3, [118]), (114, .iconst 1, 1, []), (115, .goto 4, 3, [119])]
abbrev b115_118 : List e_En := [(118, .iconst 0, 1, [])]
abbrev b115_119 : List e_En := [(119, .ireturn, 1, [])]
def cd115 : e_Cd := [(0, b115_0, 10), (10, b115_10, 60), (60, b115_60, 0), (94, b115_94, 0), (100, b115_100, 0), (118, b115_118, 119), (119, b115_119, 0)]
set_option maxRecDepth 20000 in
theorem ok115 : e_chk 115 12 cd115 = true := by decide +kernel
theorem u115_0 {g : e_G} {Ψ : e_Q} {lv : e_Lv} {st : List Value} {h : e_Hp} : e_Sm g 115 12 cd115 Ψ 0 lv st h = e_exec g 115 12 [(0, .aload_n 0, 1, []), (1, .getfield 19, 3, []), (4, .iconst 0, 1, []), (5, .putfield 86, 3, []), (8, .iconst 0, 1, []), (9, .istore_n 1, 1, [])] 10 lv st h (e_Sm g 115 12 cd115 Ψ) Ψ := e_unf rfl
theorem u115_10 {g : e_G} {Ψ : e_Q} {lv : e_Lv} {st : List Value} {h : e_Hp} : e_Sm g 115 12 cd115 Ψ 10 lv st h = e_exec g 115 12 [(10, .iload_n 1, 1, []), (11, .aload_n 0, 1, []), (12, .getfield 44, 3, []), (15, .invokevirtual 176, 3, []), (18, .if_icmp .ge 82, 3, [100]), (21, .aload_n 0, 1, []), (22, .getfield 44, 3, []), (25, .iload_n 1, 1, []), (26, .invokevirtual 278, 3, []), (29, .astore_n 2, 1, []), (30, .aload_n 2, 1, []), (31, .ifnull 29, 3, [60]), (34, .aload_n 2, 1, []), (35, .getfield 301, 3, []), (38, .ifCond .ne 22, 3, [60]), (41, .aload_n 0, 1, []), (42, .getfield 19, 3, []), (45, .aload_n 2, 1, []), (46, .getfield 304, 3, []), (49, .aload_n 2, 1, []), (50, .getfield 307, 3, []), (53, .aload_n 2, 1, []), (54, .getfield 310, 3, []), (57, .invokevirtual 93, 3, [])] 60 lv st h (e_Sm g 115 12 cd115 Ψ) Ψ := e_unf rfl
theorem u115_60 {g : e_G} {Ψ : e_Q} {lv : e_Lv} {st : List Value} {h : e_Hp} : e_Sm g 115 12 cd115 Ψ 60 lv st h = e_exec g 115 12 [(60, .aload_n 2, 1, []), (61, .ifnull 33, 3, [94]), (64, .aload_n 2, 1, []), (65, .getfield 301, 3, []), (68, .iconst 4, 1, []), (69, .if_icmp .ne 25, 3, [94]), (72, .aload_n 0, 1, []), (73, .aload_n 0, 1, []), (74, .aload_n 2, 1, []), (75, .getfield 313, 3, []), (78, .invokevirtual 121, 3, []), (81, .iload_n 1, 1, []), (82, .aload_n 0, 1, []), (83, .getfield 19, 3, []), (86, .invokevirtual 177, 3, []), (89, .ifCond .ne 5, 3, [94]), (92, .iconst 0, 1, []), (93, .ireturn, 1, [])] 0 lv st h (e_Sm g 115 12 cd115 Ψ) Ψ := e_unf rfl
theorem u115_94 {g : e_G} {Ψ : e_Q} {lv : e_Lv} {st : List Value} {h : e_Hp} : e_Sm g 115 12 cd115 Ψ 94 lv st h = e_exec g 115 12 [(94, .iinc 1 1, 3, []), (97, .goto (-87), 3, [10])] 0 lv st h (e_Sm g 115 12 cd115 Ψ) Ψ := e_unf rfl
theorem u115_100 {g : e_G} {Ψ : e_Q} {lv : e_Lv} {st : List Value} {h : e_Hp} : e_Sm g 115 12 cd115 Ψ 100 lv st h = e_exec g 115 12 [(100, .aload_n 0, 1, []), (101, .getfield 19, 3, []), (104, .aload_n 0, 1, []), (105, .getfield 16, 3, []), (108, .invokevirtual 316, 3, []), (111, .ifCond .eq 7, 3, [118]), (114, .iconst 1, 1, []), (115, .goto 4, 3, [119])] 0 lv st h (e_Sm g 115 12 cd115 Ψ) Ψ := e_unf rfl
theorem u115_118 {g : e_G} {Ψ : e_Q} {lv : e_Lv} {st : List Value} {h : e_Hp} : e_Sm g 115 12 cd115 Ψ 118 lv st h = e_exec g 115 12 [(118, .iconst 0, 1, [])] 119 lv st h (e_Sm g 115 12 cd115 Ψ) Ψ := e_unf rfl
theorem u115_119 {g : e_G} {Ψ : e_Q} {lv : e_Lv} {st : List Value} {h : e_Hp} : e_Sm g 115 12 cd115 Ψ 119 lv st h = e_exec g 115 12 [(119, .ireturn, 1, [])] 0 lv st h (e_Sm g 115 12 cd115 Ψ) Ψ := e_unf rfl
theorem mL115 : e_mL 115 = 3 := by decide +kernel
theorem rt115 : e_rt 115 = (some .int) := by decide +kernel
/-- HoldHouse.trace(I)I -/
abbrev b116_0 : List e_En := [(0, .aload_n 0, 1, []), (1, .getfield 12, 3, []), (4, .getfield 320, 3, []), (7, .iload_n 1, 1, []), (8, .invokevirtual 324, 3, []), (11, .ireturn, 1, [])]
def cd116 : e_Cd := [(0, b116_0, 0)]
set_option maxRecDepth 20000 in
theorem ok116 : e_chk 116 12 cd116 = true := by decide +kernel
theorem u116_0 {g : e_G} {Ψ : e_Q} {lv : e_Lv} {st : List Value} {h : e_Hp} : e_Sm g 116 12 cd116 Ψ 0 lv st h = e_exec g 116 12 [(0, .aload_n 0, 1, []), (1, .getfield 12, 3, []), (4, .getfield 320, 3, []), (7, .iload_n 1, 1, []), (8, .invokevirtual 324, 3, []), (11, .ireturn, 1, [])] 0 lv st h (e_Sm g 116 12 cd116 Ψ) Ψ := e_unf rfl
theorem mL116 : e_mL 116 = 2 := by decide +kernel
theorem rt116 : e_rt 116 = (some .int) := by decide +kernel
/-- HoldHouse.count(I)I -/
abbrev b117_0 : List e_En := [(0, .iload_n 1, 1, []), (1, .tableswitch 210 0 17 #[87, 95, 103, 109, 115, 123, 131, 139, 144, 152, 160, 168, 176, 184, 184, 192, 197, 202], 87, [211, 88, 96, 104, 110, 116, 124, 132, 140, 145, 153, 161, 169, 177, 185, 185, 193, 198, 203])]
abbrev b117_88 : List e_En := [(88, .aload_n 0, 1, []), (89, .getfield 12, 3, []), (92, .getfield 86, 3, []), (95, .ireturn, 1, [])]
abbrev b117_96 : List e_En := [(96, .aload_n 0, 1, []), (97, .getfield 31, 3, []), (100, .invokevirtual 165, 3, []), (103, .ireturn, 1, [])]
abbrev b117_104 : List e_En := [(104, .aload_n 0, 1, []), (105, .iconst 1, 1, []), (106, .invokevirtual 329, 3, []), (109, .ireturn, 1, [])]
abbrev b117_110 : List e_En := [(110, .aload_n 0, 1, []), (111, .iconst 2, 1, []), (112, .invokevirtual 329, 3, []), (115, .ireturn, 1, [])]
abbrev b117_116 : List e_En := [(116, .aload_n 0, 1, []), (117, .getfield 38, 3, []), (120, .invokevirtual 165, 3, []), (123, .ireturn, 1, [])]
abbrev b117_124 : List e_En := [(124, .aload_n 0, 1, []), (125, .getfield 58, 3, []), (128, .getfield 332, 3, []), (131, .ireturn, 1, [])]
abbrev b117_132 : List e_En := [(132, .aload_n 0, 1, []), (133, .getfield 58, 3, []), (136, .getfield 335, 3, []), (139, .ireturn, 1, [])]
abbrev b117_140 : List e_En := [(140, .aload_n 0, 1, []), (141, .invokevirtual 338, 3, []), (144, .ireturn, 1, [])]
abbrev b117_145 : List e_En := [(145, .aload_n 0, 1, []), (146, .getfield 58, 3, []), (149, .getfield 207, 3, []), (152, .ireturn, 1, [])]
abbrev b117_153 : List e_En := [(153, .aload_n 0, 1, []), (154, .getfield 58, 3, []), (157, .getfield 341, 3, []), (160, .ireturn, 1, [])]
abbrev b117_161 : List e_En := [(161, .aload_n 0, 1, []), (162, .getfield 58, 3, []), (165, .getfield 344, 3, []), (168, .ireturn, 1, [])]
abbrev b117_169 : List e_En := [(169, .aload_n 0, 1, []), (170, .getfield 44, 3, []), (173, .invokevirtual 176, 3, []), (176, .ireturn, 1, [])]
abbrev b117_177 : List e_En := [(177, .aload_n 0, 1, []), (178, .getfield 44, 3, []), (181, .getfield 275, 3, []), (184, .ireturn, 1, [])]
abbrev b117_185 : List e_En := [(185, .aload_n 0, 1, []), (186, .getfield 58, 3, []), (189, .getfield 347, 3, []), (192, .ireturn, 1, [])]
abbrev b117_193 : List e_En := [(193, .aload_n 0, 1, []), (194, .getfield 66, 3, []), (197, .ireturn, 1, [])]
abbrev b117_198 : List e_En := [(198, .aload_n 0, 1, []), (199, .getfield 62, 3, []), (202, .ireturn, 1, [])]
abbrev b117_203 : List e_En := [(203, .aload_n 0, 1, []), (204, .getfield 44, 3, []), (207, .getfield 260, 3, []), (210, .ireturn, 1, [])]
abbrev b117_211 : List e_En := [(211, .iconst (-1), 1, []), (212, .ireturn, 1, [])]
def cd117 : e_Cd := [(0, b117_0, 0), (88, b117_88, 0), (96, b117_96, 0), (104, b117_104, 0), (110, b117_110, 0), (116, b117_116, 0), (124, b117_124, 0), (132, b117_132, 0), (140, b117_140, 0), (145, b117_145, 0), (153, b117_153, 0), (161, b117_161, 0), (169, b117_169, 0), (177, b117_177, 0), (185, b117_185, 0), (193, b117_193, 0), (198, b117_198, 0), (203, b117_203, 0), (211, b117_211, 0)]
set_option maxRecDepth 20000 in
theorem ok117 : e_chk 117 12 cd117 = true := by decide +kernel
theorem u117_0 {g : e_G} {Ψ : e_Q} {lv : e_Lv} {st : List Value} {h : e_Hp} : e_Sm g 117 12 cd117 Ψ 0 lv st h = e_exec g 117 12 [(0, .iload_n 1, 1, []), (1, .tableswitch 210 0 17 #[87, 95, 103, 109, 115, 123, 131, 139, 144, 152, 160, 168, 176, 184, 184, 192, 197, 202], 87, [211, 88, 96, 104, 110, 116, 124, 132, 140, 145, 153, 161, 169, 177, 185, 185, 193, 198, 203])] 0 lv st h (e_Sm g 117 12 cd117 Ψ) Ψ := e_unf rfl
theorem u117_88 {g : e_G} {Ψ : e_Q} {lv : e_Lv} {st : List Value} {h : e_Hp} : e_Sm g 117 12 cd117 Ψ 88 lv st h = e_exec g 117 12 [(88, .aload_n 0, 1, []), (89, .getfield 12, 3, []), (92, .getfield 86, 3, []), (95, .ireturn, 1, [])] 0 lv st h (e_Sm g 117 12 cd117 Ψ) Ψ := e_unf rfl
theorem u117_96 {g : e_G} {Ψ : e_Q} {lv : e_Lv} {st : List Value} {h : e_Hp} : e_Sm g 117 12 cd117 Ψ 96 lv st h = e_exec g 117 12 [(96, .aload_n 0, 1, []), (97, .getfield 31, 3, []), (100, .invokevirtual 165, 3, []), (103, .ireturn, 1, [])] 0 lv st h (e_Sm g 117 12 cd117 Ψ) Ψ := e_unf rfl
theorem u117_104 {g : e_G} {Ψ : e_Q} {lv : e_Lv} {st : List Value} {h : e_Hp} : e_Sm g 117 12 cd117 Ψ 104 lv st h = e_exec g 117 12 [(104, .aload_n 0, 1, []), (105, .iconst 1, 1, []), (106, .invokevirtual 329, 3, []), (109, .ireturn, 1, [])] 0 lv st h (e_Sm g 117 12 cd117 Ψ) Ψ := e_unf rfl
theorem u117_110 {g : e_G} {Ψ : e_Q} {lv : e_Lv} {st : List Value} {h : e_Hp} : e_Sm g 117 12 cd117 Ψ 110 lv st h = e_exec g 117 12 [(110, .aload_n 0, 1, []), (111, .iconst 2, 1, []), (112, .invokevirtual 329, 3, []), (115, .ireturn, 1, [])] 0 lv st h (e_Sm g 117 12 cd117 Ψ) Ψ := e_unf rfl
theorem u117_116 {g : e_G} {Ψ : e_Q} {lv : e_Lv} {st : List Value} {h : e_Hp} : e_Sm g 117 12 cd117 Ψ 116 lv st h = e_exec g 117 12 [(116, .aload_n 0, 1, []), (117, .getfield 38, 3, []), (120, .invokevirtual 165, 3, []), (123, .ireturn, 1, [])] 0 lv st h (e_Sm g 117 12 cd117 Ψ) Ψ := e_unf rfl
theorem u117_124 {g : e_G} {Ψ : e_Q} {lv : e_Lv} {st : List Value} {h : e_Hp} : e_Sm g 117 12 cd117 Ψ 124 lv st h = e_exec g 117 12 [(124, .aload_n 0, 1, []), (125, .getfield 58, 3, []), (128, .getfield 332, 3, []), (131, .ireturn, 1, [])] 0 lv st h (e_Sm g 117 12 cd117 Ψ) Ψ := e_unf rfl
theorem u117_132 {g : e_G} {Ψ : e_Q} {lv : e_Lv} {st : List Value} {h : e_Hp} : e_Sm g 117 12 cd117 Ψ 132 lv st h = e_exec g 117 12 [(132, .aload_n 0, 1, []), (133, .getfield 58, 3, []), (136, .getfield 335, 3, []), (139, .ireturn, 1, [])] 0 lv st h (e_Sm g 117 12 cd117 Ψ) Ψ := e_unf rfl
theorem u117_140 {g : e_G} {Ψ : e_Q} {lv : e_Lv} {st : List Value} {h : e_Hp} : e_Sm g 117 12 cd117 Ψ 140 lv st h = e_exec g 117 12 [(140, .aload_n 0, 1, []), (141, .invokevirtual 338, 3, []), (144, .ireturn, 1, [])] 0 lv st h (e_Sm g 117 12 cd117 Ψ) Ψ := e_unf rfl
theorem u117_145 {g : e_G} {Ψ : e_Q} {lv : e_Lv} {st : List Value} {h : e_Hp} : e_Sm g 117 12 cd117 Ψ 145 lv st h = e_exec g 117 12 [(145, .aload_n 0, 1, []), (146, .getfield 58, 3, []), (149, .getfield 207, 3, []), (152, .ireturn, 1, [])] 0 lv st h (e_Sm g 117 12 cd117 Ψ) Ψ := e_unf rfl
theorem u117_153 {g : e_G} {Ψ : e_Q} {lv : e_Lv} {st : List Value} {h : e_Hp} : e_Sm g 117 12 cd117 Ψ 153 lv st h = e_exec g 117 12 [(153, .aload_n 0, 1, []), (154, .getfield 58, 3, []), (157, .getfield 341, 3, []), (160, .ireturn, 1, [])] 0 lv st h (e_Sm g 117 12 cd117 Ψ) Ψ := e_unf rfl
theorem u117_161 {g : e_G} {Ψ : e_Q} {lv : e_Lv} {st : List Value} {h : e_Hp} : e_Sm g 117 12 cd117 Ψ 161 lv st h = e_exec g 117 12 [(161, .aload_n 0, 1, []), (162, .getfield 58, 3, []), (165, .getfield 344, 3, []), (168, .ireturn, 1, [])] 0 lv st h (e_Sm g 117 12 cd117 Ψ) Ψ := e_unf rfl
theorem u117_169 {g : e_G} {Ψ : e_Q} {lv : e_Lv} {st : List Value} {h : e_Hp} : e_Sm g 117 12 cd117 Ψ 169 lv st h = e_exec g 117 12 [(169, .aload_n 0, 1, []), (170, .getfield 44, 3, []), (173, .invokevirtual 176, 3, []), (176, .ireturn, 1, [])] 0 lv st h (e_Sm g 117 12 cd117 Ψ) Ψ := e_unf rfl
theorem u117_177 {g : e_G} {Ψ : e_Q} {lv : e_Lv} {st : List Value} {h : e_Hp} : e_Sm g 117 12 cd117 Ψ 177 lv st h = e_exec g 117 12 [(177, .aload_n 0, 1, []), (178, .getfield 44, 3, []), (181, .getfield 275, 3, []), (184, .ireturn, 1, [])] 0 lv st h (e_Sm g 117 12 cd117 Ψ) Ψ := e_unf rfl
theorem u117_185 {g : e_G} {Ψ : e_Q} {lv : e_Lv} {st : List Value} {h : e_Hp} : e_Sm g 117 12 cd117 Ψ 185 lv st h = e_exec g 117 12 [(185, .aload_n 0, 1, []), (186, .getfield 58, 3, []), (189, .getfield 347, 3, []), (192, .ireturn, 1, [])] 0 lv st h (e_Sm g 117 12 cd117 Ψ) Ψ := e_unf rfl
theorem u117_193 {g : e_G} {Ψ : e_Q} {lv : e_Lv} {st : List Value} {h : e_Hp} : e_Sm g 117 12 cd117 Ψ 193 lv st h = e_exec g 117 12 [(193, .aload_n 0, 1, []), (194, .getfield 66, 3, []), (197, .ireturn, 1, [])] 0 lv st h (e_Sm g 117 12 cd117 Ψ) Ψ := e_unf rfl
theorem u117_198 {g : e_G} {Ψ : e_Q} {lv : e_Lv} {st : List Value} {h : e_Hp} : e_Sm g 117 12 cd117 Ψ 198 lv st h = e_exec g 117 12 [(198, .aload_n 0, 1, []), (199, .getfield 62, 3, []), (202, .ireturn, 1, [])] 0 lv st h (e_Sm g 117 12 cd117 Ψ) Ψ := e_unf rfl
theorem u117_203 {g : e_G} {Ψ : e_Q} {lv : e_Lv} {st : List Value} {h : e_Hp} : e_Sm g 117 12 cd117 Ψ 203 lv st h = e_exec g 117 12 [(203, .aload_n 0, 1, []), (204, .getfield 44, 3, []), (207, .getfield 260, 3, []), (210, .ireturn, 1, [])] 0 lv st h (e_Sm g 117 12 cd117 Ψ) Ψ := e_unf rfl
theorem u117_211 {g : e_G} {Ψ : e_Q} {lv : e_Lv} {st : List Value} {h : e_Hp} : e_Sm g 117 12 cd117 Ψ 211 lv st h = e_exec g 117 12 [(211, .iconst (-1), 1, []), (212, .ireturn, 1, [])] 0 lv st h (e_Sm g 117 12 cd117 Ψ) Ψ := e_unf rfl
theorem mL117 : e_mL 117 = 2 := by decide +kernel
theorem rt117 : e_rt 117 = (some .int) := by decide +kernel
