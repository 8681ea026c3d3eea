/-- HoldHouse$Ask.<init>()V -/
abbrev b0_0 : List e_En := [(0, .aload_n 0, 1, []), (1, .invokespecial 3, 3, []), (4, .return_, 1, [])]
def cd0 : e_Cd := [(0, b0_0, 0)]
set_option maxRecDepth 20000 in
theorem ok0 : e_chk 0 1 cd0 = true := by decide +kernel
theorem u0_0 {g : e_G} {Ψ : e_Q} {lv : e_Lv} {st : List Value} {h : e_Hp} : e_Sm g 0 1 cd0 Ψ 0 lv st h = e_exec g 0 1 [(0, .aload_n 0, 1, []), (1, .invokespecial 3, 3, []), (4, .return_, 1, [])] 0 lv st h (e_Sm g 0 1 cd0 Ψ) Ψ := e_unf rfl
theorem mL0 : e_mL 0 = 1 := by decide +kernel
/-- HoldHouse$Ask.set(IIII)V -/
abbrev b1_0 : List e_En := [(0, .aload_n 0, 1, []), (1, .iload_n 1, 1, []), (2, .putfield 9, 3, []), (5, .aload_n 0, 1, []), (6, .iload_n 2, 1, []), (7, .putfield 15, 3, []), (10, .aload_n 0, 1, []), (11, .iload_n 3, 1, []), (12, .putfield 18, 3, []), (15, .aload_n 0, 1, []), (16, .iload 4, 2, []), (18, .putfield 21, 3, []), (21, .aload_n 0, 1, []), (22, .iconst 0, 1, []), (23, .putfield 24, 3, []), (26, .aload_n 0, 1, []), (27, .iconst 0, 1, []), (28, .putfield 27, 3, []), (31, .return_, 1, [])]
def cd1 : e_Cd := [(0, b1_0, 0)]
set_option maxRecDepth 20000 in
theorem ok1 : e_chk 1 1 cd1 = true := by decide +kernel
theorem u1_0 {g : e_G} {Ψ : e_Q} {lv : e_Lv} {st : List Value} {h : e_Hp} : e_Sm g 1 1 cd1 Ψ 0 lv st h = e_exec g 1 1 [(0, .aload_n 0, 1, []), (1, .iload_n 1, 1, []), (2, .putfield 9, 3, []), (5, .aload_n 0, 1, []), (6, .iload_n 2, 1, []), (7, .putfield 15, 3, []), (10, .aload_n 0, 1, []), (11, .iload_n 3, 1, []), (12, .putfield 18, 3, []), (15, .aload_n 0, 1, []), (16, .iload 4, 2, []), (18, .putfield 21, 3, []), (21, .aload_n 0, 1, []), (22, .iconst 0, 1, []), (23, .putfield 24, 3, []), (26, .aload_n 0, 1, []), (27, .iconst 0, 1, []), (28, .putfield 27, 3, []), (31, .return_, 1, [])] 0 lv st h (e_Sm g 1 1 cd1 Ψ) Ψ := e_unf rfl
theorem mL1 : e_mL 1 = 5 := by decide +kernel
/-- HoldHouse$Ask.nextLeg()V -/
abbrev b2_0 : List e_En := [(0, .aload_n 0, 1, []), (1, .dup, 1, []), (2, .getfield 24, 3, []), (5, .iconst 1, 1, []), (6, .iadd, 1, []), (7, .putfield 24, 3, []), (10, .aload_n 0, 1, []), (11, .iconst 0, 1, []), (12, .putfield 27, 3, []), (15, .return_, 1, [])]
def cd2 : e_Cd := [(0, b2_0, 0)]
set_option maxRecDepth 20000 in
theorem ok2 : e_chk 2 1 cd2 = true := by decide +kernel
theorem u2_0 {g : e_G} {Ψ : e_Q} {lv : e_Lv} {st : List Value} {h : e_Hp} : e_Sm g 2 1 cd2 Ψ 0 lv st h = e_exec g 2 1 [(0, .aload_n 0, 1, []), (1, .dup, 1, []), (2, .getfield 24, 3, []), (5, .iconst 1, 1, []), (6, .iadd, 1, []), (7, .putfield 24, 3, []), (10, .aload_n 0, 1, []), (11, .iconst 0, 1, []), (12, .putfield 27, 3, []), (15, .return_, 1, [])] 0 lv st h (e_Sm g 2 1 cd2 Ψ) Ψ := e_unf rfl
theorem mL2 : e_mL 2 = 1 := by decide +kernel
/-- HoldHouse$Ask.legKind(I)I -/
abbrev b3_0 : List e_En := [(0, .aload_n 0, 1, []), (1, .getfield 15, 3, []), (4, .bipush 19, 2, []), (6, .if_icmp .ne 19, 3, [25]), (9, .iload_n 1, 1, []), (10, .aload_n 0, 1, []), (11, .getfield 9, 3, []), (14, .if_icmp .ne 8, 3, [22]), (17, .bipush 16, 2, []), (19, .goto 5, 3, [24])]
abbrev b3_22 : List e_En := [(22, .bipush 15, 2, [])]
abbrev b3_24 : List e_En := [(24, .ireturn, 1, [])]
abbrev b3_25 : List e_En := [(25, .aload_n 0, 1, []), (26, .getfield 15, 3, []), (29, .bipush 18, 2, []), (31, .if_icmp .ne 15, 3, [46]), (34, .aload_n 0, 1, []), (35, .getfield 24, 3, []), (38, .iconst 1, 1, []), (39, .if_icmp .ne 7, 3, [46]), (42, .iconst 1, 1, []), (43, .goto 7, 3, [50])]
abbrev b3_46 : List e_En := [(46, .aload_n 0, 1, []), (47, .getfield 15, 3, [])]
abbrev b3_50 : List e_En := [(50, .ireturn, 1, [])]
def cd3 : e_Cd := [(0, b3_0, 0), (22, b3_22, 24), (24, b3_24, 0), (25, b3_25, 0), (46, b3_46, 50), (50, b3_50, 0)]
set_option maxRecDepth 20000 in
theorem ok3 : e_chk 3 1 cd3 = true := by decide +kernel
theorem u3_0 {g : e_G} {Ψ : e_Q} {lv : e_Lv} {st : List Value} {h : e_Hp} : e_Sm g 3 1 cd3 Ψ 0 lv st h = e_exec g 3 1 [(0, .aload_n 0, 1, []), (1, .getfield 15, 3, []), (4, .bipush 19, 2, []), (6, .if_icmp .ne 19, 3, [25]), (9, .iload_n 1, 1, []), (10, .aload_n 0, 1, []), (11, .getfield 9, 3, []), (14, .if_icmp .ne 8, 3, [22]), (17, .bipush 16, 2, []), (19, .goto 5, 3, [24])] 0 lv st h (e_Sm g 3 1 cd3 Ψ) Ψ := e_unf rfl
theorem u3_22 {g : e_G} {Ψ : e_Q} {lv : e_Lv} {st : List Value} {h : e_Hp} : e_Sm g 3 1 cd3 Ψ 22 lv st h = e_exec g 3 1 [(22, .bipush 15, 2, [])] 24 lv st h (e_Sm g 3 1 cd3 Ψ) Ψ := e_unf rfl
theorem u3_24 {g : e_G} {Ψ : e_Q} {lv : e_Lv} {st : List Value} {h : e_Hp} : e_Sm g 3 1 cd3 Ψ 24 lv st h = e_exec g 3 1 [(24, .ireturn, 1, [])] 0 lv st h (e_Sm g 3 1 cd3 Ψ) Ψ := e_unf rfl
theorem u3_25 {g : e_G} {Ψ : e_Q} {lv : e_Lv} {st : List Value} {h : e_Hp} : e_Sm g 3 1 cd3 Ψ 25 lv st h = e_exec g 3 1 [(25, .aload_n 0, 1, []), (26, .getfield 15, 3, []), (29, .bipush 18, 2, []), (31, .if_icmp .ne 15, 3, [46]), (34, .aload_n 0, 1, []), (35, .getfield 24, 3, []), (38, .iconst 1, 1, []), (39, .if_icmp .ne 7, 3, [46]), (42, .iconst 1, 1, []), (43, .goto 7, 3, [50])] 0 lv st h (e_Sm g 3 1 cd3 Ψ) Ψ := e_unf rfl
theorem u3_46 {g : e_G} {Ψ : e_Q} {lv : e_Lv} {st : List Value} {h : e_Hp} : e_Sm g 3 1 cd3 Ψ 46 lv st h = e_exec g 3 1 [(46, .aload_n 0, 1, []), (47, .getfield 15, 3, [])] 50 lv st h (e_Sm g 3 1 cd3 Ψ) Ψ := e_unf rfl
theorem u3_50 {g : e_G} {Ψ : e_Q} {lv : e_Lv} {st : List Value} {h : e_Hp} : e_Sm g 3 1 cd3 Ψ 50 lv st h = e_exec g 3 1 [(50, .ireturn, 1, [])] 0 lv st h (e_Sm g 3 1 cd3 Ψ) Ψ := e_unf rfl
theorem mL3 : e_mL 3 = 2 := by decide +kernel
theorem rt3 : e_rt 3 = (some .int) := by decide +kernel
/-- HoldHouse$Deal.<init>(III)V -/
abbrev b4_0 : List e_En := [(0, .aload_n 0, 1, []), (1, .invokespecial 3, 3, []), (4, .aload_n 0, 1, []), (5, .iconst 1, 1, []), (6, .putfield 9, 3, []), (9, .aload_n 0, 1, []), (10, .bipush (-9), 2, []), (12, .putfield 15, 3, []), (15, .aload_n 0, 1, []), (16, .new 18, 3, []), (19, .dup, 1, []), (20, .invokespecial 20, 3, []), (23, .putfield 21, 3, []), (26, .aload_n 0, 1, []), (27, .iconst 5, 1, []), (28, .newarray .int, 2, []), (30, .putfield 25, 3, []), (33, .aload_n 0, 1, []), (34, .iload_n 1, 1, []), (35, .putfield 29, 3, []), (38, .aload_n 0, 1, []), (39, .iload_n 2, 1, []), (40, .putfield 32, 3, []), (43, .aload_n 0, 1, []), (44, .iload_n 3, 1, []), (45, .putfield 35, 3, []), (48, .return_, 1, [])]
def cd4 : e_Cd := [(0, b4_0, 0)]
set_option maxRecDepth 20000 in
theorem ok4 : e_chk 4 2 cd4 = true := by decide +kernel
theorem u4_0 {g : e_G} {Ψ : e_Q} {lv : e_Lv} {st : List Value} {h : e_Hp} : e_Sm g 4 2 cd4 Ψ 0 lv st h = e_exec g 4 2 [(0, .aload_n 0, 1, []), (1, .invokespecial 3, 3, []), (4, .aload_n 0, 1, []), (5, .iconst 1, 1, []), (6, .putfield 9, 3, []), (9, .aload_n 0, 1, []), (10, .bipush (-9), 2, []), (12, .putfield 15, 3, []), (15, .aload_n 0, 1, []), (16, .new 18, 3, []), (19, .dup, 1, []), (20, .invokespecial 20, 3, []), (23, .putfield 21, 3, []), (26, .aload_n 0, 1, []), (27, .iconst 5, 1, []), (28, .newarray .int, 2, []), (30, .putfield 25, 3, []), (33, .aload_n 0, 1, []), (34, .iload_n 1, 1, []), (35, .putfield 29, 3, []), (38, .aload_n 0, 1, []), (39, .iload_n 2, 1, []), (40, .putfield 32, 3, []), (43, .aload_n 0, 1, []), (44, .iload_n 3, 1, []), (45, .putfield 35, 3, []), (48, .return_, 1, [])] 0 lv st h (e_Sm g 4 2 cd4 Ψ) Ψ := e_unf rfl
theorem mL4 : e_mL 4 = 4 := by decide +kernel
/-- HoldHouse$Deal.isUnderWay()Z -/
abbrev b5_0 : List e_En := [(0, .aload_n 0, 1, []), (1, .getfield 9, 3, []), (4, .iconst 1, 1, []), (5, .if_icmp .eq 11, 3, [16]), (8, .aload_n 0, 1, []), (9, .getfield 9, 3, []), (12, .iconst 2, 1, []), (13, .if_icmp .ne 7, 3, [20])]
abbrev b5_16 : List e_En := [(16, .iconst 1, 1, []), (17, .goto 4, 3, [21])]
abbrev b5_20 : List e_En := [(20, .iconst 0, 1, [])]
abbrev b5_21 : List e_En := [(21, .ireturn, 1, [])]
def cd5 : e_Cd := [(0, b5_0, 16), (16, b5_16, 0), (20, b5_20, 21), (21, b5_21, 0)]
set_option maxRecDepth 20000 in
theorem ok5 : e_chk 5 2 cd5 = true := by decide +kernel
theorem u5_0 {g : e_G} {Ψ : e_Q} {lv : e_Lv} {st : List Value} {h : e_Hp} : e_Sm g 5 2 cd5 Ψ 0 lv st h = e_exec g 5 2 [(0, .aload_n 0, 1, []), (1, .getfield 9, 3, []), (4, .iconst 1, 1, []), (5, .if_icmp .eq 11, 3, [16]), (8, .aload_n 0, 1, []), (9, .getfield 9, 3, []), (12, .iconst 2, 1, []), (13, .if_icmp .ne 7, 3, [20])] 16 lv st h (e_Sm g 5 2 cd5 Ψ) Ψ := e_unf rfl
theorem u5_16 {g : e_G} {Ψ : e_Q} {lv : e_Lv} {st : List Value} {h : e_Hp} : e_Sm g 5 2 cd5 Ψ 16 lv st h = e_exec g 5 2 [(16, .iconst 1, 1, []), (17, .goto 4, 3, [21])] 0 lv st h (e_Sm g 5 2 cd5 Ψ) Ψ := e_unf rfl
theorem u5_20 {g : e_G} {Ψ : e_Q} {lv : e_Lv} {st : List Value} {h : e_Hp} : e_Sm g 5 2 cd5 Ψ 20 lv st h = e_exec g 5 2 [(20, .iconst 0, 1, [])] 21 lv st h (e_Sm g 5 2 cd5 Ψ) Ψ := e_unf rfl
theorem u5_21 {g : e_G} {Ψ : e_Q} {lv : e_Lv} {st : List Value} {h : e_Hp} : e_Sm g 5 2 cd5 Ψ 21 lv st h = e_exec g 5 2 [(21, .ireturn, 1, [])] 0 lv st h (e_Sm g 5 2 cd5 Ψ) Ψ := e_unf rfl
theorem mL5 : e_mL 5 = 1 := by decide +kernel
theorem rt5 : e_rt 5 = (some .boolean) := by decide +kernel
/-- HoldHouse$Deal.markLevel()V -/
abbrev b6_0 : List e_En := [(0, .aload_n 0, 1, []), (1, .getfield 38, 3, []), (4, .ifCond .lt 28, 3, [32]), (7, .aload_n 0, 1, []), (8, .getfield 38, 3, []), (11, .aload_n 0, 1, []), (12, .getfield 25, 3, []), (15, .arraylength, 1, []), (16, .if_icmp .ge 16, 3, [32]), (19, .aload_n 0, 1, []), (20, .getfield 25, 3, []), (23, .aload_n 0, 1, []), (24, .getfield 38, 3, []), (27, .aload_n 0, 1, []), (28, .getfield 41, 3, []), (31, .iastore, 1, [])]
abbrev b6_32 : List e_En := [(32, .return_, 1, [])]
def cd6 : e_Cd := [(0, b6_0, 32), (32, b6_32, 0)]
set_option maxRecDepth 20000 in
theorem ok6 : e_chk 6 2 cd6 = true := by decide +kernel
theorem u6_0 {g : e_G} {Ψ : e_Q} {lv : e_Lv} {st : List Value} {h : e_Hp} : e_Sm g 6 2 cd6 Ψ 0 lv st h = e_exec g 6 2 [(0, .aload_n 0, 1, []), (1, .getfield 38, 3, []), (4, .ifCond .lt 28, 3, [32]), (7, .aload_n 0, 1, []), (8, .getfield 38, 3, []), (11, .aload_n 0, 1, []), (12, .getfield 25, 3, []), (15, .arraylength, 1, []), (16, .if_icmp .ge 16, 3, [32]), (19, .aload_n 0, 1, []), (20, .getfield 25, 3, []), (23, .aload_n 0, 1, []), (24, .getfield 38, 3, []), (27, .aload_n 0, 1, []), (28, .getfield 41, 3, []), (31, .iastore, 1, [])] 32 lv st h (e_Sm g 6 2 cd6 Ψ) Ψ := e_unf rfl
theorem u6_32 {g : e_G} {Ψ : e_Q} {lv : e_Lv} {st : List Value} {h : e_Hp} : e_Sm g 6 2 cd6 Ψ 32 lv st h = e_exec g 6 2 [(32, .return_, 1, [])] 0 lv st h (e_Sm g 6 2 cd6 Ψ) Ψ := e_unf rfl
theorem mL6 : e_mL 6 = 1 := by decide +kernel
/-- HoldHouse$Deal.levelMark()I -/
abbrev b7_0 : List e_En := [(0, .aload_n 0, 1, []), (1, .getfield 38, 3, []), (4, .ifCond .le 27, 3, [31]), (7, .aload_n 0, 1, []), (8, .getfield 38, 3, []), (11, .aload_n 0, 1, []), (12, .getfield 25, 3, []), (15, .arraylength, 1, []), (16, .if_icmp .ge 15, 3, [31]), (19, .aload_n 0, 1, []), (20, .getfield 25, 3, []), (23, .aload_n 0, 1, []), (24, .getfield 38, 3, []), (27, .iaload, 1, []), (28, .goto 4, 3, [32])]
abbrev b7_31 : List e_En := [(31, .iconst 0, 1, [])]
abbrev b7_32 : List e_En := [(32, .ireturn, 1, [])]
def cd7 : e_Cd := [(0, b7_0, 0), (31, b7_31, 32), (32, b7_32, 0)]
set_option maxRecDepth 20000 in
theorem ok7 : e_chk 7 2 cd7 = true := by decide +kernel
theorem u7_0 {g : e_G} {Ψ : e_Q} {lv : e_Lv} {st : List Value} {h : e_Hp} : e_Sm g 7 2 cd7 Ψ 0 lv st h = e_exec g 7 2 [(0, .aload_n 0, 1, []), (1, .getfield 38, 3, []), (4, .ifCond .le 27, 3, [31]), (7, .aload_n 0, 1, []), (8, .getfield 38, 3, []), (11, .aload_n 0, 1, []), (12, .getfield 25, 3, []), (15, .arraylength, 1, []), (16, .if_icmp .ge 15, 3, [31]), (19, .aload_n 0, 1, []), (20, .getfield 25, 3, []), (23, .aload_n 0, 1, []), (24, .getfield 38, 3, []), (27, .iaload, 1, []), (28, .goto 4, 3, [32])] 0 lv st h (e_Sm g 7 2 cd7 Ψ) Ψ := e_unf rfl
theorem u7_31 {g : e_G} {Ψ : e_Q} {lv : e_Lv} {st : List Value} {h : e_Hp} : e_Sm g 7 2 cd7 Ψ 31 lv st h = e_exec g 7 2 [(31, .iconst 0, 1, [])] 32 lv st h (e_Sm g 7 2 cd7 Ψ) Ψ := e_unf rfl
theorem u7_32 {g : e_G} {Ψ : e_Q} {lv : e_Lv} {st : List Value} {h : e_Hp} : e_Sm g 7 2 cd7 Ψ 32 lv st h = e_exec g 7 2 [(32, .ireturn, 1, [])] 0 lv st h (e_Sm g 7 2 cd7 Ψ) Ψ := e_unf rfl
theorem mL7 : e_mL 7 = 1 := by decide +kernel
theorem rt7 : e_rt 7 = (some .int) := by decide +kernel
/-- HoldHouse$Deal.outcome()I -/
abbrev b8_0 : List e_En := [(0, .aload_n 0, 1, []), (1, .getfield 9, 3, []), (4, .iconst 4, 1, []), (5, .if_icmp .ne 5, 3, [10]), (8, .iconst 2, 1, []), (9, .ireturn, 1, [])]
abbrev b8_10 : List e_En := [(10, .aload_n 0, 1, []), (11, .getfield 9, 3, []), (14, .iconst 2, 1, []), (15, .if_icmp .ne 5, 3, [20]), (18, .iconst 0, 1, []), (19, .ireturn, 1, [])]
abbrev b8_20 : List e_En := [(20, .aload_n 0, 1, []), (21, .getfield 44, 3, []), (24, .ifCond .ne 7, 3, [31]), (27, .iconst 1, 1, []), (28, .goto 10, 3, [38])]
abbrev b8_31 : List e_En := [(31, .bipush (-10), 2, []), (33, .aload_n 0, 1, []), (34, .getfield 44, 3, []), (37, .isub, 1, [])]
abbrev b8_38 : List e_En := [(38, .ireturn, 1, [])]
def cd8 : e_Cd := [(0, b8_0, 0), (10, b8_10, 0), (20, b8_20, 0), (31, b8_31, 38), (38, b8_38, 0)]
set_option maxRecDepth 20000 in
theorem ok8 : e_chk 8 2 cd8 = true := by decide +kernel
theorem u8_0 {g : e_G} {Ψ : e_Q} {lv : e_Lv} {st : List Value} {h : e_Hp} : e_Sm g 8 2 cd8 Ψ 0 lv st h = e_exec g 8 2 [(0, .aload_n 0, 1, []), (1, .getfield 9, 3, []), (4, .iconst 4, 1, []), (5, .if_icmp .ne 5, 3, [10]), (8, .iconst 2, 1, []), (9, .ireturn, 1, [])] 0 lv st h (e_Sm g 8 2 cd8 Ψ) Ψ := e_unf rfl
theorem u8_10 {g : e_G} {Ψ : e_Q} {lv : e_Lv} {st : List Value} {h : e_Hp} : e_Sm g 8 2 cd8 Ψ 10 lv st h = e_exec g 8 2 [(10, .aload_n 0, 1, []), (11, .getfield 9, 3, []), (14, .iconst 2, 1, []), (15, .if_icmp .ne 5, 3, [20]), (18, .iconst 0, 1, []), (19, .ireturn, 1, [])] 0 lv st h (e_Sm g 8 2 cd8 Ψ) Ψ := e_unf rfl
theorem u8_20 {g : e_G} {Ψ : e_Q} {lv : e_Lv} {st : List Value} {h : e_Hp} : e_Sm g 8 2 cd8 Ψ 20 lv st h = e_exec g 8 2 [(20, .aload_n 0, 1, []), (21, .getfield 44, 3, []), (24, .ifCond .ne 7, 3, [31]), (27, .iconst 1, 1, []), (28, .goto 10, 3, [38])] 0 lv st h (e_Sm g 8 2 cd8 Ψ) Ψ := e_unf rfl
theorem u8_31 {g : e_G} {Ψ : e_Q} {lv : e_Lv} {st : List Value} {h : e_Hp} : e_Sm g 8 2 cd8 Ψ 31 lv st h = e_exec g 8 2 [(31, .bipush (-10), 2, []), (33, .aload_n 0, 1, []), (34, .getfield 44, 3, []), (37, .isub, 1, [])] 38 lv st h (e_Sm g 8 2 cd8 Ψ) Ψ := e_unf rfl
theorem u8_38 {g : e_G} {Ψ : e_Q} {lv : e_Lv} {st : List Value} {h : e_Hp} : e_Sm g 8 2 cd8 Ψ 38 lv st h = e_exec g 8 2 [(38, .ireturn, 1, [])] 0 lv st h (e_Sm g 8 2 cd8 Ψ) Ψ := e_unf rfl
theorem mL8 : e_mL 8 = 1 := by decide +kernel
theorem rt8 : e_rt 8 = (some .int) := by decide +kernel
/-- HoldHouse$Deal.goesAheadOf(LHoldHouse$Deal;I)Z -/
abbrev b9_0 : List e_En := [(0, .aload_n 0, 1, []), (1, .iload_n 2, 1, []), (2, .invokevirtual 47, 3, []), (5, .istore_n 3, 1, []), (6, .aload_n 1, 1, []), (7, .iload_n 2, 1, []), (8, .invokevirtual 47, 3, []), (11, .istore 4, 2, []), (13, .iload_n 3, 1, []), (14, .iload 4, 2, []), (16, .if_icmp .lt 20, 3, [36]), (19, .iload_n 3, 1, []), (20, .iload 4, 2, []), (22, .if_icmp .ne 18, 3, [40]), (25, .aload_n 0, 1, []), (26, .getfield 29, 3, []), (29, .aload_n 1, 1, []), (30, .getfield 29, 3, []), (33, .if_icmp .le 7, 3, [40])]
abbrev b9_36 : List e_En := [(36, .iconst 1, 1, []), (37, .goto 4, 3, [41])]
abbrev b9_40 : List e_En := [(40, .iconst 0, 1, [])]
abbrev b9_41 : List e_En := [(41, .ireturn, 1, [])]
def cd9 : e_Cd := [(0, b9_0, 36), (36, b9_36, 0), (40, b9_40, 41), (41, b9_41, 0)]
set_option maxRecDepth 20000 in
theorem ok9 : e_chk 9 2 cd9 = true := by decide +kernel
theorem u9_0 {g : e_G} {Ψ : e_Q} {lv : e_Lv} {st : List Value} {h : e_Hp} : e_Sm g 9 2 cd9 Ψ 0 lv st h = e_exec g 9 2 [(0, .aload_n 0, 1, []), (1, .iload_n 2, 1, []), (2, .invokevirtual 47, 3, []), (5, .istore_n 3, 1, []), (6, .aload_n 1, 1, []), (7, .iload_n 2, 1, []), (8, .invokevirtual 47, 3, []), (11, .istore 4, 2, []), (13, .iload_n 3, 1, []), (14, .iload 4, 2, []), (16, .if_icmp .lt 20, 3, [36]), (19, .iload_n 3, 1, []), (20, .iload 4, 2, []), (22, .if_icmp .ne 18, 3, [40]), (25, .aload_n 0, 1, []), (26, .getfield 29, 3, []), (29, .aload_n 1, 1, []), (30, .getfield 29, 3, []), (33, .if_icmp .le 7, 3, [40])] 36 lv st h (e_Sm g 9 2 cd9 Ψ) Ψ := e_unf rfl
theorem u9_36 {g : e_G} {Ψ : e_Q} {lv : e_Lv} {st : List Value} {h : e_Hp} : e_Sm g 9 2 cd9 Ψ 36 lv st h = e_exec g 9 2 [(36, .iconst 1, 1, []), (37, .goto 4, 3, [41])] 0 lv st h (e_Sm g 9 2 cd9 Ψ) Ψ := e_unf rfl
theorem u9_40 {g : e_G} {Ψ : e_Q} {lv : e_Lv} {st : List Value} {h : e_Hp} : e_Sm g 9 2 cd9 Ψ 40 lv st h = e_exec g 9 2 [(40, .iconst 0, 1, [])] 41 lv st h (e_Sm g 9 2 cd9 Ψ) Ψ := e_unf rfl
theorem u9_41 {g : e_G} {Ψ : e_Q} {lv : e_Lv} {st : List Value} {h : e_Hp} : e_Sm g 9 2 cd9 Ψ 41 lv st h = e_exec g 9 2 [(41, .ireturn, 1, [])] 0 lv st h (e_Sm g 9 2 cd9 Ψ) Ψ := e_unf rfl
theorem mL9 : e_mL 9 = 5 := by decide +kernel
theorem rt9 : e_rt 9 = (some .boolean) := by decide +kernel
/-- HoldHouse$Deal.keyBy(I)I -/
abbrev b10_0 : List e_En := [(0, .iload_n 1, 1, []), (1, .tableswitch 42 1 3 #[27, 32, 37], 27, [43, 28, 33, 38])]
abbrev b10_28 : List e_En := [(28, .aload_n 0, 1, []), (29, .getfield 41, 3, []), (32, .ireturn, 1, [])]
abbrev b10_33 : List e_En := [(33, .aload_n 0, 1, []), (34, .getfield 32, 3, []), (37, .ireturn, 1, [])]
abbrev b10_38 : List e_En := [(38, .aload_n 0, 1, []), (39, .getfield 35, 3, []), (42, .ireturn, 1, [])]
abbrev b10_43 : List e_En := [(43, .iconst 0, 1, []), (44, .ireturn, 1, [])]
def cd10 : e_Cd := [(0, b10_0, 0), (28, b10_28, 0), (33, b10_33, 0), (38, b10_38, 0), (43, b10_43, 0)]
set_option maxRecDepth 20000 in
theorem ok10 : e_chk 10 2 cd10 = true := by decide +kernel
theorem u10_0 {g : e_G} {Ψ : e_Q} {lv : e_Lv} {st : List Value} {h : e_Hp} : e_Sm g 10 2 cd10 Ψ 0 lv st h = e_exec g 10 2 [(0, .iload_n 1, 1, []), (1, .tableswitch 42 1 3 #[27, 32, 37], 27, [43, 28, 33, 38])] 0 lv st h (e_Sm g 10 2 cd10 Ψ) Ψ := e_unf rfl
theorem u10_28 {g : e_G} {Ψ : e_Q} {lv : e_Lv} {st : List Value} {h : e_Hp} : e_Sm g 10 2 cd10 Ψ 28 lv st h = e_exec g 10 2 [(28, .aload_n 0, 1, []), (29, .getfield 41, 3, []), (32, .ireturn, 1, [])] 0 lv st h (e_Sm g 10 2 cd10 Ψ) Ψ := e_unf rfl
theorem u10_33 {g : e_G} {Ψ : e_Q} {lv : e_Lv} {st : List Value} {h : e_Hp} : e_Sm g 10 2 cd10 Ψ 33 lv st h = e_exec g 10 2 [(33, .aload_n 0, 1, []), (34, .getfield 32, 3, []), (37, .ireturn, 1, [])] 0 lv st h (e_Sm g 10 2 cd10 Ψ) Ψ := e_unf rfl
theorem u10_38 {g : e_G} {Ψ : e_Q} {lv : e_Lv} {st : List Value} {h : e_Hp} : e_Sm g 10 2 cd10 Ψ 38 lv st h = e_exec g 10 2 [(38, .aload_n 0, 1, []), (39, .getfield 35, 3, []), (42, .ireturn, 1, [])] 0 lv st h (e_Sm g 10 2 cd10 Ψ) Ψ := e_unf rfl
theorem u10_43 {g : e_G} {Ψ : e_Q} {lv : e_Lv} {st : List Value} {h : e_Hp} : e_Sm g 10 2 cd10 Ψ 43 lv st h = e_exec g 10 2 [(43, .iconst 0, 1, []), (44, .ireturn, 1, [])] 0 lv st h (e_Sm g 10 2 cd10 Ψ) Ψ := e_unf rfl
theorem mL10 : e_mL 10 = 2 := by decide +kernel
theorem rt10 : e_rt 10 = (some .int) := by decide +kernel
/-- HoldHouse$Lock.<init>(LHoldHouse$Deal;IIII)V -/
abbrev b11_0 : List e_En := [(0, .aload_n 0, 1, []), (1, .invokespecial 3, 3, []), (4, .aload_n 0, 1, []), (5, .aload_n 1, 1, []), (6, .putfield 9, 3, []), (9, .aload_n 0, 1, []), (10, .iload_n 2, 1, []), (11, .putfield 15, 3, []), (14, .aload_n 0, 1, []), (15, .iload_n 3, 1, []), (16, .putfield 19, 3, []), (19, .aload_n 0, 1, []), (20, .iload 4, 2, []), (22, .putfield 22, 3, []), (25, .aload_n 0, 1, []), (26, .iload 5, 2, []), (28, .putfield 25, 3, []), (31, .aload_n 0, 1, []), (32, .aload_n 1, 1, []), (33, .getfield 28, 3, []), (36, .putfield 33, 3, []), (39, .aload_n 0, 1, []), (40, .aload_n 1, 1, []), (41, .getfield 34, 3, []), (44, .putfield 37, 3, []), (47, .return_, 1, [])]
def cd11 : e_Cd := [(0, b11_0, 0)]
set_option maxRecDepth 20000 in
theorem ok11 : e_chk 11 3 cd11 = true := by decide +kernel
theorem u11_0 {g : e_G} {Ψ : e_Q} {lv : e_Lv} {st : List Value} {h : e_Hp} : e_Sm g 11 3 cd11 Ψ 0 lv st h = e_exec g 11 3 [(0, .aload_n 0, 1, []), (1, .invokespecial 3, 3, []), (4, .aload_n 0, 1, []), (5, .aload_n 1, 1, []), (6, .putfield 9, 3, []), (9, .aload_n 0, 1, []), (10, .iload_n 2, 1, []), (11, .putfield 15, 3, []), (14, .aload_n 0, 1, []), (15, .iload_n 3, 1, []), (16, .putfield 19, 3, []), (19, .aload_n 0, 1, []), (20, .iload 4, 2, []), (22, .putfield 22, 3, []), (25, .aload_n 0, 1, []), (26, .iload 5, 2, []), (28, .putfield 25, 3, []), (31, .aload_n 0, 1, []), (32, .aload_n 1, 1, []), (33, .getfield 28, 3, []), (36, .putfield 33, 3, []), (39, .aload_n 0, 1, []), (40, .aload_n 1, 1, []), (41, .getfield 34, 3, []), (44, .putfield 37, 3, []), (47, .return_, 1, [])] 0 lv st h (e_Sm g 11 3 cd11 Ψ) Ψ := e_unf rfl
theorem mL11 : e_mL 11 = 6 := by decide +kernel
/-- HoldHouse$Lock.sameAs(LHoldHouse$Lock;)Z -/
abbrev b12_0 : List e_En := [(0, .aload_n 0, 1, []), (1, .getfield 9, 3, []), (4, .aload_n 1, 1, []), (5, .getfield 9, 3, []), (8, .if_acmp .ne 40, 3, [48]), (11, .aload_n 0, 1, []), (12, .getfield 19, 3, []), (15, .aload_n 1, 1, []), (16, .getfield 19, 3, []), (19, .if_icmp .ne 29, 3, [48]), (22, .aload_n 0, 1, []), (23, .getfield 22, 3, []), (26, .aload_n 1, 1, []), (27, .getfield 22, 3, []), (30, .if_icmp .ne 18, 3, [48]), (33, .aload_n 0, 1, []), (34, .getfield 25, 3, []), (37, .aload_n 1, 1, []), (38, .getfield 25, 3, []), (41, .if_icmp .ne 7, 3, [48]), (44, .iconst 1, 1, []), (45, .goto 4, 3, [49])]
abbrev b12_48 : List e_En := [(48, .iconst 0, 1, [])]
abbrev b12_49 : List e_En := [(49, .ireturn, 1, [])]
def cd12 : e_Cd := [(0, b12_0, 0), (48, b12_48, 49), (49, b12_49, 0)]
set_option maxRecDepth 20000 in
theorem ok12 : e_chk 12 3 cd12 = true := by decide +kernel
theorem u12_0 {g : e_G} {Ψ : e_Q} {lv : e_Lv} {st : List Value} {h : e_Hp} : e_Sm g 12 3 cd12 Ψ 0 lv st h = e_exec g 12 3 [(0, .aload_n 0, 1, []), (1, .getfield 9, 3, []), (4, .aload_n 1, 1, []), (5, .getfield 9, 3, []), (8, .if_acmp .ne 40, 3, [48]), (11, .aload_n 0, 1, []), (12, .getfield 19, 3, []), (15, .aload_n 1, 1, []), (16, .getfield 19, 3, []), (19, .if_icmp .ne 29, 3, [48]), (22, .aload_n 0, 1, []), (23, .getfield 22, 3, []), (26, .aload_n 1, 1, []), (27, .getfield 22, 3, []), (30, .if_icmp .ne 18, 3, [48]), (33, .aload_n 0, 1, []), (34, .getfield 25, 3, []), (37, .aload_n 1, 1, []), (38, .getfield 25, 3, []), (41, .if_icmp .ne 7, 3, [48]), (44, .iconst 1, 1, []), (45, .goto 4, 3, [49])] 0 lv st h (e_Sm g 12 3 cd12 Ψ) Ψ := e_unf rfl
theorem u12_48 {g : e_G} {Ψ : e_Q} {lv : e_Lv} {st : List Value} {h : e_Hp} : e_Sm g 12 3 cd12 Ψ 48 lv st h = e_exec g 12 3 [(48, .iconst 0, 1, [])] 49 lv st h (e_Sm g 12 3 cd12 Ψ) Ψ := e_unf rfl
theorem u12_49 {g : e_G} {Ψ : e_Q} {lv : e_Lv} {st : List Value} {h : e_Hp} : e_Sm g 12 3 cd12 Ψ 49 lv st h = e_exec g 12 3 [(49, .ireturn, 1, [])] 0 lv st h (e_Sm g 12 3 cd12 Ψ) Ψ := e_unf rfl
theorem mL12 : e_mL 12 = 2 := by decide +kernel
theorem rt12 : e_rt 12 = (some .boolean) := by decide +kernel
/-- HoldHouse$Lock.conflicts(LHoldHouse$Lock;I)Z -/
abbrev b13_0 : List e_En := [(0, .aload_n 0, 1, []), (1, .getfield 9, 3, []), (4, .aload_n 1, 1, []), (5, .getfield 9, 3, []), (8, .if_acmp .ne 5, 3, [13]), (11, .iconst 0, 1, []), (12, .ireturn, 1, [])]
abbrev b13_13 : List e_En := [(13, .aload_n 0, 1, []), (14, .getfield 19, 3, []), (17, .iconst 3, 1, []), (18, .if_icmp .eq 11, 3, [29]), (21, .aload_n 1, 1, []), (22, .getfield 19, 3, []), (25, .iconst 3, 1, []), (26, .if_icmp .ne 5, 3, [31])]
abbrev b13_29 : List e_En := [(29, .iconst 1, 1, []), (30, .ireturn, 1, [])]
abbrev b13_31 : List e_En := [(31, .aload_n 0, 1, []), (32, .getfield 19, 3, []), (35, .iconst 4, 1, []), (36, .if_icmp .ne 40, 3, [76]), (39, .aload_n 1, 1, []), (40, .getfield 19, 3, []), (43, .iconst 4, 1, []), (44, .if_icmp .ne 32, 3, [76]), (47, .iload_n 2, 1, []), (48, .aload_n 0, 1, []), (49, .getfield 22, 3, []), (52, .aload_n 0, 1, []), (53, .getfield 25, 3, []), (56, .aload_n 1, 1, []), (57, .getfield 22, 3, []), (60, .aload_n 1, 1, []), (61, .getfield 25, 3, []), (64, .invokestatic 38, 3, []), (67, .ifCond .ne 7, 3, [74]), (70, .iconst 1, 1, []), (71, .goto 4, 3, [75])]
abbrev b13_74 : List e_En := [(74, .iconst 0, 1, [])]
abbrev b13_75 : List e_En := [(75, .ireturn, 1, [])]
abbrev b13_76 : List e_En := [(76, .aload_n 0, 1, []), (77, .getfield 19, 3, []), (80, .iconst 2, 1, []), (81, .if_icmp .ne 10, 3, [91]), (84, .aload_n 1, 1, []), (85, .invokevirtual 42, 3, []), (88, .ifCond .ne 18, 3, [106])]
abbrev b13_91 : List e_En := [(91, .aload_n 1, 1, []), (92, .getfield 19, 3, []), (95, .iconst 2, 1, []), (96, .if_icmp .ne 14, 3, [110]), (99, .aload_n 0, 1, []), (100, .invokevirtual 42, 3, []), (103, .ifCond .eq 7, 3, [110])]
abbrev b13_106 : List e_En := [(106, .iconst 1, 1, []), (107, .goto 4, 3, [111])]
abbrev b13_110 : List e_En := [(110, .iconst 0, 1, [])]
abbrev b13_111 : List e_En := [(111, .ireturn, 1, [])]
def cd13 : e_Cd := [(0, b13_0, 0), (13, b13_13, 29), (29, b13_29, 0), (31, b13_31, 0), (74, b13_74, 75), (75, b13_75, 0), (76, b13_76, 91), (91, b13_91, 106), (106, b13_106, 0), (110, b13_110, 111), (111, b13_111, 0)]
set_option maxRecDepth 20000 in
theorem ok13 : e_chk 13 3 cd13 = true := by decide +kernel
theorem u13_0 {g : e_G} {Ψ : e_Q} {lv : e_Lv} {st : List Value} {h : e_Hp} : e_Sm g 13 3 cd13 Ψ 0 lv st h = e_exec g 13 3 [(0, .aload_n 0, 1, []), (1, .getfield 9, 3, []), (4, .aload_n 1, 1, []), (5, .getfield 9, 3, []), (8, .if_acmp .ne 5, 3, [13]), (11, .iconst 0, 1, []), (12, .ireturn, 1, [])] 0 lv st h (e_Sm g 13 3 cd13 Ψ) Ψ := e_unf rfl
theorem u13_13 {g : e_G} {Ψ : e_Q} {lv : e_Lv} {st : List Value} {h : e_Hp} : e_Sm g 13 3 cd13 Ψ 13 lv st h = e_exec g 13 3 [(13, .aload_n 0, 1, []), (14, .getfield 19, 3, []), (17, .iconst 3, 1, []), (18, .if_icmp .eq 11, 3, [29]), (21, .aload_n 1, 1, []), (22, .getfield 19, 3, []), (25, .iconst 3, 1, []), (26, .if_icmp .ne 5, 3, [31])] 29 lv st h (e_Sm g 13 3 cd13 Ψ) Ψ := e_unf rfl
theorem u13_29 {g : e_G} {Ψ : e_Q} {lv : e_Lv} {st : List Value} {h : e_Hp} : e_Sm g 13 3 cd13 Ψ 29 lv st h = e_exec g 13 3 [(29, .iconst 1, 1, []), (30, .ireturn, 1, [])] 0 lv st h (e_Sm g 13 3 cd13 Ψ) Ψ := e_unf rfl
theorem u13_31 {g : e_G} {Ψ : e_Q} {lv : e_Lv} {st : List Value} {h : e_Hp} : e_Sm g 13 3 cd13 Ψ 31 lv st h = e_exec g 13 3 [(31, .aload_n 0, 1, []), (32, .getfield 19, 3, []), (35, .iconst 4, 1, []), (36, .if_icmp .ne 40, 3, [76]), (39, .aload_n 1, 1, []), (40, .getfield 19, 3, []), (43, .iconst 4, 1, []), (44, .if_icmp .ne 32, 3, [76]), (47, .iload_n 2, 1, []), (48, .aload_n 0, 1, []), (49, .getfield 22, 3, []), (52, .aload_n 0, 1, []), (53, .getfield 25, 3, []), (56, .aload_n 1, 1, []), (57, .getfield 22, 3, []), (60, .aload_n 1, 1, []), (61, .getfield 25, 3, []), (64, .invokestatic 38, 3, []), (67, .ifCond .ne 7, 3, [74]), (70, .iconst 1, 1, []), (71, .goto 4, 3, [75])] 0 lv st h (e_Sm g 13 3 cd13 Ψ) Ψ := e_unf rfl
theorem u13_74 {g : e_G} {Ψ : e_Q} {lv : e_Lv} {st : List Value} {h : e_Hp} : e_Sm g 13 3 cd13 Ψ 74 lv st h = e_exec g 13 3 [(74, .iconst 0, 1, [])] 75 lv st h (e_Sm g 13 3 cd13 Ψ) Ψ := e_unf rfl
theorem u13_75 {g : e_G} {Ψ : e_Q} {lv : e_Lv} {st : List Value} {h : e_Hp} : e_Sm g 13 3 cd13 Ψ 75 lv st h = e_exec g 13 3 [(75, .ireturn, 1, [])] 0 lv st h (e_Sm g 13 3 cd13 Ψ) Ψ := e_unf rfl
theorem u13_76 {g : e_G} {Ψ : e_Q} {lv : e_Lv} {st : List Value} {h : e_Hp} : e_Sm g 13 3 cd13 Ψ 76 lv st h = e_exec g 13 3 [(76, .aload_n 0, 1, []), (77, .getfield 19, 3, []), (80, .iconst 2, 1, []), (81, .if_icmp .ne 10, 3, [91]), (84, .aload_n 1, 1, []), (85, .invokevirtual 42, 3, []), (88, .ifCond .ne 18, 3, [106])] 91 lv st h (e_Sm g 13 3 cd13 Ψ) Ψ := e_unf rfl
theorem u13_91 {g : e_G} {Ψ : e_Q} {lv : e_Lv} {st : List Value} {h : e_Hp} : e_Sm g 13 3 cd13 Ψ 91 lv st h = e_exec g 13 3 [(91, .aload_n 1, 1, []), (92, .getfield 19, 3, []), (95, .iconst 2, 1, []), (96, .if_icmp .ne 14, 3, [110]), (99, .aload_n 0, 1, []), (100, .invokevirtual 42, 3, []), (103, .ifCond .eq 7, 3, [110])] 106 lv st h (e_Sm g 13 3 cd13 Ψ) Ψ := e_unf rfl
theorem u13_106 {g : e_G} {Ψ : e_Q} {lv : e_Lv} {st : List Value} {h : e_Hp} : e_Sm g 13 3 cd13 Ψ 106 lv st h = e_exec g 13 3 [(106, .iconst 1, 1, []), (107, .goto 4, 3, [111])] 0 lv st h (e_Sm g 13 3 cd13 Ψ) Ψ := e_unf rfl
theorem u13_110 {g : e_G} {Ψ : e_Q} {lv : e_Lv} {st : List Value} {h : e_Hp} : e_Sm g 13 3 cd13 Ψ 110 lv st h = e_exec g 13 3 [(110, .iconst 0, 1, [])] 111 lv st h (e_Sm g 13 3 cd13 Ψ) Ψ := e_unf rfl
theorem u13_111 {g : e_G} {Ψ : e_Q} {lv : e_Lv} {st : List Value} {h : e_Hp} : e_Sm g 13 3 cd13 Ψ 111 lv st h = e_exec g 13 3 [(111, .ireturn, 1, [])] 0 lv st h (e_Sm g 13 3 cd13 Ψ) Ψ := e_unf rfl
theorem mL13 : e_mL 13 = 3 := by decide +kernel
theorem rt13 : e_rt 13 = (some .boolean) := by decide +kernel
/-- HoldHouse$Lock.hindersS()Z -/
abbrev b14_0 : List e_En := [(0, .aload_n 0, 1, []), (1, .getfield 19, 3, []), (4, .iconst 1, 1, []), (5, .if_icmp .eq 25, 3, [30]), (8, .aload_n 0, 1, []), (9, .getfield 19, 3, []), (12, .iconst 4, 1, []), (13, .if_icmp .ne 21, 3, [34]), (16, .aload_n 0, 1, []), (17, .getfield 22, 3, []), (20, .aload_n 0, 1, []), (21, .getfield 25, 3, []), (24, .invokestatic 46, 3, []), (27, .ifCond .ne 7, 3, [34])]
abbrev b14_30 : List e_En := [(30, .iconst 1, 1, []), (31, .goto 4, 3, [35])]
abbrev b14_34 : List e_En := [(34, .iconst 0, 1, [])]
abbrev b14_35 : List e_En := [(35, .ireturn, 1, [])]
def cd14 : e_Cd := [(0, b14_0, 30), (30, b14_30, 0), (34, b14_34, 35), (35, b14_35, 0)]
set_option maxRecDepth 20000 in
theorem ok14 : e_chk 14 3 cd14 = true := by decide +kernel
theorem u14_0 {g : e_G} {Ψ : e_Q} {lv : e_Lv} {st : List Value} {h : e_Hp} : e_Sm g 14 3 cd14 Ψ 0 lv st h = e_exec g 14 3 [(0, .aload_n 0, 1, []), (1, .getfield 19, 3, []), (4, .iconst 1, 1, []), (5, .if_icmp .eq 25, 3, [30]), (8, .aload_n 0, 1, []), (9, .getfield 19, 3, []), (12, .iconst 4, 1, []), (13, .if_icmp .ne 21, 3, [34]), (16, .aload_n 0, 1, []), (17, .getfield 22, 3, []), (20, .aload_n 0, 1, []), (21, .getfield 25, 3, []), (24, .invokestatic 46, 3, []), (27, .ifCond .ne 7, 3, [34])] 30 lv st h (e_Sm g 14 3 cd14 Ψ) Ψ := e_unf rfl
theorem u14_30 {g : e_G} {Ψ : e_Q} {lv : e_Lv} {st : List Value} {h : e_Hp} : e_Sm g 14 3 cd14 Ψ 30 lv st h = e_exec g 14 3 [(30, .iconst 1, 1, []), (31, .goto 4, 3, [35])] 0 lv st h (e_Sm g 14 3 cd14 Ψ) Ψ := e_unf rfl
theorem u14_34 {g : e_G} {Ψ : e_Q} {lv : e_Lv} {st : List Value} {h : e_Hp} : e_Sm g 14 3 cd14 Ψ 34 lv st h = e_exec g 14 3 [(34, .iconst 0, 1, [])] 35 lv st h (e_Sm g 14 3 cd14 Ψ) Ψ := e_unf rfl
theorem u14_35 {g : e_G} {Ψ : e_Q} {lv : e_Lv} {st : List Value} {h : e_Hp} : e_Sm g 14 3 cd14 Ψ 35 lv st h = e_exec g 14 3 [(35, .ireturn, 1, [])] 0 lv st h (e_Sm g 14 3 cd14 Ψ) Ψ := e_unf rfl
theorem mL14 : e_mL 14 = 1 := by decide +kernel
theorem rt14 : e_rt 14 = (some .boolean) := by decide +kernel
/-- HoldHouse$Lock.tell(I)I -/
abbrev b15_0 : List e_En := [(0, .iload_n 1, 1, []), (1, .tableswitch 45 0 2 #[27, 35, 40], 27, [46, 28, 36, 41])]
abbrev b15_28 : List e_En := [(28, .aload_n 0, 1, []), (29, .getfield 9, 3, []), (32, .getfield 50, 3, []), (35, .ireturn, 1, [])]
abbrev b15_36 : List e_En := [(36, .aload_n 0, 1, []), (37, .getfield 19, 3, []), (40, .ireturn, 1, [])]
abbrev b15_41 : List e_En := [(41, .aload_n 0, 1, []), (42, .getfield 22, 3, []), (45, .ireturn, 1, [])]
abbrev b15_46 : List e_En := [(46, .aload_n 0, 1, []), (47, .getfield 25, 3, []), (50, .ireturn, 1, [])]
def cd15 : e_Cd := [(0, b15_0, 0), (28, b15_28, 0), (36, b15_36, 0), (41, b15_41, 0), (46, b15_46, 0)]
set_option maxRecDepth 20000 in
theorem ok15 : e_chk 15 3 cd15 = true := by decide +kernel
theorem u15_0 {g : e_G} {Ψ : e_Q} {lv : e_Lv} {st : List Value} {h : e_Hp} : e_Sm g 15 3 cd15 Ψ 0 lv st h = e_exec g 15 3 [(0, .iload_n 1, 1, []), (1, .tableswitch 45 0 2 #[27, 35, 40], 27, [46, 28, 36, 41])] 0 lv st h (e_Sm g 15 3 cd15 Ψ) Ψ := e_unf rfl
theorem u15_28 {g : e_G} {Ψ : e_Q} {lv : e_Lv} {st : List Value} {h : e_Hp} : e_Sm g 15 3 cd15 Ψ 28 lv st h = e_exec g 15 3 [(28, .aload_n 0, 1, []), (29, .getfield 9, 3, []), (32, .getfield 50, 3, []), (35, .ireturn, 1, [])] 0 lv st h (e_Sm g 15 3 cd15 Ψ) Ψ := e_unf rfl
theorem u15_36 {g : e_G} {Ψ : e_Q} {lv : e_Lv} {st : List Value} {h : e_Hp} : e_Sm g 15 3 cd15 Ψ 36 lv st h = e_exec g 15 3 [(36, .aload_n 0, 1, []), (37, .getfield 19, 3, []), (40, .ireturn, 1, [])] 0 lv st h (e_Sm g 15 3 cd15 Ψ) Ψ := e_unf rfl
theorem u15_41 {g : e_G} {Ψ : e_Q} {lv : e_Lv} {st : List Value} {h : e_Hp} : e_Sm g 15 3 cd15 Ψ 41 lv st h = e_exec g 15 3 [(41, .aload_n 0, 1, []), (42, .getfield 22, 3, []), (45, .ireturn, 1, [])] 0 lv st h (e_Sm g 15 3 cd15 Ψ) Ψ := e_unf rfl
theorem u15_46 {g : e_G} {Ψ : e_Q} {lv : e_Lv} {st : List Value} {h : e_Hp} : e_Sm g 15 3 cd15 Ψ 46 lv st h = e_exec g 15 3 [(46, .aload_n 0, 1, []), (47, .getfield 25, 3, []), (50, .ireturn, 1, [])] 0 lv st h (e_Sm g 15 3 cd15 Ψ) Ψ := e_unf rfl
theorem mL15 : e_mL 15 = 2 := by decide +kernel
theorem rt15 : e_rt 15 = (some .int) := by decide +kernel
/-- HoldHouse$Log.<init>()V -/
abbrev b16_0 : List e_En := [(0, .aload_n 0, 1, []), (1, .invokespecial 1, 3, []), (4, .aload_n 0, 1, []), (5, .new 7, 3, []), (8, .dup, 1, []), (9, .invokespecial 9, 3, []), (12, .putfield 10, 3, []), (15, .aload_n 0, 1, []), (16, .iconst 1, 1, []), (17, .putfield 16, 3, []), (20, .return_, 1, [])]
def cd16 : e_Cd := [(0, b16_0, 0)]
set_option maxRecDepth 20000 in
theorem ok16 : e_chk 16 4 cd16 = true := by decide +kernel
theorem u16_0 {g : e_G} {Ψ : e_Q} {lv : e_Lv} {st : List Value} {h : e_Hp} : e_Sm g 16 4 cd16 Ψ 0 lv st h = e_exec g 16 4 [(0, .aload_n 0, 1, []), (1, .invokespecial 1, 3, []), (4, .aload_n 0, 1, []), (5, .new 7, 3, []), (8, .dup, 1, []), (9, .invokespecial 9, 3, []), (12, .putfield 10, 3, []), (15, .aload_n 0, 1, []), (16, .iconst 1, 1, []), (17, .putfield 16, 3, []), (20, .return_, 1, [])] 0 lv st h (e_Sm g 16 4 cd16 Ψ) Ψ := e_unf rfl
theorem mL16 : e_mL 16 = 1 := by decide +kernel
/-- HoldHouse$Log.size()I -/
abbrev b17_0 : List e_En := [(0, .aload_n 0, 1, []), (1, .getfield 10, 3, []), (4, .invokevirtual 20, 3, []), (7, .ireturn, 1, [])]
def cd17 : e_Cd := [(0, b17_0, 0)]
set_option maxRecDepth 20000 in
theorem ok17 : e_chk 17 4 cd17 = true := by decide +kernel
theorem u17_0 {g : e_G} {Ψ : e_Q} {lv : e_Lv} {st : List Value} {h : e_Hp} : e_Sm g 17 4 cd17 Ψ 0 lv st h = e_exec g 17 4 [(0, .aload_n 0, 1, []), (1, .getfield 10, 3, []), (4, .invokevirtual 20, 3, []), (7, .ireturn, 1, [])] 0 lv st h (e_Sm g 17 4 cd17 Ψ) Ψ := e_unf rfl
theorem mL17 : e_mL 17 = 1 := by decide +kernel
theorem rt17 : e_rt 17 = (some .int) := by decide +kernel
/-- HoldHouse$Log.at(I)LHoldHouse$Row; -/
abbrev b18_0 : List e_En := [(0, .iload_n 1, 1, []), (1, .ifCond .lt 14, 3, [15]), (4, .iload_n 1, 1, []), (5, .aload_n 0, 1, []), (6, .getfield 10, 3, []), (9, .invokevirtual 20, 3, []), (12, .if_icmp .lt 7, 3, [19])]
abbrev b18_15 : List e_En := [(15, .aconst_null, 1, []), (16, .goto 14, 3, [30])]
abbrev b18_19 : List e_En := [(19, .aload_n 0, 1, []), (20, .getfield 10, 3, []), (23, .iload_n 1, 1, []), (24, .invokevirtual 24, 3, []), (27, .checkcast 28, 3, [])]
abbrev b18_30 : List e_En := [(30, .areturn, 1, [])]
def cd18 : e_Cd := [(0, b18_0, 15), (15, b18_15, 0), (19, b18_19, 30), (30, b18_30, 0)]
set_option maxRecDepth 20000 in
theorem ok18 : e_chk 18 4 cd18 = true := by decide +kernel
theorem u18_0 {g : e_G} {Ψ : e_Q} {lv : e_Lv} {st : List Value} {h : e_Hp} : e_Sm g 18 4 cd18 Ψ 0 lv st h = e_exec g 18 4 [(0, .iload_n 1, 1, []), (1, .ifCond .lt 14, 3, [15]), (4, .iload_n 1, 1, []), (5, .aload_n 0, 1, []), (6, .getfield 10, 3, []), (9, .invokevirtual 20, 3, []), (12, .if_icmp .lt 7, 3, [19])] 15 lv st h (e_Sm g 18 4 cd18 Ψ) Ψ := e_unf rfl
theorem u18_15 {g : e_G} {Ψ : e_Q} {lv : e_Lv} {st : List Value} {h : e_Hp} : e_Sm g 18 4 cd18 Ψ 15 lv st h = e_exec g 18 4 [(15, .aconst_null, 1, []), (16, .goto 14, 3, [30])] 0 lv st h (e_Sm g 18 4 cd18 Ψ) Ψ := e_unf rfl
theorem u18_19 {g : e_G} {Ψ : e_Q} {lv : e_Lv} {st : List Value} {h : e_Hp} : e_Sm g 18 4 cd18 Ψ 19 lv st h = e_exec g 18 4 [(19, .aload_n 0, 1, []), (20, .getfield 10, 3, []), (23, .iload_n 1, 1, []), (24, .invokevirtual 24, 3, []), (27, .checkcast 28, 3, [])] 30 lv st h (e_Sm g 18 4 cd18 Ψ) Ψ := e_unf rfl
theorem u18_30 {g : e_G} {Ψ : e_Q} {lv : e_Lv} {st : List Value} {h : e_Hp} : e_Sm g 18 4 cd18 Ψ 30 lv st h = e_exec g 18 4 [(30, .areturn, 1, [])] 0 lv st h (e_Sm g 18 4 cd18 Ψ) Ψ := e_unf rfl
theorem mL18 : e_mL 18 = 2 := by decide +kernel
/-- HoldHouse$Log.append(LHoldHouse$Row;)V -/
abbrev b19_0 : List e_En := [(0, .aload_n 0, 1, []), (1, .getfield 10, 3, []), (4, .aload_n 1, 1, []), (5, .invokevirtual 30, 3, []), (8, .pop, 1, []), (9, .return_, 1, [])]
def cd19 : e_Cd := [(0, b19_0, 0)]
set_option maxRecDepth 20000 in
theorem ok19 : e_chk 19 4 cd19 = true := by decide +kernel
theorem u19_0 {g : e_G} {Ψ : e_Q} {lv : e_Lv} {st : List Value} {h : e_Hp} : e_Sm g 19 4 cd19 Ψ 0 lv st h = e_exec g 19 4 [(0, .aload_n 0, 1, []), (1, .getfield 10, 3, []), (4, .aload_n 1, 1, []), (5, .invokevirtual 30, 3, []), (8, .pop, 1, []), (9, .return_, 1, [])] 0 lv st h (e_Sm g 19 4 cd19 Ψ) Ψ := e_unf rfl
theorem mL19 : e_mL 19 = 2 := by decide +kernel
/-- HoldHouse$Log.removeLast()V -/
abbrev b20_0 : List e_En := [(0, .aload_n 0, 1, []), (1, .getfield 10, 3, []), (4, .invokevirtual 34, 3, []), (7, .ifCond .ne 20, 3, [27]), (10, .aload_n 0, 1, []), (11, .getfield 10, 3, []), (14, .aload_n 0, 1, []), (15, .getfield 10, 3, []), (18, .invokevirtual 20, 3, []), (21, .iconst 1, 1, []), (22, .isub, 1, []), (23, .invokevirtual 38, 3, []), (26, .pop, 1, [])]
abbrev b20_27 : List e_En := [(27, .return_, 1, [])]
def cd20 : e_Cd := [(0, b20_0, 27), (27, b20_27, 0)]
set_option maxRecDepth 20000 in
theorem ok20 : e_chk 20 4 cd20 = true := by decide +kernel
theorem u20_0 {g : e_G} {Ψ : e_Q} {lv : e_Lv} {st : List Value} {h : e_Hp} : e_Sm g 20 4 cd20 Ψ 0 lv st h = e_exec g 20 4 [(0, .aload_n 0, 1, []), (1, .getfield 10, 3, []), (4, .invokevirtual 34, 3, []), (7, .ifCond .ne 20, 3, [27]), (10, .aload_n 0, 1, []), (11, .getfield 10, 3, []), (14, .aload_n 0, 1, []), (15, .getfield 10, 3, []), (18, .invokevirtual 20, 3, []), (21, .iconst 1, 1, []), (22, .isub, 1, []), (23, .invokevirtual 38, 3, []), (26, .pop, 1, [])] 27 lv st h (e_Sm g 20 4 cd20 Ψ) Ψ := e_unf rfl
theorem u20_27 {g : e_G} {Ψ : e_Q} {lv : e_Lv} {st : List Value} {h : e_Hp} : e_Sm g 20 4 cd20 Ψ 27 lv st h = e_exec g 20 4 [(27, .return_, 1, [])] 0 lv st h (e_Sm g 20 4 cd20 Ψ) Ψ := e_unf rfl
theorem mL20 : e_mL 20 = 1 := by decide +kernel
/-- HoldHouse$Log.forceAll()V -/
abbrev b21_0 : List e_En := [(0, .aload_n 0, 1, []), (1, .aload_n 0, 1, []), (2, .getfield 10, 3, []), (5, .invokevirtual 20, 3, []), (8, .putfield 41, 3, []), (11, .aload_n 0, 1, []), (12, .iconst 0, 1, []), (13, .putfield 44, 3, []), (16, .return_, 1, [])]
def cd21 : e_Cd := [(0, b21_0, 0)]
set_option maxRecDepth 20000 in
theorem ok21 : e_chk 21 4 cd21 = true := by decide +kernel
theorem u21_0 {g : e_G} {Ψ : e_Q} {lv : e_Lv} {st : List Value} {h : e_Hp} : e_Sm g 21 4 cd21 Ψ 0 lv st h = e_exec g 21 4 [(0, .aload_n 0, 1, []), (1, .aload_n 0, 1, []), (2, .getfield 10, 3, []), (5, .invokevirtual 20, 3, []), (8, .putfield 41, 3, []), (11, .aload_n 0, 1, []), (12, .iconst 0, 1, []), (13, .putfield 44, 3, []), (16, .return_, 1, [])] 0 lv st h (e_Sm g 21 4 cd21 Ψ) Ψ := e_unf rfl
theorem mL21 : e_mL 21 = 1 := by decide +kernel
/-- HoldHouse$Log.forceByGroup()V -/
abbrev b22_0 : List e_En := [(0, .aload_n 0, 1, []), (1, .dup, 1, []), (2, .getfield 44, 3, []), (5, .iconst 1, 1, []), (6, .iadd, 1, []), (7, .putfield 44, 3, []), (10, .aload_n 0, 1, []), (11, .getfield 44, 3, []), (14, .aload_n 0, 1, []), (15, .getfield 16, 3, []), (18, .if_icmp .lt 7, 3, [25]), (21, .aload_n 0, 1, []), (22, .invokevirtual 47, 3, [])]
abbrev b22_25 : List e_En := [(25, .return_, 1, [])]
def cd22 : e_Cd := [(0, b22_0, 25), (25, b22_25, 0)]
set_option maxRecDepth 20000 in
theorem ok22 : e_chk 22 4 cd22 = true := by decide +kernel
theorem u22_0 {g : e_G} {Ψ : e_Q} {lv : e_Lv} {st : List Value} {h : e_Hp} : e_Sm g 22 4 cd22 Ψ 0 lv st h = e_exec g 22 4 [(0, .aload_n 0, 1, []), (1, .dup, 1, []), (2, .getfield 44, 3, []), (5, .iconst 1, 1, []), (6, .iadd, 1, []), (7, .putfield 44, 3, []), (10, .aload_n 0, 1, []), (11, .getfield 44, 3, []), (14, .aload_n 0, 1, []), (15, .getfield 16, 3, []), (18, .if_icmp .lt 7, 3, [25]), (21, .aload_n 0, 1, []), (22, .invokevirtual 47, 3, [])] 25 lv st h (e_Sm g 22 4 cd22 Ψ) Ψ := e_unf rfl
theorem u22_25 {g : e_G} {Ψ : e_Q} {lv : e_Lv} {st : List Value} {h : e_Hp} : e_Sm g 22 4 cd22 Ψ 25 lv st h = e_exec g 22 4 [(25, .return_, 1, [])] 0 lv st h (e_Sm g 22 4 cd22 Ψ) Ψ := e_unf rfl
theorem mL22 : e_mL 22 = 1 := by decide +kernel
/-- HoldHouse$Report.<init>()V -/
abbrev b23_0 : List e_En := [(0, .aload_n 0, 1, []), (1, .invokespecial 3, 3, []), (4, .aload_n 0, 1, []), (5, .bipush 16, 2, []), (7, .newarray .int, 2, []), (9, .putfield 9, 3, []), (12, .return_, 1, [])]
def cd23 : e_Cd := [(0, b23_0, 0)]
set_option maxRecDepth 20000 in
theorem ok23 : e_chk 23 5 cd23 = true := by decide +kernel
theorem u23_0 {g : e_G} {Ψ : e_Q} {lv : e_Lv} {st : List Value} {h : e_Hp} : e_Sm g 23 5 cd23 Ψ 0 lv st h = e_exec g 23 5 [(0, .aload_n 0, 1, []), (1, .invokespecial 3, 3, []), (4, .aload_n 0, 1, []), (5, .bipush 16, 2, []), (7, .newarray .int, 2, []), (9, .putfield 9, 3, []), (12, .return_, 1, [])] 0 lv st h (e_Sm g 23 5 cd23 Ψ) Ψ := e_unf rfl
theorem mL23 : e_mL 23 = 1 := by decide +kernel
/-- HoldHouse$Report.clear()V -/
abbrev b24_0 : List e_En := [(0, .aload_n 0, 1, []), (1, .iconst 0, 1, []), (2, .putfield 15, 3, []), (5, .aload_n 0, 1, []), (6, .iconst 0, 1, []), (7, .putfield 19, 3, []), (10, .aload_n 0, 1, []), (11, .iconst 0, 1, []), (12, .putfield 22, 3, []), (15, .aload_n 0, 1, []), (16, .iconst 0, 1, []), (17, .putfield 25, 3, []), (20, .return_, 1, [])]
def cd24 : e_Cd := [(0, b24_0, 0)]
set_option maxRecDepth 20000 in
theorem ok24 : e_chk 24 5 cd24 = true := by decide +kernel
theorem u24_0 {g : e_G} {Ψ : e_Q} {lv : e_Lv} {st : List Value} {h : e_Hp} : e_Sm g 24 5 cd24 Ψ 0 lv st h = e_exec g 24 5 [(0, .aload_n 0, 1, []), (1, .iconst 0, 1, []), (2, .putfield 15, 3, []), (5, .aload_n 0, 1, []), (6, .iconst 0, 1, []), (7, .putfield 19, 3, []), (10, .aload_n 0, 1, []), (11, .iconst 0, 1, []), (12, .putfield 22, 3, []), (15, .aload_n 0, 1, []), (16, .iconst 0, 1, []), (17, .putfield 25, 3, []), (20, .return_, 1, [])] 0 lv st h (e_Sm g 24 5 cd24 Ψ) Ψ := e_unf rfl
theorem mL24 : e_mL 24 = 1 := by decide +kernel
/-- HoldHouse$Report.body(I)V -/
abbrev b25_0 : List e_En := [(0, .aload_n 0, 1, []), (1, .getfield 25, 3, []), (4, .ifCond .lt 35, 3, [39]), (7, .aload_n 0, 1, []), (8, .getfield 25, 3, []), (11, .aload_n 0, 1, []), (12, .getfield 9, 3, []), (15, .arraylength, 1, []), (16, .if_icmp .ge 23, 3, [39]), (19, .aload_n 0, 1, []), (20, .getfield 9, 3, []), (23, .aload_n 0, 1, []), (24, .getfield 25, 3, []), (27, .iload_n 1, 1, []), (28, .iastore, 1, []), (29, .aload_n 0, 1, []), (30, .dup, 1, []), (31, .getfield 25, 3, []), (34, .iconst 1, 1, []), (35, .iadd, 1, []), (36, .putfield 25, 3, [])]
abbrev b25_39 : List e_En := [(39, .return_, 1, [])]
def cd25 : e_Cd := [(0, b25_0, 39), (39, b25_39, 0)]
set_option maxRecDepth 20000 in
theorem ok25 : e_chk 25 5 cd25 = true := by decide +kernel
theorem u25_0 {g : e_G} {Ψ : e_Q} {lv : e_Lv} {st : List Value} {h : e_Hp} : e_Sm g 25 5 cd25 Ψ 0 lv st h = e_exec g 25 5 [(0, .aload_n 0, 1, []), (1, .getfield 25, 3, []), (4, .ifCond .lt 35, 3, [39]), (7, .aload_n 0, 1, []), (8, .getfield 25, 3, []), (11, .aload_n 0, 1, []), (12, .getfield 9, 3, []), (15, .arraylength, 1, []), (16, .if_icmp .ge 23, 3, [39]), (19, .aload_n 0, 1, []), (20, .getfield 9, 3, []), (23, .aload_n 0, 1, []), (24, .getfield 25, 3, []), (27, .iload_n 1, 1, []), (28, .iastore, 1, []), (29, .aload_n 0, 1, []), (30, .dup, 1, []), (31, .getfield 25, 3, []), (34, .iconst 1, 1, []), (35, .iadd, 1, []), (36, .putfield 25, 3, [])] 39 lv st h (e_Sm g 25 5 cd25 Ψ) Ψ := e_unf rfl
theorem u25_39 {g : e_G} {Ψ : e_Q} {lv : e_Lv} {st : List Value} {h : e_Hp} : e_Sm g 25 5 cd25 Ψ 39 lv st h = e_exec g 25 5 [(39, .return_, 1, [])] 0 lv st h (e_Sm g 25 5 cd25 Ψ) Ψ := e_unf rfl
theorem mL25 : e_mL 25 = 2 := by decide +kernel
/-- HoldHouse$Report.bodyAt(I)I -/
abbrev b26_0 : List e_En := [(0, .iload_n 1, 1, []), (1, .ifCond .lt 20, 3, [21]), (4, .iload_n 1, 1, []), (5, .aload_n 0, 1, []), (6, .getfield 25, 3, []), (9, .if_icmp .ge 12, 3, [21]), (12, .iload_n 1, 1, []), (13, .aload_n 0, 1, []), (14, .getfield 9, 3, []), (17, .arraylength, 1, []), (18, .if_icmp .lt 8, 3, [26])]
abbrev b26_21 : List e_En := [(21, .bipush (-9), 2, []), (23, .goto 9, 3, [32])]
abbrev b26_26 : List e_En := [(26, .aload_n 0, 1, []), (27, .getfield 9, 3, []), (30, .iload_n 1, 1, []), (31, .iaload, 1, [])]
abbrev b26_32 : List e_En := [(32, .ireturn, 1, [])]
def cd26 : e_Cd := [(0, b26_0, 21), (21, b26_21, 0), (26, b26_26, 32), (32, b26_32, 0)]
set_option maxRecDepth 20000 in
theorem ok26 : e_chk 26 5 cd26 = true := by decide +kernel
theorem u26_0 {g : e_G} {Ψ : e_Q} {lv : e_Lv} {st : List Value} {h : e_Hp} : e_Sm g 26 5 cd26 Ψ 0 lv st h = e_exec g 26 5 [(0, .iload_n 1, 1, []), (1, .ifCond .lt 20, 3, [21]), (4, .iload_n 1, 1, []), (5, .aload_n 0, 1, []), (6, .getfield 25, 3, []), (9, .if_icmp .ge 12, 3, [21]), (12, .iload_n 1, 1, []), (13, .aload_n 0, 1, []), (14, .getfield 9, 3, []), (17, .arraylength, 1, []), (18, .if_icmp .lt 8, 3, [26])] 21 lv st h (e_Sm g 26 5 cd26 Ψ) Ψ := e_unf rfl
theorem u26_21 {g : e_G} {Ψ : e_Q} {lv : e_Lv} {st : List Value} {h : e_Hp} : e_Sm g 26 5 cd26 Ψ 21 lv st h = e_exec g 26 5 [(21, .bipush (-9), 2, []), (23, .goto 9, 3, [32])] 0 lv st h (e_Sm g 26 5 cd26 Ψ) Ψ := e_unf rfl
theorem u26_26 {g : e_G} {Ψ : e_Q} {lv : e_Lv} {st : List Value} {h : e_Hp} : e_Sm g 26 5 cd26 Ψ 26 lv st h = e_exec g 26 5 [(26, .aload_n 0, 1, []), (27, .getfield 9, 3, []), (30, .iload_n 1, 1, []), (31, .iaload, 1, [])] 32 lv st h (e_Sm g 26 5 cd26 Ψ) Ψ := e_unf rfl
theorem u26_32 {g : e_G} {Ψ : e_Q} {lv : e_Lv} {st : List Value} {h : e_Hp} : e_Sm g 26 5 cd26 Ψ 32 lv st h = e_exec g 26 5 [(32, .ireturn, 1, [])] 0 lv st h (e_Sm g 26 5 cd26 Ψ) Ψ := e_unf rfl
theorem mL26 : e_mL 26 = 2 := by decide +kernel
theorem rt26 : e_rt 26 = (some .int) := by decide +kernel
/-- HoldHouse$Ring.<init>()V -/
abbrev b27_0 : List e_En := [(0, .aload_n 0, 1, []), (1, .invokespecial 3, 3, []), (4, .aload_n 0, 1, []), (5, .bipush 12, 2, []), (7, .newarray .int, 2, []), (9, .putfield 9, 3, []), (12, .aload_n 0, 1, []), (13, .bipush 12, 2, []), (15, .newarray .int, 2, []), (17, .putfield 15, 3, []), (20, .aload_n 0, 1, []), (21, .bipush 12, 2, []), (23, .newarray .int, 2, []), (25, .putfield 18, 3, []), (28, .aload_n 0, 1, []), (29, .bipush 12, 2, []), (31, .newarray .int, 2, []), (33, .putfield 21, 3, []), (36, .aload_n 0, 1, []), (37, .bipush 12, 2, []), (39, .newarray .int, 2, []), (41, .putfield 24, 3, []), (44, .aload_n 0, 1, []), (45, .bipush (-9), 2, []), (47, .putfield 27, 3, []), (50, .return_, 1, [])]
def cd27 : e_Cd := [(0, b27_0, 0)]
set_option maxRecDepth 20000 in
theorem ok27 : e_chk 27 6 cd27 = true := by decide +kernel
theorem u27_0 {g : e_G} {Ψ : e_Q} {lv : e_Lv} {st : List Value} {h : e_Hp} : e_Sm g 27 6 cd27 Ψ 0 lv st h = e_exec g 27 6 [(0, .aload_n 0, 1, []), (1, .invokespecial 3, 3, []), (4, .aload_n 0, 1, []), (5, .bipush 12, 2, []), (7, .newarray .int, 2, []), (9, .putfield 9, 3, []), (12, .aload_n 0, 1, []), (13, .bipush 12, 2, []), (15, .newarray .int, 2, []), (17, .putfield 15, 3, []), (20, .aload_n 0, 1, []), (21, .bipush 12, 2, []), (23, .newarray .int, 2, []), (25, .putfield 18, 3, []), (28, .aload_n 0, 1, []), (29, .bipush 12, 2, []), (31, .newarray .int, 2, []), (33, .putfield 21, 3, []), (36, .aload_n 0, 1, []), (37, .bipush 12, 2, []), (39, .newarray .int, 2, []), (41, .putfield 24, 3, []), (44, .aload_n 0, 1, []), (45, .bipush (-9), 2, []), (47, .putfield 27, 3, []), (50, .return_, 1, [])] 0 lv st h (e_Sm g 27 6 cd27 Ψ) Ψ := e_unf rfl
theorem mL27 : e_mL 27 = 1 := by decide +kernel
/-- HoldHouse$Ring.forget()V -/
abbrev b28_0 : List e_En := [(0, .aload_n 0, 1, []), (1, .iconst 0, 1, []), (2, .putfield 31, 3, []), (5, .aload_n 0, 1, []), (6, .bipush (-9), 2, []), (8, .putfield 27, 3, []), (11, .return_, 1, [])]
def cd28 : e_Cd := [(0, b28_0, 0)]
set_option maxRecDepth 20000 in
theorem ok28 : e_chk 28 6 cd28 = true := by decide +kernel
theorem u28_0 {g : e_G} {Ψ : e_Q} {lv : e_Lv} {st : List Value} {h : e_Hp} : e_Sm g 28 6 cd28 Ψ 0 lv st h = e_exec g 28 6 [(0, .aload_n 0, 1, []), (1, .iconst 0, 1, []), (2, .putfield 31, 3, []), (5, .aload_n 0, 1, []), (6, .bipush (-9), 2, []), (8, .putfield 27, 3, []), (11, .return_, 1, [])] 0 lv st h (e_Sm g 28 6 cd28 Ψ) Ψ := e_unf rfl
theorem mL28 : e_mL 28 = 1 := by decide +kernel
/-- HoldHouse$Ring.member(I)I -/
abbrev b29_0 : List e_En := [(0, .iload_n 1, 1, []), (1, .iconst (-1), 1, []), (2, .if_icmp .ne 8, 3, [10]), (5, .aload_n 0, 1, []), (6, .getfield 27, 3, []), (9, .ireturn, 1, [])]
abbrev b29_10 : List e_En := [(10, .iload_n 1, 1, []), (11, .ifCond .lt 20, 3, [31]), (14, .iload_n 1, 1, []), (15, .aload_n 0, 1, []), (16, .getfield 31, 3, []), (19, .if_icmp .ge 12, 3, [31]), (22, .iload_n 1, 1, []), (23, .aload_n 0, 1, []), (24, .getfield 24, 3, []), (27, .arraylength, 1, []), (28, .if_icmp .lt 8, 3, [36])]
abbrev b29_31 : List e_En := [(31, .bipush (-9), 2, []), (33, .goto 9, 3, [42])]
abbrev b29_36 : List e_En := [(36, .aload_n 0, 1, []), (37, .getfield 24, 3, []), (40, .iload_n 1, 1, []), (41, .iaload, 1, [])]
abbrev b29_42 : List e_En := [(42, .ireturn, 1, [])]
def cd29 : e_Cd := [(0, b29_0, 0), (10, b29_10, 31), (31, b29_31, 0), (36, b29_36, 42), (42, b29_42, 0)]
set_option maxRecDepth 20000 in
theorem ok29 : e_chk 29 6 cd29 = true := by decide +kernel
theorem u29_0 {g : e_G} {Ψ : e_Q} {lv : e_Lv} {st : List Value} {h : e_Hp} : e_Sm g 29 6 cd29 Ψ 0 lv st h = e_exec g 29 6 [(0, .iload_n 1, 1, []), (1, .iconst (-1), 1, []), (2, .if_icmp .ne 8, 3, [10]), (5, .aload_n 0, 1, []), (6, .getfield 27, 3, []), (9, .ireturn, 1, [])] 0 lv st h (e_Sm g 29 6 cd29 Ψ) Ψ := e_unf rfl
theorem u29_10 {g : e_G} {Ψ : e_Q} {lv : e_Lv} {st : List Value} {h : e_Hp} : e_Sm g 29 6 cd29 Ψ 10 lv st h = e_exec g 29 6 [(10, .iload_n 1, 1, []), (11, .ifCond .lt 20, 3, [31]), (14, .iload_n 1, 1, []), (15, .aload_n 0, 1, []), (16, .getfield 31, 3, []), (19, .if_icmp .ge 12, 3, [31]), (22, .iload_n 1, 1, []), (23, .aload_n 0, 1, []), (24, .getfield 24, 3, []), (27, .arraylength, 1, []), (28, .if_icmp .lt 8, 3, [36])] 31 lv st h (e_Sm g 29 6 cd29 Ψ) Ψ := e_unf rfl
theorem u29_31 {g : e_G} {Ψ : e_Q} {lv : e_Lv} {st : List Value} {h : e_Hp} : e_Sm g 29 6 cd29 Ψ 31 lv st h = e_exec g 29 6 [(31, .bipush (-9), 2, []), (33, .goto 9, 3, [42])] 0 lv st h (e_Sm g 29 6 cd29 Ψ) Ψ := e_unf rfl
theorem u29_36 {g : e_G} {Ψ : e_Q} {lv : e_Lv} {st : List Value} {h : e_Hp} : e_Sm g 29 6 cd29 Ψ 36 lv st h = e_exec g 29 6 [(36, .aload_n 0, 1, []), (37, .getfield 24, 3, []), (40, .iload_n 1, 1, []), (41, .iaload, 1, [])] 42 lv st h (e_Sm g 29 6 cd29 Ψ) Ψ := e_unf rfl
theorem u29_42 {g : e_G} {Ψ : e_Q} {lv : e_Lv} {st : List Value} {h : e_Hp} : e_Sm g 29 6 cd29 Ψ 42 lv st h = e_exec g 29 6 [(42, .ireturn, 1, [])] 0 lv st h (e_Sm g 29 6 cd29 Ψ) Ψ := e_unf rfl
theorem mL29 : e_mL 29 = 2 := by decide +kernel
theorem rt29 : e_rt 29 = (some .int) := by decide +kernel
/-- HoldHouse$Ring.draw(III)V -/
abbrev b30_0 : List e_En := [(0, .iload_n 1, 1, []), (1, .ifCond .lt 23, 3, [24]), (4, .iload_n 1, 1, []), (5, .bipush 12, 2, []), (7, .if_icmp .ge 17, 3, [24]), (10, .aload_n 0, 1, []), (11, .getfield 15, 3, []), (14, .iload_n 1, 1, []), (15, .iload_n 2, 1, []), (16, .iastore, 1, []), (17, .aload_n 0, 1, []), (18, .getfield 9, 3, []), (21, .iload_n 1, 1, []), (22, .iload_n 3, 1, []), (23, .iastore, 1, [])]
abbrev b30_24 : List e_En := [(24, .return_, 1, [])]
def cd30 : e_Cd := [(0, b30_0, 24), (24, b30_24, 0)]
set_option maxRecDepth 20000 in
theorem ok30 : e_chk 30 6 cd30 = true := by decide +kernel
theorem u30_0 {g : e_G} {Ψ : e_Q} {lv : e_Lv} {st : List Value} {h : e_Hp} : e_Sm g 30 6 cd30 Ψ 0 lv st h = e_exec g 30 6 [(0, .iload_n 1, 1, []), (1, .ifCond .lt 23, 3, [24]), (4, .iload_n 1, 1, []), (5, .bipush 12, 2, []), (7, .if_icmp .ge 17, 3, [24]), (10, .aload_n 0, 1, []), (11, .getfield 15, 3, []), (14, .iload_n 1, 1, []), (15, .iload_n 2, 1, []), (16, .iastore, 1, []), (17, .aload_n 0, 1, []), (18, .getfield 9, 3, []), (21, .iload_n 1, 1, []), (22, .iload_n 3, 1, []), (23, .iastore, 1, [])] 24 lv st h (e_Sm g 30 6 cd30 Ψ) Ψ := e_unf rfl
theorem u30_24 {g : e_G} {Ψ : e_Q} {lv : e_Lv} {st : List Value} {h : e_Hp} : e_Sm g 30 6 cd30 Ψ 24 lv st h = e_exec g 30 6 [(24, .return_, 1, [])] 0 lv st h (e_Sm g 30 6 cd30 Ψ) Ψ := e_unf rfl
theorem mL30 : e_mL 30 = 4 := by decide +kernel
/-- HoldHouse$Ring.find(I)Z -/
abbrev b31_0 : List e_En := [(0, .iload_n 1, 1, []), (1, .ifCond .lt 9, 3, [10]), (4, .iload_n 1, 1, []), (5, .bipush 12, 2, []), (7, .if_icmp .lt 5, 3, [12])]
abbrev b31_10 : List e_En := [(10, .iconst 0, 1, []), (11, .ireturn, 1, [])]
abbrev b31_12 : List e_En := [(12, .iconst 1, 1, []), (13, .iload_n 1, 1, []), (14, .ishl, 1, []), (15, .istore_n 2, 1, []), (16, .iconst 1, 1, []), (17, .istore_n 3, 1, []), (18, .aload_n 0, 1, []), (19, .getfield 21, 3, []), (22, .iconst 0, 1, []), (23, .iload_n 1, 1, []), (24, .iastore, 1, []), (25, .aload_n 0, 1, []), (26, .getfield 18, 3, []), (29, .iload_n 1, 1, []), (30, .iconst (-1), 1, []), (31, .iastore, 1, []), (32, .iconst 0, 1, []), (33, .istore 4, 2, [])]
abbrev b31_35 : List e_En := [(35, .iload 4, 2, []), (37, .iload_n 3, 1, []), (38, .if_icmp .ge 117, 3, [155]), (41, .iload 4, 2, []), (43, .bipush 12, 2, []), (45, .if_icmp .ge 110, 3, [155]), (48, .aload_n 0, 1, []), (49, .getfield 21, 3, []), (52, .iload 4, 2, []), (54, .iaload, 1, []), (55, .istore 5, 2, []), (57, .aload_n 0, 1, []), (58, .getfield 9, 3, []), (61, .iload 5, 2, []), (63, .iaload, 1, []), (64, .iload_n 1, 1, []), (65, .ishr, 1, []), (66, .iconst 1, 1, []), (67, .iand, 1, []), (68, .iconst 1, 1, []), (69, .if_icmp .ne 11, 3, [80]), (72, .aload_n 0, 1, []), (73, .iload 5, 2, []), (75, .invokevirtual 34, 3, []), (78, .iconst 1, 1, []), (79, .ireturn, 1, [])]
abbrev b31_80 : List e_En := [(80, .iconst 0, 1, []), (81, .istore 6, 2, [])]
abbrev b31_83 : List e_En := [(83, .iload 6, 2, []), (85, .bipush 12, 2, []), (87, .if_icmp .ge 62, 3, [149]), (90, .iload_n 3, 1, []), (91, .bipush 12, 2, []), (93, .if_icmp .ge 56, 3, [149]), (96, .aload_n 0, 1, []), (97, .getfield 9, 3, []), (100, .iload 5, 2, []), (102, .iaload, 1, []), (103, .iload_n 2, 1, []), (104, .iconst (-1), 1, []), (105, .ixor, 1, []), (106, .iand, 1, []), (107, .iload 6, 2, []), (109, .ishr, 1, []), (110, .iconst 1, 1, []), (111, .iand, 1, []), (112, .iconst 1, 1, []), (113, .if_icmp .ne 30, 3, [143]), (116, .iload_n 2, 1, []), (117, .iconst 1, 1, []), (118, .iload 6, 2, []), (120, .ishl, 1, []), (121, .ior, 1, []), (122, .istore_n 2, 1, []), (123, .aload_n 0, 1, []), (124, .getfield 18, 3, []), (127, .iload 6, 2, []), (129, .iload 5, 2, []), (131, .iastore, 1, []), (132, .aload_n 0, 1, []), (133, .getfield 21, 3, []), (136, .iload_n 3, 1, []), (137, .iload 6, 2, []), (139, .iastore, 1, []), (140, .iinc 3 1, 3, [])]
abbrev b31_143 : List e_En := [(143, .iinc 6 1, 3, []), (146, .goto (-63), 3, [83])]
abbrev b31_149 : List e_En := [(149, .iinc 4 1, 3, []), (152, .goto (-117), 3, [35])]
abbrev b31_155 : List e_En := [(155, .iconst 0, 1, []), (156, .ireturn, 1, [])]
def cd31 : e_Cd := [(0, b31_0, 10), (10, b31_10, 0), (12, b31_12, 35), (35, b31_35, 0), (80, b31_80, 83), (83, b31_83, 143), (143, b31_143, 0), (149, b31_149, 0), (155, b31_155, 0)]
set_option maxRecDepth 20000 in
theorem ok31 : e_chk 31 6 cd31 = true := by decide +kernel
theorem u31_0 {g : e_G} {Ψ : e_Q} {lv : e_Lv} {st : List Value} {h : e_Hp} : e_Sm g 31 6 cd31 Ψ 0 lv st h = e_exec g 31 6 [(0, .iload_n 1, 1, []), (1, .ifCond .lt 9, 3, [10]), (4, .iload_n 1, 1, []), (5, .bipush 12, 2, []), (7, .if_icmp .lt 5, 3, [12])] 10 lv st h (e_Sm g 31 6 cd31 Ψ) Ψ := e_unf rfl
theorem u31_10 {g : e_G} {Ψ : e_Q} {lv : e_Lv} {st : List Value} {h : e_Hp} : e_Sm g 31 6 cd31 Ψ 10 lv st h = e_exec g 31 6 [(10, .iconst 0, 1, []), (11, .ireturn, 1, [])] 0 lv st h (e_Sm g 31 6 cd31 Ψ) Ψ := e_unf rfl
theorem u31_12 {g : e_G} {Ψ : e_Q} {lv : e_Lv} {st : List Value} {h : e_Hp} : e_Sm g 31 6 cd31 Ψ 12 lv st h = e_exec g 31 6 [(12, .iconst 1, 1, []), (13, .iload_n 1, 1, []), (14, .ishl, 1, []), (15, .istore_n 2, 1, []), (16, .iconst 1, 1, []), (17, .istore_n 3, 1, []), (18, .aload_n 0, 1, []), (19, .getfield 21, 3, []), (22, .iconst 0, 1, []), (23, .iload_n 1, 1, []), (24, .iastore, 1, []), (25, .aload_n 0, 1, []), (26, .getfield 18, 3, []), (29, .iload_n 1, 1, []), (30, .iconst (-1), 1, []), (31, .iastore, 1, []), (32, .iconst 0, 1, []), (33, .istore 4, 2, [])] 35 lv st h (e_Sm g 31 6 cd31 Ψ) Ψ := e_unf rfl
theorem u31_35 {g : e_G} {Ψ : e_Q} {lv : e_Lv} {st : List Value} {h : e_Hp} : e_Sm g 31 6 cd31 Ψ 35 lv st h = e_exec g 31 6 [(35, .iload 4, 2, []), (37, .iload_n 3, 1, []), (38, .if_icmp .ge 117, 3, [155]), (41, .iload 4, 2, []), (43, .bipush 12, 2, []), (45, .if_icmp .ge 110, 3, [155]), (48, .aload_n 0, 1, []), (49, .getfield 21, 3, []), (52, .iload 4, 2, []), (54, .iaload, 1, []), (55, .istore 5, 2, []), (57, .aload_n 0, 1, []), (58, .getfield 9, 3, []), (61, .iload 5, 2, []), (63, .iaload, 1, []), (64, .iload_n 1, 1, []), (65, .ishr, 1, []), (66, .iconst 1, 1, []), (67, .iand, 1, []), (68, .iconst 1, 1, []), (69, .if_icmp .ne 11, 3, [80]), (72, .aload_n 0, 1, []), (73, .iload 5, 2, []), (75, .invokevirtual 34, 3, []), (78, .iconst 1, 1, []), (79, .ireturn, 1, [])] 0 lv st h (e_Sm g 31 6 cd31 Ψ) Ψ := e_unf rfl
theorem u31_80 {g : e_G} {Ψ : e_Q} {lv : e_Lv} {st : List Value} {h : e_Hp} : e_Sm g 31 6 cd31 Ψ 80 lv st h = e_exec g 31 6 [(80, .iconst 0, 1, []), (81, .istore 6, 2, [])] 83 lv st h (e_Sm g 31 6 cd31 Ψ) Ψ := e_unf rfl
theorem u31_83 {g : e_G} {Ψ : e_Q} {lv : e_Lv} {st : List Value} {h : e_Hp} : e_Sm g 31 6 cd31 Ψ 83 lv st h = e_exec g 31 6 [(83, .iload 6, 2, []), (85, .bipush 12, 2, []), (87, .if_icmp .ge 62, 3, [149]), (90, .iload_n 3, 1, []), (91, .bipush 12, 2, []), (93, .if_icmp .ge 56, 3, [149]), (96, .aload_n 0, 1, []), (97, .getfield 9, 3, []), (100, .iload 5, 2, []), (102, .iaload, 1, []), (103, .iload_n 2, 1, []), (104, .iconst (-1), 1, []), (105, .ixor, 1, []), (106, .iand, 1, []), (107, .iload 6, 2, []), (109, .ishr, 1, []), (110, .iconst 1, 1, []), (111, .iand, 1, []), (112, .iconst 1, 1, []), (113, .if_icmp .ne 30, 3, [143]), (116, .iload_n 2, 1, []), (117, .iconst 1, 1, []), (118, .iload 6, 2, []), (120, .ishl, 1, []), (121, .ior, 1, []), (122, .istore_n 2, 1, []), (123, .aload_n 0, 1, []), (124, .getfield 18, 3, []), (127, .iload 6, 2, []), (129, .iload 5, 2, []), (131, .iastore, 1, []), (132, .aload_n 0, 1, []), (133, .getfield 21, 3, []), (136, .iload_n 3, 1, []), (137, .iload 6, 2, []), (139, .iastore, 1, []), (140, .iinc 3 1, 3, [])] 143 lv st h (e_Sm g 31 6 cd31 Ψ) Ψ := e_unf rfl
theorem u31_143 {g : e_G} {Ψ : e_Q} {lv : e_Lv} {st : List Value} {h : e_Hp} : e_Sm g 31 6 cd31 Ψ 143 lv st h = e_exec g 31 6 [(143, .iinc 6 1, 3, []), (146, .goto (-63), 3, [83])] 0 lv st h (e_Sm g 31 6 cd31 Ψ) Ψ := e_unf rfl
theorem u31_149 {g : e_G} {Ψ : e_Q} {lv : e_Lv} {st : List Value} {h : e_Hp} : e_Sm g 31 6 cd31 Ψ 149 lv st h = e_exec g 31 6 [(149, .iinc 4 1, 3, []), (152, .goto (-117), 3, [35])] 0 lv st h (e_Sm g 31 6 cd31 Ψ) Ψ := e_unf rfl
theorem u31_155 {g : e_G} {Ψ : e_Q} {lv : e_Lv} {st : List Value} {h : e_Hp} : e_Sm g 31 6 cd31 Ψ 155 lv st h = e_exec g 31 6 [(155, .iconst 0, 1, []), (156, .ireturn, 1, [])] 0 lv st h (e_Sm g 31 6 cd31 Ψ) Ψ := e_unf rfl
theorem mL31 : e_mL 31 = 7 := by decide +kernel
theorem rt31 : e_rt 31 = (some .boolean) := by decide +kernel
/-- HoldHouse$Ring.writeDown(I)V -/
abbrev b32_0 : List e_En := [(0, .aload_n 0, 1, []), (1, .iconst 0, 1, []), (2, .putfield 31, 3, []), (5, .iload_n 1, 1, []), (6, .istore_n 2, 1, []), (7, .iconst 0, 1, []), (8, .istore_n 3, 1, [])]
abbrev b32_9 : List e_En := [(9, .iload_n 3, 1, []), (10, .bipush 12, 2, []), (12, .if_icmp .ge 36, 3, [48]), (15, .iload_n 2, 1, []), (16, .ifCond .lt 32, 3, [48]), (19, .iload_n 2, 1, []), (20, .bipush 12, 2, []), (22, .if_icmp .ge 26, 3, [48]), (25, .aload_n 0, 1, []), (26, .dup, 1, []), (27, .getfield 31, 3, []), (30, .iconst 1, 1, []), (31, .iadd, 1, []), (32, .putfield 31, 3, []), (35, .aload_n 0, 1, []), (36, .getfield 18, 3, []), (39, .iload_n 2, 1, []), (40, .iaload, 1, []), (41, .istore_n 2, 1, []), (42, .iinc 3 1, 3, []), (45, .goto (-36), 3, [9])]
abbrev b32_48 : List e_En := [(48, .iload_n 1, 1, []), (49, .istore_n 2, 1, []), (50, .aload_n 0, 1, []), (51, .getfield 31, 3, []), (54, .iconst 1, 1, []), (55, .isub, 1, []), (56, .istore_n 3, 1, [])]
abbrev b32_57 : List e_En := [(57, .iload_n 3, 1, []), (58, .ifCond .lt 38, 3, [96]), (61, .iload_n 2, 1, []), (62, .ifCond .lt 34, 3, [96]), (65, .iload_n 2, 1, []), (66, .bipush 12, 2, []), (68, .if_icmp .ge 28, 3, [96]), (71, .aload_n 0, 1, []), (72, .getfield 24, 3, []), (75, .iload_n 3, 1, []), (76, .aload_n 0, 1, []), (77, .getfield 15, 3, []), (80, .iload_n 2, 1, []), (81, .iaload, 1, []), (82, .iastore, 1, []), (83, .aload_n 0, 1, []), (84, .getfield 18, 3, []), (87, .iload_n 2, 1, []), (88, .iaload, 1, []), (89, .istore_n 2, 1, []), (90, .iinc 3 (-1), 3, []), (93, .goto (-36), 3, [57])]
abbrev b32_96 : List e_En := [(96, .return_, 1, [])]
def cd32 : e_Cd := [(0, b32_0, 9), (9, b32_9, 0), (48, b32_48, 57), (57, b32_57, 0), (96, b32_96, 0)]
set_option maxRecDepth 20000 in
theorem ok32 : e_chk 32 6 cd32 = true := by decide +kernel
theorem u32_0 {g : e_G} {Ψ : e_Q} {lv : e_Lv} {st : List Value} {h : e_Hp} : e_Sm g 32 6 cd32 Ψ 0 lv st h = e_exec g 32 6 [(0, .aload_n 0, 1, []), (1, .iconst 0, 1, []), (2, .putfield 31, 3, []), (5, .iload_n 1, 1, []), (6, .istore_n 2, 1, []), (7, .iconst 0, 1, []), (8, .istore_n 3, 1, [])] 9 lv st h (e_Sm g 32 6 cd32 Ψ) Ψ := e_unf rfl
theorem u32_9 {g : e_G} {Ψ : e_Q} {lv : e_Lv} {st : List Value} {h : e_Hp} : e_Sm g 32 6 cd32 Ψ 9 lv st h = e_exec g 32 6 [(9, .iload_n 3, 1, []), (10, .bipush 12, 2, []), (12, .if_icmp .ge 36, 3, [48]), (15, .iload_n 2, 1, []), (16, .ifCond .lt 32, 3, [48]), (19, .iload_n 2, 1, []), (20, .bipush 12, 2, []), (22, .if_icmp .ge 26, 3, [48]), (25, .aload_n 0, 1, []), (26, .dup, 1, []), (27, .getfield 31, 3, []), (30, .iconst 1, 1, []), (31, .iadd, 1, []), (32, .putfield 31, 3, []), (35, .aload_n 0, 1, []), (36, .getfield 18, 3, []), (39, .iload_n 2, 1, []), (40, .iaload, 1, []), (41, .istore_n 2, 1, []), (42, .iinc 3 1, 3, []), (45, .goto (-36), 3, [9])] 0 lv st h (e_Sm g 32 6 cd32 Ψ) Ψ := e_unf rfl
theorem u32_48 {g : e_G} {Ψ : e_Q} {lv : e_Lv} {st : List Value} {h : e_Hp} : e_Sm g 32 6 cd32 Ψ 48 lv st h = e_exec g 32 6 [(48, .iload_n 1, 1, []), (49, .istore_n 2, 1, []), (50, .aload_n 0, 1, []), (51, .getfield 31, 3, []), (54, .iconst 1, 1, []), (55, .isub, 1, []), (56, .istore_n 3, 1, [])] 57 lv st h (e_Sm g 32 6 cd32 Ψ) Ψ := e_unf rfl
theorem u32_57 {g : e_G} {Ψ : e_Q} {lv : e_Lv} {st : List Value} {h : e_Hp} : e_Sm g 32 6 cd32 Ψ 57 lv st h = e_exec g 32 6 [(57, .iload_n 3, 1, []), (58, .ifCond .lt 38, 3, [96]), (61, .iload_n 2, 1, []), (62, .ifCond .lt 34, 3, [96]), (65, .iload_n 2, 1, []), (66, .bipush 12, 2, []), (68, .if_icmp .ge 28, 3, [96]), (71, .aload_n 0, 1, []), (72, .getfield 24, 3, []), (75, .iload_n 3, 1, []), (76, .aload_n 0, 1, []), (77, .getfield 15, 3, []), (80, .iload_n 2, 1, []), (81, .iaload, 1, []), (82, .iastore, 1, []), (83, .aload_n 0, 1, []), (84, .getfield 18, 3, []), (87, .iload_n 2, 1, []), (88, .iaload, 1, []), (89, .istore_n 2, 1, []), (90, .iinc 3 (-1), 3, []), (93, .goto (-36), 3, [57])] 0 lv st h (e_Sm g 32 6 cd32 Ψ) Ψ := e_unf rfl
theorem u32_96 {g : e_G} {Ψ : e_Q} {lv : e_Lv} {st : List Value} {h : e_Hp} : e_Sm g 32 6 cd32 Ψ 96 lv st h = e_exec g 32 6 [(96, .return_, 1, [])] 0 lv st h (e_Sm g 32 6 cd32 Ψ) Ψ := e_unf rfl
theorem mL32 : e_mL 32 = 4 := by decide +kernel
/-- HoldHouse$Row.<init>(IIIIIII)V -/
abbrev b33_0 : List e_En := [(0, .aload_n 0, 1, []), (1, .invokespecial 3, 3, []), (4, .aload_n 0, 1, []), (5, .iconst (-1), 1, []), (6, .putfield 9, 3, []), (9, .aload_n 0, 1, []), (10, .iload_n 1, 1, []), (11, .putfield 15, 3, []), (14, .aload_n 0, 1, []), (15, .iload_n 2, 1, []), (16, .putfield 18, 3, []), (19, .aload_n 0, 1, []), (20, .iload_n 3, 1, []), (21, .putfield 21, 3, []), (24, .aload_n 0, 1, []), (25, .iload 4, 2, []), (27, .putfield 24, 3, []), (30, .aload_n 0, 1, []), (31, .iload 5, 2, []), (33, .putfield 27, 3, []), (36, .aload_n 0, 1, []), (37, .iload 6, 2, []), (39, .putfield 30, 3, []), (42, .aload_n 0, 1, []), (43, .iload 7, 2, []), (45, .putfield 33, 3, []), (48, .return_, 1, [])]
def cd33 : e_Cd := [(0, b33_0, 0)]
set_option maxRecDepth 20000 in
theorem ok33 : e_chk 33 7 cd33 = true := by decide +kernel
theorem u33_0 {g : e_G} {Ψ : e_Q} {lv : e_Lv} {st : List Value} {h : e_Hp} : e_Sm g 33 7 cd33 Ψ 0 lv st h = e_exec g 33 7 [(0, .aload_n 0, 1, []), (1, .invokespecial 3, 3, []), (4, .aload_n 0, 1, []), (5, .iconst (-1), 1, []), (6, .putfield 9, 3, []), (9, .aload_n 0, 1, []), (10, .iload_n 1, 1, []), (11, .putfield 15, 3, []), (14, .aload_n 0, 1, []), (15, .iload_n 2, 1, []), (16, .putfield 18, 3, []), (19, .aload_n 0, 1, []), (20, .iload_n 3, 1, []), (21, .putfield 21, 3, []), (24, .aload_n 0, 1, []), (25, .iload 4, 2, []), (27, .putfield 24, 3, []), (30, .aload_n 0, 1, []), (31, .iload 5, 2, []), (33, .putfield 27, 3, []), (36, .aload_n 0, 1, []), (37, .iload 6, 2, []), (39, .putfield 30, 3, []), (42, .aload_n 0, 1, []), (43, .iload 7, 2, []), (45, .putfield 33, 3, []), (48, .return_, 1, [])] 0 lv st h (e_Sm g 33 7 cd33 Ψ) Ψ := e_unf rfl
theorem mL33 : e_mL 33 = 8 := by decide +kernel
/-- HoldHouse$Row.contrary(I)LHoldHouse$Row; -/
abbrev b34_0 : List e_En := [(0, .new 10, 3, []), (3, .dup, 1, []), (4, .iconst 3, 1, []), (5, .aload_n 0, 1, []), (6, .getfield 18, 3, []), (9, .aload_n 0, 1, []), (10, .getfield 21, 3, []), (13, .aload_n 0, 1, []), (14, .getfield 24, 3, []), (17, .aload_n 0, 1, []), (18, .getfield 27, 3, []), (21, .aload_n 0, 1, []), (22, .getfield 30, 3, []), (25, .aload_n 0, 1, []), (26, .getfield 33, 3, []), (29, .invokespecial 36, 3, []), (32, .astore_n 2, 1, []), (33, .aload_n 2, 1, []), (34, .iload_n 1, 1, []), (35, .putfield 9, 3, []), (38, .aload_n 2, 1, []), (39, .areturn, 1, [])]
def cd34 : e_Cd := [(0, b34_0, 0)]
set_option maxRecDepth 20000 in
theorem ok34 : e_chk 34 7 cd34 = true := by decide +kernel
theorem u34_0 {g : e_G} {Ψ : e_Q} {lv : e_Lv} {st : List Value} {h : e_Hp} : e_Sm g 34 7 cd34 Ψ 0 lv st h = e_exec g 34 7 [(0, .new 10, 3, []), (3, .dup, 1, []), (4, .iconst 3, 1, []), (5, .aload_n 0, 1, []), (6, .getfield 18, 3, []), (9, .aload_n 0, 1, []), (10, .getfield 21, 3, []), (13, .aload_n 0, 1, []), (14, .getfield 24, 3, []), (17, .aload_n 0, 1, []), (18, .getfield 27, 3, []), (21, .aload_n 0, 1, []), (22, .getfield 30, 3, []), (25, .aload_n 0, 1, []), (26, .getfield 33, 3, []), (29, .invokespecial 36, 3, []), (32, .astore_n 2, 1, []), (33, .aload_n 2, 1, []), (34, .iload_n 1, 1, []), (35, .putfield 9, 3, []), (38, .aload_n 2, 1, []), (39, .areturn, 1, [])] 0 lv st h (e_Sm g 34 7 cd34 Ψ) Ψ := e_unf rfl
theorem mL34 : e_mL 34 = 3 := by decide +kernel
/-- HoldHouse$Row.isActOf(LHoldHouse$Deal;)Z -/
abbrev b35_0 : List e_En := [(0, .aload_n 0, 1, []), (1, .getfield 15, 3, []), (4, .iconst 2, 1, []), (5, .if_icmp .ne 25, 3, [30]), (8, .aload_n 0, 1, []), (9, .getfield 18, 3, []), (12, .aload_n 1, 1, []), (13, .getfield 39, 3, []), (16, .if_icmp .ne 14, 3, [30]), (19, .aload_n 0, 1, []), (20, .getfield 44, 3, []), (23, .ifCond .ne 7, 3, [30]), (26, .iconst 1, 1, []), (27, .goto 4, 3, [31])]
abbrev b35_30 : List e_En := [(30, .iconst 0, 1, [])]
abbrev b35_31 : List e_En := [(31, .ireturn, 1, [])]
def cd35 : e_Cd := [(0, b35_0, 0), (30, b35_30, 31), (31, b35_31, 0)]
set_option maxRecDepth 20000 in
theorem ok35 : e_chk 35 7 cd35 = true := by decide +kernel
theorem u35_0 {g : e_G} {Ψ : e_Q} {lv : e_Lv} {st : List Value} {h : e_Hp} : e_Sm g 35 7 cd35 Ψ 0 lv st h = e_exec g 35 7 [(0, .aload_n 0, 1, []), (1, .getfield 15, 3, []), (4, .iconst 2, 1, []), (5, .if_icmp .ne 25, 3, [30]), (8, .aload_n 0, 1, []), (9, .getfield 18, 3, []), (12, .aload_n 1, 1, []), (13, .getfield 39, 3, []), (16, .if_icmp .ne 14, 3, [30]), (19, .aload_n 0, 1, []), (20, .getfield 44, 3, []), (23, .ifCond .ne 7, 3, [30]), (26, .iconst 1, 1, []), (27, .goto 4, 3, [31])] 0 lv st h (e_Sm g 35 7 cd35 Ψ) Ψ := e_unf rfl
theorem u35_30 {g : e_G} {Ψ : e_Q} {lv : e_Lv} {st : List Value} {h : e_Hp} : e_Sm g 35 7 cd35 Ψ 30 lv st h = e_exec g 35 7 [(30, .iconst 0, 1, [])] 31 lv st h (e_Sm g 35 7 cd35 Ψ) Ψ := e_unf rfl
theorem u35_31 {g : e_G} {Ψ : e_Q} {lv : e_Lv} {st : List Value} {h : e_Hp} : e_Sm g 35 7 cd35 Ψ 31 lv st h = e_exec g 35 7 [(31, .ireturn, 1, [])] 0 lv st h (e_Sm g 35 7 cd35 Ψ) Ψ := e_unf rfl
theorem mL35 : e_mL 35 = 2 := by decide +kernel
theorem rt35 : e_rt 35 = (some .boolean) := by decide +kernel
/-- HoldHouse$Row.written()J -/
abbrev b36_0 : List e_En := [(0, .aload_n 0, 1, []), (1, .getfield 24, 3, []), (4, .bipush 18, 2, []), (6, .if_icmp .ne 10, 3, [16]), (9, .lconst 1, 1, []), (10, .aload_n 0, 1, []), (11, .getfield 30, 3, []), (14, .lshl, 1, []), (15, .lreturn, 1, [])]
abbrev b36_16 : List e_En := [(16, .aload_n 0, 1, []), (17, .getfield 24, 3, []), (20, .bipush 19, 2, []), (22, .if_icmp .ne 17, 3, [39]), (25, .lconst 1, 1, []), (26, .aload_n 0, 1, []), (27, .getfield 21, 3, []), (30, .lshl, 1, []), (31, .lconst 1, 1, []), (32, .aload_n 0, 1, []), (33, .getfield 30, 3, []), (36, .lshl, 1, []), (37, .lor, 1, []), (38, .lreturn, 1, [])]
abbrev b36_39 : List e_En := [(39, .aload_n 0, 1, []), (40, .getfield 24, 3, []), (43, .bipush 21, 2, []), (45, .if_icmp .eq 17, 3, [62]), (48, .aload_n 0, 1, []), (49, .getfield 24, 3, []), (52, .aload_n 0, 1, []), (53, .getfield 27, 3, []), (56, .invokestatic 48, 3, []), (59, .ifCond .eq 7, 3, [66])]
abbrev b36_62 : List e_En := [(62, .lconst 0, 1, []), (63, .goto 9, 3, [72])]
abbrev b36_66 : List e_En := [(66, .lconst 1, 1, []), (67, .aload_n 0, 1, []), (68, .getfield 21, 3, []), (71, .lshl, 1, [])]
abbrev b36_72 : List e_En := [(72, .lreturn, 1, [])]
def cd36 : e_Cd := [(0, b36_0, 0), (16, b36_16, 0), (39, b36_39, 62), (62, b36_62, 0), (66, b36_66, 72), (72, b36_72, 0)]
set_option maxRecDepth 20000 in
theorem ok36 : e_chk 36 7 cd36 = true := by decide +kernel
theorem u36_0 {g : e_G} {Ψ : e_Q} {lv : e_Lv} {st : List Value} {h : e_Hp} : e_Sm g 36 7 cd36 Ψ 0 lv st h = e_exec g 36 7 [(0, .aload_n 0, 1, []), (1, .getfield 24, 3, []), (4, .bipush 18, 2, []), (6, .if_icmp .ne 10, 3, [16]), (9, .lconst 1, 1, []), (10, .aload_n 0, 1, []), (11, .getfield 30, 3, []), (14, .lshl, 1, []), (15, .lreturn, 1, [])] 0 lv st h (e_Sm g 36 7 cd36 Ψ) Ψ := e_unf rfl
theorem u36_16 {g : e_G} {Ψ : e_Q} {lv : e_Lv} {st : List Value} {h : e_Hp} : e_Sm g 36 7 cd36 Ψ 16 lv st h = e_exec g 36 7 [(16, .aload_n 0, 1, []), (17, .getfield 24, 3, []), (20, .bipush 19, 2, []), (22, .if_icmp .ne 17, 3, [39]), (25, .lconst 1, 1, []), (26, .aload_n 0, 1, []), (27, .getfield 21, 3, []), (30, .lshl, 1, []), (31, .lconst 1, 1, []), (32, .aload_n 0, 1, []), (33, .getfield 30, 3, []), (36, .lshl, 1, []), (37, .lor, 1, []), (38, .lreturn, 1, [])] 0 lv st h (e_Sm g 36 7 cd36 Ψ) Ψ := e_unf rfl
theorem u36_39 {g : e_G} {Ψ : e_Q} {lv : e_Lv} {st : List Value} {h : e_Hp} : e_Sm g 36 7 cd36 Ψ 39 lv st h = e_exec g 36 7 [(39, .aload_n 0, 1, []), (40, .getfield 24, 3, []), (43, .bipush 21, 2, []), (45, .if_icmp .eq 17, 3, [62]), (48, .aload_n 0, 1, []), (49, .getfield 24, 3, []), (52, .aload_n 0, 1, []), (53, .getfield 27, 3, []), (56, .invokestatic 48, 3, []), (59, .ifCond .eq 7, 3, [66])] 62 lv st h (e_Sm g 36 7 cd36 Ψ) Ψ := e_unf rfl
theorem u36_62 {g : e_G} {Ψ : e_Q} {lv : e_Lv} {st : List Value} {h : e_Hp} : e_Sm g 36 7 cd36 Ψ 62 lv st h = e_exec g 36 7 [(62, .lconst 0, 1, []), (63, .goto 9, 3, [72])] 0 lv st h (e_Sm g 36 7 cd36 Ψ) Ψ := e_unf rfl
theorem u36_66 {g : e_G} {Ψ : e_Q} {lv : e_Lv} {st : List Value} {h : e_Hp} : e_Sm g 36 7 cd36 Ψ 66 lv st h = e_exec g 36 7 [(66, .lconst 1, 1, []), (67, .aload_n 0, 1, []), (68, .getfield 21, 3, []), (71, .lshl, 1, [])] 72 lv st h (e_Sm g 36 7 cd36 Ψ) Ψ := e_unf rfl
theorem u36_72 {g : e_G} {Ψ : e_Q} {lv : e_Lv} {st : List Value} {h : e_Hp} : e_Sm g 36 7 cd36 Ψ 72 lv st h = e_exec g 36 7 [(72, .lreturn, 1, [])] 0 lv st h (e_Sm g 36 7 cd36 Ψ) Ψ := e_unf rfl
theorem mL36 : e_mL 36 = 1 := by decide +kernel
/-- HoldHouse$Row.tell(I)I -/
abbrev b37_0 : List e_En := [(0, .iload_n 1, 1, []), (1, .tableswitch 78 0 6 #[43, 48, 53, 58, 63, 68, 73], 43, [79, 44, 49, 54, 59, 64, 69, 74])]
abbrev b37_44 : List e_En := [(44, .aload_n 0, 1, []), (45, .getfield 15, 3, []), (48, .ireturn, 1, [])]
abbrev b37_49 : List e_En := [(49, .aload_n 0, 1, []), (50, .getfield 18, 3, []), (53, .ireturn, 1, [])]
abbrev b37_54 : List e_En := [(54, .aload_n 0, 1, []), (55, .getfield 21, 3, []), (58, .ireturn, 1, [])]
abbrev b37_59 : List e_En := [(59, .aload_n 0, 1, []), (60, .getfield 24, 3, []), (63, .ireturn, 1, [])]
abbrev b37_64 : List e_En := [(64, .aload_n 0, 1, []), (65, .getfield 27, 3, []), (68, .ireturn, 1, [])]
abbrev b37_69 : List e_En := [(69, .aload_n 0, 1, []), (70, .getfield 30, 3, []), (73, .ireturn, 1, [])]
abbrev b37_74 : List e_En := [(74, .aload_n 0, 1, []), (75, .getfield 33, 3, []), (78, .ireturn, 1, [])]
abbrev b37_79 : List e_En := [(79, .aload_n 0, 1, []), (80, .getfield 9, 3, []), (83, .ireturn, 1, [])]
def cd37 : e_Cd := [(0, b37_0, 0), (44, b37_44, 0), (49, b37_49, 0), (54, b37_54, 0), (59, b37_59, 0), (64, b37_64, 0), (69, b37_69, 0), (74, b37_74, 0), (79, b37_79, 0)]
set_option maxRecDepth 20000 in
theorem ok37 : e_chk 37 7 cd37 = true := by decide +kernel
theorem u37_0 {g : e_G} {Ψ : e_Q} {lv : e_Lv} {st : List Value} {h : e_Hp} : e_Sm g 37 7 cd37 Ψ 0 lv st h = e_exec g 37 7 [(0, .iload_n 1, 1, []), (1, .tableswitch 78 0 6 #[43, 48, 53, 58, 63, 68, 73], 43, [79, 44, 49, 54, 59, 64, 69, 74])] 0 lv st h (e_Sm g 37 7 cd37 Ψ) Ψ := e_unf rfl
theorem u37_44 {g : e_G} {Ψ : e_Q} {lv : e_Lv} {st : List Value} {h : e_Hp} : e_Sm g 37 7 cd37 Ψ 44 lv st h = e_exec g 37 7 [(44, .aload_n 0, 1, []), (45, .getfield 15, 3, []), (48, .ireturn, 1, [])] 0 lv st h (e_Sm g 37 7 cd37 Ψ) Ψ := e_unf rfl
theorem u37_49 {g : e_G} {Ψ : e_Q} {lv : e_Lv} {st : List Value} {h : e_Hp} : e_Sm g 37 7 cd37 Ψ 49 lv st h = e_exec g 37 7 [(49, .aload_n 0, 1, []), (50, .getfield 18, 3, []), (53, .ireturn, 1, [])] 0 lv st h (e_Sm g 37 7 cd37 Ψ) Ψ := e_unf rfl
theorem u37_54 {g : e_G} {Ψ : e_Q} {lv : e_Lv} {st : List Value} {h : e_Hp} : e_Sm g 37 7 cd37 Ψ 54 lv st h = e_exec g 37 7 [(54, .aload_n 0, 1, []), (55, .getfield 21, 3, []), (58, .ireturn, 1, [])] 0 lv st h (e_Sm g 37 7 cd37 Ψ) Ψ := e_unf rfl
theorem u37_59 {g : e_G} {Ψ : e_Q} {lv : e_Lv} {st : List Value} {h : e_Hp} : e_Sm g 37 7 cd37 Ψ 59 lv st h = e_exec g 37 7 [(59, .aload_n 0, 1, []), (60, .getfield 24, 3, []), (63, .ireturn, 1, [])] 0 lv st h (e_Sm g 37 7 cd37 Ψ) Ψ := e_unf rfl
theorem u37_64 {g : e_G} {Ψ : e_Q} {lv : e_Lv} {st : List Value} {h : e_Hp} : e_Sm g 37 7 cd37 Ψ 64 lv st h = e_exec g 37 7 [(64, .aload_n 0, 1, []), (65, .getfield 27, 3, []), (68, .ireturn, 1, [])] 0 lv st h (e_Sm g 37 7 cd37 Ψ) Ψ := e_unf rfl
theorem u37_69 {g : e_G} {Ψ : e_Q} {lv : e_Lv} {st : List Value} {h : e_Hp} : e_Sm g 37 7 cd37 Ψ 69 lv st h = e_exec g 37 7 [(69, .aload_n 0, 1, []), (70, .getfield 30, 3, []), (73, .ireturn, 1, [])] 0 lv st h (e_Sm g 37 7 cd37 Ψ) Ψ := e_unf rfl
theorem u37_74 {g : e_G} {Ψ : e_Q} {lv : e_Lv} {st : List Value} {h : e_Hp} : e_Sm g 37 7 cd37 Ψ 74 lv st h = e_exec g 37 7 [(74, .aload_n 0, 1, []), (75, .getfield 33, 3, []), (78, .ireturn, 1, [])] 0 lv st h (e_Sm g 37 7 cd37 Ψ) Ψ := e_unf rfl
theorem u37_79 {g : e_G} {Ψ : e_Q} {lv : e_Lv} {st : List Value} {h : e_Hp} : e_Sm g 37 7 cd37 Ψ 79 lv st h = e_exec g 37 7 [(79, .aload_n 0, 1, []), (80, .getfield 9, 3, []), (83, .ireturn, 1, [])] 0 lv st h (e_Sm g 37 7 cd37 Ψ) Ψ := e_unf rfl
theorem mL37 : e_mL 37 = 2 := by decide +kernel
theorem rt37 : e_rt 37 = (some .int) := by decide +kernel
/-- HoldHouse$Shelf.<init>()V -/
abbrev b38_0 : List e_En := [(0, .aload_n 0, 1, []), (1, .invokespecial 3, 3, []), (4, .aload_n 0, 1, []), (5, .bipush 40, 2, []), (7, .anewarray 9, 3, []), (10, .putfield 11, 3, []), (13, .aload_n 0, 1, []), (14, .new 17, 3, []), (17, .dup, 1, []), (18, .invokespecial 19, 3, []), (21, .putfield 20, 3, []), (24, .return_, 1, [])]
def cd38 : e_Cd := [(0, b38_0, 0)]
set_option maxRecDepth 20000 in
theorem ok38 : e_chk 38 8 cd38 = true := by decide +kernel
theorem u38_0 {g : e_G} {Ψ : e_Q} {lv : e_Lv} {st : List Value} {h : e_Hp} : e_Sm g 38 8 cd38 Ψ 0 lv st h = e_exec g 38 8 [(0, .aload_n 0, 1, []), (1, .invokespecial 3, 3, []), (4, .aload_n 0, 1, []), (5, .bipush 40, 2, []), (7, .anewarray 9, 3, []), (10, .putfield 11, 3, []), (13, .aload_n 0, 1, []), (14, .new 17, 3, []), (17, .dup, 1, []), (18, .invokespecial 19, 3, []), (21, .putfield 20, 3, []), (24, .return_, 1, [])] 0 lv st h (e_Sm g 38 8 cd38 Ψ) Ψ := e_unf rfl
theorem mL38 : e_mL 38 = 1 := by decide +kernel
/-- HoldHouse$Shelf.thing(I)LHoldHouse$Thing; -/
abbrev b39_0 : List e_En := [(0, .iload_n 1, 1, []), (1, .ifCond .lt 20, 3, [21]), (4, .iload_n 1, 1, []), (5, .aload_n 0, 1, []), (6, .getfield 24, 3, []), (9, .if_icmp .ge 12, 3, [21]), (12, .iload_n 1, 1, []), (13, .aload_n 0, 1, []), (14, .getfield 11, 3, []), (17, .arraylength, 1, []), (18, .if_icmp .lt 7, 3, [25])]
abbrev b39_21 : List e_En := [(21, .aconst_null, 1, []), (22, .goto 9, 3, [31])]
abbrev b39_25 : List e_En := [(25, .aload_n 0, 1, []), (26, .getfield 11, 3, []), (29, .iload_n 1, 1, []), (30, .aaload, 1, [])]
abbrev b39_31 : List e_En := [(31, .areturn, 1, [])]
def cd39 : e_Cd := [(0, b39_0, 21), (21, b39_21, 0), (25, b39_25, 31), (31, b39_31, 0)]
set_option maxRecDepth 20000 in
theorem ok39 : e_chk 39 8 cd39 = true := by decide +kernel
theorem u39_0 {g : e_G} {Ψ : e_Q} {lv : e_Lv} {st : List Value} {h : e_Hp} : e_Sm g 39 8 cd39 Ψ 0 lv st h = e_exec g 39 8 [(0, .iload_n 1, 1, []), (1, .ifCond .lt 20, 3, [21]), (4, .iload_n 1, 1, []), (5, .aload_n 0, 1, []), (6, .getfield 24, 3, []), (9, .if_icmp .ge 12, 3, [21]), (12, .iload_n 1, 1, []), (13, .aload_n 0, 1, []), (14, .getfield 11, 3, []), (17, .arraylength, 1, []), (18, .if_icmp .lt 7, 3, [25])] 21 lv st h (e_Sm g 39 8 cd39 Ψ) Ψ := e_unf rfl
theorem u39_21 {g : e_G} {Ψ : e_Q} {lv : e_Lv} {st : List Value} {h : e_Hp} : e_Sm g 39 8 cd39 Ψ 21 lv st h = e_exec g 39 8 [(21, .aconst_null, 1, []), (22, .goto 9, 3, [31])] 0 lv st h (e_Sm g 39 8 cd39 Ψ) Ψ := e_unf rfl
theorem u39_25 {g : e_G} {Ψ : e_Q} {lv : e_Lv} {st : List Value} {h : e_Hp} : e_Sm g 39 8 cd39 Ψ 25 lv st h = e_exec g 39 8 [(25, .aload_n 0, 1, []), (26, .getfield 11, 3, []), (29, .iload_n 1, 1, []), (30, .aaload, 1, [])] 31 lv st h (e_Sm g 39 8 cd39 Ψ) Ψ := e_unf rfl
theorem u39_31 {g : e_G} {Ψ : e_Q} {lv : e_Lv} {st : List Value} {h : e_Hp} : e_Sm g 39 8 cd39 Ψ 31 lv st h = e_exec g 39 8 [(31, .areturn, 1, [])] 0 lv st h (e_Sm g 39 8 cd39 Ψ) Ψ := e_unf rfl
theorem mL39 : e_mL 39 = 2 := by decide +kernel
/-- HoldHouse$Shelf.put(III)V -/
abbrev b40_0 : List e_En := [(0, .aload_n 0, 1, []), (1, .getfield 24, 3, []), (4, .ifCond .lt 15, 3, [19]), (7, .aload_n 0, 1, []), (8, .getfield 24, 3, []), (11, .aload_n 0, 1, []), (12, .getfield 11, 3, []), (15, .arraylength, 1, []), (16, .if_icmp .lt 4, 3, [20])]
abbrev b40_19 : List e_En := [(19, .return_, 1, [])]
abbrev b40_20 : List e_En := [(20, .aload_n 0, 1, []), (21, .iload_n 2, 1, []), (22, .invokevirtual 28, 3, []), (25, .astore 4, 2, []), (27, .aload_n 0, 1, []), (28, .getfield 11, 3, []), (31, .aload_n 0, 1, []), (32, .getfield 24, 3, []), (35, .aaload, 1, []), (36, .ifnonnull 19, 3, [55]), (39, .aload_n 0, 1, []), (40, .getfield 11, 3, []), (43, .aload_n 0, 1, []), (44, .getfield 24, 3, []), (47, .new 9, 3, []), (50, .dup, 1, []), (51, .invokespecial 32, 3, []), (54, .aastore, 1, [])]
abbrev b40_55 : List e_En := [(55, .aload_n 0, 1, []), (56, .getfield 11, 3, []), (59, .aload_n 0, 1, []), (60, .getfield 24, 3, []), (63, .aaload, 1, []), (64, .iload_n 1, 1, []), (65, .iload_n 2, 1, []), (66, .aload 4, 2, []), (68, .ifnonnull 7, 3, [75]), (71, .iconst 0, 1, []), (72, .goto 10, 3, [82])]
abbrev b40_75 : List e_En := [(75, .aload 4, 2, []), (77, .getfield 33, 3, []), (80, .iconst 1, 1, []), (81, .iadd, 1, [])]
abbrev b40_82 : List e_En := [(82, .iload_n 3, 1, []), (83, .invokevirtual 36, 3, []), (86, .aload_n 0, 1, []), (87, .dup, 1, []), (88, .getfield 24, 3, []), (91, .iconst 1, 1, []), (92, .iadd, 1, []), (93, .putfield 24, 3, []), (96, .return_, 1, [])]
def cd40 : e_Cd := [(0, b40_0, 19), (19, b40_19, 0), (20, b40_20, 55), (55, b40_55, 0), (75, b40_75, 82), (82, b40_82, 0)]
set_option maxRecDepth 20000 in
theorem ok40 : e_chk 40 8 cd40 = true := by decide +kernel
theorem u40_0 {g : e_G} {Ψ : e_Q} {lv : e_Lv} {st : List Value} {h : e_Hp} : e_Sm g 40 8 cd40 Ψ 0 lv st h = e_exec g 40 8 [(0, .aload_n 0, 1, []), (1, .getfield 24, 3, []), (4, .ifCond .lt 15, 3, [19]), (7, .aload_n 0, 1, []), (8, .getfield 24, 3, []), (11, .aload_n 0, 1, []), (12, .getfield 11, 3, []), (15, .arraylength, 1, []), (16, .if_icmp .lt 4, 3, [20])] 19 lv st h (e_Sm g 40 8 cd40 Ψ) Ψ := e_unf rfl
theorem u40_19 {g : e_G} {Ψ : e_Q} {lv : e_Lv} {st : List Value} {h : e_Hp} : e_Sm g 40 8 cd40 Ψ 19 lv st h = e_exec g 40 8 [(19, .return_, 1, [])] 0 lv st h (e_Sm g 40 8 cd40 Ψ) Ψ := e_unf rfl
theorem u40_20 {g : e_G} {Ψ : e_Q} {lv : e_Lv} {st : List Value} {h : e_Hp} : e_Sm g 40 8 cd40 Ψ 20 lv st h = e_exec g 40 8 [(20, .aload_n 0, 1, []), (21, .iload_n 2, 1, []), (22, .invokevirtual 28, 3, []), (25, .astore 4, 2, []), (27, .aload_n 0, 1, []), (28, .getfield 11, 3, []), (31, .aload_n 0, 1, []), (32, .getfield 24, 3, []), (35, .aaload, 1, []), (36, .ifnonnull 19, 3, [55]), (39, .aload_n 0, 1, []), (40, .getfield 11, 3, []), (43, .aload_n 0, 1, []), (44, .getfield 24, 3, []), (47, .new 9, 3, []), (50, .dup, 1, []), (51, .invokespecial 32, 3, []), (54, .aastore, 1, [])] 55 lv st h (e_Sm g 40 8 cd40 Ψ) Ψ := e_unf rfl
theorem u40_55 {g : e_G} {Ψ : e_Q} {lv : e_Lv} {st : List Value} {h : e_Hp} : e_Sm g 40 8 cd40 Ψ 55 lv st h = e_exec g 40 8 [(55, .aload_n 0, 1, []), (56, .getfield 11, 3, []), (59, .aload_n 0, 1, []), (60, .getfield 24, 3, []), (63, .aaload, 1, []), (64, .iload_n 1, 1, []), (65, .iload_n 2, 1, []), (66, .aload 4, 2, []), (68, .ifnonnull 7, 3, [75]), (71, .iconst 0, 1, []), (72, .goto 10, 3, [82])] 0 lv st h (e_Sm g 40 8 cd40 Ψ) Ψ := e_unf rfl
theorem u40_75 {g : e_G} {Ψ : e_Q} {lv : e_Lv} {st : List Value} {h : e_Hp} : e_Sm g 40 8 cd40 Ψ 75 lv st h = e_exec g 40 8 [(75, .aload 4, 2, []), (77, .getfield 33, 3, []), (80, .iconst 1, 1, []), (81, .iadd, 1, [])] 82 lv st h (e_Sm g 40 8 cd40 Ψ) Ψ := e_unf rfl
theorem u40_82 {g : e_G} {Ψ : e_Q} {lv : e_Lv} {st : List Value} {h : e_Hp} : e_Sm g 40 8 cd40 Ψ 82 lv st h = e_exec g 40 8 [(82, .iload_n 3, 1, []), (83, .invokevirtual 36, 3, []), (86, .aload_n 0, 1, []), (87, .dup, 1, []), (88, .getfield 24, 3, []), (91, .iconst 1, 1, []), (92, .iadd, 1, []), (93, .putfield 24, 3, []), (96, .return_, 1, [])] 0 lv st h (e_Sm g 40 8 cd40 Ψ) Ψ := e_unf rfl
theorem mL40 : e_mL 40 = 5 := by decide +kernel
/-- HoldHouse$Shelf.folderOf(II)I -/
abbrev b41_0 : List e_En := [(0, .iload_n 1, 1, []), (1, .istore_n 3, 1, []), (2, .aload_n 0, 1, []), (3, .iload_n 3, 1, []), (4, .invokevirtual 28, 3, []), (7, .astore 4, 2, []), (9, .iconst 0, 1, []), (10, .istore 5, 2, [])]
abbrev b41_12 : List e_En := [(12, .iload 5, 2, []), (14, .iconst 5, 1, []), (15, .if_icmp .gt 36, 3, [51]), (18, .aload 4, 2, []), (20, .ifnull 31, 3, [51]), (23, .aload 4, 2, []), (25, .getfield 33, 3, []), (28, .iload_n 2, 1, []), (29, .if_icmp .le 22, 3, [51]), (32, .aload 4, 2, []), (34, .getfield 40, 3, []), (37, .istore_n 3, 1, []), (38, .aload_n 0, 1, []), (39, .iload_n 3, 1, []), (40, .invokevirtual 28, 3, []), (43, .astore 4, 2, []), (45, .iinc 5 1, 3, []), (48, .goto (-36), 3, [12])]
abbrev b41_51 : List e_En := [(51, .iload_n 3, 1, []), (52, .ireturn, 1, [])]
def cd41 : e_Cd := [(0, b41_0, 12), (12, b41_12, 0), (51, b41_51, 0)]
set_option maxRecDepth 20000 in
theorem ok41 : e_chk 41 8 cd41 = true := by decide +kernel
theorem u41_0 {g : e_G} {Ψ : e_Q} {lv : e_Lv} {st : List Value} {h : e_Hp} : e_Sm g 41 8 cd41 Ψ 0 lv st h = e_exec g 41 8 [(0, .iload_n 1, 1, []), (1, .istore_n 3, 1, []), (2, .aload_n 0, 1, []), (3, .iload_n 3, 1, []), (4, .invokevirtual 28, 3, []), (7, .astore 4, 2, []), (9, .iconst 0, 1, []), (10, .istore 5, 2, [])] 12 lv st h (e_Sm g 41 8 cd41 Ψ) Ψ := e_unf rfl
theorem u41_12 {g : e_G} {Ψ : e_Q} {lv : e_Lv} {st : List Value} {h : e_Hp} : e_Sm g 41 8 cd41 Ψ 12 lv st h = e_exec g 41 8 [(12, .iload 5, 2, []), (14, .iconst 5, 1, []), (15, .if_icmp .gt 36, 3, [51]), (18, .aload 4, 2, []), (20, .ifnull 31, 3, [51]), (23, .aload 4, 2, []), (25, .getfield 33, 3, []), (28, .iload_n 2, 1, []), (29, .if_icmp .le 22, 3, [51]), (32, .aload 4, 2, []), (34, .getfield 40, 3, []), (37, .istore_n 3, 1, []), (38, .aload_n 0, 1, []), (39, .iload_n 3, 1, []), (40, .invokevirtual 28, 3, []), (43, .astore 4, 2, []), (45, .iinc 5 1, 3, []), (48, .goto (-36), 3, [12])] 0 lv st h (e_Sm g 41 8 cd41 Ψ) Ψ := e_unf rfl
theorem u41_51 {g : e_G} {Ψ : e_Q} {lv : e_Lv} {st : List Value} {h : e_Hp} : e_Sm g 41 8 cd41 Ψ 51 lv st h = e_exec g 41 8 [(51, .iload_n 3, 1, []), (52, .ireturn, 1, [])] 0 lv st h (e_Sm g 41 8 cd41 Ψ) Ψ := e_unf rfl
theorem mL41 : e_mL 41 = 6 := by decide +kernel
theorem rt41 : e_rt 41 = (some .int) := by decide +kernel
/-- HoldHouse$Shelf.numberIn(I)I -/
abbrev b42_0 : List e_En := [(0, .aload_n 0, 1, []), (1, .iload_n 1, 1, []), (2, .invokevirtual 28, 3, []), (5, .astore_n 2, 1, []), (6, .aload_n 2, 1, []), (7, .ifnull 12, 3, [19]), (10, .aload_n 2, 1, []), (11, .getfield 43, 3, []), (14, .bipush 7, 2, []), (16, .if_icmp .eq 7, 3, [23])]
abbrev b42_19 : List e_En := [(19, .iconst (-1), 1, []), (20, .goto 7, 3, [27])]
abbrev b42_23 : List e_En := [(23, .aload_n 2, 1, []), (24, .getfield 46, 3, [])]
abbrev b42_27 : List e_En := [(27, .ireturn, 1, [])]
def cd42 : e_Cd := [(0, b42_0, 19), (19, b42_19, 0), (23, b42_23, 27), (27, b42_27, 0)]
set_option maxRecDepth 20000 in
theorem ok42 : e_chk 42 8 cd42 = true := by decide +kernel
theorem u42_0 {g : e_G} {Ψ : e_Q} {lv : e_Lv} {st : List Value} {h : e_Hp} : e_Sm g 42 8 cd42 Ψ 0 lv st h = e_exec g 42 8 [(0, .aload_n 0, 1, []), (1, .iload_n 1, 1, []), (2, .invokevirtual 28, 3, []), (5, .astore_n 2, 1, []), (6, .aload_n 2, 1, []), (7, .ifnull 12, 3, [19]), (10, .aload_n 2, 1, []), (11, .getfield 43, 3, []), (14, .bipush 7, 2, []), (16, .if_icmp .eq 7, 3, [23])] 19 lv st h (e_Sm g 42 8 cd42 Ψ) Ψ := e_unf rfl
theorem u42_19 {g : e_G} {Ψ : e_Q} {lv : e_Lv} {st : List Value} {h : e_Hp} : e_Sm g 42 8 cd42 Ψ 19 lv st h = e_exec g 42 8 [(19, .iconst (-1), 1, []), (20, .goto 7, 3, [27])] 0 lv st h (e_Sm g 42 8 cd42 Ψ) Ψ := e_unf rfl
theorem u42_23 {g : e_G} {Ψ : e_Q} {lv : e_Lv} {st : List Value} {h : e_Hp} : e_Sm g 42 8 cd42 Ψ 23 lv st h = e_exec g 42 8 [(23, .aload_n 2, 1, []), (24, .getfield 46, 3, [])] 27 lv st h (e_Sm g 42 8 cd42 Ψ) Ψ := e_unf rfl
theorem u42_27 {g : e_G} {Ψ : e_Q} {lv : e_Lv} {st : List Value} {h : e_Hp} : e_Sm g 42 8 cd42 Ψ 27 lv st h = e_exec g 42 8 [(27, .ireturn, 1, [])] 0 lv st h (e_Sm g 42 8 cd42 Ψ) Ψ := e_unf rfl
theorem mL42 : e_mL 42 = 3 := by decide +kernel
theorem rt42 : e_rt 42 = (some .int) := by decide +kernel
/-- HoldHouse$Shelf.perform(IIII)V -/
abbrev b43_0 : List e_En := [(0, .aload_n 0, 1, []), (1, .getfield 20, 3, []), (4, .invokevirtual 49, 3, []), (7, .aload_n 0, 1, []), (8, .iload_n 1, 1, []), (9, .invokevirtual 28, 3, []), (12, .astore 5, 2, []), (14, .aload 5, 2, []), (16, .ifnonnull 4, 3, [20]), (19, .return_, 1, [])]
abbrev b43_20 : List e_En := [(20, .aload 5, 2, []), (22, .getfield 43, 3, []), (25, .iload_n 2, 1, []), (26, .invokestatic 52, 3, []), (29, .ifCond .ne 14, 3, [43]), (32, .aload_n 0, 1, []), (33, .getfield 20, 3, []), (36, .iconst 2, 1, []), (37, .putfield 56, 3, []), (40, .goto 64, 3, [104])]
abbrev b43_43 : List e_En := [(43, .iload_n 2, 1, []), (44, .bipush 18, 2, []), (46, .if_icmp .ne 13, 3, [59]), (49, .aload_n 0, 1, []), (50, .aload 5, 2, []), (52, .iload_n 3, 1, []), (53, .invokevirtual 59, 3, []), (56, .goto 48, 3, [104])]
abbrev b43_59 : List e_En := [(59, .iload_n 2, 1, []), (60, .bipush 19, 2, []), (62, .if_icmp .ne 15, 3, [77]), (65, .aload_n 0, 1, []), (66, .aload 5, 2, []), (68, .iload_n 3, 1, []), (69, .iload 4, 2, []), (71, .invokevirtual 63, 3, []), (74, .goto 30, 3, [104])]
abbrev b43_77 : List e_En := [(77, .iload_n 2, 1, []), (78, .bipush 20, 2, []), (80, .if_icmp .ne 11, 3, [91]), (83, .aload_n 0, 1, []), (84, .iload_n 1, 1, []), (85, .invokevirtual 67, 3, []), (88, .goto 16, 3, [104])]
abbrev b43_91 : List e_En := [(91, .aload 5, 2, []), (93, .iload_n 2, 1, []), (94, .iload_n 3, 1, []), (95, .iload 4, 2, []), (97, .aload_n 0, 1, []), (98, .getfield 20, 3, []), (101, .invokevirtual 71, 3, [])]
abbrev b43_104 : List e_En := [(104, .return_, 1, [])]
def cd43 : e_Cd := [(0, b43_0, 0), (20, b43_20, 0), (43, b43_43, 0), (59, b43_59, 0), (77, b43_77, 0), (91, b43_91, 104), (104, b43_104, 0)]
set_option maxRecDepth 20000 in
theorem ok43 : e_chk 43 8 cd43 = true := by decide +kernel
theorem u43_0 {g : e_G} {Ψ : e_Q} {lv : e_Lv} {st : List Value} {h : e_Hp} : e_Sm g 43 8 cd43 Ψ 0 lv st h = e_exec g 43 8 [(0, .aload_n 0, 1, []), (1, .getfield 20, 3, []), (4, .invokevirtual 49, 3, []), (7, .aload_n 0, 1, []), (8, .iload_n 1, 1, []), (9, .invokevirtual 28, 3, []), (12, .astore 5, 2, []), (14, .aload 5, 2, []), (16, .ifnonnull 4, 3, [20]), (19, .return_, 1, [])] 0 lv st h (e_Sm g 43 8 cd43 Ψ) Ψ := e_unf rfl
theorem u43_20 {g : e_G} {Ψ : e_Q} {lv : e_Lv} {st : List Value} {h : e_Hp} : e_Sm g 43 8 cd43 Ψ 20 lv st h = e_exec g 43 8 [(20, .aload 5, 2, []), (22, .getfield 43, 3, []), (25, .iload_n 2, 1, []), (26, .invokestatic 52, 3, []), (29, .ifCond .ne 14, 3, [43]), (32, .aload_n 0, 1, []), (33, .getfield 20, 3, []), (36, .iconst 2, 1, []), (37, .putfield 56, 3, []), (40, .goto 64, 3, [104])] 0 lv st h (e_Sm g 43 8 cd43 Ψ) Ψ := e_unf rfl
theorem u43_43 {g : e_G} {Ψ : e_Q} {lv : e_Lv} {st : List Value} {h : e_Hp} : e_Sm g 43 8 cd43 Ψ 43 lv st h = e_exec g 43 8 [(43, .iload_n 2, 1, []), (44, .bipush 18, 2, []), (46, .if_icmp .ne 13, 3, [59]), (49, .aload_n 0, 1, []), (50, .aload 5, 2, []), (52, .iload_n 3, 1, []), (53, .invokevirtual 59, 3, []), (56, .goto 48, 3, [104])] 0 lv st h (e_Sm g 43 8 cd43 Ψ) Ψ := e_unf rfl
theorem u43_59 {g : e_G} {Ψ : e_Q} {lv : e_Lv} {st : List Value} {h : e_Hp} : e_Sm g 43 8 cd43 Ψ 59 lv st h = e_exec g 43 8 [(59, .iload_n 2, 1, []), (60, .bipush 19, 2, []), (62, .if_icmp .ne 15, 3, [77]), (65, .aload_n 0, 1, []), (66, .aload 5, 2, []), (68, .iload_n 3, 1, []), (69, .iload 4, 2, []), (71, .invokevirtual 63, 3, []), (74, .goto 30, 3, [104])] 0 lv st h (e_Sm g 43 8 cd43 Ψ) Ψ := e_unf rfl
theorem u43_77 {g : e_G} {Ψ : e_Q} {lv : e_Lv} {st : List Value} {h : e_Hp} : e_Sm g 43 8 cd43 Ψ 77 lv st h = e_exec g 43 8 [(77, .iload_n 2, 1, []), (78, .bipush 20, 2, []), (80, .if_icmp .ne 11, 3, [91]), (83, .aload_n 0, 1, []), (84, .iload_n 1, 1, []), (85, .invokevirtual 67, 3, []), (88, .goto 16, 3, [104])] 0 lv st h (e_Sm g 43 8 cd43 Ψ) Ψ := e_unf rfl
theorem u43_91 {g : e_G} {Ψ : e_Q} {lv : e_Lv} {st : List Value} {h : e_Hp} : e_Sm g 43 8 cd43 Ψ 91 lv st h = e_exec g 43 8 [(91, .aload 5, 2, []), (93, .iload_n 2, 1, []), (94, .iload_n 3, 1, []), (95, .iload 4, 2, []), (97, .aload_n 0, 1, []), (98, .getfield 20, 3, []), (101, .invokevirtual 71, 3, [])] 104 lv st h (e_Sm g 43 8 cd43 Ψ) Ψ := e_unf rfl
theorem u43_104 {g : e_G} {Ψ : e_Q} {lv : e_Lv} {st : List Value} {h : e_Hp} : e_Sm g 43 8 cd43 Ψ 104 lv st h = e_exec g 43 8 [(104, .return_, 1, [])] 0 lv st h (e_Sm g 43 8 cd43 Ψ) Ψ := e_unf rfl
theorem mL43 : e_mL 43 = 6 := by decide +kernel
/-- HoldHouse$Shelf.bump(LHoldHouse$Thing;I)V -/
abbrev b44_0 : List e_En := [(0, .aload_n 0, 1, []), (1, .getfield 20, 3, []), (4, .bipush 22, 2, []), (6, .invokevirtual 75, 3, []), (9, .aload_n 0, 1, []), (10, .aload_n 1, 1, []), (11, .getfield 46, 3, []), (14, .invokevirtual 28, 3, []), (17, .astore_n 3, 1, []), (18, .aload_n 3, 1, []), (19, .ifnonnull 14, 3, [33]), (22, .aload_n 0, 1, []), (23, .getfield 20, 3, []), (26, .iconst 1, 1, []), (27, .putfield 56, 3, []), (30, .goto 12, 3, [42])]
abbrev b44_33 : List e_En := [(33, .aload_n 3, 1, []), (34, .iload_n 2, 1, []), (35, .aload_n 0, 1, []), (36, .getfield 20, 3, []), (39, .invokevirtual 78, 3, [])]
abbrev b44_42 : List e_En := [(42, .return_, 1, [])]
def cd44 : e_Cd := [(0, b44_0, 0), (33, b44_33, 42), (42, b44_42, 0)]
set_option maxRecDepth 20000 in
theorem ok44 : e_chk 44 8 cd44 = true := by decide +kernel
theorem u44_0 {g : e_G} {Ψ : e_Q} {lv : e_Lv} {st : List Value} {h : e_Hp} : e_Sm g 44 8 cd44 Ψ 0 lv st h = e_exec g 44 8 [(0, .aload_n 0, 1, []), (1, .getfield 20, 3, []), (4, .bipush 22, 2, []), (6, .invokevirtual 75, 3, []), (9, .aload_n 0, 1, []), (10, .aload_n 1, 1, []), (11, .getfield 46, 3, []), (14, .invokevirtual 28, 3, []), (17, .astore_n 3, 1, []), (18, .aload_n 3, 1, []), (19, .ifnonnull 14, 3, [33]), (22, .aload_n 0, 1, []), (23, .getfield 20, 3, []), (26, .iconst 1, 1, []), (27, .putfield 56, 3, []), (30, .goto 12, 3, [42])] 0 lv st h (e_Sm g 44 8 cd44 Ψ) Ψ := e_unf rfl
theorem u44_33 {g : e_G} {Ψ : e_Q} {lv : e_Lv} {st : List Value} {h : e_Hp} : e_Sm g 44 8 cd44 Ψ 33 lv st h = e_exec g 44 8 [(33, .aload_n 3, 1, []), (34, .iload_n 2, 1, []), (35, .aload_n 0, 1, []), (36, .getfield 20, 3, []), (39, .invokevirtual 78, 3, [])] 42 lv st h (e_Sm g 44 8 cd44 Ψ) Ψ := e_unf rfl
theorem u44_42 {g : e_G} {Ψ : e_Q} {lv : e_Lv} {st : List Value} {h : e_Hp} : e_Sm g 44 8 cd44 Ψ 42 lv st h = e_exec g 44 8 [(42, .return_, 1, [])] 0 lv st h (e_Sm g 44 8 cd44 Ψ) Ψ := e_unf rfl
theorem mL44 : e_mL 44 = 4 := by decide +kernel
/-- HoldHouse$Shelf.move(LHoldHouse$Thing;II)V -/
abbrev b45_0 : List e_En := [(0, .aload_n 0, 1, []), (1, .getfield 20, 3, []), (4, .bipush 23, 2, []), (6, .invokevirtual 75, 3, []), (9, .aload_n 1, 1, []), (10, .iload_n 2, 1, []), (11, .aload_n 0, 1, []), (12, .getfield 20, 3, []), (15, .invokevirtual 82, 3, []), (18, .aload_n 0, 1, []), (19, .iload_n 3, 1, []), (20, .invokevirtual 28, 3, []), (23, .astore 4, 2, []), (25, .aload_n 0, 1, []), (26, .getfield 20, 3, []), (29, .getfield 56, 3, []), (32, .ifCond .ne 8, 3, [40]), (35, .aload 4, 2, []), (37, .ifnonnull 4, 3, [41])]
abbrev b45_40 : List e_En := [(40, .return_, 1, [])]
abbrev b45_41 : List e_En := [(41, .aload 4, 2, []), (43, .iload_n 2, 1, []), (44, .aload_n 0, 1, []), (45, .getfield 20, 3, []), (48, .invokevirtual 85, 3, []), (51, .aload_n 0, 1, []), (52, .getfield 20, 3, []), (55, .getfield 56, 3, []), (58, .ifCond .eq 20, 3, [78]), (61, .aload_n 1, 1, []), (62, .bipush 16, 2, []), (64, .iload_n 2, 1, []), (65, .iload_n 2, 1, []), (66, .iconst 0, 1, []), (67, .invokevirtual 88, 3, []), (70, .aload_n 0, 1, []), (71, .getfield 20, 3, []), (74, .iconst 0, 1, []), (75, .putfield 91, 3, [])]
abbrev b45_78 : List e_En := [(78, .return_, 1, [])]
def cd45 : e_Cd := [(0, b45_0, 40), (40, b45_40, 0), (41, b45_41, 78), (78, b45_78, 0)]
set_option maxRecDepth 20000 in
theorem ok45 : e_chk 45 8 cd45 = true := by decide +kernel
theorem u45_0 {g : e_G} {Ψ : e_Q} {lv : e_Lv} {st : List Value} {h : e_Hp} : e_Sm g 45 8 cd45 Ψ 0 lv st h = e_exec g 45 8 [(0, .aload_n 0, 1, []), (1, .getfield 20, 3, []), (4, .bipush 23, 2, []), (6, .invokevirtual 75, 3, []), (9, .aload_n 1, 1, []), (10, .iload_n 2, 1, []), (11, .aload_n 0, 1, []), (12, .getfield 20, 3, []), (15, .invokevirtual 82, 3, []), (18, .aload_n 0, 1, []), (19, .iload_n 3, 1, []), (20, .invokevirtual 28, 3, []), (23, .astore 4, 2, []), (25, .aload_n 0, 1, []), (26, .getfield 20, 3, []), (29, .getfield 56, 3, []), (32, .ifCond .ne 8, 3, [40]), (35, .aload 4, 2, []), (37, .ifnonnull 4, 3, [41])] 40 lv st h (e_Sm g 45 8 cd45 Ψ) Ψ := e_unf rfl
theorem u45_40 {g : e_G} {Ψ : e_Q} {lv : e_Lv} {st : List Value} {h : e_Hp} : e_Sm g 45 8 cd45 Ψ 40 lv st h = e_exec g 45 8 [(40, .return_, 1, [])] 0 lv st h (e_Sm g 45 8 cd45 Ψ) Ψ := e_unf rfl
theorem u45_41 {g : e_G} {Ψ : e_Q} {lv : e_Lv} {st : List Value} {h : e_Hp} : e_Sm g 45 8 cd45 Ψ 41 lv st h = e_exec g 45 8 [(41, .aload 4, 2, []), (43, .iload_n 2, 1, []), (44, .aload_n 0, 1, []), (45, .getfield 20, 3, []), (48, .invokevirtual 85, 3, []), (51, .aload_n 0, 1, []), (52, .getfield 20, 3, []), (55, .getfield 56, 3, []), (58, .ifCond .eq 20, 3, [78]), (61, .aload_n 1, 1, []), (62, .bipush 16, 2, []), (64, .iload_n 2, 1, []), (65, .iload_n 2, 1, []), (66, .iconst 0, 1, []), (67, .invokevirtual 88, 3, []), (70, .aload_n 0, 1, []), (71, .getfield 20, 3, []), (74, .iconst 0, 1, []), (75, .putfield 91, 3, [])] 78 lv st h (e_Sm g 45 8 cd45 Ψ) Ψ := e_unf rfl
theorem u45_78 {g : e_G} {Ψ : e_Q} {lv : e_Lv} {st : List Value} {h : e_Hp} : e_Sm g 45 8 cd45 Ψ 78 lv st h = e_exec g 45 8 [(78, .return_, 1, [])] 0 lv st h (e_Sm g 45 8 cd45 Ψ) Ψ := e_unf rfl
theorem mL45 : e_mL 45 = 5 := by decide +kernel
/-- HoldHouse$Shelf.sumBelow(I)V -/
abbrev b46_0 : List e_En := [(0, .aload_n 0, 1, []), (1, .getfield 20, 3, []), (4, .bipush 24, 2, []), (6, .invokevirtual 75, 3, []), (9, .iconst 0, 1, []), (10, .istore_n 2, 1, []), (11, .iconst 0, 1, []), (12, .istore_n 3, 1, [])]
abbrev b46_13 : List e_En := [(13, .iload_n 3, 1, []), (14, .aload_n 0, 1, []), (15, .getfield 24, 3, []), (18, .if_icmp .ge 58, 3, [76]), (21, .aload_n 0, 1, []), (22, .iload_n 3, 1, []), (23, .invokevirtual 28, 3, []), (26, .astore 4, 2, []), (28, .aload 4, 2, []), (30, .ifnull 40, 3, [70]), (33, .aload 4, 2, []), (35, .getfield 43, 3, []), (38, .invokestatic 94, 3, []), (41, .ifCond .eq 29, 3, [70]), (44, .aload_n 0, 1, []), (45, .aload 4, 2, []), (47, .iload_n 1, 1, []), (48, .invokevirtual 98, 3, []), (51, .ifCond .eq 19, 3, [70]), (54, .aload_n 0, 1, []), (55, .getfield 20, 3, []), (58, .iconst 1, 1, []), (59, .invokevirtual 75, 3, []), (62, .iload_n 2, 1, []), (63, .aload 4, 2, []), (65, .getfield 46, 3, []), (68, .iadd, 1, []), (69, .istore_n 2, 1, [])]
abbrev b46_70 : List e_En := [(70, .iinc 3 1, 3, []), (73, .goto (-60), 3, [13])]
abbrev b46_76 : List e_En := [(76, .aload_n 0, 1, []), (77, .getfield 20, 3, []), (80, .iload_n 2, 1, []), (81, .putfield 91, 3, []), (84, .return_, 1, [])]
def cd46 : e_Cd := [(0, b46_0, 13), (13, b46_13, 70), (70, b46_70, 0), (76, b46_76, 0)]
set_option maxRecDepth 20000 in
theorem ok46 : e_chk 46 8 cd46 = true := by decide +kernel
theorem u46_0 {g : e_G} {Ψ : e_Q} {lv : e_Lv} {st : List Value} {h : e_Hp} : e_Sm g 46 8 cd46 Ψ 0 lv st h = e_exec g 46 8 [(0, .aload_n 0, 1, []), (1, .getfield 20, 3, []), (4, .bipush 24, 2, []), (6, .invokevirtual 75, 3, []), (9, .iconst 0, 1, []), (10, .istore_n 2, 1, []), (11, .iconst 0, 1, []), (12, .istore_n 3, 1, [])] 13 lv st h (e_Sm g 46 8 cd46 Ψ) Ψ := e_unf rfl
theorem u46_13 {g : e_G} {Ψ : e_Q} {lv : e_Lv} {st : List Value} {h : e_Hp} : e_Sm g 46 8 cd46 Ψ 13 lv st h = e_exec g 46 8 [(13, .iload_n 3, 1, []), (14, .aload_n 0, 1, []), (15, .getfield 24, 3, []), (18, .if_icmp .ge 58, 3, [76]), (21, .aload_n 0, 1, []), (22, .iload_n 3, 1, []), (23, .invokevirtual 28, 3, []), (26, .astore 4, 2, []), (28, .aload 4, 2, []), (30, .ifnull 40, 3, [70]), (33, .aload 4, 2, []), (35, .getfield 43, 3, []), (38, .invokestatic 94, 3, []), (41, .ifCond .eq 29, 3, [70]), (44, .aload_n 0, 1, []), (45, .aload 4, 2, []), (47, .iload_n 1, 1, []), (48, .invokevirtual 98, 3, []), (51, .ifCond .eq 19, 3, [70]), (54, .aload_n 0, 1, []), (55, .getfield 20, 3, []), (58, .iconst 1, 1, []), (59, .invokevirtual 75, 3, []), (62, .iload_n 2, 1, []), (63, .aload 4, 2, []), (65, .getfield 46, 3, []), (68, .iadd, 1, []), (69, .istore_n 2, 1, [])] 70 lv st h (e_Sm g 46 8 cd46 Ψ) Ψ := e_unf rfl
theorem u46_70 {g : e_G} {Ψ : e_Q} {lv : e_Lv} {st : List Value} {h : e_Hp} : e_Sm g 46 8 cd46 Ψ 70 lv st h = e_exec g 46 8 [(70, .iinc 3 1, 3, []), (73, .goto (-60), 3, [13])] 0 lv st h (e_Sm g 46 8 cd46 Ψ) Ψ := e_unf rfl
theorem u46_76 {g : e_G} {Ψ : e_Q} {lv : e_Lv} {st : List Value} {h : e_Hp} : e_Sm g 46 8 cd46 Ψ 76 lv st h = e_exec g 46 8 [(76, .aload_n 0, 1, []), (77, .getfield 20, 3, []), (80, .iload_n 2, 1, []), (81, .putfield 91, 3, []), (84, .return_, 1, [])] 0 lv st h (e_Sm g 46 8 cd46 Ψ) Ψ := e_unf rfl
theorem mL46 : e_mL 46 = 5 := by decide +kernel
/-- HoldHouse$Shelf.liesIn(LHoldHouse$Thing;I)Z -/
abbrev b47_0 : List e_En := [(0, .aload_n 1, 1, []), (1, .astore_n 3, 1, []), (2, .iconst 0, 1, []), (3, .istore 4, 2, [])]
abbrev b47_5 : List e_En := [(5, .iload 4, 2, []), (7, .iconst 5, 1, []), (8, .if_icmp .gt 32, 3, [40]), (11, .aload_n 3, 1, []), (12, .ifnull 28, 3, [40]), (15, .aload_n 3, 1, []), (16, .getfield 40, 3, []), (19, .iload_n 2, 1, []), (20, .if_icmp .ne 5, 3, [25]), (23, .iconst 1, 1, []), (24, .ireturn, 1, [])]
abbrev b47_25 : List e_En := [(25, .aload_n 0, 1, []), (26, .aload_n 3, 1, []), (27, .getfield 40, 3, []), (30, .invokevirtual 28, 3, []), (33, .astore_n 3, 1, []), (34, .iinc 4 1, 3, []), (37, .goto (-32), 3, [5])]
abbrev b47_40 : List e_En := [(40, .iconst 0, 1, []), (41, .ireturn, 1, [])]
def cd47 : e_Cd := [(0, b47_0, 5), (5, b47_5, 0), (25, b47_25, 0), (40, b47_40, 0)]
set_option maxRecDepth 20000 in
theorem ok47 : e_chk 47 8 cd47 = true := by decide +kernel
theorem u47_0 {g : e_G} {Ψ : e_Q} {lv : e_Lv} {st : List Value} {h : e_Hp} : e_Sm g 47 8 cd47 Ψ 0 lv st h = e_exec g 47 8 [(0, .aload_n 1, 1, []), (1, .astore_n 3, 1, []), (2, .iconst 0, 1, []), (3, .istore 4, 2, [])] 5 lv st h (e_Sm g 47 8 cd47 Ψ) Ψ := e_unf rfl
theorem u47_5 {g : e_G} {Ψ : e_Q} {lv : e_Lv} {st : List Value} {h : e_Hp} : e_Sm g 47 8 cd47 Ψ 5 lv st h = e_exec g 47 8 [(5, .iload 4, 2, []), (7, .iconst 5, 1, []), (8, .if_icmp .gt 32, 3, [40]), (11, .aload_n 3, 1, []), (12, .ifnull 28, 3, [40]), (15, .aload_n 3, 1, []), (16, .getfield 40, 3, []), (19, .iload_n 2, 1, []), (20, .if_icmp .ne 5, 3, [25]), (23, .iconst 1, 1, []), (24, .ireturn, 1, [])] 0 lv st h (e_Sm g 47 8 cd47 Ψ) Ψ := e_unf rfl
theorem u47_25 {g : e_G} {Ψ : e_Q} {lv : e_Lv} {st : List Value} {h : e_Hp} : e_Sm g 47 8 cd47 Ψ 25 lv st h = e_exec g 47 8 [(25, .aload_n 0, 1, []), (26, .aload_n 3, 1, []), (27, .getfield 40, 3, []), (30, .invokevirtual 28, 3, []), (33, .astore_n 3, 1, []), (34, .iinc 4 1, 3, []), (37, .goto (-32), 3, [5])] 0 lv st h (e_Sm g 47 8 cd47 Ψ) Ψ := e_unf rfl
theorem u47_40 {g : e_G} {Ψ : e_Q} {lv : e_Lv} {st : List Value} {h : e_Hp} : e_Sm g 47 8 cd47 Ψ 40 lv st h = e_exec g 47 8 [(40, .iconst 0, 1, []), (41, .ireturn, 1, [])] 0 lv st h (e_Sm g 47 8 cd47 Ψ) Ψ := e_unf rfl
theorem mL47 : e_mL 47 = 5 := by decide +kernel
theorem rt47 : e_rt 47 = (some .boolean) := by decide +kernel
/-- HoldHouse$Shelf.outcome(IIII)J -/
abbrev b48_0 : List e_En := [(0, .aload_n 0, 1, []), (1, .iload_n 1, 1, []), (2, .iload_n 2, 1, []), (3, .iload_n 3, 1, []), (4, .iload 4, 2, []), (6, .invokevirtual 102, 3, []), (9, .aload_n 0, 1, []), (10, .getfield 20, 3, []), (13, .getfield 56, 3, []), (16, .i2l, 1, []), (17, .bipush 32, 2, []), (19, .lshl, 1, []), (20, .aload_n 0, 1, []), (21, .getfield 20, 3, []), (24, .getfield 91, 3, []), (27, .i2l, 1, []), (28, .ldc2_w 105, 3, []), (31, .land, 1, []), (32, .lor, 1, []), (33, .lreturn, 1, [])]
def cd48 : e_Cd := [(0, b48_0, 0)]
set_option maxRecDepth 20000 in
theorem ok48 : e_chk 48 8 cd48 = true := by decide +kernel
theorem u48_0 {g : e_G} {Ψ : e_Q} {lv : e_Lv} {st : List Value} {h : e_Hp} : e_Sm g 48 8 cd48 Ψ 0 lv st h = e_exec g 48 8 [(0, .aload_n 0, 1, []), (1, .iload_n 1, 1, []), (2, .iload_n 2, 1, []), (3, .iload_n 3, 1, []), (4, .iload 4, 2, []), (6, .invokevirtual 102, 3, []), (9, .aload_n 0, 1, []), (10, .getfield 20, 3, []), (13, .getfield 56, 3, []), (16, .i2l, 1, []), (17, .bipush 32, 2, []), (19, .lshl, 1, []), (20, .aload_n 0, 1, []), (21, .getfield 20, 3, []), (24, .getfield 91, 3, []), (27, .i2l, 1, []), (28, .ldc2_w 105, 3, []), (31, .land, 1, []), (32, .lor, 1, []), (33, .lreturn, 1, [])] 0 lv st h (e_Sm g 48 8 cd48 Ψ) Ψ := e_unf rfl
theorem mL48 : e_mL 48 = 5 := by decide +kernel
/-- HoldHouse$Shelf.revert(LHoldHouse$Row;)V -/
abbrev b49_0 : List e_En := [(0, .aload_n 0, 1, []), (1, .aload_n 1, 1, []), (2, .getfield 107, 3, []), (5, .invokevirtual 28, 3, []), (8, .astore_n 2, 1, []), (9, .aload_n 0, 1, []), (10, .aload_n 1, 1, []), (11, .getfield 112, 3, []), (14, .invokevirtual 28, 3, []), (17, .astore_n 3, 1, []), (18, .aload_n 1, 1, []), (19, .getfield 115, 3, []), (22, .bipush 18, 2, []), (24, .if_icmp .ne 21, 3, [45]), (27, .aload_n 3, 1, []), (28, .ifnull 17, 3, [45]), (31, .aload_n 3, 1, []), (32, .iconst 1, 1, []), (33, .aload_n 1, 1, []), (34, .getfield 118, 3, []), (37, .iconst 0, 1, []), (38, .iconst 0, 1, []), (39, .invokevirtual 88, 3, []), (42, .goto 71, 3, [113])]
abbrev b49_45 : List e_En := [(45, .aload_n 1, 1, []), (46, .getfield 115, 3, []), (49, .bipush 19, 2, []), (51, .if_icmp .ne 38, 3, [89]), (54, .aload_n 2, 1, []), (55, .ifnull 34, 3, [89]), (58, .aload_n 3, 1, []), (59, .ifnull 30, 3, [89]), (62, .aload_n 3, 1, []), (63, .bipush 15, 2, []), (65, .aload_n 1, 1, []), (66, .getfield 118, 3, []), (69, .iconst 0, 1, []), (70, .iconst 0, 1, []), (71, .invokevirtual 88, 3, []), (74, .aload_n 2, 1, []), (75, .bipush 16, 2, []), (77, .aload_n 1, 1, []), (78, .getfield 118, 3, []), (81, .iconst 0, 1, []), (82, .iconst 0, 1, []), (83, .invokevirtual 88, 3, []), (86, .goto 27, 3, [113])]
abbrev b49_89 : List e_En := [(89, .aload_n 2, 1, []), (90, .ifnull 23, 3, [113]), (93, .aload_n 2, 1, []), (94, .aload_n 1, 1, []), (95, .getfield 115, 3, []), (98, .aload_n 1, 1, []), (99, .getfield 118, 3, []), (102, .aload_n 1, 1, []), (103, .getfield 121, 3, []), (106, .aload_n 1, 1, []), (107, .getfield 122, 3, []), (110, .invokevirtual 88, 3, [])]
abbrev b49_113 : List e_En := [(113, .return_, 1, [])]
def cd49 : e_Cd := [(0, b49_0, 0), (45, b49_45, 0), (89, b49_89, 113), (113, b49_113, 0)]
set_option maxRecDepth 20000 in
theorem ok49 : e_chk 49 8 cd49 = true := by decide +kernel
theorem u49_0 {g : e_G} {Ψ : e_Q} {lv : e_Lv} {st : List Value} {h : e_Hp} : e_Sm g 49 8 cd49 Ψ 0 lv st h = e_exec g 49 8 [(0, .aload_n 0, 1, []), (1, .aload_n 1, 1, []), (2, .getfield 107, 3, []), (5, .invokevirtual 28, 3, []), (8, .astore_n 2, 1, []), (9, .aload_n 0, 1, []), (10, .aload_n 1, 1, []), (11, .getfield 112, 3, []), (14, .invokevirtual 28, 3, []), (17, .astore_n 3, 1, []), (18, .aload_n 1, 1, []), (19, .getfield 115, 3, []), (22, .bipush 18, 2, []), (24, .if_icmp .ne 21, 3, [45]), (27, .aload_n 3, 1, []), (28, .ifnull 17, 3, [45]), (31, .aload_n 3, 1, []), (32, .iconst 1, 1, []), (33, .aload_n 1, 1, []), (34, .getfield 118, 3, []), (37, .iconst 0, 1, []), (38, .iconst 0, 1, []), (39, .invokevirtual 88, 3, []), (42, .goto 71, 3, [113])] 0 lv st h (e_Sm g 49 8 cd49 Ψ) Ψ := e_unf rfl
theorem u49_45 {g : e_G} {Ψ : e_Q} {lv : e_Lv} {st : List Value} {h : e_Hp} : e_Sm g 49 8 cd49 Ψ 45 lv st h = e_exec g 49 8 [(45, .aload_n 1, 1, []), (46, .getfield 115, 3, []), (49, .bipush 19, 2, []), (51, .if_icmp .ne 38, 3, [89]), (54, .aload_n 2, 1, []), (55, .ifnull 34, 3, [89]), (58, .aload_n 3, 1, []), (59, .ifnull 30, 3, [89]), (62, .aload_n 3, 1, []), (63, .bipush 15, 2, []), (65, .aload_n 1, 1, []), (66, .getfield 118, 3, []), (69, .iconst 0, 1, []), (70, .iconst 0, 1, []), (71, .invokevirtual 88, 3, []), (74, .aload_n 2, 1, []), (75, .bipush 16, 2, []), (77, .aload_n 1, 1, []), (78, .getfield 118, 3, []), (81, .iconst 0, 1, []), (82, .iconst 0, 1, []), (83, .invokevirtual 88, 3, []), (86, .goto 27, 3, [113])] 0 lv st h (e_Sm g 49 8 cd49 Ψ) Ψ := e_unf rfl
theorem u49_89 {g : e_G} {Ψ : e_Q} {lv : e_Lv} {st : List Value} {h : e_Hp} : e_Sm g 49 8 cd49 Ψ 89 lv st h = e_exec g 49 8 [(89, .aload_n 2, 1, []), (90, .ifnull 23, 3, [113]), (93, .aload_n 2, 1, []), (94, .aload_n 1, 1, []), (95, .getfield 115, 3, []), (98, .aload_n 1, 1, []), (99, .getfield 118, 3, []), (102, .aload_n 1, 1, []), (103, .getfield 121, 3, []), (106, .aload_n 1, 1, []), (107, .getfield 122, 3, []), (110, .invokevirtual 88, 3, [])] 113 lv st h (e_Sm g 49 8 cd49 Ψ) Ψ := e_unf rfl
theorem u49_113 {g : e_G} {Ψ : e_Q} {lv : e_Lv} {st : List Value} {h : e_Hp} : e_Sm g 49 8 cd49 Ψ 113 lv st h = e_exec g 49 8 [(113, .return_, 1, [])] 0 lv st h (e_Sm g 49 8 cd49 Ψ) Ψ := e_unf rfl
theorem mL49 : e_mL 49 = 4 := by decide +kernel
/-- HoldHouse$Shelf.sameAs(LHoldHouse$Shelf;)Z -/
abbrev b50_0 : List e_En := [(0, .aload_n 0, 1, []), (1, .getfield 24, 3, []), (4, .aload_n 1, 1, []), (5, .getfield 24, 3, []), (8, .if_icmp .eq 5, 3, [13]), (11, .iconst 0, 1, []), (12, .ireturn, 1, [])]
abbrev b50_13 : List e_En := [(13, .iconst 0, 1, []), (14, .istore_n 2, 1, [])]
abbrev b50_15 : List e_En := [(15, .iload_n 2, 1, []), (16, .aload_n 0, 1, []), (17, .getfield 24, 3, []), (20, .if_icmp .ge 42, 3, [62]), (23, .aload_n 0, 1, []), (24, .iload_n 2, 1, []), (25, .invokevirtual 28, 3, []), (28, .astore_n 3, 1, []), (29, .aload_n 1, 1, []), (30, .iload_n 2, 1, []), (31, .invokevirtual 28, 3, []), (34, .astore 4, 2, []), (36, .aload_n 3, 1, []), (37, .ifnull 17, 3, [54]), (40, .aload 4, 2, []), (42, .ifnull 12, 3, [54]), (45, .aload_n 3, 1, []), (46, .aload 4, 2, []), (48, .invokevirtual 125, 3, []), (51, .ifCond .ne 5, 3, [56])]
abbrev b50_54 : List e_En := [(54, .iconst 0, 1, []), (55, .ireturn, 1, [])]
abbrev b50_56 : List e_En := [(56, .iinc 2 1, 3, []), (59, .goto (-44), 3, [15])]
abbrev b50_62 : List e_En := [(62, .iconst 1, 1, []), (63, .ireturn, 1, [])]
def cd50 : e_Cd := [(0, b50_0, 0), (13, b50_13, 15), (15, b50_15, 54), (54, b50_54, 0), (56, b50_56, 0), (62, b50_62, 0)]
set_option maxRecDepth 20000 in
theorem ok50 : e_chk 50 8 cd50 = true := by decide +kernel
theorem u50_0 {g : e_G} {Ψ : e_Q} {lv : e_Lv} {st : List Value} {h : e_Hp} : e_Sm g 50 8 cd50 Ψ 0 lv st h = e_exec g 50 8 [(0, .aload_n 0, 1, []), (1, .getfield 24, 3, []), (4, .aload_n 1, 1, []), (5, .getfield 24, 3, []), (8, .if_icmp .eq 5, 3, [13]), (11, .iconst 0, 1, []), (12, .ireturn, 1, [])] 0 lv st h (e_Sm g 50 8 cd50 Ψ) Ψ := e_unf rfl
theorem u50_13 {g : e_G} {Ψ : e_Q} {lv : e_Lv} {st : List Value} {h : e_Hp} : e_Sm g 50 8 cd50 Ψ 13 lv st h = e_exec g 50 8 [(13, .iconst 0, 1, []), (14, .istore_n 2, 1, [])] 15 lv st h (e_Sm g 50 8 cd50 Ψ) Ψ := e_unf rfl
theorem u50_15 {g : e_G} {Ψ : e_Q} {lv : e_Lv} {st : List Value} {h : e_Hp} : e_Sm g 50 8 cd50 Ψ 15 lv st h = e_exec g 50 8 [(15, .iload_n 2, 1, []), (16, .aload_n 0, 1, []), (17, .getfield 24, 3, []), (20, .if_icmp .ge 42, 3, [62]), (23, .aload_n 0, 1, []), (24, .iload_n 2, 1, []), (25, .invokevirtual 28, 3, []), (28, .astore_n 3, 1, []), (29, .aload_n 1, 1, []), (30, .iload_n 2, 1, []), (31, .invokevirtual 28, 3, []), (34, .astore 4, 2, []), (36, .aload_n 3, 1, []), (37, .ifnull 17, 3, [54]), (40, .aload 4, 2, []), (42, .ifnull 12, 3, [54]), (45, .aload_n 3, 1, []), (46, .aload 4, 2, []), (48, .invokevirtual 125, 3, []), (51, .ifCond .ne 5, 3, [56])] 54 lv st h (e_Sm g 50 8 cd50 Ψ) Ψ := e_unf rfl
theorem u50_54 {g : e_G} {Ψ : e_Q} {lv : e_Lv} {st : List Value} {h : e_Hp} : e_Sm g 50 8 cd50 Ψ 54 lv st h = e_exec g 50 8 [(54, .iconst 0, 1, []), (55, .ireturn, 1, [])] 0 lv st h (e_Sm g 50 8 cd50 Ψ) Ψ := e_unf rfl
theorem u50_56 {g : e_G} {Ψ : e_Q} {lv : e_Lv} {st : List Value} {h : e_Hp} : e_Sm g 50 8 cd50 Ψ 56 lv st h = e_exec g 50 8 [(56, .iinc 2 1, 3, []), (59, .goto (-44), 3, [15])] 0 lv st h (e_Sm g 50 8 cd50 Ψ) Ψ := e_unf rfl
theorem u50_62 {g : e_G} {Ψ : e_Q} {lv : e_Lv} {st : List Value} {h : e_Hp} : e_Sm g 50 8 cd50 Ψ 62 lv st h = e_exec g 50 8 [(62, .iconst 1, 1, []), (63, .ireturn, 1, [])] 0 lv st h (e_Sm g 50 8 cd50 Ψ) Ψ := e_unf rfl
theorem mL50 : e_mL 50 = 5 := by decide +kernel
theorem rt50 : e_rt 50 = (some .boolean) := by decide +kernel
/-- HoldHouse$Shelf.copyFrom(LHoldHouse$Shelf;)V -/
abbrev b51_0 : List e_En := [(0, .aload_n 0, 1, []), (1, .iconst 0, 1, []), (2, .putfield 24, 3, []), (5, .iconst 0, 1, []), (6, .istore_n 2, 1, [])]
abbrev b51_7 : List e_En := [(7, .iload_n 2, 1, []), (8, .aload_n 1, 1, []), (9, .getfield 24, 3, []), (12, .if_icmp .ge 44, 3, [56]), (15, .aload_n 1, 1, []), (16, .iload_n 2, 1, []), (17, .invokevirtual 28, 3, []), (20, .astore_n 3, 1, []), (21, .aload_n 0, 1, []), (22, .iconst 0, 1, []), (23, .iconst (-1), 1, []), (24, .iconst 0, 1, []), (25, .invokevirtual 129, 3, []), (28, .aload_n 0, 1, []), (29, .iload_n 2, 1, []), (30, .invokevirtual 28, 3, []), (33, .astore 4, 2, []), (35, .aload 4, 2, []), (37, .ifnull 13, 3, [50]), (40, .aload_n 3, 1, []), (41, .ifnull 9, 3, [50]), (44, .aload 4, 2, []), (46, .aload_n 3, 1, []), (47, .invokevirtual 133, 3, [])]
abbrev b51_50 : List e_En := [(50, .iinc 2 1, 3, []), (53, .goto (-46), 3, [7])]
abbrev b51_56 : List e_En := [(56, .return_, 1, [])]
def cd51 : e_Cd := [(0, b51_0, 7), (7, b51_7, 50), (50, b51_50, 0), (56, b51_56, 0)]
set_option maxRecDepth 20000 in
theorem ok51 : e_chk 51 8 cd51 = true := by decide +kernel
theorem u51_0 {g : e_G} {Ψ : e_Q} {lv : e_Lv} {st : List Value} {h : e_Hp} : e_Sm g 51 8 cd51 Ψ 0 lv st h = e_exec g 51 8 [(0, .aload_n 0, 1, []), (1, .iconst 0, 1, []), (2, .putfield 24, 3, []), (5, .iconst 0, 1, []), (6, .istore_n 2, 1, [])] 7 lv st h (e_Sm g 51 8 cd51 Ψ) Ψ := e_unf rfl
theorem u51_7 {g : e_G} {Ψ : e_Q} {lv : e_Lv} {st : List Value} {h : e_Hp} : e_Sm g 51 8 cd51 Ψ 7 lv st h = e_exec g 51 8 [(7, .iload_n 2, 1, []), (8, .aload_n 1, 1, []), (9, .getfield 24, 3, []), (12, .if_icmp .ge 44, 3, [56]), (15, .aload_n 1, 1, []), (16, .iload_n 2, 1, []), (17, .invokevirtual 28, 3, []), (20, .astore_n 3, 1, []), (21, .aload_n 0, 1, []), (22, .iconst 0, 1, []), (23, .iconst (-1), 1, []), (24, .iconst 0, 1, []), (25, .invokevirtual 129, 3, []), (28, .aload_n 0, 1, []), (29, .iload_n 2, 1, []), (30, .invokevirtual 28, 3, []), (33, .astore 4, 2, []), (35, .aload 4, 2, []), (37, .ifnull 13, 3, [50]), (40, .aload_n 3, 1, []), (41, .ifnull 9, 3, [50]), (44, .aload 4, 2, []), (46, .aload_n 3, 1, []), (47, .invokevirtual 133, 3, [])] 50 lv st h (e_Sm g 51 8 cd51 Ψ) Ψ := e_unf rfl
theorem u51_50 {g : e_G} {Ψ : e_Q} {lv : e_Lv} {st : List Value} {h : e_Hp} : e_Sm g 51 8 cd51 Ψ 50 lv st h = e_exec g 51 8 [(50, .iinc 2 1, 3, []), (53, .goto (-46), 3, [7])] 0 lv st h (e_Sm g 51 8 cd51 Ψ) Ψ := e_unf rfl
theorem u51_56 {g : e_G} {Ψ : e_Q} {lv : e_Lv} {st : List Value} {h : e_Hp} : e_Sm g 51 8 cd51 Ψ 56 lv st h = e_exec g 51 8 [(56, .return_, 1, [])] 0 lv st h (e_Sm g 51 8 cd51 Ψ) Ψ := e_unf rfl
theorem mL51 : e_mL 51 = 5 := by decide +kernel
/-- HoldHouse$Spot.<init>()V -/
abbrev b52_0 : List e_En := [(0, .aload_n 0, 1, []), (1, .invokespecial 3, 3, []), (4, .aload_n 0, 1, []), (5, .new 9, 3, []), (8, .dup, 1, []), (9, .invokespecial 11, 3, []), (12, .putfield 12, 3, []), (15, .aload_n 0, 1, []), (16, .new 9, 3, []), (19, .dup, 1, []), (20, .invokespecial 11, 3, []), (23, .putfield 18, 3, []), (26, .aload_n 0, 1, []), (27, .bipush 16, 2, []), (29, .newarray .int, 2, []), (31, .putfield 21, 3, []), (34, .aload_n 0, 1, []), (35, .bipush 16, 2, []), (37, .newarray .int, 2, []), (39, .putfield 25, 3, []), (42, .return_, 1, [])]
def cd52 : e_Cd := [(0, b52_0, 0)]
set_option maxRecDepth 20000 in
theorem ok52 : e_chk 52 9 cd52 = true := by decide +kernel
theorem u52_0 {g : e_G} {Ψ : e_Q} {lv : e_Lv} {st : List Value} {h : e_Hp} : e_Sm g 52 9 cd52 Ψ 0 lv st h = e_exec g 52 9 [(0, .aload_n 0, 1, []), (1, .invokespecial 3, 3, []), (4, .aload_n 0, 1, []), (5, .new 9, 3, []), (8, .dup, 1, []), (9, .invokespecial 11, 3, []), (12, .putfield 12, 3, []), (15, .aload_n 0, 1, []), (16, .new 9, 3, []), (19, .dup, 1, []), (20, .invokespecial 11, 3, []), (23, .putfield 18, 3, []), (26, .aload_n 0, 1, []), (27, .bipush 16, 2, []), (29, .newarray .int, 2, []), (31, .putfield 21, 3, []), (34, .aload_n 0, 1, []), (35, .bipush 16, 2, []), (37, .newarray .int, 2, []), (39, .putfield 25, 3, []), (42, .return_, 1, [])] 0 lv st h (e_Sm g 52 9 cd52 Ψ) Ψ := e_unf rfl
theorem mL52 : e_mL 52 = 1 := by decide +kernel
/-- HoldHouse$Spot.reset(II)V -/
abbrev b53_0 : List e_En := [(0, .aload_n 0, 1, []), (1, .iload_n 1, 1, []), (2, .putfield 28, 3, []), (5, .aload_n 0, 1, []), (6, .getfield 12, 3, []), (9, .invokevirtual 32, 3, []), (12, .aload_n 0, 1, []), (13, .getfield 18, 3, []), (16, .invokevirtual 32, 3, []), (19, .aload_n 0, 1, []), (20, .iconst 0, 1, []), (21, .putfield 35, 3, []), (24, .aload_n 0, 1, []), (25, .iconst 0, 1, []), (26, .iload_n 2, 1, []), (27, .invokevirtual 38, 3, []), (30, .return_, 1, [])]
def cd53 : e_Cd := [(0, b53_0, 0)]
set_option maxRecDepth 20000 in
theorem ok53 : e_chk 53 9 cd53 = true := by decide +kernel
theorem u53_0 {g : e_G} {Ψ : e_Q} {lv : e_Lv} {st : List Value} {h : e_Hp} : e_Sm g 53 9 cd53 Ψ 0 lv st h = e_exec g 53 9 [(0, .aload_n 0, 1, []), (1, .iload_n 1, 1, []), (2, .putfield 28, 3, []), (5, .aload_n 0, 1, []), (6, .getfield 12, 3, []), (9, .invokevirtual 32, 3, []), (12, .aload_n 0, 1, []), (13, .getfield 18, 3, []), (16, .invokevirtual 32, 3, []), (19, .aload_n 0, 1, []), (20, .iconst 0, 1, []), (21, .putfield 35, 3, []), (24, .aload_n 0, 1, []), (25, .iconst 0, 1, []), (26, .iload_n 2, 1, []), (27, .invokevirtual 38, 3, []), (30, .return_, 1, [])] 0 lv st h (e_Sm g 53 9 cd53 Ψ) Ψ := e_unf rfl
theorem mL53 : e_mL 53 = 3 := by decide +kernel
