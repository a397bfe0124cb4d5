/-! ===== THE CODE OF ALL METHODS ===== -/
def bkX0_pass : List (Nat × List Instr) := [(0, [.aload 0, .invokeinterface 2 1, .bipush 100, .irem, .aload 0, .getfield 812, .bipush 1, .iaload, .if_icmp .ge 20, .bipush 1, .goto 21]),
  (20, [.bipush 0, .jsr 21]),
  (21, [.istore 1, .iload 1, .ifCond .eq 33, .aload 0, .invokeinterface 4 1, .goto 37]),
  (33, [.aload 0, .invokeinterface 5 1, .jsr 37]),
  (37, [.aload 0, .invokeinterface 8 1, .aload 0, .invokeinterface 2 1, .bipush 100, .irem, .aload 0, .getfield 812, .bipush 2, .iaload, .if_icmp .ge 61, .bipush 1, .goto 62]),
  (61, [.bipush 0, .jsr 62]),
  (62, [.istore 2, .iload 2, .ifCond .eq 71, .aload 0, .invokeinterface 9 1, .jsr 71]),
  (71, [.aload 0, .invokeinterface 2 1, .bipush 100, .irem, .aload 0, .getfield 812, .bipush 3, .iaload, .if_icmp .ge 91, .bipush 1, .goto 92]),
  (91, [.bipush 0, .jsr 92]),
  (92, [.istore 3, .iload 3, .ifCond .eq 101, .aload 0, .invokeinterface 11 1, .jsr 101]),
  (101, [.aload 0, .invokeinterface 3 1, .iload 1, .freturn])]
def bkX0_passThawing : List (Nat × List Instr) := [(0, [.aload 0, .invokeinterface 5 1, .aload 0, .invokeinterface 8 1, .aload 0, .invokeinterface 3 1, .return_])]
def bkX0_draw : List (Nat × List Instr) := [(0, [.aload 0, .bipush 1103515245, .aload 0, .getfield 813, .imul, .bipush 12345, .iadd, .putfield 813, .aload 0, .getfield 813, .bipush 16, .iushr, .bipush 32767, .iand, .ireturn])]
def bkX0_goOn : List (Nat × List Instr) := [(0, [.aload 0, .getfield 812, .bipush 4, .bipush 9999, .aload 0, .getfield 812, .bipush 4, .iaload, .bipush 1, .iadd, .invokestatic 0, .iastore, .return_])]
def bkX0_fallOn : List (Nat × List Instr) := [(0, [.bipush 0, .istore 1, .jsr 2]),
  (2, [.iload 1, .aload 0, .getfield 800, .if_icmp .ge 40, .aload 0, .getfield 802, .iload 1, .bipush 99, .aload 0, .getfield 802, .iload 1, .iaload, .aload 0, .getfield 812, .bipush 0, .iaload, .iadd, .invokestatic 0, .iastore, .iinc 1 1, .goto 2]),
  (40, [.bipush 0, .istore 1, .jsr 42]),
  (42, [.iload 1, .aload 0, .getfield 804, .if_icmp .ge 72, .aload 0, .getfield 807, .iload 1, .iaload, .bipush (-1), .if_icmp .eq 66, .aload 0, .iload 1, .bipush 1, .invokeinterface 7 3, .jsr 66]),
  (66, [.iinc 1 1, .goto 42]),
  (72, [.return_])]
def bkX0_thaw : List (Nat × List Instr) := [(0, [.bipush 0, .istore 1, .jsr 2]),
  (2, [.iload 1, .aload 0, .getfield 804, .if_icmp .ge 54, .aload 0, .getfield 807, .iload 1, .iaload, .istore 2, .iload 2, .bipush (-1), .if_icmp .eq 48, .aload 0, .iload 1, .iload 2, .invokeinterface 124 3, .istore 3, .aload 0, .iload 1, .aload 0, .iload 2, .invokeinterface 6 2, .ifCond .ne 44, .bipush 9, .goto 45]),
  (44, [.iload 3, .jsr 45]),
  (45, [.invokeinterface 7 3, .jsr 48]),
  (48, [.iinc 1 1, .goto 2]),
  (54, [.bipush 0, .istore 1, .jsr 56]),
  (56, [.iload 1, .aload 0, .getfield 800, .if_icmp .ge 81, .aload 0, .getfield 802, .iload 1, .aload 0, .iload 1, .invokeinterface 6 2, .iastore, .iinc 1 1, .goto 56]),
  (81, [.return_])]
def bkX0_snowThawed : List (Nat × List Instr) := [(0, [.bipush 0, .aload 0, .getfield 802, .iload 1, .iaload, .aload 0, .getfield 801, .iload 1, .iaload, .isub, .bipush 1, .isub, .invokestatic 1, .ireturn])]
def bkX0_lessen : List (Nat × List Instr) := [(0, [.bipush 6, .iload 1, .imul, .istore 3, .jsr 5]),
  (5, [.iload 3, .bipush 6, .iload 1, .imul, .aload 0, .getfield 805, .iload 1, .iaload, .iadd, .if_icmp .ge 44, .aload 0, .getfield 809, .iload 3, .bipush 0, .aload 0, .getfield 809, .iload 3, .iaload, .iload 2, .isub, .invokestatic 1, .iastore, .iinc 3 1, .goto 5]),
  (44, [.return_])]
def bkX0_letGo : List (Nat × List Instr) := [(0, [.bipush 0, .istore 1, .jsr 2]),
  (2, [.iload 1, .aload 0, .getfield 804, .if_icmp .ge 59, .aload 0, .getfield 807, .iload 1, .iaload, .istore 2, .iload 2, .bipush (-1), .if_icmp .eq 53, .aload 0, .iload 1, .invokeinterface 117 2, .ifCond .ne 53, .aload 0, .getfield 807, .iload 1, .bipush (-1), .iastore, .aload 0, .getfield 811, .aload 0, .getfield 812, .bipush 4, .iaload, .iload 1, .bipush 2, .iload 2, .invokeinterface 50 5, .jsr 53]),
  (53, [.iinc 1 1, .goto 2]),
  (59, [.return_])]
def bkX0_alter : List (Nat × List Instr) := [(0, [.aload 0, .invokeinterface 113 1, .invokeinterface 382 1, .istore 1, .iload 1, .ifCond .gt 13, .return_]),
  (13, [.aload 0, .aload 0, .invokeinterface 2 1, .iload 1, .irem, .invokeinterface 10 2, .istore 2, .aload 0, .invokeinterface 2 1, .istore 3, .iload 2, .bipush (-1), .if_icmp .eq 43, .aload 0, .getfield 805, .iload 2, .iaload, .ifCond .gt 44, .jsr 43]),
  (43, [.return_]),
  (44, [.bipush 6, .iload 2, .imul, .iload 3, .aload 0, .getfield 805, .iload 2, .iaload, .irem, .iadd, .istore 4, .aload 0, .getfield 809, .iload 4, .iaload, .ifCond .le 107, .aload 0, .getfield 808, .iload 4, .aload 0, .getfield 808, .iload 4, .iaload, .invokeinterface 67 1, .iastore, .aload 0, .getfield 811, .aload 0, .getfield 812, .bipush 4, .iaload, .iload 2, .bipush 3, .aload 0, .getfield 807, .iload 2, .iaload, .invokeinterface 50 5, .jsr 107]),
  (107, [.return_])]
def bkX0_writtenOne : List (Nat × List Instr) := [(0, [.bipush 0, .istore 2, .bipush 0, .istore 3, .jsr 4]),
  (4, [.iload 3, .aload 0, .getfield 804, .if_icmp .ge 38, .aload 0, .getfield 807, .iload 3, .iaload, .bipush (-1), .if_icmp .eq 32, .iload 2, .iload 1, .if_icmp .ne 29, .iload 3, .ireturn]),
  (29, [.iinc 2 1, .jsr 32]),
  (32, [.iinc 3 1, .goto 4]),
  (38, [.bipush (-1), .ireturn])]
def bkX0_blowOn : List (Nat × List Instr) := [(0, [.bipush 0, .istore 1, .jsr 2]),
  (2, [.iload 1, .aload 0, .getfield 804, .if_icmp .ge 88, .aload 0, .getfield 807, .iload 1, .iaload, .istore 2, .iload 2, .bipush (-1), .if_icmp .eq 82, .iload 2, .bipush 1, .iadd, .aload 0, .getfield 800, .if_icmp .ge 38, .iload 2, .bipush 1, .iadd, .goto 39]),
  (38, [.bipush 0, .jsr 39]),
  (39, [.istore 3, .aload 0, .getfield 802, .iload 3, .iaload, .ifCond .le 59, .aload 0, .getfield 807, .iload 1, .iload 3, .iastore, .goto 82]),
  (59, [.aload 0, .getfield 807, .iload 1, .bipush (-1), .iastore, .aload 0, .getfield 811, .aload 0, .getfield 812, .bipush 4, .iaload, .iload 1, .bipush 4, .iload 2, .invokeinterface 50 5, .jsr 82]),
  (82, [.iinc 1 1, .goto 2]),
  (88, [.return_])]
def bkX1_init : List (Nat × List Instr) := [(0, [.aload 0, .invokespecial 0, .aload 0, .bipush 0, .putfield 0, .aload 0, .bipush 8, .newarray .int, .putstatic 1, .aload 0, .bipush 8, .newarray .int, .putstatic 2, .aload 0, .bipush 8, .newarray .int, .putstatic 3, .return_])]
def bkX1_copyFrom : List (Nat × List Instr) := [(0, [.aload 0, .aload 1, .getfield 0, .putfield 0, .aload 1, .getfield 1, .bipush 0, .aload 0, .getfield 1, .bipush 0, .bipush 8, .invokestatic 2, .aload 1, .getfield 2, .bipush 0, .aload 0, .getfield 2, .bipush 0, .bipush 8, .invokestatic 2, .aload 1, .getfield 3, .bipush 0, .aload 0, .getfield 3, .bipush 0, .bipush 8, .invokestatic 2, .return_])]
def bkX1_add : List (Nat × List Instr) := [(0, [.aload 0, .getfield 0, .bipush 8, .if_icmp .ge 49, .aload 0, .getfield 1, .aload 0, .getfield 0, .iload 1, .iastore, .aload 0, .getfield 2, .aload 0, .getfield 0, .iload 2, .iastore, .aload 0, .getfield 3, .aload 0, .getfield 0, .iload 3, .iastore, .aload 0, .dup, .getfield 0, .bipush 1, .iadd, .putfield 0, .jsr 49]),
  (49, [.return_])]
def bkX1_remove : List (Nat × List Instr) := [(0, [.iload 1, .istore 2, .jsr 2]),
  (2, [.iload 2, .bipush 1, .iadd, .aload 0, .getfield 0, .if_icmp .ge 60, .aload 0, .getfield 1, .iload 2, .aload 0, .getfield 1, .iload 2, .bipush 1, .iadd, .iaload, .iastore, .aload 0, .getfield 2, .iload 2, .aload 0, .getfield 2, .iload 2, .bipush 1, .iadd, .iaload, .iastore, .aload 0, .getfield 3, .iload 2, .aload 0, .getfield 3, .iload 2, .bipush 1, .iadd, .iaload, .iastore, .iinc 2 1, .goto 2]),
  (60, [.aload 0, .dup, .getfield 0, .bipush 1, .isub, .putfield 0, .return_])]
def bkX1_allOwed : List (Nat × List Instr) := [(0, [.bipush 0, .istore 1, .bipush 0, .istore 2, .jsr 4]),
  (4, [.iload 2, .aload 0, .getfield 0, .if_icmp .ge 27, .iload 1, .aload 0, .getfield 3, .iload 2, .iaload, .iadd, .istore 1, .iinc 2 1, .goto 4]),
  (27, [.iload 1, .ireturn])]
def bkX1_owedBy : List (Nat × List Instr) := [(0, [.bipush 0, .istore 2, .bipush 0, .istore 3, .jsr 4]),
  (4, [.iload 3, .aload 0, .getfield 0, .if_icmp .ge 37, .aload 0, .getfield 1, .iload 3, .iaload, .iload 1, .if_icmp .ne 31, .iload 2, .aload 0, .getfield 3, .iload 3, .iaload, .iadd, .istore 2, .jsr 31]),
  (31, [.iinc 3 1, .goto 4]),
  (37, [.iload 2, .ireturn])]
def bkX1_balance : List (Nat × List Instr) := [(0, [.bipush 0, .istore 2, .bipush 0, .istore 3, .jsr 4]),
  (4, [.iload 3, .aload 0, .getfield 0, .if_icmp .ge 56, .aload 0, .getfield 1, .iload 3, .iaload, .iload 1, .if_icmp .ne 31, .iload 2, .aload 0, .getfield 3, .iload 3, .iaload, .iadd, .istore 2, .jsr 31]),
  (31, [.aload 0, .getfield 2, .iload 3, .iaload, .iload 1, .if_icmp .ne 50, .iload 2, .aload 0, .getfield 3, .iload 3, .iaload, .isub, .istore 2, .jsr 50]),
  (50, [.iinc 3 1, .goto 4]),
  (56, [.iload 2, .ireturn])]
def bkX1_balanceOfAll : List (Nat × List Instr) := [(0, [.bipush 0, .istore 2, .bipush 0, .istore 3, .jsr 4]),
  (4, [.iload 3, .bipush 6, .if_icmp .ge 33, .iload 1, .iload 3, .ishr, .bipush 1, .iand, .bipush 1, .if_icmp .ne 27, .iload 2, .aload 0, .iload 3, .invokeinterface 18 2, .iadd, .istore 2, .jsr 27]),
  (27, [.iinc 3 1, .goto 4]),
  (33, [.iload 2, .ireturn])]
def bkX1_fewestPayments : List (Nat × List Instr) := [(0, [.aload 2, .bipush 0, .bipush 0, .iastore, .bipush 1, .istore 3, .jsr 6]),
  (6, [.iload 3, .bipush 1, .iload 1, .ishl, .if_icmp .ge 81, .bipush 0, .istore 4, .bipush 0, .istore 5, .jsr 19]),
  (19, [.iload 5, .iload 1, .if_icmp .ge 56, .iload 3, .iload 5, .ishr, .bipush 1, .iand, .bipush 1, .if_icmp .ne 50, .iload 4, .aload 2, .iload 3, .bipush 1, .iload 5, .ishl, .ixor, .iaload, .invokestatic 1, .istore 4, .jsr 50]),
  (50, [.iinc 5 1, .goto 19]),
  (56, [.aload 2, .iload 3, .iload 4, .aload 0, .iload 3, .invokeinterface 19 2, .ifCond .ne 72, .bipush 1, .goto 73]),
  (72, [.bipush 0, .jsr 73]),
  (73, [.iadd, .iastore, .iinc 3 1, .goto 6]),
  (81, [.iload 1, .aload 2, .bipush 1, .iload 1, .ishl, .bipush 1, .isub, .iaload, .isub, .ireturn])]
def bkX1_shortestRing : List (Nat × List Instr) := [(0, [.bipush (-1), .istore 2, .bipush 0, .istore 3, .jsr 4]),
  (4, [.iload 3, .iload 1, .if_icmp .ge 73, .bipush 1, .iload 3, .ishl, .istore 4, .bipush 1, .istore 5, .jsr 17]),
  (17, [.iload 5, .iload 1, .if_icmp .gt 67, .aload 0, .iload 4, .invokeinterface 22 2, .istore 4, .iload 4, .iload 3, .ishr, .bipush 1, .iand, .bipush 1, .if_icmp .ne 61, .iload 2, .bipush (-1), .if_icmp .ne 51, .iload 5, .goto 57]),
  (51, [.iload 2, .iload 5, .invokestatic 0, .jsr 57]),
  (57, [.istore 2, .goto 67]),
  (61, [.iinc 5 1, .goto 17]),
  (67, [.iinc 3 1, .goto 4]),
  (73, [.iload 2, .ireturn])]
def bkX1_owedByAny : List (Nat × List Instr) := [(0, [.bipush 0, .istore 2, .bipush 0, .istore 3, .jsr 4]),
  (4, [.iload 3, .aload 0, .getfield 0, .if_icmp .ge 43, .iload 1, .aload 0, .getfield 1, .iload 3, .iaload, .ishr, .bipush 1, .iand, .bipush 1, .if_icmp .ne 37, .iload 2, .bipush 1, .aload 0, .getfield 2, .iload 3, .iaload, .ishl, .ior, .istore 2, .jsr 37]),
  (37, [.iinc 3 1, .goto 4]),
  (43, [.iload 2, .ireturn])]
def bkX2_init : List (Nat × List Instr) := [(0, [.aload 0, .invokespecial 0, .aload 0, .new 8, .dup, .invokeinterface 105 1, .putstatic 100, .aload 0, .bipush 36, .newarray .boolean, .putstatic 101, .aload 0, .bipush 7, .newarray .int, .putstatic 102, .aload 0, .bipush 6, .newarray .int, .putstatic 103, .aload 0, .bipush 6, .newarray .int, .putstatic 104, .aload 0, .bipush 6, .newarray .int, .putstatic 105, .aload 0, .bipush (-1), .putfield 106, .return_])]
def bkX2_daysOf : List (Nat × List Instr) := [(0, [.aload 0, .aload 1, .iload 2, .invokeinterface 26 3, .aload 0, .iload 2, .invokeinterface 27 2, .ireturn])]
def bkX2_longestField : List (Nat × List Instr) := [(0, [.bipush (-1), .istore 3, .bipush (-1), .istore 4, .bipush 0, .istore 5, .jsr 8]),
  (8, [.iload 5, .aload 1, .getfield 800, .if_icmp .ge 92, .aload 1, .getfield 802, .iload 5, .iaload, .ifCond .le 86, .aload 0, .aload 1, .iload 2, .invokeinterface 26 3, .aload 0, .getfield 100, .iload 2, .iload 5, .aload 1, .iload 2, .iload 5, .invokeinterface 125 3, .invokeinterface 122 4, .aload 0, .iload 2, .invokeinterface 27 2, .istore 6, .iload 6, .bipush (-1), .if_icmp .ne 68, .bipush 61, .goto 70]),
  (68, [.iload 6, .jsr 70]),
  (70, [.istore 6, .iload 6, .iload 4, .if_icmp .le 86, .iload 6, .istore 4, .iload 5, .istore 3, .jsr 86]),
  (86, [.iinc 5 1, .goto 8]),
  (92, [.iload 3, .ireturn])]
def bkX2_takeAlone : List (Nat × List Instr) := [(0, [.aload 0, .getfield 100, .aload 1, .invokeinterface 106 2, .bipush 0, .istore 3, .jsr 10]),
  (10, [.iload 3, .aload 0, .getfield 100, .getfield 804, .if_icmp .ge 42, .iload 3, .iload 2, .if_icmp .eq 36, .aload 0, .getfield 100, .getfield 807, .iload 3, .bipush (-1), .iastore, .jsr 36]),
  (36, [.iinc 3 1, .goto 10]),
  (42, [.return_])]
def bkX2_daysWhole : List (Nat × List Instr) := [(0, [.bipush 0, .istore 2, .jsr 2]),
  (2, [.iload 2, .bipush 60, .if_icmp .gt 34, .aload 0, .getfield 100, .iload 1, .invokeinterface 118 2, .ifCond .ne 21, .iload 2, .ireturn]),
  (21, [.aload 0, .getfield 100, .invokeinterface 1 1, .iinc 2 1, .goto 2]),
  (34, [.bipush (-1), .ireturn])]
def bkX2_place : List (Nat × List Instr) := [(0, [.bipush 0, .istore 3, .jsr 2]),
  (2, [.iload 3, .aload 0, .getfield 101, .arraylength, .if_icmp .ge 24, .aload 0, .getfield 101, .iload 3, .bipush 0, .bastore, .iinc 3 1, .goto 2]),
  (24, [.bipush 0, .istore 3, .jsr 26]),
  (26, [.iload 3, .aload 1, .getfield 800, .if_icmp .ge 68, .aload 0, .getfield 103, .iload 3, .aload 1, .getfield 803, .iload 3, .iaload, .iastore, .aload 1, .getfield 802, .iload 3, .iaload, .ifCond .le 62, .aload 0, .aload 1, .iload 3, .iload 2, .invokeinterface 29 4, .jsr 62]),
  (62, [.iinc 3 1, .goto 26]),
  (68, [.aload 0, .getfield 102, .aload 1, .getfield 804, .bipush 0, .iastore, .aload 1, .getfield 804, .bipush 1, .isub, .istore 3, .jsr 85]),
  (85, [.iload 3, .ifCond .lt 123, .aload 0, .getfield 102, .iload 3, .aload 0, .getfield 102, .iload 3, .bipush 1, .iadd, .iaload, .aload 0, .iload 3, .invokeinterface 30 2, .ifCond .eq 114, .bipush 1, .goto 115]),
  (114, [.bipush 0, .jsr 115]),
  (115, [.iadd, .iastore, .iinc 3 (-1), .goto 85]),
  (123, [.aload 0, .bipush (-1), .putfield 106, .aload 0, .aload 1, .bipush 0, .bipush 0, .invokeinterface 31 4, .return_])]
def bkX2_findStaying : List (Nat × List Instr) := [(0, [.aload 0, .getfield 100, .aload 1, .invokeinterface 106 2, .bipush 0, .istore 4, .jsr 11]),
  (11, [.iload 4, .aload 1, .getfield 804, .if_icmp .ge 43, .aload 0, .getfield 100, .iload 4, .iload 2, .aload 1, .iload 4, .iload 2, .invokeinterface 125 3, .invokeinterface 122 4, .iinc 4 1, .goto 11]),
  (43, [.bipush 0, .istore 4, .jsr 46]),
  (46, [.iload 4, .iload 3, .if_icmp .ge 65, .aload 0, .getfield 100, .invokeinterface 1 1, .iinc 4 1, .goto 46]),
  (65, [.bipush 0, .istore 4, .jsr 68]),
  (68, [.iload 4, .aload 1, .getfield 804, .if_icmp .ge 104, .aload 0, .getfield 101, .bipush 6, .iload 4, .imul, .iload 2, .iadd, .aload 0, .getfield 100, .iload 4, .invokeinterface 118 2, .bastore, .iinc 4 1, .goto 68]),
  (104, [.return_])]
def bkX2_staysSomewhere : List (Nat × List Instr) := [(0, [.bipush 0, .istore 2, .jsr 2]),
  (2, [.iload 2, .bipush 6, .if_icmp .ge 30, .aload 0, .getfield 101, .bipush 6, .iload 1, .imul, .iload 2, .iadd, .baload, .ifCond .eq 24, .bipush 1, .freturn]),
  (24, [.iinc 2 1, .goto 2]),
  (30, [.bipush 0, .freturn])]
def bkX2_tryPlaces : List (Nat × List Instr) := [(0, [.iload 2, .aload 1, .getfield 804, .if_icmp .ge 14, .iload 2, .bipush 6, .if_icmp .lt 43, .jsr 14]),
  (14, [.iload 3, .aload 0, .getfield 106, .if_icmp .le 42, .aload 0, .iload 3, .putfield 106, .aload 0, .getfield 104, .bipush 0, .aload 0, .getfield 105, .bipush 0, .bipush 6, .invokestatic 2, .jsr 42]),
  (42, [.return_]),
  (43, [.iload 3, .aload 0, .getfield 102, .iload 2, .iaload, .iadd, .aload 0, .getfield 106, .if_icmp .gt 59, .return_]),
  (59, [.aload 1, .getfield 805, .iload 2, .iaload, .istore 4, .bipush 0, .istore 5, .jsr 70]),
  (70, [.iload 5, .aload 1, .getfield 800, .if_icmp .ge 169, .aload 1, .getfield 802, .iload 5, .iaload, .ifCond .le 163, .aload 0, .getfield 103, .iload 5, .iaload, .iload 4, .if_icmp .lt 163, .aload 0, .getfield 103, .iload 5, .dup2, .iaload, .iload 4, .isub, .iastore, .aload 0, .getfield 104, .iload 2, .iload 5, .iastore, .aload 0, .aload 1, .iload 2, .bipush 1, .iadd, .iload 3, .aload 0, .getfield 101, .bipush 6, .iload 2, .imul, .iload 5, .iadd, .baload, .ifCond .eq 146, .bipush 1, .goto 147]),
  (146, [.bipush 0, .jsr 147]),
  (147, [.iadd, .invokeinterface 31 4, .aload 0, .getfield 103, .iload 5, .dup2, .iaload, .iload 4, .iadd, .iastore, .jsr 163]),
  (163, [.iinc 5 1, .goto 70]),
  (169, [.aload 0, .getfield 104, .iload 2, .bipush (-1), .iastore, .aload 0, .aload 1, .iload 2, .bipush 1, .iadd, .iload 3, .invokeinterface 31 4, .return_])]
def bkX2_mostWhole : List (Nat × List Instr) := [(0, [.aload 0, .getfield 106, .ireturn])]
def bkX2_placeOf : List (Nat × List Instr) := [(0, [.aload 0, .getfield 105, .iload 1, .iaload, .ireturn])]
def bkX3_init : List (Nat × List Instr) := [(0, [.aload 0, .invokespecial 0, .aload 0, .bipush 32, .newarray .int, .putstatic 205, .aload 0, .iload 1, .putfield 200, .aload 0, .aload 2, .putstatic 201, .aload 0, .aload 3, .putstatic 202, .aload 0, .aload 4, .putstatic 203, .aload 0, .aload 5, .putstatic 204, .return_])]
def bkX3_total : List (Nat × List Instr) := [(0, [.bipush 0, .istore 3, .bipush 0, .istore 4, .jsr 5]),
  (5, [.iload 4, .aload 0, .getfield 200, .if_icmp .ge 51, .aload 0, .getfield 201, .iload 4, .iaload, .iload 1, .if_icmp .ne 45, .aload 0, .iload 4, .aload 2, .invokeinterface 36 3, .ifCond .eq 45, .iload 3, .aload 0, .getfield 202, .iload 4, .iaload, .iadd, .istore 3, .jsr 45]),
  (45, [.iinc 4 1, .goto 5]),
  (51, [.iload 3, .ireturn])]
def bkX3_holds : List (Nat × List Instr) := [(0, [.bipush 0, .istore 3, .aload 0, .getfield 203, .iload 1, .iaload, .istore 4, .jsr 10]),
  (10, [.iload 4, .aload 0, .getfield 203, .iload 1, .bipush 1, .iadd, .iaload, .if_icmp .ge 250, .aload 0, .getfield 204, .iload 4, .iaload, .istore 5, .iload 5, .bipush 2000, .if_icmp .ge 89, .iload 3, .bipush 32, .if_icmp .ge 54, .iload 5, .bipush 1010, .if_icmp .lt 56, .jsr 54]),
  (54, [.bipush 0, .freturn]),
  (56, [.aload 0, .getfield 205, .iload 3, .iload 5, .bipush 1000, .if_icmp .ge 74, .iload 5, .goto 82]),
  (74, [.aload 2, .iload 5, .bipush 1000, .isub, .iaload, .jsr 82]),
  (82, [.iastore, .iinc 3 1, .goto 244]),
  (89, [.iload 5, .bipush 2000, .if_icmp .ne 125, .iload 3, .bipush 1, .if_icmp .ge 104, .bipush 0, .freturn]),
  (104, [.aload 0, .getfield 205, .iload 3, .bipush 1, .isub, .bipush 1, .aload 0, .getfield 205, .iload 3, .bipush 1, .isub, .iaload, .isub, .iastore, .goto 244]),
  (125, [.iload 3, .bipush 2, .if_icmp .ge 132, .bipush 0, .freturn]),
  (132, [.iinc 3 (-1), .aload 0, .getfield 205, .iload 3, .bipush 1, .isub, .iaload, .istore 6, .aload 0, .getfield 205, .iload 3, .iaload, .istore 7, .aload 0, .getfield 205, .iload 3, .bipush 1, .isub, .iload 5, .bipush 2001, .if_icmp .ne 176, .iload 6, .iload 7, .iand, .goto 243]),
  (176, [.iload 5, .bipush 2002, .if_icmp .ne 192, .iload 6, .iload 7, .ior, .goto 243]),
  (192, [.iload 5, .bipush 2003, .if_icmp .ne 208, .iload 6, .iload 7, .iadd, .goto 243]),
  (208, [.iload 5, .bipush 2004, .if_icmp .ne 231, .iload 6, .iload 7, .if_icmp .ge 227, .bipush 1, .goto 243]),
  (227, [.bipush 0, .goto 243]),
  (231, [.iload 6, .iload 7, .if_icmp .le 242, .bipush 1, .goto 243]),
  (242, [.bipush 0, .jsr 243]),
  (243, [.iastore, .jsr 244]),
  (244, [.iinc 4 1, .goto 10]),
  (250, [.iload 3, .ifCond .eq 263, .aload 0, .getfield 205, .bipush 0, .iaload, .ifCond .eq 267, .jsr 263]),
  (263, [.bipush 1, .goto 268]),
  (267, [.bipush 0, .jsr 268]),
  (268, [.freturn])]
def bkX4_init : List (Nat × List Instr) := [(0, [.aload 0, .invokespecial 0, .aload 0, .new 7, .dup, .invokeinterface 93 1, .putstatic 300, .aload 0, .bipush 12, .newarray .int, .putstatic 301, .aload 0, .bipush 12, .newarray .int, .putstatic 302, .aload 0, .bipush 13, .newarray .int, .putstatic 303, .aload 0, .bipush 400, .newarray .int, .putstatic 304, .aload 0, .bipush 0, .putfield 305, .return_])]
def bkX4_read : List (Nat × List Instr) := [(0, [.aload 0, .getfield 300, .aload 1, .iload 2, .invokeinterface 94 3, .aload 0, .bipush 0, .putfield 305, .aload 0, .getfield 300, .invokeinterface 96 1, .ifCond .eq 30, .aload 0, .bipush 0, .invokeinterface 39 2, .areturn]),
  (30, [.bipush 0, .istore 3, .jsr 32]),
  (32, [.iload 3, .bipush 12, .if_icmp .ge 125, .aload 0, .getfield 303, .iload 3, .aload 0, .getfield 305, .iastore, .aload 0, .iload 3, .invokeinterface 40 2, .ifCond .ne 58, .aconst_null, .areturn]),
  (58, [.aload 0, .getfield 300, .ldc 17, .invokeinterface 97 2, .ifCond .eq 87, .aload 0, .getfield 300, .invokeinterface 95 1, .aload 0, .bipush 0, .invokeinterface 41 2, .ifCond .ne 87, .aconst_null, .areturn]),
  (87, [.aload 0, .getfield 300, .invokeinterface 96 1, .ifCond .eq 105, .aload 0, .iload 3, .bipush 1, .iadd, .invokeinterface 39 2, .areturn]),
  (105, [.aload 0, .getfield 300, .bipush 59, .invokeinterface 103 2, .ifCond .ne 119, .aconst_null, .areturn]),
  (119, [.iinc 3 1, .goto 32]),
  (125, [.aload 0, .getfield 300, .invokeinterface 104 1, .pop, .aconst_null, .areturn])]
def bkX4_made : List (Nat × List Instr) := [(0, [.aload 0, .getfield 303, .iload 1, .aload 0, .getfield 305, .iastore, .new 2, .dup, .iload 1, .aload 0, .getfield 301, .iload 1, .invokeinterface 383 2, .aload 0, .getfield 302, .iload 1, .invokeinterface 383 2, .aload 0, .getfield 303, .iload 1, .bipush 1, .iadd, .invokeinterface 383 2, .aload 0, .getfield 304, .aload 0, .getfield 305, .invokeinterface 383 2, .invokeinterface 34 6, .areturn])]
def bkX4_readHead : List (Nat × List Instr) := [(0, [.aload 0, .getfield 300, .ldc 14, .invokeinterface 97 2, .ifCond .eq 22, .aload 0, .getfield 301, .iload 1, .bipush 0, .iastore, .goto 74]),
  (22, [.aload 0, .getfield 300, .ldc 15, .invokeinterface 97 2, .ifCond .eq 44, .aload 0, .getfield 301, .iload 1, .bipush 1, .iastore, .goto 74]),
  (44, [.aload 0, .getfield 300, .ldc 16, .invokeinterface 97 2, .ifCond .eq 66, .aload 0, .getfield 301, .iload 1, .bipush 2, .iastore, .goto 74]),
  (66, [.aload 0, .getfield 300, .invokeinterface 104 1, .freturn]),
  (74, [.aload 0, .getfield 300, .invokeinterface 95 1, .aload 0, .getfield 300, .bipush 0, .bipush 40, .invokeinterface 99 3, .ifCond .ne 102, .aload 0, .getfield 300, .invokeinterface 104 1, .freturn]),
  (102, [.aload 0, .getfield 302, .iload 1, .aload 0, .getfield 300, .getfield 705, .iastore, .aload 0, .getfield 300, .invokeinterface 95 1, .bipush 1, .freturn])]
def bkX4_readEither : List (Nat × List Instr) := [(0, [.aload 0, .iload 1, .invokeinterface 42 2, .ifCond .ne 10, .bipush 0, .freturn]),
  (10, [.bipush 0, .istore 2, .jsr 12]),
  (12, [.iload 2, .bipush 400, .if_icmp .ge 61, .aload 0, .getfield 300, .ldc 26, .invokeinterface 97 2, .ifCond .eq 61, .aload 0, .getfield 300, .invokeinterface 95 1, .aload 0, .iload 1, .invokeinterface 42 2, .ifCond .ne 48, .bipush 0, .freturn]),
  (48, [.aload 0, .bipush 2002, .invokeinterface 47 2, .iinc 2 1, .goto 12]),
  (61, [.bipush 1, .freturn])]
def bkX4_readBoth : List (Nat × List Instr) := [(0, [.aload 0, .iload 1, .invokeinterface 43 2, .ifCond .ne 10, .bipush 0, .freturn]),
  (10, [.bipush 0, .istore 2, .jsr 12]),
  (12, [.iload 2, .bipush 400, .if_icmp .ge 61, .aload 0, .getfield 300, .ldc 25, .invokeinterface 97 2, .ifCond .eq 61, .aload 0, .getfield 300, .invokeinterface 95 1, .aload 0, .iload 1, .invokeinterface 43 2, .ifCond .ne 48, .bipush 0, .freturn]),
  (48, [.aload 0, .bipush 2001, .invokeinterface 47 2, .iinc 2 1, .goto 12]),
  (61, [.bipush 1, .freturn])]
def bkX4_readAtom : List (Nat × List Instr) := [(0, [.aload 0, .getfield 300, .ldc 18, .invokeinterface 97 2, .ifCond .ne 24, .aload 0, .getfield 300, .bipush 40, .invokeinterface 98 2, .ifCond .eq 48, .jsr 24]),
  (24, [.iload 1, .bipush 6, .if_icmp .ge 40, .aload 0, .iload 1, .bipush 1, .iadd, .invokeinterface 44 2, .goto 47]),
  (40, [.aload 0, .getfield 300, .invokeinterface 104 1, .jsr 47]),
  (47, [.freturn]),
  (48, [.aload 0, .getfield 300, .ldc 19, .invokeinterface 97 2, .ifCond .eq 65, .bipush 7, .goto 100]),
  (65, [.aload 0, .getfield 300, .ldc 20, .invokeinterface 97 2, .ifCond .eq 82, .bipush 8, .goto 100]),
  (82, [.aload 0, .getfield 300, .ldc 21, .invokeinterface 97 2, .ifCond .eq 99, .bipush 9, .goto 100]),
  (99, [.bipush (-1), .jsr 100]),
  (100, [.istore 2, .iload 2, .bipush (-1), .if_icmp .eq 124, .aload 0, .getfield 300, .invokeinterface 95 1, .aload 0, .bipush 1000, .iload 2, .iadd, .invokeinterface 47 2, .bipush 1, .freturn]),
  (124, [.aload 0, .invokeinterface 45 1, .ifCond .ne 133, .bipush 0, .freturn]),
  (133, [.aload 0, .getfield 300, .bipush 60, .invokeinterface 98 2, .istore 3, .iload 3, .ifCond .ne 167, .aload 0, .getfield 300, .bipush 62, .invokeinterface 98 2, .ifCond .ne 167, .aload 0, .getfield 300, .invokeinterface 104 1, .freturn]),
  (167, [.aload 0, .getfield 300, .invokeinterface 95 1, .aload 0, .invokeinterface 45 1, .ifCond .ne 183, .bipush 0, .freturn]),
  (183, [.aload 0, .iload 3, .ifCond .eq 194, .bipush 2004, .goto 197]),
  (194, [.bipush 2005, .jsr 197]),
  (197, [.invokeinterface 47 2, .bipush 1, .freturn])]
def bkX4_readWithin : List (Nat × List Instr) := [(0, [.aload 0, .getfield 300, .bipush 40, .invokeinterface 98 2, .ifCond .eq 45, .aload 0, .getfield 300, .invokeinterface 95 1, .aload 0, .iload 1, .invokeinterface 41 2, .ifCond .eq 43, .aload 0, .getfield 300, .bipush 41, .invokeinterface 103 2, .ifCond .eq 43, .bipush 1, .goto 44]),
  (43, [.bipush 0, .jsr 44]),
  (44, [.freturn]),
  (45, [.aload 0, .getfield 300, .invokeinterface 95 1, .aload 0, .iload 1, .invokeinterface 43 2, .ifCond .ne 62, .bipush 0, .freturn]),
  (62, [.aload 0, .bipush 2000, .invokeinterface 47 2, .bipush 1, .freturn])]
def bkX4_readSum : List (Nat × List Instr) := [(0, [.bipush 0, .istore 1, .jsr 2]),
  (2, [.iload 1, .bipush 400, .if_icmp .ge 101, .aload 0, .getfield 300, .bipush 0, .bipush 999, .invokeinterface 99 3, .ifCond .eq 33, .aload 0, .getfield 300, .getfield 705, .goto 37]),
  (33, [.aload 0, .invokeinterface 46 1, .jsr 37]),
  (37, [.istore 2, .iload 2, .bipush (-1), .if_icmp .ne 51, .aload 0, .getfield 300, .invokeinterface 104 1, .freturn]),
  (51, [.aload 0, .getfield 300, .invokeinterface 95 1, .aload 0, .iload 2, .invokeinterface 47 2, .iload 1, .ifCond .le 74, .aload 0, .bipush 2003, .invokeinterface 47 2, .jsr 74]),
  (74, [.aload 0, .getfield 300, .bipush 43, .invokeinterface 98 2, .ifCond .ne 88, .bipush 1, .freturn]),
  (88, [.aload 0, .getfield 300, .invokeinterface 95 1, .iinc 1 1, .goto 2]),
  (101, [.aload 0, .getfield 300, .invokeinterface 104 1, .freturn])]
def bkX4_partCode : List (Nat × List Instr) := [(0, [.aload 0, .getfield 300, .ldc 22, .invokeinterface 97 2, .ifCond .eq 16, .bipush 0, .goto 114]),
  (16, [.aload 0, .getfield 300, .ldc 0, .invokeinterface 97 2, .ifCond .eq 32, .bipush 1, .goto 114]),
  (32, [.aload 0, .getfield 300, .ldc 1, .invokeinterface 97 2, .ifCond .eq 48, .bipush 2, .goto 114]),
  (48, [.aload 0, .getfield 300, .ldc 3, .invokeinterface 97 2, .ifCond .eq 64, .bipush 3, .goto 114]),
  (64, [.aload 0, .getfield 300, .ldc 23, .invokeinterface 97 2, .ifCond .eq 80, .bipush 4, .goto 114]),
  (80, [.aload 0, .getfield 300, .ldc 24, .invokeinterface 97 2, .ifCond .eq 96, .bipush 5, .goto 114]),
  (96, [.aload 0, .getfield 300, .ldc 11, .invokeinterface 97 2, .ifCond .eq 113, .bipush 6, .goto 114]),
  (113, [.bipush (-1), .jsr 114]),
  (114, [.istore 1, .iload 1, .bipush (-1), .if_icmp .ne 124, .bipush (-1), .goto 129]),
  (124, [.bipush 1000, .iload 1, .iadd, .jsr 129]),
  (129, [.ireturn])]
def bkX4_put : List (Nat × List Instr) := [(0, [.aload 0, .getfield 305, .aload 0, .getfield 304, .arraylength, .if_icmp .ge 32, .aload 0, .getfield 304, .aload 0, .getfield 305, .iload 1, .iastore, .aload 0, .dup, .getfield 305, .bipush 1, .iadd, .putfield 305, .jsr 32]),
  (32, [.return_])]
def bkX5_init : List (Nat × List Instr) := [(0, [.aload 0, .invokespecial 0, .aload 0, .bipush 0, .putfield 400, .aload 0, .bipush 240, .newarray .int, .putstatic 401, .return_])]
def bkX5_copyFrom : List (Nat × List Instr) := [(0, [.aload 0, .aload 1, .getfield 400, .putfield 400, .aload 1, .getfield 401, .bipush 0, .aload 0, .getfield 401, .bipush 0, .bipush 240, .invokestatic 2, .return_])]
def bkX5_add : List (Nat × List Instr) := [(0, [.aload 0, .getfield 400, .bipush 60, .if_icmp .lt 31, .aload 0, .getfield 401, .bipush 4, .aload 0, .getfield 401, .bipush 0, .bipush 236, .invokestatic 2, .aload 0, .bipush 59, .putfield 400, .jsr 31]),
  (31, [.bipush 4, .aload 0, .getfield 400, .imul, .istore 5, .aload 0, .getfield 401, .iload 5, .iload 1, .iastore, .aload 0, .getfield 401, .iload 5, .bipush 1, .iadd, .iload 2, .iastore, .aload 0, .getfield 401, .iload 5, .bipush 2, .iadd, .iload 3, .iastore, .aload 0, .getfield 401, .iload 5, .bipush 3, .iadd, .iload 4, .iastore, .aload 0, .dup, .getfield 400, .bipush 1, .iadd, .putfield 400, .return_])]
def bkX5_cell : List (Nat × List Instr) := [(0, [.iload 1, .ifCond .lt 12, .iload 1, .aload 0, .getfield 400, .if_icmp .lt 14, .jsr 12]),
  (12, [.bipush (-1), .ireturn]),
  (14, [.aload 0, .getfield 401, .bipush 4, .aload 0, .getfield 400, .bipush 1, .isub, .iload 1, .isub, .imul, .iload 2, .iadd, .iaload, .ireturn])]
def bkX5_rowsOf : List (Nat × List Instr) := [(0, [.bipush 0, .istore 2, .bipush 0, .istore 3, .jsr 4]),
  (4, [.iload 3, .aload 0, .getfield 400, .if_icmp .ge 31, .aload 0, .iload 3, .bipush 1, .invokeinterface 51 3, .iload 1, .if_icmp .ne 25, .iinc 2 1, .jsr 25]),
  (25, [.iinc 3 1, .goto 4]),
  (31, [.iload 2, .ireturn])]
def bkX5_latestDay : List (Nat × List Instr) := [(0, [.bipush 0, .istore 2, .jsr 2]),
  (2, [.iload 2, .aload 0, .getfield 400, .if_icmp .ge 33, .aload 0, .iload 2, .bipush 1, .invokeinterface 51 3, .iload 1, .if_icmp .ne 27, .aload 0, .iload 2, .bipush 0, .invokeinterface 51 3, .ireturn]),
  (27, [.iinc 2 1, .goto 2]),
  (33, [.bipush (-1), .ireturn])]
def bkX6_init : List (Nat × List Instr) := [(0, [.aload 0, .invokespecial 0, .aload 0, .bipush 49, .newarray .int, .putstatic 500, .aload 0, .bipush 12, .newarray .int, .putstatic 501, .aload 0, .bipush 0, .putfield 502, .aload 0, .bipush 6, .newarray .int, .putstatic 503, .aload 0, .bipush 6, .newarray .int, .putstatic 504, .aload 0, .bipush 6, .newarray .int, .putstatic 505, .aload 0, .bipush (-1), .putfield 506, .return_])]
def bkX6_areRows : List (Nat × List Instr) := [(0, [.iload 1, .bipush 40, .if_icmp .gt 18, .iload 1, .aload 0, .arraylength, .if_icmp .gt 18, .iload 1, .bipush 2, .irem, .ifCond .eq 20, .jsr 18]),
  (18, [.bipush 0, .freturn]),
  (20, [.bipush 0, .istore 2, .jsr 22]),
  (22, [.iload 2, .bipush 1, .iadd, .iload 1, .if_icmp .ge 55, .aload 0, .iload 2, .iaload, .bipush 6, .if_icmp .ge 47, .aload 0, .iload 2, .bipush 1, .iadd, .iaload, .bipush 8, .if_icmp .lt 49, .jsr 47]),
  (47, [.bipush 0, .freturn]),
  (49, [.iinc 2 2, .goto 22]),
  (55, [.bipush 1, .freturn])]
def bkX6_letterAt : List (Nat × List Instr) := [(0, [.iload 2, .ifCond .lt 14, .iload 2, .aload 0, .getfield 805, .iload 1, .iaload, .if_icmp .lt 18, .jsr 14]),
  (14, [.bipush (-1), .goto 29]),
  (18, [.aload 0, .getfield 806, .bipush 6, .iload 1, .imul, .iload 2, .iadd, .iaload, .jsr 29]),
  (29, [.ireturn])]
def bkX6_wrongRows : List (Nat × List Instr) := [(0, [.bipush 0, .istore 4, .bipush 0, .istore 5, .jsr 6]),
  (6, [.iload 5, .bipush 1, .iadd, .iload 3, .if_icmp .ge 41, .aload 0, .iload 1, .aload 2, .iload 5, .iaload, .invokeinterface 56 3, .aload 2, .iload 5, .bipush 1, .iadd, .iaload, .if_icmp .eq 35, .iinc 4 1, .jsr 35]),
  (35, [.iinc 5 2, .goto 6]),
  (41, [.iload 4, .ireturn])]
def bkX6_fitting : List (Nat × List Instr) := [(0, [.bipush 0, .istore 4, .bipush 0, .istore 5, .jsr 6]),
  (6, [.iload 5, .aload 1, .getfield 804, .if_icmp .ge 42, .aload 1, .iload 5, .aload 2, .iload 3, .invokeinterface 57 4, .bipush 1, .if_icmp .gt 36, .iload 4, .bipush 1, .iload 5, .ishl, .ior, .istore 4, .jsr 36]),
  (36, [.iinc 5 1, .goto 6]),
  (42, [.iload 4, .ireturn])]
def bkX6_likeliest : List (Nat × List Instr) := [(0, [.bipush (-1), .istore 4, .bipush 2, .istore 5, .bipush 0, .istore 6, .jsr 9]),
  (9, [.iload 6, .aload 1, .getfield 804, .if_icmp .ge 49, .aload 1, .iload 6, .aload 2, .iload 3, .invokeinterface 57 4, .istore 7, .iload 7, .iload 5, .if_icmp .ge 43, .iload 7, .istore 5, .iload 6, .istore 4, .jsr 43]),
  (43, [.iinc 6 1, .goto 9]),
  (49, [.iload 4, .ireturn])]
def bkX6_placeToLookAt : List (Nat × List Instr) := [(0, [.iload 2, .invokeinterface 382 1, .bipush 2, .if_icmp .ge 10, .bipush (-1), .ireturn]),
  (10, [.bipush (-1), .istore 3, .bipush 7, .istore 4, .bipush 0, .istore 5, .jsr 19]),
  (19, [.iload 5, .bipush 6, .if_icmp .ge 55, .aload 1, .iload 2, .iload 5, .invokeinterface 61 3, .istore 6, .iload 6, .iload 4, .if_icmp .ge 49, .iload 6, .istore 4, .iload 5, .istore 3, .jsr 49]),
  (49, [.iinc 5 1, .goto 19]),
  (55, [.iload 3, .ireturn])]
def bkX6_greatestPart : List (Nat × List Instr) := [(0, [.bipush 0, .istore 3, .bipush 0, .istore 4, .jsr 5]),
  (5, [.iload 4, .aload 0, .getfield 804, .if_icmp .ge 100, .bipush 0, .istore 5, .bipush 0, .istore 6, .jsr 20]),
  (20, [.iload 6, .aload 0, .getfield 804, .if_icmp .ge 87, .iload 1, .iload 4, .ishr, .bipush 1, .iand, .bipush 1, .if_icmp .ne 53, .iload 1, .iload 6, .ishr, .bipush 1, .iand, .bipush 1, .if_icmp .ne 53, .bipush 1, .goto 54]),
  (53, [.bipush 0, .jsr 54]),
  (54, [.istore 7, .iload 7, .ifCond .eq 81, .aload 0, .iload 4, .iload 2, .invokeinterface 56 3, .aload 0, .iload 6, .iload 2, .invokeinterface 56 3, .if_icmp .ne 81, .iinc 5 1, .jsr 81]),
  (81, [.iinc 6 1, .goto 20]),
  (87, [.iload 3, .iload 5, .invokestatic 1, .istore 3, .iinc 4 1, .goto 5]),
  (100, [.iload 3, .ireturn])]
def bkX6_fewestPlaces : List (Nat × List Instr) := [(0, [.bipush (-1), .istore 2, .bipush 0, .istore 3, .jsr 4]),
  (4, [.iload 3, .bipush 64, .if_icmp .ge 54, .iload 2, .bipush (-1), .if_icmp .eq 26, .iload 3, .invokeinterface 382 1, .iload 2, .invokeinterface 382 1, .if_icmp .ge 30, .jsr 26]),
  (26, [.bipush 1, .goto 31]),
  (30, [.bipush 0, .jsr 31]),
  (31, [.istore 4, .iload 4, .ifCond .eq 48, .aload 1, .iload 3, .invokeinterface 63 2, .ifCond .eq 48, .iload 3, .istore 2, .jsr 48]),
  (48, [.iinc 3 1, .goto 4]),
  (54, [.iload 2, .ireturn])]
def bkX6_tellsApart : List (Nat × List Instr) := [(0, [.bipush 0, .istore 2, .jsr 2]),
  (2, [.iload 2, .aload 0, .getfield 804, .if_icmp .ge 47, .iload 2, .bipush 1, .iadd, .istore 3, .jsr 14]),
  (14, [.iload 3, .aload 0, .getfield 804, .if_icmp .ge 41, .aload 0, .iload 2, .iload 3, .invokeinterface 64 3, .iload 1, .iand, .ifCond .ne 35, .bipush 0, .freturn]),
  (35, [.iinc 3 1, .goto 14]),
  (41, [.iinc 2 1, .goto 2]),
  (47, [.bipush 1, .freturn])]
def bkX6_placesUnlike : List (Nat × List Instr) := [(0, [.bipush 0, .istore 3, .bipush 0, .istore 4, .jsr 5]),
  (5, [.iload 4, .bipush 6, .if_icmp .ge 42, .aload 0, .iload 1, .iload 4, .invokeinterface 56 3, .aload 0, .iload 2, .iload 4, .invokeinterface 56 3, .if_icmp .eq 36, .iload 3, .bipush 1, .iload 4, .ishl, .ior, .istore 3, .jsr 36]),
  (36, [.iinc 4 1, .goto 5]),
  (42, [.iload 3, .ireturn])]
def bkX6_areAlike : List (Nat × List Instr) := [(0, [.aload 0, .iload 1, .iload 2, .invokeinterface 64 3, .ifCond .ne 13, .bipush 1, .goto 14]),
  (13, [.bipush 0, .jsr 14]),
  (14, [.freturn])]
def bkX6_changes : List (Nat × List Instr) := [(0, [.bipush 7, .istore 4, .bipush 0, .istore 5, .jsr 7]),
  (7, [.iload 5, .aload 1, .getfield 805, .iload 2, .iaload, .if_icmp .gt 196, .bipush 0, .istore 6, .jsr 21]),
  (21, [.iload 6, .aload 1, .getfield 805, .iload 3, .iaload, .if_icmp .gt 190, .iload 5, .ifCond .ne 42, .iload 6, .goto 54]),
  (42, [.iload 6, .ifCond .ne 52, .iload 5, .goto 54]),
  (52, [.bipush 12, .jsr 54]),
  (54, [.istore 7, .iload 5, .ifCond .le 169, .iload 6, .ifCond .le 169, .aload 1, .iload 2, .iload 5, .bipush 1, .isub, .invokeinterface 56 3, .aload 1, .iload 3, .iload 6, .bipush 1, .isub, .invokeinterface 56 3, .if_icmp .ne 91, .bipush 0, .goto 92]),
  (91, [.bipush 1, .jsr 92]),
  (92, [.istore 8, .iload 7, .aload 0, .getfield 500, .iload 4, .iload 5, .bipush 1, .isub, .imul, .iload 6, .iadd, .bipush 1, .isub, .iaload, .iload 8, .iadd, .invokestatic 0, .istore 7, .iload 7, .aload 0, .getfield 500, .iload 4, .iload 5, .bipush 1, .isub, .imul, .iload 6, .iadd, .iaload, .bipush 1, .iadd, .invokestatic 0, .istore 7, .iload 7, .aload 0, .getfield 500, .iload 4, .iload 5, .imul, .iload 6, .iadd, .bipush 1, .isub, .iaload, .bipush 1, .iadd, .invokestatic 0, .istore 7, .jsr 169]),
  (169, [.aload 0, .getfield 500, .iload 4, .iload 5, .imul, .iload 6, .iadd, .iload 7, .iastore, .iinc 6 1, .goto 21]),
  (190, [.iinc 5 1, .goto 7]),
  (196, [.aload 0, .getfield 500, .iload 4, .aload 1, .getfield 805, .iload 2, .iaload, .imul, .aload 1, .getfield 805, .iload 3, .iaload, .iadd, .iaload, .ireturn])]
def bkX6_nextLetter : List (Nat × List Instr) := [(0, [.iload 0, .bipush 1, .iadd, .bipush 8, .irem, .ireturn])]
def bkX6_areMixed : List (Nat × List Instr) := [(0, [.aload 0, .getfield 805, .iload 1, .iaload, .aload 0, .getfield 805, .iload 2, .iaload, .if_icmp .ne 28, .aload 0, .iload 1, .iload 2, .invokeinterface 64 3, .invokeinterface 382 1, .bipush 1, .if_icmp .eq 30, .jsr 28]),
  (28, [.bipush 0, .freturn]),
  (30, [.bipush 0, .istore 3, .jsr 32]),
  (32, [.iload 3, .aload 0, .getfield 805, .iload 1, .iaload, .if_icmp .ge 86, .aload 0, .iload 1, .iload 3, .invokeinterface 56 3, .istore 4, .aload 0, .iload 2, .iload 3, .invokeinterface 56 3, .istore 5, .iload 4, .invokeinterface 67 1, .iload 5, .if_icmp .eq 78, .iload 5, .invokeinterface 67 1, .iload 4, .if_icmp .ne 80, .jsr 78]),
  (78, [.bipush 1, .freturn]),
  (80, [.iinc 3 1, .goto 32]),
  (86, [.bipush 0, .freturn])]
def bkX6_mostSafe : List (Nat × List Instr) := [(0, [.bipush 0, .istore 2, .jsr 2]),
  (2, [.iload 2, .aload 1, .getfield 804, .if_icmp .ge 60, .aload 0, .getfield 503, .iload 2, .bipush 0, .iastore, .bipush 0, .istore 3, .jsr 19]),
  (19, [.iload 3, .aload 1, .getfield 804, .if_icmp .ge 54, .aload 1, .iload 2, .iload 3, .invokeinterface 68 3, .ifCond .eq 48, .aload 0, .getfield 503, .iload 2, .dup2, .iaload, .bipush 1, .iload 3, .ishl, .ior, .iastore, .jsr 48]),
  (48, [.iinc 3 1, .goto 19]),
  (54, [.iinc 2 1, .goto 2]),
  (60, [.bipush 0, .istore 2, .bipush 1, .istore 3, .jsr 64]),
  (64, [.iload 3, .bipush 1, .aload 1, .getfield 804, .ishl, .if_icmp .ge 101, .iload 3, .invokeinterface 382 1, .iload 2, .invokeinterface 382 1, .if_icmp .le 95, .aload 0, .iload 3, .invokeinterface 70 2, .ifCond .eq 95, .iload 3, .istore 2, .jsr 95]),
  (95, [.iinc 3 1, .goto 64]),
  (101, [.iload 2, .ireturn])]
def bkX6_isSafe : List (Nat × List Instr) := [(0, [.bipush 0, .istore 2, .jsr 2]),
  (2, [.iload 2, .bipush 6, .if_icmp .ge 36, .iload 1, .iload 2, .ishr, .bipush 1, .iand, .bipush 1, .if_icmp .ne 30, .aload 0, .getfield 503, .iload 2, .iaload, .iload 1, .iand, .ifCond .eq 30, .bipush 0, .freturn]),
  (30, [.iinc 2 1, .goto 2]),
  (36, [.bipush 1, .freturn])]
def bkX6_runTogether : List (Nat × List Instr) := [(0, [.aload 0, .bipush 0, .putfield 502, .aload 1, .iload 3, .iload 2, .invokeinterface 73 3, .ifCond .eq 24, .aload 0, .aload 1, .iload 2, .bipush 0, .invokeinterface 72 4, .goto 101]),
  (24, [.aload 1, .iload 2, .iload 3, .invokeinterface 73 3, .ifCond .eq 43, .aload 0, .aload 1, .iload 3, .bipush 0, .invokeinterface 72 4, .goto 101]),
  (43, [.aload 1, .iload 2, .iload 3, .invokeinterface 74 3, .istore 4, .aload 1, .iload 3, .iload 2, .invokeinterface 74 3, .istore 5, .aload 0, .aload 1, .iload 5, .iload 4, .if_icmp .le 72, .iload 3, .goto 73]),
  (72, [.iload 2, .jsr 73]),
  (73, [.bipush 0, .invokeinterface 72 4, .aload 0, .aload 1, .iload 5, .iload 4, .if_icmp .le 90, .iload 2, .goto 91]),
  (90, [.iload 3, .jsr 91]),
  (91, [.iload 4, .iload 5, .invokestatic 1, .invokeinterface 72 4, .jsr 101]),
  (101, [.return_])]
def bkX6_append : List (Nat × List Instr) := [(0, [.iload 3, .istore 4, .jsr 3]),
  (3, [.iload 4, .aload 1, .getfield 805, .iload 2, .iaload, .if_icmp .ge 58, .aload 0, .getfield 502, .aload 0, .getfield 501, .arraylength, .if_icmp .ge 58, .aload 0, .getfield 501, .aload 0, .getfield 502, .aload 1, .iload 2, .iload 4, .invokeinterface 56 3, .iastore, .aload 0, .dup, .getfield 502, .bipush 1, .iadd, .putfield 502, .iinc 4 1, .goto 3]),
  (58, [.return_])]
def bkX6_isRun : List (Nat × List Instr) := [(0, [.bipush 0, .istore 3, .jsr 2]),
  (2, [.iload 3, .aload 0, .getfield 805, .iload 1, .iaload, .iadd, .aload 0, .getfield 805, .iload 2, .iaload, .if_icmp .gt 43, .aload 0, .iload 2, .iload 3, .iload 1, .aload 0, .getfield 805, .iload 1, .iaload, .invokeinterface 75 5, .ifCond .eq 37, .bipush 1, .freturn]),
  (37, [.iinc 3 1, .goto 2]),
  (43, [.bipush 0, .freturn])]
def bkX6_overlapOf : List (Nat × List Instr) := [(0, [.aload 0, .getfield 805, .iload 1, .iaload, .aload 0, .getfield 805, .iload 2, .iaload, .invokestatic 0, .istore 3, .jsr 16]),
  (16, [.iload 3, .ifCond .le 46, .aload 0, .iload 1, .aload 0, .getfield 805, .iload 1, .iaload, .iload 3, .isub, .iload 2, .iload 3, .invokeinterface 75 5, .ifCond .eq 40, .iload 3, .ireturn]),
  (40, [.iinc 3 (-1), .goto 16]),
  (46, [.bipush 0, .ireturn])]
def bkX6_agree : List (Nat × List Instr) := [(0, [.bipush 0, .istore 5, .jsr 3]),
  (3, [.iload 5, .iload 4, .if_icmp .ge 37, .aload 0, .iload 1, .iload 2, .iload 5, .iadd, .invokeinterface 56 3, .aload 0, .iload 3, .iload 5, .invokeinterface 56 3, .if_icmp .eq 31, .bipush 0, .freturn]),
  (31, [.iinc 5 1, .goto 3]),
  (37, [.bipush 1, .freturn])]
def bkX6_joinedSize : List (Nat × List Instr) := [(0, [.aload 0, .getfield 502, .ireturn])]
def bkX6_joinedLetter : List (Nat × List Instr) := [(0, [.iload 1, .ifCond .lt 12, .iload 1, .aload 0, .getfield 502, .if_icmp .lt 16, .jsr 12]),
  (12, [.bipush (-1), .goto 22]),
  (16, [.aload 0, .getfield 501, .iload 1, .iaload, .jsr 22]),
  (22, [.ireturn])]
def bkX6_pairAll : List (Nat × List Instr) := [(0, [.aload 0, .getfield 504, .bipush (-1), .invokeinterface 384 2, .aload 0, .bipush (-1), .putfield 506, .aload 0, .aload 1, .bipush 0, .bipush 0, .invokeinterface 79 4, .return_])]
def bkX6_tryPairs : List (Nat × List Instr) := [(0, [.iload 2, .aload 1, .getfield 804, .if_icmp .ge 14, .iload 2, .bipush 6, .if_icmp .lt 43, .jsr 14]),
  (14, [.iload 3, .aload 0, .getfield 506, .if_icmp .le 42, .aload 0, .iload 3, .putfield 506, .aload 0, .getfield 504, .bipush 0, .aload 0, .getfield 505, .bipush 0, .bipush 6, .invokestatic 2, .jsr 42]),
  (42, [.return_]),
  (43, [.aload 0, .aload 1, .iload 2, .bipush 1, .iadd, .iload 3, .invokeinterface 79 4, .aload 0, .getfield 504, .iload 2, .iaload, .bipush (-1), .if_icmp .eq 63, .return_]),
  (63, [.iload 2, .bipush 1, .iadd, .istore 4, .jsr 68]),
  (68, [.iload 4, .aload 1, .getfield 804, .if_icmp .ge 154, .aload 0, .getfield 504, .iload 4, .iaload, .bipush (-1), .if_icmp .ne 148, .aload 0, .getfield 504, .iload 2, .iload 4, .iastore, .aload 0, .getfield 504, .iload 4, .iload 2, .iastore, .aload 1, .iload 2, .invokeinterface 116 2, .aload 1, .iload 4, .invokeinterface 116 2, .iand, .invokeinterface 382 1, .istore 5, .aload 0, .aload 1, .iload 2, .bipush 1, .iadd, .iload 3, .iload 5, .iadd, .invokeinterface 79 4, .aload 0, .getfield 504, .iload 2, .bipush (-1), .iastore, .aload 0, .getfield 504, .iload 4, .bipush (-1), .iastore, .jsr 148]),
  (148, [.iinc 4 1, .goto 68]),
  (154, [.return_])]
def bkX6_sharedLetters : List (Nat × List Instr) := [(0, [.aload 0, .getfield 506, .ireturn])]
def bkX6_partnerOf : List (Nat × List Instr) := [(0, [.aload 0, .getfield 505, .iload 1, .iaload, .ireturn])]
def bkX7_init : List (Nat × List Instr) := [(0, [.aload 0, .invokespecial 0, .aload 0, .new 7, .dup, .invokeinterface 93 1, .putstatic 600, .aload 0, .bipush (-1), .putfield 601, .return_])]
def bkX7_read : List (Nat × List Instr) := [(0, [.aload 0, .getfield 600, .aload 2, .iload 3, .invokeinterface 94 3, .aload 0, .getfield 600, .invokeinterface 96 1, .ifCond .eq 21, .bipush 1, .freturn]),
  (21, [.bipush 0, .istore 4, .jsr 24]),
  (24, [.iload 4, .bipush 14, .if_icmp .ge 73, .aload 0, .aload 1, .invokeinterface 84 2, .ifCond .ne 41, .bipush 0, .freturn]),
  (41, [.aload 0, .getfield 600, .invokeinterface 96 1, .ifCond .eq 53, .bipush 1, .freturn]),
  (53, [.aload 0, .getfield 600, .bipush 59, .invokeinterface 103 2, .ifCond .ne 67, .bipush 0, .freturn]),
  (67, [.iinc 4 1, .goto 24]),
  (73, [.aload 0, .getfield 600, .invokeinterface 104 1, .freturn])]
def bkX7_readLine : List (Nat × List Instr) := [(0, [.aload 0, .getfield 600, .ldc 0, .invokeinterface 97 2, .ifCond .eq 18, .aload 0, .aload 1, .invokeinterface 86 2, .freturn]),
  (18, [.aload 0, .getfield 600, .ldc 4, .invokeinterface 97 2, .ifCond .eq 36, .aload 0, .aload 1, .invokeinterface 87 2, .freturn]),
  (36, [.aload 0, .getfield 600, .ldc 6, .invokeinterface 97 2, .ifCond .eq 54, .aload 0, .aload 1, .invokeinterface 88 2, .freturn]),
  (54, [.aload 0, .getfield 600, .ldc 7, .invokeinterface 97 2, .ifCond .eq 76, .aload 0, .aload 1, .bipush 0, .bipush 1, .bipush 9, .invokeinterface 85 5, .freturn]),
  (76, [.aload 0, .getfield 600, .ldc 8, .invokeinterface 97 2, .ifCond .eq 98, .aload 0, .aload 1, .bipush 1, .bipush 0, .bipush 100, .invokeinterface 85 5, .freturn]),
  (98, [.aload 0, .getfield 600, .ldc 9, .invokeinterface 97 2, .ifCond .eq 120, .aload 0, .aload 1, .bipush 2, .bipush 0, .bipush 100, .invokeinterface 85 5, .freturn]),
  (120, [.aload 0, .getfield 600, .ldc 10, .invokeinterface 97 2, .ifCond .eq 142, .aload 0, .aload 1, .bipush 3, .bipush 0, .bipush 100, .invokeinterface 85 5, .freturn]),
  (142, [.aload 0, .getfield 600, .ldc 11, .invokeinterface 97 2, .ifCond .eq 165, .aload 0, .aload 1, .bipush 4, .bipush 0, .bipush 999, .invokeinterface 85 5, .freturn]),
  (165, [.aload 0, .getfield 600, .invokeinterface 104 1, .freturn])]
def bkX7_readSetting : List (Nat × List Instr) := [(0, [.aload 0, .getfield 600, .invokeinterface 95 1, .aload 0, .iload 3, .iload 4, .invokeinterface 89 3, .ifCond .ne 19, .bipush 0, .freturn]),
  (19, [.aload 1, .getfield 812, .iload 2, .aload 0, .getfield 601, .iastore, .bipush 1, .freturn])]
def bkX7_readField : List (Nat × List Instr) := [(0, [.aload 1, .getfield 800, .bipush 6, .if_icmp .lt 17, .aload 0, .getfield 600, .invokeinterface 104 1, .freturn]),
  (17, [.aload 0, .getfield 600, .invokeinterface 95 1, .aload 1, .getfield 800, .istore 2, .aload 0, .getfield 600, .ldc 1, .invokeinterface 102 2, .ifCond .eq 51, .aload 0, .bipush 0, .bipush 9, .invokeinterface 89 3, .ifCond .ne 53, .jsr 51]),
  (51, [.bipush 0, .freturn]),
  (53, [.aload 1, .getfield 801, .iload 2, .aload 0, .getfield 601, .iastore, .aload 0, .getfield 600, .ldc 2, .invokeinterface 102 2, .ifCond .eq 85, .aload 0, .bipush 1, .bipush 20, .invokeinterface 89 3, .ifCond .ne 87, .jsr 85]),
  (85, [.bipush 0, .freturn]),
  (87, [.aload 1, .getfield 803, .iload 2, .aload 0, .getfield 601, .iastore, .aload 1, .getfield 802, .iload 2, .bipush 0, .iastore, .aload 0, .getfield 600, .ldc 3, .invokeinterface 97 2, .ifCond .eq 145, .aload 0, .getfield 600, .invokeinterface 95 1, .aload 0, .bipush 0, .bipush 99, .invokeinterface 89 3, .ifCond .ne 135, .bipush 0, .freturn]),
  (135, [.aload 1, .getfield 802, .iload 2, .aload 0, .getfield 601, .iastore, .jsr 145]),
  (145, [.aload 1, .dup, .getfield 800, .bipush 1, .iadd, .putfield 800, .bipush 1, .freturn])]
def bkX7_readName : List (Nat × List Instr) := [(0, [.aload 1, .getfield 804, .bipush 6, .if_icmp .lt 17, .aload 0, .getfield 600, .invokeinterface 104 1, .freturn]),
  (17, [.aload 0, .getfield 600, .invokeinterface 95 1, .aload 1, .getfield 804, .istore 2, .aload 0, .getfield 600, .invokeinterface 100 1, .istore 3, .iload 3, .bipush (-1), .if_icmp .ne 50, .aload 0, .getfield 600, .invokeinterface 104 1, .freturn]),
  (50, [.aload 1, .getfield 805, .iload 2, .iload 3, .iastore, .aload 1, .getfield 807, .iload 2, .bipush (-1), .iastore, .bipush 0, .istore 4, .jsr 67]),
  (67, [.iload 4, .iload 3, .if_icmp .ge 100, .aload 1, .getfield 806, .bipush 6, .iload 2, .imul, .iload 4, .iadd, .aload 0, .getfield 600, .iload 4, .invokeinterface 101 2, .iastore, .iinc 4 1, .goto 67]),
  (100, [.aload 1, .dup, .getfield 804, .bipush 1, .iadd, .putfield 804, .aload 0, .getfield 600, .invokeinterface 95 1, .aload 0, .getfield 600, .ldc 5, .invokeinterface 97 2, .ifCond .ne 131, .bipush 1, .freturn]),
  (131, [.aload 0, .getfield 600, .invokeinterface 95 1, .aload 0, .getfield 600, .bipush 0, .aload 1, .getfield 800, .bipush 1, .isub, .invokeinterface 99 3, .ifCond .ne 163, .aload 0, .getfield 600, .invokeinterface 104 1, .freturn]),
  (163, [.aload 0, .getfield 600, .getfield 705, .istore 4, .aload 1, .getfield 802, .iload 4, .iaload, .ifCond .le 192, .aload 1, .iload 4, .invokeinterface 110 2, .iload 3, .if_icmp .ge 200, .jsr 192]),
  (192, [.aload 0, .getfield 600, .invokeinterface 104 1, .freturn]),
  (200, [.aload 0, .getfield 600, .invokeinterface 95 1, .aload 1, .iload 2, .iload 4, .aload 1, .iload 2, .iload 4, .invokeinterface 125 3, .invokeinterface 122 4, .bipush 1, .freturn])]
def bkX7_readDebt : List (Nat × List Instr) := [(0, [.aload 1, .getfield 810, .getfield 0, .bipush 8, .if_icmp .lt 20, .aload 0, .getfield 600, .invokeinterface 104 1, .freturn]),
  (20, [.aload 0, .getfield 600, .invokeinterface 95 1, .aload 0, .bipush 0, .aload 1, .getfield 804, .bipush 1, .isub, .invokeinterface 89 3, .ifCond .ne 43, .bipush 0, .freturn]),
  (43, [.aload 0, .getfield 601, .istore 2, .aload 0, .getfield 600, .getfield 705, .iload 2, .if_icmp .ne 67, .aload 0, .getfield 600, .invokeinterface 104 1, .freturn]),
  (67, [.aload 0, .bipush 0, .aload 1, .getfield 804, .bipush 1, .isub, .invokeinterface 89 3, .ifCond .ne 83, .bipush 0, .freturn]),
  (83, [.aload 0, .getfield 601, .istore 3, .aload 0, .bipush 1, .bipush 99, .invokeinterface 89 3, .ifCond .ne 100, .bipush 0, .freturn]),
  (100, [.aload 1, .getfield 810, .iload 2, .iload 3, .aload 0, .getfield 601, .invokeinterface 14 4, .bipush 1, .freturn])]
def bkX7_takeNumber : List (Nat × List Instr) := [(0, [.aload 0, .getfield 600, .iload 1, .iload 2, .invokeinterface 99 3, .ifCond .ne 20, .aload 0, .getfield 600, .invokeinterface 104 1, .freturn]),
  (20, [.aload 0, .aload 0, .getfield 600, .getfield 705, .putfield 601, .aload 0, .getfield 600, .invokeinterface 95 1, .bipush 1, .freturn])]
def bkX8_worthOf : List (Nat × List Instr) := [(0, [.iload 0, .ifCond .lt 12, .iload 0, .getstatic 0, .arraylength, .if_icmp .lt 16, .jsr 12]),
  (12, [.bipush 0, .goto 21]),
  (16, [.getstatic 0, .iload 0, .iaload, .jsr 21]),
  (21, [.ireturn])]
def bkX8_worthOfAll : List (Nat × List Instr) := [(0, [.bipush 0, .istore 1, .bipush 0, .istore 2, .jsr 4]),
  (4, [.iload 2, .aload 0, .getfield 804, .if_icmp .ge 29, .iload 1, .aload 0, .iload 2, .invokeinterface 117 2, .invokeinterface 90 1, .ixor, .istore 1, .iinc 2 1, .goto 4]),
  (29, [.iload 1, .ireturn])]
def bkX8_winningStrike : List (Nat × List Instr) := [(0, [.aload 0, .invokeinterface 91 1, .istore 1, .bipush 0, .istore 2, .jsr 7]),
  (7, [.iload 2, .aload 0, .getfield 804, .if_icmp .ge 109, .aload 0, .iload 2, .invokeinterface 117 2, .istore 3, .iload 1, .iload 3, .invokeinterface 90 1, .ixor, .istore 4, .bipush 0, .istore 5, .jsr 32]),
  (32, [.iload 5, .iload 3, .if_icmp .ge 103, .bipush 1, .istore 6, .jsr 41]),
  (41, [.iload 6, .bipush 2, .if_icmp .gt 97, .iload 5, .iload 6, .iadd, .iload 3, .if_icmp .gt 97, .iload 5, .invokeinterface 90 1, .iload 3, .iload 5, .isub, .iload 6, .isub, .invokeinterface 90 1, .ixor, .iload 4, .if_icmp .ne 91, .bipush 100, .iload 2, .imul, .bipush 10, .iload 5, .imul, .iadd, .iload 6, .iadd, .ireturn]),
  (91, [.iinc 6 1, .goto 41]),
  (97, [.iinc 5 1, .goto 32]),
  (103, [.iinc 2 1, .goto 7]),
  (109, [.bipush (-1), .ireturn])]
def bkX9_init : List (Nat × List Instr) := [(0, [.aload 0, .invokespecial 0, .aload 0, .bipush 0, .newarray .int, .putstatic 700, .aload 0, .bipush 0, .putfield 701, .aload 0, .bipush 0, .putfield 702, .aload 0, .bipush 0, .putfield 703, .aload 0, .bipush 3, .putfield 704, .aload 0, .bipush (-1), .putfield 705, .aload 0, .bipush (-1), .putfield 706, .return_])]
def bkX9_open : List (Nat × List Instr) := [(0, [.aload 0, .aload 1, .putstatic 700, .aload 0, .iload 2, .aload 1, .arraylength, .invokestatic 0, .putfield 701, .aload 0, .bipush 0, .putfield 703, .aload 0, .bipush (-1), .putfield 706, .aload 0, .invokeinterface 95 1, .return_])]
def bkX9_step : List (Nat × List Instr) := [(0, [.aload 0, .aload 0, .getfield 703, .putfield 702, .jsr 8]),
  (8, [.aload 0, .getfield 702, .aload 0, .getfield 701, .if_icmp .ge 46, .aload 0, .getfield 700, .aload 0, .getfield 702, .iaload, .bipush 32, .if_icmp .ne 46, .aload 0, .dup, .getfield 702, .bipush 1, .iadd, .putfield 702, .goto 8]),
  (46, [.aload 0, .aload 0, .getfield 702, .putfield 703, .aload 0, .bipush (-1), .putfield 705, .aload 0, .getfield 702, .aload 0, .getfield 701, .if_icmp .lt 78, .aload 0, .bipush 3, .putfield 704, .goto 313]),
  (78, [.aload 0, .getfield 700, .aload 0, .getfield 702, .iaload, .bipush 97, .if_icmp .lt 163, .aload 0, .getfield 700, .aload 0, .getfield 702, .iaload, .bipush 122, .if_icmp .gt 163, .aload 0, .bipush 0, .putfield 704, .jsr 111]),
  (111, [.aload 0, .getfield 703, .aload 0, .getfield 701, .if_icmp .ge 313, .aload 0, .getfield 700, .aload 0, .getfield 703, .iaload, .bipush 97, .if_icmp .lt 313, .aload 0, .getfield 700, .aload 0, .getfield 703, .iaload, .bipush 122, .if_icmp .gt 313, .aload 0, .dup, .getfield 703, .bipush 1, .iadd, .putfield 703, .goto 111]),
  (163, [.aload 0, .getfield 700, .aload 0, .getfield 702, .iaload, .bipush 48, .if_icmp .lt 298, .aload 0, .getfield 700, .aload 0, .getfield 702, .iaload, .bipush 57, .if_icmp .gt 298, .aload 0, .bipush 1, .putfield 704, .bipush 0, .istore 1, .jsr 198]),
  (198, [.aload 0, .getfield 703, .aload 0, .getfield 701, .if_icmp .ge 290, .aload 0, .getfield 700, .aload 0, .getfield 703, .iaload, .bipush 48, .if_icmp .lt 290, .aload 0, .getfield 700, .aload 0, .getfield 703, .iaload, .bipush 57, .if_icmp .gt 290, .aload 0, .getfield 703, .aload 0, .getfield 702, .isub, .bipush 3, .if_icmp .ge 275, .iload 1, .bipush (-1), .if_icmp .eq 275, .bipush 10, .iload 1, .imul, .aload 0, .getfield 700, .aload 0, .getfield 703, .iaload, .iadd, .bipush 48, .isub, .goto 276]),
  (275, [.bipush (-1), .jsr 276]),
  (276, [.istore 1, .aload 0, .dup, .getfield 703, .bipush 1, .iadd, .putfield 703, .goto 198]),
  (290, [.aload 0, .iload 1, .putfield 705, .goto 313]),
  (298, [.aload 0, .bipush 2, .putfield 704, .aload 0, .dup, .getfield 703, .bipush 1, .iadd, .putfield 703, .jsr 313]),
  (313, [.return_])]
def bkX9_isOver : List (Nat × List Instr) := [(0, [.aload 0, .getfield 704, .bipush 3, .if_icmp .ne 12, .bipush 1, .goto 13]),
  (12, [.bipush 0, .jsr 13]),
  (13, [.freturn])]
def bkX9_isWord : List (Nat × List Instr) := [(0, [.aload 0, .getfield 704, .ifCond .ne 23, .aload 0, .getfield 703, .aload 0, .getfield 702, .isub, .aload 1, .invokeinterface 386 1, .if_icmp .eq 25, .jsr 23]),
  (23, [.bipush 0, .freturn]),
  (25, [.bipush 0, .istore 2, .jsr 27]),
  (27, [.iload 2, .aload 1, .invokeinterface 386 1, .if_icmp .ge 62, .aload 0, .getfield 700, .aload 0, .getfield 702, .iload 2, .iadd, .iaload, .aload 1, .iload 2, .invokeinterface 387 2, .if_icmp .eq 56, .bipush 0, .freturn]),
  (56, [.iinc 2 1, .goto 27]),
  (62, [.bipush 1, .freturn])]
def bkX9_isSign : List (Nat × List Instr) := [(0, [.aload 0, .getfield 704, .bipush 2, .if_icmp .ne 25, .aload 0, .getfield 700, .aload 0, .getfield 702, .iaload, .iload 1, .if_icmp .ne 25, .bipush 1, .goto 26]),
  (25, [.bipush 0, .jsr 26]),
  (26, [.freturn])]
def bkX9_isNumber : List (Nat × List Instr) := [(0, [.aload 0, .getfield 704, .bipush 1, .if_icmp .ne 36, .aload 0, .getfield 705, .bipush (-1), .if_icmp .eq 36, .aload 0, .getfield 705, .iload 1, .if_icmp .lt 36, .aload 0, .getfield 705, .iload 2, .if_icmp .gt 36, .bipush 1, .goto 37]),
  (36, [.bipush 0, .jsr 37]),
  (37, [.freturn])]
def bkX9_nameSize : List (Nat × List Instr) := [(0, [.aload 0, .getfield 704, .ifCond .ne 21, .aload 0, .getfield 703, .aload 0, .getfield 702, .isub, .bipush 6, .if_icmp .le 23, .jsr 21]),
  (21, [.bipush (-1), .ireturn]),
  (23, [.aload 0, .getfield 702, .istore 1, .jsr 28]),
  (28, [.iload 1, .aload 0, .getfield 703, .if_icmp .ge 55, .aload 0, .getfield 700, .iload 1, .iaload, .bipush 105, .if_icmp .lt 49, .bipush (-1), .ireturn]),
  (49, [.iinc 1 1, .goto 28]),
  (55, [.aload 0, .getfield 703, .aload 0, .getfield 702, .isub, .ireturn])]
def bkX9_nameLetter : List (Nat × List Instr) := [(0, [.iload 1, .ifCond .lt 17, .iload 1, .aload 0, .getfield 703, .aload 0, .getfield 702, .isub, .if_icmp .lt 21, .jsr 17]),
  (17, [.bipush (-1), .goto 35]),
  (21, [.aload 0, .getfield 700, .aload 0, .getfield 702, .iload 1, .iadd, .iaload, .bipush 97, .isub, .jsr 35]),
  (35, [.ireturn])]
def bkX9_takeWord : List (Nat × List Instr) := [(0, [.aload 0, .aload 1, .invokeinterface 97 2, .ifCond .ne 13, .aload 0, .invokeinterface 104 1, .freturn]),
  (13, [.aload 0, .invokeinterface 95 1, .bipush 1, .freturn])]
def bkX9_takeSign : List (Nat × List Instr) := [(0, [.aload 0, .iload 1, .invokeinterface 98 2, .ifCond .ne 13, .aload 0, .invokeinterface 104 1, .freturn]),
  (13, [.aload 0, .invokeinterface 95 1, .bipush 1, .freturn])]
def bkX9_refuse : List (Nat × List Instr) := [(0, [.aload 0, .aload 0, .getfield 702, .putfield 706, .bipush 0, .freturn])]
def bkX10_init : List (Nat × List Instr) := [(0, [.aload 0, .invokespecial 0, .aload 0, .bipush 0, .putfield 800, .aload 0, .bipush 6, .newarray .int, .putstatic 801, .aload 0, .bipush 6, .newarray .int, .putstatic 802, .aload 0, .bipush 6, .newarray .int, .putstatic 803, .aload 0, .bipush 0, .putfield 804, .aload 0, .bipush 6, .newarray .int, .putstatic 805, .aload 0, .bipush 36, .newarray .int, .putstatic 806, .aload 0, .bipush 6, .newarray .int, .putstatic 807, .aload 0, .bipush 36, .newarray .int, .putstatic 808, .aload 0, .bipush 36, .newarray .int, .putstatic 809, .aload 0, .new 0, .dup, .invokeinterface 12 1, .putstatic 810, .aload 0, .new 4, .dup, .invokeinterface 48 1, .putstatic 811, .aload 0, .bipush 5, .newarray .int, .putstatic 812, .aload 0, .bipush 1, .putfield 813, .aload 0, .bipush 0, .putfield 814, .aload 0, .aconst_null, .putstatic 815, .aload 0, .bipush 10, .newarray .int, .putstatic 816, .aload 0, .getfield 812, .bipush 0, .bipush 5, .iastore, .aload 0, .getfield 812, .bipush 1, .bipush 50, .iastore, .return_])]
def bkX10_copyFrom : List (Nat × List Instr) := [(0, [.aload 0, .aload 1, .getfield 800, .putfield 800, .aload 1, .getfield 801, .bipush 0, .aload 0, .getfield 801, .bipush 0, .bipush 6, .invokestatic 2, .aload 1, .getfield 802, .bipush 0, .aload 0, .getfield 802, .bipush 0, .bipush 6, .invokestatic 2, .aload 1, .getfield 803, .bipush 0, .aload 0, .getfield 803, .bipush 0, .bipush 6, .invokestatic 2, .aload 0, .aload 1, .getfield 804, .putfield 804, .aload 1, .getfield 805, .bipush 0, .aload 0, .getfield 805, .bipush 0, .bipush 6, .invokestatic 2, .aload 1, .getfield 806, .bipush 0, .aload 0, .getfield 806, .bipush 0, .bipush 36, .invokestatic 2, .aload 1, .getfield 807, .bipush 0, .aload 0, .getfield 807, .bipush 0, .bipush 6, .invokestatic 2, .aload 1, .getfield 808, .bipush 0, .aload 0, .getfield 808, .bipush 0, .bipush 36, .invokestatic 2, .aload 1, .getfield 809, .bipush 0, .aload 0, .getfield 809, .bipush 0, .bipush 36, .invokestatic 2, .aload 0, .getfield 810, .aload 1, .getfield 810, .invokeinterface 13 2, .aload 0, .getfield 811, .aload 1, .getfield 811, .invokeinterface 49 2, .aload 1, .getfield 812, .bipush 0, .aload 0, .getfield 812, .bipush 0, .bipush 5, .invokestatic 2, .aload 0, .aload 1, .getfield 813, .putfield 813, .aload 0, .aload 1, .getfield 814, .putfield 814, .aload 0, .aload 1, .getfield 815, .putstatic 815, .return_])]
def bkX10_isField : List (Nat × List Instr) := [(0, [.iload 1, .ifCond .lt 16, .iload 1, .aload 0, .getfield 800, .if_icmp .ge 16, .bipush 1, .goto 17]),
  (16, [.bipush 0, .jsr 17]),
  (17, [.freturn])]
def bkX10_isPerson : List (Nat × List Instr) := [(0, [.iload 1, .ifCond .lt 16, .iload 1, .aload 0, .getfield 804, .if_icmp .ge 16, .bipush 1, .goto 17]),
  (16, [.bipush 0, .jsr 17]),
  (17, [.freturn])]
def bkX10_usedOf : List (Nat × List Instr) := [(0, [.bipush 0, .istore 2, .bipush 0, .istore 3, .jsr 4]),
  (4, [.iload 3, .aload 0, .getfield 804, .if_icmp .ge 37, .aload 0, .getfield 807, .iload 3, .iaload, .iload 1, .if_icmp .ne 31, .iload 2, .aload 0, .getfield 805, .iload 3, .iaload, .iadd, .istore 2, .jsr 31]),
  (31, [.iinc 3 1, .goto 4]),
  (37, [.iload 2, .ireturn])]
def bkX10_roomLeft : List (Nat × List Instr) := [(0, [.aload 0, .getfield 803, .iload 1, .iaload, .aload 0, .iload 1, .invokeinterface 109 2, .isub, .ireturn])]
def bkX10_roomFor : List (Nat × List Instr) := [(0, [.aload 0, .iload 2, .invokeinterface 110 2, .aload 0, .getfield 807, .iload 1, .iaload, .iload 2, .if_icmp .ne 24, .aload 0, .getfield 805, .iload 1, .iaload, .goto 25]),
  (24, [.bipush 0, .jsr 25]),
  (25, [.iadd, .ireturn])]
def bkX10_bitsThere : List (Nat × List Instr) := [(0, [.bipush 0, .istore 2, .bipush 0, .istore 3, .jsr 4]),
  (4, [.iload 3, .aload 0, .getfield 804, .if_icmp .ge 34, .aload 0, .getfield 807, .iload 3, .iaload, .iload 1, .if_icmp .ne 28, .iload 2, .bipush 1, .iload 3, .ishl, .ior, .istore 2, .jsr 28]),
  (28, [.iinc 3 1, .goto 4]),
  (34, [.iload 2, .ireturn])]
def bkX10_bitsWritten : List (Nat × List Instr) := [(0, [.bipush 0, .istore 1, .bipush 0, .istore 2, .jsr 4]),
  (4, [.iload 2, .aload 0, .getfield 804, .if_icmp .ge 34, .aload 0, .getfield 807, .iload 2, .iaload, .bipush (-1), .if_icmp .eq 28, .iload 1, .bipush 1, .iload 2, .ishl, .ior, .istore 1, .jsr 28]),
  (28, [.iinc 2 1, .goto 4]),
  (34, [.iload 1, .ireturn])]
def bkX10_bitsWhole : List (Nat × List Instr) := [(0, [.bipush 0, .istore 1, .bipush 0, .istore 2, .jsr 4]),
  (4, [.iload 2, .aload 0, .getfield 804, .if_icmp .ge 32, .aload 0, .iload 2, .invokeinterface 118 2, .ifCond .eq 26, .iload 1, .bipush 1, .iload 2, .ishl, .ior, .istore 1, .jsr 26]),
  (26, [.iinc 2 1, .goto 4]),
  (32, [.iload 1, .ireturn])]
def bkX10_allSnow : List (Nat × List Instr) := [(0, [.bipush 0, .istore 1, .bipush 0, .istore 2, .jsr 4]),
  (4, [.iload 2, .aload 0, .getfield 800, .if_icmp .ge 27, .iload 1, .aload 0, .getfield 802, .iload 2, .iaload, .iadd, .istore 1, .iinc 2 1, .goto 4]),
  (27, [.iload 1, .ireturn])]
def bkX10_lettersOf : List (Nat × List Instr) := [(0, [.bipush 0, .istore 2, .bipush 0, .istore 3, .jsr 4]),
  (4, [.iload 3, .aload 0, .getfield 805, .iload 1, .iaload, .if_icmp .ge 36, .iload 2, .bipush 1, .aload 0, .getfield 806, .bipush 6, .iload 1, .imul, .iload 3, .iadd, .iaload, .ishl, .ior, .istore 2, .iinc 3 1, .goto 4]),
  (36, [.iload 2, .ireturn])]
def bkX10_marksLeft : List (Nat × List Instr) := [(0, [.bipush 0, .istore 2, .bipush 0, .istore 3, .jsr 4]),
  (4, [.iload 3, .aload 0, .getfield 805, .iload 1, .iaload, .if_icmp .ge 47, .aload 0, .getfield 807, .iload 1, .iaload, .bipush (-1), .if_icmp .eq 47, .aload 0, .getfield 809, .bipush 6, .iload 1, .imul, .iload 3, .iadd, .iaload, .ifCond .le 41, .iinc 2 1, .jsr 41]),
  (41, [.iinc 3 1, .goto 4]),
  (47, [.iload 2, .ireturn])]
def bkX10_isWhole : List (Nat × List Instr) := [(0, [.aload 0, .getfield 807, .iload 1, .iaload, .bipush (-1), .if_icmp .ne 12, .bipush 0, .freturn]),
  (12, [.bipush 6, .iload 1, .imul, .istore 2, .jsr 17]),
  (17, [.iload 2, .bipush 6, .iload 1, .imul, .aload 0, .getfield 805, .iload 1, .iaload, .iadd, .if_icmp .ge 64, .aload 0, .getfield 809, .iload 2, .iaload, .ifCond .le 56, .aload 0, .getfield 808, .iload 2, .iaload, .aload 0, .getfield 806, .iload 2, .iaload, .if_icmp .eq 58, .jsr 56]),
  (56, [.bipush 0, .freturn]),
  (58, [.iinc 2 1, .goto 17]),
  (64, [.bipush 1, .freturn])]
def bkX10_readLetter : List (Nat × List Instr) := [(0, [.bipush 0, .istore 3, .bipush 6, .iload 1, .imul, .istore 4, .jsr 8]),
  (8, [.iload 4, .bipush 6, .iload 1, .imul, .aload 0, .getfield 805, .iload 1, .iaload, .iadd, .if_icmp .ge 56, .aload 0, .getfield 809, .iload 4, .iaload, .ifCond .le 50, .iload 3, .iload 2, .if_icmp .ne 47, .aload 0, .getfield 808, .iload 4, .iaload, .ireturn]),
  (47, [.iinc 3 1, .jsr 50]),
  (50, [.iinc 4 1, .goto 8]),
  (56, [.bipush (-1), .ireturn])]
def bkX10_readAs : List (Nat × List Instr) := [(0, [.aload 0, .getfield 807, .iload 1, .iaload, .bipush (-1), .if_icmp .ne 12, .bipush (-1), .ireturn]),
  (12, [.aload 0, .iload 1, .iload 1, .invokeinterface 121 3, .ifCond .eq 23, .iload 1, .ireturn]),
  (23, [.bipush 0, .istore 2, .jsr 25]),
  (25, [.iload 2, .aload 0, .getfield 804, .if_icmp .ge 50, .aload 0, .iload 1, .iload 2, .invokeinterface 121 3, .ifCond .eq 44, .iload 2, .ireturn]),
  (44, [.iinc 2 1, .goto 25]),
  (50, [.bipush (-1), .ireturn])]
def bkX10_readsAs : List (Nat × List Instr) := [(0, [.aload 0, .iload 1, .invokeinterface 117 2, .aload 0, .getfield 805, .iload 2, .iaload, .if_icmp .eq 16, .bipush 0, .freturn]),
  (16, [.bipush 0, .istore 3, .jsr 18]),
  (18, [.iload 3, .aload 0, .getfield 805, .iload 2, .iaload, .if_icmp .ge 56, .aload 0, .iload 1, .iload 3, .invokeinterface 119 3, .aload 0, .getfield 806, .bipush 6, .iload 2, .imul, .iload 3, .iadd, .iaload, .if_icmp .eq 50, .bipush 0, .freturn]),
  (50, [.iinc 3 1, .goto 18]),
  (56, [.bipush 1, .freturn])]
def bkX10_putOn : List (Nat × List Instr) := [(0, [.aload 0, .getfield 807, .iload 1, .iload 2, .iastore, .bipush 6, .iload 1, .imul, .istore 4, .jsr 13]),
  (13, [.iload 4, .bipush 6, .iload 1, .imul, .aload 0, .getfield 805, .iload 1, .iaload, .iadd, .if_icmp .ge 57, .aload 0, .getfield 808, .iload 4, .aload 0, .getfield 806, .iload 4, .iaload, .iastore, .aload 0, .getfield 809, .iload 4, .iload 3, .iastore, .iinc 4 1, .goto 13]),
  (57, [.return_])]
def bkX10_treadDeeper : List (Nat × List Instr) := [(0, [.bipush 0, .istore 3, .bipush 6, .iload 1, .imul, .istore 4, .jsr 8]),
  (8, [.iload 4, .bipush 6, .iload 1, .imul, .aload 0, .getfield 805, .iload 1, .iaload, .iadd, .if_icmp .ge 73, .aload 0, .getfield 809, .iload 4, .iaload, .ifCond .le 55, .aload 0, .getfield 809, .iload 4, .bipush 9, .aload 0, .getfield 809, .iload 4, .iaload, .iload 2, .iadd, .invokestatic 0, .iastore, .jsr 55]),
  (55, [.iload 3, .aload 0, .getfield 809, .iload 4, .iaload, .invokestatic 1, .istore 3, .iinc 4 1, .goto 8]),
  (73, [.iload 3, .ireturn])]
def bkX10_meltsOf : List (Nat × List Instr) := [(0, [.aload 0, .getfield 801, .iload 2, .iaload, .bipush 2, .idiv, .istore 3, .aload 0, .getfield 815, .ifnull 50, .aload 0, .iload 1, .iload 2, .invokeinterface 126 3, .iload 3, .aload 0, .getfield 815, .bipush 0, .aload 0, .getfield 816, .invokeinterface 35 3, .aload 0, .getfield 815, .bipush 1, .aload 0, .getfield 816, .invokeinterface 35 3, .isub, .iadd, .istore 3, .jsr 50]),
  (50, [.bipush 0, .iload 3, .invokestatic 1, .ireturn])]
def bkX10_deepOf : List (Nat × List Instr) := [(0, [.bipush 4, .istore 3, .aload 0, .getfield 815, .ifnull 30, .aload 0, .iload 1, .iload 2, .invokeinterface 126 3, .iload 3, .aload 0, .getfield 815, .bipush 2, .aload 0, .getfield 816, .invokeinterface 35 3, .iadd, .istore 3, .jsr 30]),
  (30, [.bipush 9, .iload 3, .invokestatic 0, .ireturn])]
def bkX10_gather : List (Nat × List Instr) := [(0, [.aload 0, .getfield 810, .iload 1, .invokeinterface 17 2, .istore 3, .aload 0, .getfield 816, .bipush 0, .iload 1, .iastore, .aload 0, .getfield 816, .bipush 1, .iload 2, .iastore, .aload 0, .getfield 816, .bipush 2, .aload 0, .getfield 801, .iload 2, .iaload, .iastore, .aload 0, .getfield 816, .bipush 3, .aload 0, .getfield 802, .iload 2, .iaload, .iastore, .aload 0, .getfield 816, .bipush 4, .aload 0, .getfield 805, .iload 1, .iaload, .iastore, .aload 0, .getfield 816, .bipush 5, .iload 3, .iastore, .aload 0, .getfield 816, .bipush 6, .aload 0, .getfield 812, .bipush 4, .iaload, .bipush 100, .irem, .iastore, .aload 0, .getfield 816, .bipush 7, .aload 0, .getfield 807, .iload 1, .iaload, .bipush (-1), .if_icmp .eq 102, .bipush 1, .goto 103]),
  (102, [.bipush 0, .jsr 103]),
  (103, [.iastore, .aload 0, .getfield 816, .bipush 8, .aload 0, .iload 1, .invokeinterface 118 2, .ifCond .eq 122, .bipush 1, .goto 123]),
  (122, [.bipush 0, .jsr 123]),
  (123, [.iastore, .aload 0, .getfield 816, .bipush 9, .iload 3, .ifCond .le 138, .bipush 1, .goto 139]),
  (138, [.bipush 0, .jsr 139]),
  (139, [.iastore, .return_])]
def bkX11_init : List (Nat × List Instr) := [(0, [.aload 0, .invokespecial 0, .aload 0, .bipush 400, .newarray .int, .putstatic 900, .aload 0, .bipush 0, .putfield 901, .aload 0, .bipush (-1), .putfield 902, .aload 0, .new 8, .dup, .invokeinterface 105 1, .putstatic 903, .aload 0, .new 8, .dup, .invokeinterface 105 1, .putstatic 904, .aload 0, .new 8, .dup, .invokeinterface 105 1, .putstatic 905, .aload 0, .bipush 0, .dstore 906, .aload 0, .bipush 12, .anewarray 0, .putstatic 907, .aload 0, .bipush 0, .putfield 908, .aload 0, .bipush 0, .putfield 909, .aload 0, .new 6, .dup, .invokeinterface 82 1, .putstatic 910, .aload 0, .new 3, .dup, .invokeinterface 37 1, .putstatic 911, .aload 0, .new 5, .dup, .invokeinterface 54 1, .putstatic 912, .aload 0, .new 1, .dup, .invokeinterface 23 1, .putstatic 913, .aload 0, .bipush 64, .newarray .int, .putstatic 914, .aload 0, .bipush 6, .newarray .int, .putstatic 915, .aload 0, .bipush 6, .newarray .long, .putstatic 916, .bipush 0, .istore 1, .jsr 150]),
  (150, [.iload 1, .bipush 12, .if_icmp .ge 175, .aload 0, .getfield 907, .iload 1, .new 8, .dup, .invokeinterface 105 1, .aastore, .iinc 1 1, .goto 150]),
  (175, [.return_])]
def bkX11_feed : List (Nat × List Instr) := [(0, [.aload 0, .getfield 901, .bipush 20, .iadd, .bipush 400, .if_icmp .le 15, .bipush (-1), .ireturn]),
  (15, [.aload 0, .iload 1, .invokeinterface 129 2, .aload 0, .iload 2, .invokeinterface 129 2, .aload 0, .iload 3, .invokeinterface 129 2, .aload 0, .iload 4, .invokeinterface 129 2, .aload 0, .iload 5, .invokeinterface 129 2, .aload 0, .getfield 901, .ireturn])]
def bkX11_putBytes : List (Nat × List Instr) := [(0, [.bipush 24, .istore 2, .jsr 3]),
  (3, [.iload 2, .ifCond .lt 49, .aload 0, .getfield 901, .bipush 400, .if_icmp .ge 43, .aload 0, .getfield 900, .aload 0, .getfield 901, .iload 1, .iload 2, .iushr, .bipush 255, .iand, .iastore, .aload 0, .dup, .getfield 901, .bipush 1, .iadd, .putfield 901, .jsr 43]),
  (43, [.iinc 2 (-8), .goto 3]),
  (49, [.return_])]
def bkX11_end : List (Nat × List Instr) := [(0, [.iload 1, .ifCond .lt 12, .iload 1, .aload 0, .getfield 901, .if_icmp .le 14, .jsr 12]),
  (12, [.bipush 0, .freturn]),
  (14, [.aload 0, .iload 1, .putfield 901, .bipush 1, .freturn])]
def bkX11_province : List (Nat × List Instr) := [(0, [.aload 0, .invokeinterface 134 1, .istore 1, .aload 0, .getfield 904, .aload 0, .getfield 903, .invokeinterface 106 2, .aload 0, .getfield 910, .aload 0, .getfield 904, .aload 0, .getfield 900, .iload 1, .invokeinterface 83 4, .istore 2, .aload 0, .aload 0, .getfield 910, .getfield 600, .getfield 706, .putfield 902, .iload 2, .ifCond .ne 61, .invokedynamic 1]),
  (61, [.aload 0, .getfield 903, .getfield 814, .bipush 12, .if_icmp .lt 83, .invokedynamic 3]),
  (83, [.aload 0, .getfield 903, .aload 0, .getfield 904, .invokeinterface 106 2, .aload 0, .getfield 903, .dup, .getfield 814, .bipush 1, .iadd, .putfield 814, .aload 0, .bipush 0, .putfield 909, .aload 0, .getfield 903, .getfield 814, .ireturn])]
def bkX11_law : List (Nat × List Instr) := [(0, [.aload 0, .getfield 911, .aload 0, .getfield 900, .aload 0, .invokeinterface 134 1, .invokeinterface 38 3, .astore 1, .aload 0, .aload 0, .getfield 911, .getfield 300, .getfield 706, .putfield 902, .aload 1, .ifnonnull 44, .invokedynamic 1]),
  (44, [.aload 0, .getfield 903, .aload 1, .putstatic 815, .aload 0, .bipush 0, .putfield 909, .aload 1, .getfield 200, .ireturn])]
def bkX11_fault : List (Nat × List Instr) := [(0, [.aload 0, .getfield 902, .ireturn])]
def bkX11_useTape : List (Nat × List Instr) := [(0, [.aload 0, .getfield 901, .istore 1, .aload 0, .bipush 0, .putfield 901, .iload 1, .ireturn])]
def bkX11_field : List (Nat × List Instr) := [(0, [.aload 0, .iload 1, .invokeinterface 142 2, .iload 2, .lookupswitch 88 #[(0, 40), (1, 50), (2, 60), (3, 70), (4, 79)]]),
  (40, [.aload 0, .getfield 903, .getfield 801, .iload 1, .iaload, .ireturn]),
  (50, [.aload 0, .getfield 903, .getfield 802, .iload 1, .iaload, .ireturn]),
  (60, [.aload 0, .getfield 903, .getfield 803, .iload 1, .iaload, .ireturn]),
  (70, [.aload 0, .getfield 903, .iload 1, .invokeinterface 109 2, .ireturn]),
  (79, [.aload 0, .getfield 903, .iload 1, .invokeinterface 112 2, .ireturn]),
  (88, [.invokedynamic 4])]
def bkX11_person : List (Nat × List Instr) := [(0, [.aload 0, .iload 1, .invokeinterface 143 2, .iload 2, .lookupswitch 155 #[(0, 56), (1, 66), (2, 76), (3, 85), (4, 102), (5, 111), (6, 124), (7, 137), (8, 149)]]),
  (56, [.aload 0, .getfield 903, .getfield 805, .iload 1, .iaload, .ireturn]),
  (66, [.aload 0, .getfield 903, .getfield 807, .iload 1, .iaload, .ireturn]),
  (76, [.aload 0, .getfield 903, .iload 1, .invokeinterface 117 2, .ireturn]),
  (85, [.aload 0, .getfield 903, .iload 1, .invokeinterface 118 2, .ifCond .eq 100, .bipush 1, .goto 101]),
  (100, [.bipush 0, .jsr 101]),
  (101, [.ireturn]),
  (102, [.aload 0, .getfield 903, .iload 1, .invokeinterface 120 2, .ireturn]),
  (111, [.aload 0, .getfield 913, .aload 0, .getfield 903, .iload 1, .invokeinterface 24 3, .ireturn]),
  (124, [.aload 0, .getfield 913, .aload 0, .getfield 903, .iload 1, .invokeinterface 25 3, .ireturn]),
  (137, [.aload 0, .getfield 903, .getfield 810, .iload 1, .invokeinterface 18 2, .ireturn]),
  (149, [.aload 0, .iload 1, .invokeinterface 137 2, .ireturn]),
  (155, [.invokedynamic 4])]
def bkX11_partOf : List (Nat × List Instr) := [(0, [.aload 0, .getfield 903, .getfield 810, .invokeinterface 16 1, .istore 2, .iload 2, .ifCond .gt 19, .bipush 0, .goto 35]),
  (19, [.bipush 100, .aload 0, .getfield 903, .getfield 810, .iload 1, .invokeinterface 17 2, .imul, .iload 2, .idiv, .jsr 35]),
  (35, [.ireturn])]
def bkX11_letter : List (Nat × List Instr) := [(0, [.aload 0, .iload 1, .invokeinterface 143 2, .iload 3, .ifCond .lt 14, .iload 3, .bipush 3, .if_icmp .le 24, .jsr 14]),
  (14, [.invokedynamic 4]),
  (24, [.iload 2, .ifCond .lt 58, .iload 2, .aload 0, .getfield 903, .getfield 805, .iload 1, .iaload, .if_icmp .ge 58, .iload 3, .ifCond .le 60, .aload 0, .getfield 903, .getfield 807, .iload 1, .iaload, .bipush (-1), .if_icmp .ne 60, .jsr 58]),
  (58, [.bipush (-1), .ireturn]),
  (60, [.iload 3, .lookupswitch 133 #[(0, 88), (1, 103), (2, 118)]]),
  (88, [.aload 0, .getfield 903, .getfield 806, .bipush 6, .iload 1, .imul, .iload 2, .iadd, .iaload, .ireturn]),
  (103, [.aload 0, .getfield 903, .getfield 808, .bipush 6, .iload 1, .imul, .iload 2, .iadd, .iaload, .ireturn]),
  (118, [.aload 0, .getfield 903, .getfield 809, .bipush 6, .iload 1, .imul, .iload 2, .iadd, .iaload, .ireturn]),
  (133, [.aload 0, .getfield 903, .iload 1, .iload 2, .invokeinterface 119 3, .ireturn])]
def bkX11_debt : List (Nat × List Instr) := [(0, [.aload 0, .iload 1, .invokeinterface 144 2, .iload 2, .lookupswitch 71 #[(0, 32), (1, 45), (2, 58)]]),
  (32, [.aload 0, .getfield 903, .getfield 810, .getfield 1, .iload 1, .iaload, .ireturn]),
  (45, [.aload 0, .getfield 903, .getfield 810, .getfield 2, .iload 1, .iaload, .ireturn]),
  (58, [.aload 0, .getfield 903, .getfield 810, .getfield 3, .iload 1, .iaload, .ireturn]),
  (71, [.invokedynamic 4])]
def bkX11_melts : List (Nat × List Instr) := [(0, [.aload 0, .iload 1, .invokeinterface 143 2, .aload 0, .iload 2, .invokeinterface 142 2, .aload 0, .getfield 903, .iload 1, .iload 2, .invokeinterface 124 3, .ireturn])]
def bkX11_deep : List (Nat × List Instr) := [(0, [.aload 0, .iload 1, .invokeinterface 143 2, .aload 0, .iload 2, .invokeinterface 142 2, .aload 0, .getfield 903, .iload 1, .iload 2, .invokeinterface 125 3, .ireturn])]
def bkX11_needField : List (Nat × List Instr) := [(0, [.aload 0, .getfield 903, .iload 1, .invokeinterface 107 2, .ifCond .ne 21, .invokedynamic 2]),
  (21, [.return_])]
def bkX11_needPerson : List (Nat × List Instr) := [(0, [.aload 0, .getfield 903, .iload 1, .invokeinterface 108 2, .ifCond .ne 21, .invokedynamic 2]),
  (21, [.return_])]
def bkX11_needDebt : List (Nat × List Instr) := [(0, [.iload 1, .ifCond .lt 18, .iload 1, .aload 0, .getfield 903, .getfield 810, .getfield 0, .if_icmp .lt 28, .jsr 18]),
  (18, [.invokedynamic 2]),
  (28, [.return_])]
def bkX11_needWithin : List (Nat × List Instr) := [(0, [.iload 0, .iload 1, .if_icmp .lt 10, .iload 0, .iload 2, .if_icmp .le 20, .jsr 10]),
  (10, [.invokedynamic 1]),
  (20, [.return_])]
def bkX11_days : List (Nat × List Instr) := [(0, [.iload 1, .bipush 1, .bipush 60, .invokeinterface 145 3, .aload 0, .invokeinterface 194 1, .bipush 0, .istore 2, .bipush 0, .istore 3, .jsr 15]),
  (15, [.iload 3, .iload 1, .if_icmp .ge 39, .aload 0, .getfield 903, .invokeinterface 0 1, .ifCond .eq 33, .iinc 2 1, .jsr 33]),
  (33, [.iinc 3 1, .goto 15]),
  (39, [.iload 2, .ireturn])]
def bkX11_write : List (Nat × List Instr) := [(0, [.aload 0, .iload 1, .invokeinterface 143 2, .aload 0, .iload 2, .invokeinterface 142 2, .aload 0, .getfield 903, .getfield 802, .iload 2, .iaload, .ifCond .le 43, .aload 0, .getfield 903, .iload 1, .iload 2, .invokeinterface 111 3, .aload 0, .getfield 903, .getfield 805, .iload 1, .iaload, .if_icmp .ge 54, .jsr 43]),
  (43, [.invokedynamic 0]),
  (54, [.aload 0, .invokeinterface 194 1, .aload 0, .getfield 903, .iload 1, .iload 2, .invokeinterface 125 3, .istore 3, .aload 0, .getfield 903, .iload 1, .iload 2, .iload 3, .invokeinterface 122 4, .aload 0, .getfield 903, .getfield 811, .aload 0, .getfield 903, .getfield 812, .bipush 4, .iaload, .iload 1, .bipush 0, .iload 2, .invokeinterface 50 5, .iload 3, .ireturn])]
def bkX11_strike : List (Nat × List Instr) := [(0, [.aload 0, .iload 1, .invokeinterface 143 2, .aload 0, .iload 1, .invokeinterface 154 2, .aload 0, .invokeinterface 194 1, .aload 0, .getfield 903, .getfield 807, .iload 1, .iaload, .istore 2, .aload 0, .getfield 903, .getfield 807, .iload 1, .bipush (-1), .iastore, .aload 0, .getfield 903, .getfield 811, .aload 0, .getfield 903, .getfield 812, .bipush 4, .iaload, .iload 1, .bipush 1, .iload 2, .invokeinterface 50 5, .iload 2, .ireturn])]
def bkX11_tread : List (Nat × List Instr) := [(0, [.aload 0, .iload 1, .invokeinterface 143 2, .iload 2, .bipush 1, .bipush 9, .invokeinterface 145 3, .aload 0, .iload 1, .invokeinterface 154 2, .aload 0, .invokeinterface 194 1, .aload 0, .getfield 903, .iload 1, .iload 2, .invokeinterface 123 3, .ireturn])]
def bkX11_lend : List (Nat × List Instr) := [(0, [.aload 0, .iload 1, .invokeinterface 143 2, .aload 0, .iload 2, .invokeinterface 143 2, .iload 1, .iload 2, .invokeinterface 155 2, .iload 3, .bipush 1, .bipush 99, .invokeinterface 145 3, .aload 0, .getfield 903, .getfield 810, .getfield 0, .bipush 8, .if_icmp .lt 48, .invokedynamic 0]),
  (48, [.aload 0, .invokeinterface 194 1, .aload 0, .getfield 903, .getfield 810, .iload 1, .iload 2, .iload 3, .invokeinterface 14 4, .aload 0, .getfield 903, .getfield 810, .getfield 0, .bipush 1, .isub, .ireturn])]
def bkX11_pay : List (Nat × List Instr) := [(0, [.aload 0, .iload 1, .invokeinterface 144 2, .aload 0, .getfield 903, .aload 0, .getfield 903, .getfield 810, .getfield 1, .iload 1, .iaload, .invokeinterface 118 2, .ifCond .eq 49, .aload 0, .getfield 903, .aload 0, .getfield 903, .getfield 810, .getfield 2, .iload 1, .iaload, .invokeinterface 118 2, .ifCond .ne 60, .jsr 49]),
  (49, [.invokedynamic 0]),
  (60, [.aload 0, .invokeinterface 194 1, .aload 0, .getfield 903, .getfield 810, .getfield 3, .iload 1, .iaload, .istore 2, .aload 0, .getfield 903, .getfield 810, .iload 1, .invokeinterface 15 2, .iload 2, .ireturn])]
def bkX11_slope : List (Nat × List Instr) := [(0, [.aload 0, .iload 1, .invokeinterface 142 2, .iload 2, .bipush 0, .bipush 9, .invokeinterface 145 3, .aload 0, .invokeinterface 194 1, .aload 0, .getfield 903, .getfield 801, .iload 1, .iaload, .istore 3, .aload 0, .getfield 903, .getfield 801, .iload 1, .iload 2, .iastore, .iload 3, .ireturn])]
def bkX11_snow : List (Nat × List Instr) := [(0, [.aload 0, .iload 1, .invokeinterface 142 2, .iload 2, .bipush 1, .bipush 99, .invokeinterface 145 3, .aload 0, .invokeinterface 194 1, .aload 0, .getfield 903, .getfield 802, .iload 1, .bipush 99, .aload 0, .getfield 903, .getfield 802, .iload 1, .iaload, .iload 2, .iadd, .invokestatic 0, .iastore, .aload 0, .getfield 903, .getfield 802, .iload 1, .iaload, .ireturn])]
def bkX11_needOn : List (Nat × List Instr) := [(0, [.aload 0, .getfield 903, .getfield 807, .iload 1, .iaload, .bipush (-1), .if_icmp .ne 24, .invokedynamic 0]),
  (24, [.return_])]
def bkX11_needUnlike : List (Nat × List Instr) := [(0, [.iload 0, .iload 1, .if_icmp .ne 16, .invokedynamic 1]),
  (16, [.return_])]
def bkX11_till : List (Nat × List Instr) := [(0, [.iload 2, .bipush (-1), .if_icmp .eq 10, .aload 0, .iload 2, .invokeinterface 143 2, .jsr 10]),
  (10, [.iload 1, .bipush 1, .bipush 60, .invokeinterface 145 3, .aload 0, .getfield 913, .aload 0, .getfield 903, .iload 1, .invokeinterface 28 3, .iload 2, .bipush (-1), .if_icmp .ne 44, .aload 0, .getfield 913, .invokeinterface 32 1, .goto 52]),
  (44, [.aload 0, .getfield 913, .iload 2, .invokeinterface 33 2, .jsr 52]),
  (52, [.ireturn])]
def bkX11_who : List (Nat × List Instr) := [(0, [.aload 0, .invokeinterface 160 1, .istore 1, .aload 0, .getfield 912, .aload 0, .getfield 903, .aload 0, .getfield 900, .iload 1, .invokeinterface 58 4, .ireturn])]
def bkX11_likely : List (Nat × List Instr) := [(0, [.aload 0, .invokeinterface 160 1, .istore 1, .aload 0, .getfield 912, .aload 0, .getfield 903, .aload 0, .getfield 900, .iload 1, .invokeinterface 59 4, .ireturn])]
def bkX11_look : List (Nat × List Instr) := [(0, [.aload 0, .invokeinterface 160 1, .istore 1, .aload 0, .getfield 912, .aload 0, .getfield 903, .aload 0, .getfield 912, .aload 0, .getfield 903, .aload 0, .getfield 900, .iload 1, .invokeinterface 58 4, .invokeinterface 60 3, .ireturn])]
def bkX11_useRows : List (Nat × List Instr) := [(0, [.aload 0, .invokeinterface 134 1, .istore 1, .aload 0, .getfield 900, .iload 1, .invokeinterface 55 2, .ifCond .ne 27, .invokedynamic 1]),
  (27, [.iload 1, .ireturn])]
def bkX11_places : List (Nat × List Instr) := [(0, [.aload 0, .getfield 912, .aload 0, .getfield 903, .invokeinterface 62 2, .ireturn])]
def bkX11_change : List (Nat × List Instr) := [(0, [.aload 0, .iload 1, .invokeinterface 143 2, .aload 0, .iload 2, .invokeinterface 143 2, .aload 0, .getfield 912, .aload 0, .getfield 903, .iload 1, .iload 2, .invokeinterface 66 4, .ireturn])]
def bkX11_mixed : List (Nat × List Instr) := [(0, [.aload 0, .iload 1, .invokeinterface 143 2, .aload 0, .iload 2, .invokeinterface 143 2, .aload 0, .getfield 903, .iload 1, .iload 2, .invokeinterface 68 3, .freturn])]
def bkX11_safe : List (Nat × List Instr) := [(0, [.aload 0, .getfield 912, .aload 0, .getfield 903, .invokeinterface 69 2, .ireturn])]
def bkX11_together : List (Nat × List Instr) := [(0, [.aload 0, .iload 1, .invokeinterface 143 2, .aload 0, .iload 2, .invokeinterface 143 2, .iload 1, .iload 2, .invokeinterface 155 2, .aload 0, .getfield 912, .aload 0, .getfield 903, .iload 1, .iload 2, .invokeinterface 71 4, .iload 3, .bipush (-1), .if_icmp .ne 43, .aload 0, .getfield 912, .invokeinterface 76 1, .goto 51]),
  (43, [.aload 0, .getfield 912, .iload 3, .invokeinterface 77 2, .jsr 51]),
  (51, [.ireturn])]
def bkX11_pairs : List (Nat × List Instr) := [(0, [.iload 1, .bipush (-1), .if_icmp .eq 10, .aload 0, .iload 1, .invokeinterface 143 2, .jsr 10]),
  (10, [.aload 0, .getfield 912, .aload 0, .getfield 903, .invokeinterface 78 2, .iload 1, .bipush (-1), .if_icmp .ne 36, .aload 0, .getfield 912, .invokeinterface 80 1, .goto 44]),
  (36, [.aload 0, .getfield 912, .iload 1, .invokeinterface 81 2, .jsr 44]),
  (44, [.ireturn])]
def bkX11_twins : List (Nat × List Instr) := [(0, [.bipush 0, .istore 1, .bipush 0, .istore 2, .jsr 4]),
  (4, [.iload 2, .aload 0, .getfield 903, .getfield 804, .if_icmp .ge 57, .iload 2, .bipush 1, .iadd, .istore 3, .jsr 19]),
  (19, [.iload 3, .aload 0, .getfield 903, .getfield 804, .if_icmp .ge 51, .aload 0, .getfield 903, .iload 2, .iload 3, .invokeinterface 65 3, .ifCond .eq 45, .iinc 1 1, .jsr 45]),
  (45, [.iinc 3 1, .goto 19]),
  (51, [.iinc 2 1, .goto 4]),
  (57, [.iload 1, .ireturn])]
def bkX11_having : List (Nat × List Instr) := [(0, [.iload 1, .ifCond .lt 10, .iload 1, .bipush 8, .if_icmp .lt 21, .jsr 10]),
  (10, [.invokedynamic 2]),
  (21, [.bipush 0, .istore 2, .bipush 0, .istore 3, .jsr 25]),
  (25, [.iload 3, .aload 0, .getfield 903, .getfield 804, .if_icmp .ge 64, .aload 0, .getfield 903, .iload 3, .invokeinterface 116 2, .iload 1, .ishr, .bipush 1, .iand, .bipush 1, .if_icmp .ne 58, .iload 2, .bipush 1, .iload 3, .ishl, .ior, .istore 2, .jsr 58]),
  (58, [.iinc 3 1, .goto 25]),
  (64, [.iload 2, .ireturn])]
def bkX11_settle : List (Nat × List Instr) := [(0, [.aload 0, .getfield 903, .getfield 810, .aload 0, .getfield 903, .getfield 804, .aload 0, .getfield 914, .invokeinterface 20 3, .ireturn])]
def bkX11_ring : List (Nat × List Instr) := [(0, [.aload 0, .getfield 903, .getfield 810, .aload 0, .getfield 903, .getfield 804, .invokeinterface 21 2, .ireturn])]
def bkX11_poorest : List (Nat × List Instr) := [(0, [.bipush (-1), .istore 1, .bipush 0, .istore 2, .jsr 4]),
  (4, [.iload 2, .aload 0, .getfield 903, .getfield 804, .if_icmp .ge 53, .iload 1, .bipush (-1), .if_icmp .eq 45, .aload 0, .getfield 903, .getfield 810, .iload 2, .invokeinterface 18 2, .aload 0, .getfield 903, .getfield 810, .iload 1, .invokeinterface 18 2, .if_icmp .le 47, .jsr 45]),
  (45, [.iload 2, .istore 1, .jsr 47]),
  (47, [.iinc 2 1, .goto 4]),
  (53, [.iload 1, .ireturn])]
def bkX11_clear : List (Nat × List Instr) := [(0, [.bipush 1, .aload 0, .getfield 903, .getfield 804, .ishl, .bipush 1, .isub, .istore 1, .bipush 0, .istore 2, .jsr 14]),
  (14, [.iload 2, .aload 0, .getfield 903, .getfield 810, .getfield 0, .if_icmp .ge 68, .iload 1, .bipush 1, .aload 0, .getfield 903, .getfield 810, .getfield 1, .iload 2, .iaload, .ishl, .bipush 1, .aload 0, .getfield 903, .getfield 810, .getfield 2, .iload 2, .iaload, .ishl, .ior, .bipush (-1), .ixor, .iand, .istore 1, .iinc 2 1, .goto 14]),
  (68, [.iload 1, .ireturn])]
def bkX11_wins : List (Nat × List Instr) := [(0, [.aload 0, .getfield 903, .invokeinterface 91 1, .ifCond .eq 14, .bipush 1, .goto 15]),
  (14, [.bipush 0, .jsr 15]),
  (15, [.freturn])]
def bkX11_first : List (Nat × List Instr) := [(0, [.aload 0, .getfield 903, .invokeinterface 92 1, .ireturn])]
def bkX11_share : List (Nat × List Instr) := [(0, [.aload 0, .iload 1, .invokeinterface 142 2, .iload 2, .bipush 0, .bipush 99, .invokeinterface 145 3, .aload 0, .getfield 915, .bipush 0, .invokeinterface 384 2, .bipush 0, .istore 3, .jsr 22]),
  (22, [.iload 3, .iload 2, .if_icmp .ge 46, .aload 0, .getfield 915, .aload 0, .invokeinterface 176 1, .dup2, .iaload, .bipush 1, .iadd, .iastore, .iinc 3 1, .goto 22]),
  (46, [.aload 0, .getfield 915, .iload 1, .iaload, .ireturn])]
def bkX11_nextToGet : List (Nat × List Instr) := [(0, [.bipush 0, .istore 1, .bipush 1, .istore 2, .jsr 4]),
  (4, [.iload 2, .aload 0, .getfield 903, .getfield 800, .if_icmp .ge 62, .aload 0, .getfield 903, .getfield 803, .iload 2, .iaload, .aload 0, .getfield 915, .iload 2, .iaload, .bipush 1, .iadd, .idiv, .aload 0, .getfield 903, .getfield 803, .iload 1, .iaload, .aload 0, .getfield 915, .iload 1, .iaload, .bipush 1, .iadd, .idiv, .if_icmp .le 56, .iload 2, .istore 1, .jsr 56]),
  (56, [.iinc 2 1, .goto 4]),
  (62, [.iload 1, .ireturn])]
def bkX11_rests : List (Nat × List Instr) := [(0, [.aload 0, .iload 1, .invokeinterface 143 2, .aload 0, .iload 2, .invokeinterface 142 2, .aload 0, .getfield 903, .iload 1, .iload 2, .invokeinterface 125 3, .istore 3, .aload 0, .getfield 903, .iload 1, .iload 2, .invokeinterface 124 3, .istore 4, .bipush 0, .istore 5, .bipush 0, .istore 6, .jsr 37]),
  (37, [.iload 6, .bipush 2, .if_icmp .ge 164, .bipush 0, .istore 7, .jsr 46]),
  (46, [.iload 7, .bipush 2, .if_icmp .ge 158, .iload 6, .iload 7, .iload 3, .iload 4, .invokeinterface 178 4, .bipush 1, .iload 6, .isub, .iload 7, .iload 3, .iload 4, .invokeinterface 178 4, .if_icmp .lt 81, .bipush 1, .goto 82]),
  (81, [.bipush 0, .jsr 82]),
  (82, [.istore 8, .iload 6, .iload 7, .aload 0, .getfield 903, .getfield 801, .iload 2, .iaload, .invokeinterface 179 3, .iload 6, .bipush 1, .iload 7, .isub, .aload 0, .getfield 903, .getfield 801, .iload 2, .iaload, .invokeinterface 179 3, .if_icmp .lt 125, .bipush 1, .goto 126]),
  (125, [.bipush 0, .jsr 126]),
  (126, [.istore 9, .iload 8, .ifCond .eq 152, .iload 9, .ifCond .eq 152, .iload 5, .bipush 1, .bipush 2, .iload 6, .imul, .iload 7, .iadd, .ishl, .ior, .istore 5, .jsr 152]),
  (152, [.iinc 7 1, .goto 46]),
  (158, [.iinc 6 1, .goto 37]),
  (164, [.iload 5, .ireturn])]
def bkX11_clerkHas : List (Nat × List Instr) := [(0, [.iload 0, .ifCond .ne 16, .iload 1, .ifCond .ne 14, .iload 2, .iload 3, .isub, .goto 15]),
  (14, [.iload 2, .jsr 15]),
  (15, [.ireturn]),
  (16, [.iload 1, .ifCond .ne 24, .bipush 0, .goto 25]),
  (24, [.bipush 1, .jsr 25]),
  (25, [.ireturn])]
def bkX11_sunHas : List (Nat × List Instr) := [(0, [.iload 0, .ifCond .ne 14, .iload 1, .ifCond .ne 12, .bipush 2, .goto 13]),
  (12, [.bipush 1, .jsr 13]),
  (13, [.ireturn]),
  (14, [.iload 1, .ifCond .ne 23, .iload 2, .ineg, .goto 24]),
  (23, [.bipush 0, .jsr 24]),
  (24, [.ireturn])]
def bkX11_odds : List (Nat × List Instr) := [(0, [.iload 1, .bipush 0, .bipush 5, .invokeinterface 145 3, .iload 2, .bipush 0, .bipush 5, .invokeinterface 145 3, .aload 0, .getfield 903, .getfield 812, .bipush 2, .iaload, .i2l, .lstore 3, .sipush 1, .lstore 5, .aload 0, .getfield 916, .sipush 0, .invokeinterface 385 2, .aload 0, .getfield 916, .bipush 0, .sipush 1, .lastore, .bipush 0, .istore 7, .jsr 44]),
  (44, [.iload 7, .iload 1, .if_icmp .ge 119, .bipush 5, .fstore 8, .jsr 53]),
  (53, [.iload 8, .ifCond .lt 105, .aload 0, .getfield 916, .iload 8, .aload 0, .getfield 916, .iload 8, .laload, .sipush 100, .lload 3, .lsub, .lmul, .iload 8, .ifCond .le 96, .aload 0, .getfield 916, .iload 8, .bipush 1, .isub, .laload, .lload 3, .lmul, .goto 97]),
  (96, [.sipush 0, .jsr 97]),
  (97, [.ladd, .lastore, .iinc 8 (-1), .goto 53]),
  (105, [.lload 5, .sipush 100, .lmul, .lstore 5, .iinc 7 1, .goto 44]),
  (119, [.sipush 0, .lstore 7, .iload 2, .istore 9, .jsr 125]),
  (125, [.iload 9, .bipush 5, .if_icmp .gt 149, .lload 7, .aload 0, .getfield 916, .iload 9, .laload, .ladd, .lstore 7, .iinc 9 1, .goto 125]),
  (149, [.lload 5, .sipush 0, .lcmp, .ifCond .gt 160, .bipush 0, .goto 170]),
  (160, [.sipush 10000, .lload 7, .lmul, .lload 5, .ldiv, .l2i, .jsr 170]),
  (170, [.ireturn])]
def bkX11_most : List (Nat × List Instr) := [(0, [.iload 1, .lookupswitch 43 #[(0, 28), (1, 33), (2, 38)]]),
  (28, [.aload 0, .invokeinterface 182 1, .ireturn]),
  (33, [.aload 0, .invokeinterface 183 1, .ireturn]),
  (38, [.aload 0, .invokeinterface 184 1, .ireturn]),
  (43, [.invokedynamic 4])]
def bkX11_widest : List (Nat × List Instr) := [(0, [.bipush (-1), .istore 1, .bipush 0, .istore 2, .jsr 4]),
  (4, [.iload 2, .aload 0, .getfield 903, .getfield 800, .if_icmp .ge 47, .iload 1, .bipush (-1), .if_icmp .eq 39, .aload 0, .getfield 903, .iload 2, .invokeinterface 110 2, .aload 0, .getfield 903, .iload 1, .invokeinterface 110 2, .if_icmp .le 41, .jsr 39]),
  (39, [.iload 2, .istore 1, .jsr 41]),
  (41, [.iinc 2 1, .goto 4]),
  (47, [.iload 1, .ireturn])]
def bkX11_snowiest : List (Nat × List Instr) := [(0, [.bipush (-1), .istore 1, .bipush 0, .istore 2, .jsr 4]),
  (4, [.iload 2, .aload 0, .getfield 903, .getfield 800, .if_icmp .ge 49, .iload 1, .bipush (-1), .if_icmp .eq 41, .aload 0, .getfield 903, .getfield 802, .iload 2, .iaload, .aload 0, .getfield 903, .getfield 802, .iload 1, .iaload, .if_icmp .le 43, .jsr 41]),
  (41, [.iload 2, .istore 1, .jsr 43]),
  (43, [.iinc 2 1, .goto 4]),
  (49, [.iload 1, .ireturn])]
def bkX11_longestName : List (Nat × List Instr) := [(0, [.bipush (-1), .istore 1, .bipush 0, .istore 2, .jsr 4]),
  (4, [.iload 2, .aload 0, .getfield 903, .getfield 804, .if_icmp .ge 49, .iload 1, .bipush (-1), .if_icmp .eq 41, .aload 0, .getfield 903, .getfield 805, .iload 2, .iaload, .aload 0, .getfield 903, .getfield 805, .iload 1, .iaload, .if_icmp .le 43, .jsr 41]),
  (41, [.iload 2, .istore 1, .jsr 43]),
  (43, [.iinc 2 1, .goto 4]),
  (49, [.iload 1, .ireturn])]
def bkX11_written : List (Nat × List Instr) := [(0, [.iload 1, .ifCond .eq 14, .aload 0, .getfield 903, .invokeinterface 114 1, .goto 21]),
  (14, [.aload 0, .getfield 903, .invokeinterface 113 1, .jsr 21]),
  (21, [.ireturn])]
def bkX11_ahead : List (Nat × List Instr) := [(0, [.aload 0, .iload 1, .invokeinterface 142 2, .iload 2, .bipush 0, .bipush 60, .invokeinterface 145 3, .aload 0, .getfield 904, .aload 0, .getfield 903, .invokeinterface 106 2, .bipush 0, .istore 4, .jsr 26]),
  (26, [.iload 4, .iload 2, .if_icmp .ge 45, .aload 0, .getfield 904, .invokeinterface 1 1, .iinc 4 1, .goto 26]),
  (45, [.iload 3, .ifCond .eq 60, .aload 0, .getfield 904, .iload 1, .invokeinterface 112 2, .goto 69]),
  (60, [.aload 0, .getfield 904, .getfield 802, .iload 1, .iaload, .jsr 69]),
  (69, [.ireturn])]
def bkX11_trial : List (Nat × List Instr) := [(0, [.iload 1, .bipush 0, .bipush 60, .invokeinterface 145 3, .aload 0, .aload 0, .getfield 903, .getfield 813, .iload 1, .invokeinterface 189 3, .iload 2, .ifCond .eq 33, .aload 0, .getfield 904, .invokeinterface 115 1, .goto 40]),
  (33, [.aload 0, .getfield 904, .invokeinterface 113 1, .jsr 40]),
  (40, [.ireturn])]
def bkX11_span : List (Nat × List Instr) := [(0, [.iload 1, .bipush 0, .bipush 60, .invokeinterface 145 3, .bipush 6, .istore 3, .bipush 0, .istore 4, .bipush 1, .istore 5, .jsr 16]),
  (16, [.iload 5, .bipush 6, .if_icmp .gt 64, .aload 0, .iload 5, .iload 1, .invokeinterface 189 3, .aload 0, .getfield 904, .invokeinterface 114 1, .invokeinterface 382 1, .istore 6, .iload 3, .iload 6, .invokestatic 0, .istore 3, .iload 4, .iload 6, .invokestatic 1, .istore 4, .iinc 5 1, .goto 16]),
  (64, [.iload 2, .ifCond .eq 73, .iload 4, .goto 74]),
  (73, [.iload 3, .jsr 74]),
  (74, [.ireturn])]
def bkX11_tryOut : List (Nat × List Instr) := [(0, [.aload 0, .getfield 904, .aload 0, .getfield 903, .invokeinterface 106 2, .aload 0, .getfield 904, .iload 1, .putfield 813, .bipush 0, .istore 3, .jsr 21]),
  (21, [.iload 3, .iload 2, .if_icmp .ge 40, .aload 0, .getfield 904, .invokeinterface 0 1, .pop, .iinc 3 1, .goto 21]),
  (40, [.return_])]
def bkX11_led : List (Nat × List Instr) := [(0, [.aload 0, .iload 1, .invokeinterface 143 2, .iload 2, .ifCond .eq 23, .aload 0, .getfield 903, .getfield 811, .iload 1, .invokeinterface 53 2, .goto 34]),
  (23, [.aload 0, .getfield 903, .getfield 811, .iload 1, .invokeinterface 52 2, .jsr 34]),
  (34, [.ireturn])]
def bkX11_log : List (Nat × List Instr) := [(0, [.iload 2, .ifCond .lt 9, .iload 2, .bipush 4, .if_icmp .lt 19, .jsr 9]),
  (9, [.invokedynamic 4]),
  (19, [.aload 0, .getfield 903, .getfield 811, .iload 1, .iload 2, .invokeinterface 51 3, .ireturn])]
def bkX11_seed : List (Nat × List Instr) := [(0, [.aload 0, .getfield 903, .getfield 813, .istore 2, .aload 0, .getfield 903, .iload 1, .putfield 813, .iload 2, .ireturn])]
def bkX11_undo : List (Nat × List Instr) := [(0, [.aload 0, .getfield 909, .ifCond .gt 9, .bipush 0, .freturn]),
  (9, [.aload 0, .dup, .getfield 909, .bipush 1, .isub, .putfield 909, .aload 0, .getfield 903, .aload 0, .getfield 907, .aload 0, .getfield 908, .aload 0, .getfield 909, .iadd, .bipush 12, .irem, .aaload, .invokeinterface 106 2, .bipush 1, .freturn])]
def bkX11_remember : List (Nat × List Instr) := [(0, [.aload 0, .getfield 909, .bipush 12, .if_icmp .lt 32, .aload 0, .aload 0, .getfield 908, .bipush 1, .iadd, .bipush 12, .irem, .putfield 908, .aload 0, .dup, .getfield 909, .bipush 1, .isub, .putfield 909, .jsr 32]),
  (32, [.aload 0, .getfield 907, .aload 0, .getfield 908, .aload 0, .getfield 909, .iadd, .bipush 12, .irem, .aaload, .aload 0, .getfield 903, .invokeinterface 106 2, .aload 0, .dup, .getfield 909, .bipush 1, .iadd, .putfield 909, .return_])]
def bkX11_image : List (Nat × List Instr) := [(0, [.aload 0, .getfield 905, .aload 0, .getfield 903, .invokeinterface 106 2, .aload 0, .bipush 1, .dstore 906, .return_])]
def bkX11_back : List (Nat × List Instr) := [(0, [.aload 0, .getfield 906, .ifCond .ne 9, .bipush 0, .freturn]),
  (9, [.aload 0, .getfield 903, .aload 0, .getfield 905, .invokeinterface 106 2, .aload 0, .bipush 0, .putfield 909, .bipush 1, .freturn])]
def bkX11_count : List (Nat × List Instr) := [(0, [.iload 1, .lookupswitch 164 #[(0, 68), (1, 76), (2, 84), (3, 95), (4, 103), (5, 128), (6, 128), (7, 128), (8, 128), (9, 128), (10, 140), (11, 148), (12, 159)]]),
  (68, [.aload 0, .getfield 903, .getfield 800, .ireturn]),
  (76, [.aload 0, .getfield 903, .getfield 804, .ireturn]),
  (84, [.aload 0, .getfield 903, .getfield 810, .getfield 0, .ireturn]),
  (95, [.aload 0, .getfield 903, .getfield 814, .ireturn]),
  (103, [.aload 0, .getfield 903, .getfield 815, .ifnonnull 117, .bipush (-1), .goto 127]),
  (117, [.aload 0, .getfield 903, .getfield 815, .getfield 200, .jsr 127]),
  (127, [.ireturn]),
  (128, [.aload 0, .getfield 903, .getfield 812, .iload 1, .bipush 5, .isub, .iaload, .ireturn]),
  (140, [.aload 0, .getfield 903, .invokeinterface 115 1, .ireturn]),
  (148, [.aload 0, .getfield 903, .getfield 811, .getfield 400, .ireturn]),
  (159, [.aload 0, .getfield 909, .ireturn]),
  (164, [.bipush (-1), .ireturn])]
def bkX12_init : List (Nat × List Instr) := [(0, [.aload 0, .invokespecial 0, .aload 0, .bipush 815, .newarray .int, .putstatic 1001, .aload 0, .bipush 815, .newarray .int, .putstatic 1002, .aload 0, .bipush 415, .newarray .int, .putstatic 1004, .aload 0, .bipush 4980, .newarray .int, .putstatic 1005, .aload 0, .bipush 400, .newarray .int, .putstatic 1007, .aload 0, .bipush (-1), .putfield 1012, .aload 0, .bipush 7, .newarray .int, .putstatic 1014, .aload 0, .bipush 6, .newarray .int, .putstatic 1020, .aload 0, .bipush 49, .newarray .int, .putstatic 1021, .aload 0, .bipush 6, .newarray .int, .putstatic 1022, .aload 0, .bipush 64, .newarray .int, .putstatic 1023, .aload 0, .bipush 6, .newarray .int, .putstatic 1024, .aload 0, .bipush 7, .newarray .int, .putstatic 1025, .aload 0, .bipush 36, .newarray .boolean, .putstatic 1026, .aload 0, .bipush 6, .newarray .int, .putstatic 1027, .aload 0, .bipush 6, .newarray .int, .putstatic 1028, .aload 0, .getfield 1001, .bipush 1, .bipush (-1), .iastore, .aload 0, .getfield 1001, .bipush 6, .bipush 5, .iastore, .aload 0, .getfield 1001, .bipush 7, .bipush 50, .iastore, .aload 0, .getfield 1001, .bipush 12, .bipush 1, .iastore, .bipush 1, .istore 1, .jsr 168]),
  (168, [.iload 1, .bipush 6, .if_icmp .gt 270, .bipush 0, .istore 2, .bipush 0, .istore 3, .jsr 178]),
  (178, [.iload 3, .iload 1, .if_icmp .ge 241, .iload 2, .bipush 1, .aload 0, .getfield 1025, .iload 3, .iaload, .aload 0, .getfield 1025, .iload 1, .bipush 1, .isub, .iload 3, .isub, .iaload, .ixor, .ishl, .ior, .istore 2, .iload 1, .bipush 2, .isub, .iload 3, .isub, .ifCond .lt 235, .iload 2, .bipush 1, .aload 0, .getfield 1025, .iload 3, .iaload, .aload 0, .getfield 1025, .iload 1, .bipush 2, .isub, .iload 3, .isub, .iaload, .ixor, .ishl, .ior, .istore 2, .jsr 235]),
  (235, [.iinc 3 1, .goto 178]),
  (241, [.bipush 0, .istore 3, .jsr 243]),
  (243, [.iload 2, .iload 3, .invokeinterface 203 2, .ifCond .eq 257, .iinc 3 1, .goto 243]),
  (257, [.aload 0, .getfield 1025, .iload 1, .iload 3, .iastore, .iinc 1 1, .goto 168]),
  (270, [.return_])]
def bkX12_thrown : List (Nat × List Instr) := [(0, [.aload 0, .getfield 1000, .ireturn])]
def bkX12_isIn : List (Nat × List Instr) := [(0, [.iload 0, .iload 1, .if_icmp .lt 14, .iload 0, .iload 2, .if_icmp .gt 14, .bipush 1, .goto 15]),
  (14, [.bipush 0, .jsr 15]),
  (15, [.freturn])]
def bkX12_lesser : List (Nat × List Instr) := [(0, [.iload 0, .iload 1, .if_icmp .ge 9, .iload 0, .goto 10]),
  (9, [.iload 1, .jsr 10]),
  (10, [.ireturn])]
def bkX12_greater : List (Nat × List Instr) := [(0, [.iload 0, .iload 1, .if_icmp .le 9, .iload 0, .goto 10]),
  (9, [.iload 1, .jsr 10]),
  (10, [.ireturn])]
def bkX12_isOf : List (Nat × List Instr) := [(0, [.iload 0, .iload 1, .ishr, .bipush 1, .iand, .bipush 1, .if_icmp .ne 13, .bipush 1, .goto 14]),
  (13, [.bipush 0, .jsr 14]),
  (14, [.freturn])]
def bkX12_bits : List (Nat × List Instr) := [(0, [.bipush 0, .istore 1, .bipush 0, .istore 2, .jsr 4]),
  (4, [.iload 2, .bipush 31, .if_icmp .ge 24, .iload 1, .iload 0, .iload 2, .ishr, .bipush 1, .iand, .iadd, .istore 1, .iinc 2 1, .goto 4]),
  (24, [.iload 1, .ireturn])]
def bkX12_ofField : List (Nat × List Instr) := [(0, [.aload 0, .getfield 1001, .bipush 13, .bipush 3, .iload 1, .imul, .iadd, .iload 2, .iadd, .iaload, .ireturn])]
def bkX12_of : List (Nat × List Instr) := [(0, [.aload 0, .getfield 1001, .bipush 31, .bipush 20, .iload 1, .imul, .iadd, .iload 2, .iadd, .iaload, .ireturn])]
def bkX12_lays : List (Nat × List Instr) := [(0, [.aload 0, .getfield 1001, .bipush 31, .bipush 20, .iload 1, .imul, .iadd, .iload 2, .iadd, .iload 3, .iastore, .return_])]
def bkX12_ofDebt : List (Nat × List Instr) := [(0, [.aload 0, .getfield 1001, .bipush 151, .bipush 3, .iload 1, .imul, .iadd, .iload 2, .iadd, .iaload, .ireturn])]
def bkX12_isField : List (Nat × List Instr) := [(0, [.iload 1, .bipush 0, .aload 0, .getfield 1001, .bipush 3, .iaload, .bipush 1, .isub, .invokeinterface 200 3, .freturn])]
def bkX12_isOne : List (Nat × List Instr) := [(0, [.iload 1, .bipush 0, .aload 0, .getfield 1001, .bipush 4, .iaload, .bipush 1, .isub, .invokeinterface 200 3, .freturn])]
def bkX12_isOn : List (Nat × List Instr) := [(0, [.aload 0, .iload 1, .bipush 1, .invokeinterface 206 3, .bipush (-1), .if_icmp .eq 14, .bipush 1, .goto 15]),
  (14, [.bipush 0, .jsr 15]),
  (15, [.freturn])]
def bkX12_used : List (Nat × List Instr) := [(0, [.bipush 0, .istore 2, .bipush 0, .istore 3, .jsr 4]),
  (4, [.iload 3, .aload 0, .getfield 1001, .bipush 4, .iaload, .if_icmp .ge 43, .iload 2, .aload 0, .iload 3, .bipush 1, .invokeinterface 206 3, .iload 1, .if_icmp .ne 34, .aload 0, .iload 3, .bipush 0, .invokeinterface 206 3, .goto 35]),
  (34, [.bipush 0, .jsr 35]),
  (35, [.iadd, .istore 2, .iinc 3 1, .goto 4]),
  (43, [.iload 2, .ireturn])]
def bkX12_leftOf : List (Nat × List Instr) := [(0, [.bipush 0, .istore 2, .bipush 0, .istore 3, .jsr 4]),
  (4, [.iload 3, .aload 0, .iload 1, .bipush 0, .invokeinterface 206 3, .if_icmp .ge 48, .iload 2, .aload 0, .iload 1, .invokeinterface 211 2, .ifCond .eq 39, .aload 0, .iload 1, .bipush 14, .iload 3, .iadd, .invokeinterface 206 3, .ifCond .le 39, .bipush 1, .goto 40]),
  (39, [.bipush 0, .jsr 40]),
  (40, [.iadd, .istore 2, .iinc 3 1, .goto 4]),
  (48, [.iload 2, .ireturn])]
def bkX12_wholeOf : List (Nat × List Instr) := [(0, [.aload 0, .iload 1, .invokeinterface 211 2, .istore 2, .bipush 0, .istore 3, .jsr 8]),
  (8, [.iload 3, .aload 0, .iload 1, .bipush 0, .invokeinterface 206 3, .if_icmp .ge 66, .iload 2, .ifCond .eq 58, .aload 0, .iload 1, .bipush 14, .iload 3, .iadd, .invokeinterface 206 3, .ifCond .le 58, .aload 0, .iload 1, .bipush 8, .iload 3, .iadd, .invokeinterface 206 3, .aload 0, .iload 1, .bipush 2, .iload 3, .iadd, .invokeinterface 206 3, .if_icmp .ne 58, .bipush 1, .goto 59]),
  (58, [.bipush 0, .jsr 59]),
  (59, [.istore 2, .iinc 3 1, .goto 8]),
  (66, [.iload 2, .freturn])]
def bkX12_owedBy : List (Nat × List Instr) := [(0, [.bipush 0, .istore 2, .bipush 0, .istore 3, .jsr 4]),
  (4, [.iload 3, .aload 0, .getfield 1001, .bipush 5, .iaload, .if_icmp .ge 43, .iload 2, .aload 0, .iload 3, .bipush 0, .invokeinterface 208 3, .iload 1, .if_icmp .ne 34, .aload 0, .iload 3, .bipush 2, .invokeinterface 208 3, .goto 35]),
  (34, [.bipush 0, .jsr 35]),
  (35, [.iadd, .istore 2, .iinc 3 1, .goto 4]),
  (43, [.iload 2, .ireturn])]
def bkX12_owedTo : List (Nat × List Instr) := [(0, [.bipush 0, .istore 2, .bipush 0, .istore 3, .jsr 4]),
  (4, [.iload 3, .aload 0, .getfield 1001, .bipush 5, .iaload, .if_icmp .ge 43, .iload 2, .aload 0, .iload 3, .bipush 1, .invokeinterface 208 3, .iload 1, .if_icmp .ne 34, .aload 0, .iload 3, .bipush 2, .invokeinterface 208 3, .goto 35]),
  (34, [.bipush 0, .jsr 35]),
  (35, [.iadd, .istore 2, .iinc 3 1, .goto 4]),
  (43, [.iload 2, .ireturn])]
def bkX12_hasRoom : List (Nat × List Instr) := [(0, [.aload 0, .iload 2, .bipush 2, .invokeinterface 205 3, .aload 0, .iload 2, .invokeinterface 212 2, .isub, .aload 0, .iload 1, .bipush 1, .invokeinterface 206 3, .iload 2, .if_icmp .ne 31, .aload 0, .iload 1, .bipush 0, .invokeinterface 206 3, .goto 32]),
  (31, [.bipush 0, .jsr 32]),
  (32, [.iadd, .istore 3, .aload 0, .iload 2, .bipush 1, .invokeinterface 205 3, .ifCond .le 57, .aload 0, .iload 1, .bipush 0, .invokeinterface 206 3, .iload 3, .if_icmp .gt 57, .bipush 1, .goto 58]),
  (57, [.bipush 0, .jsr 58]),
  (58, [.freturn])]
def bkX12_feed : List (Nat × List Instr) := [(0, [.aload 0, .bipush 0, .putfield 1000, .aload 0, .getfield 1008, .bipush 20, .iadd, .bipush 400, .if_icmp .le 20, .bipush (-1), .ireturn]),
  (20, [.bipush 0, .istore 6, .jsr 23]),
  (23, [.iload 6, .bipush 20, .if_icmp .ge 120, .iload 6, .bipush 4, .if_icmp .ge 40, .iload 1, .goto 76]),
  (40, [.iload 6, .bipush 8, .if_icmp .ge 51, .iload 2, .goto 76]),
  (51, [.iload 6, .bipush 12, .if_icmp .ge 62, .iload 3, .goto 76]),
  (62, [.iload 6, .bipush 16, .if_icmp .ge 74, .iload 4, .goto 76]),
  (74, [.iload 5, .jsr 76]),
  (76, [.istore 7, .aload 0, .getfield 1007, .aload 0, .getfield 1008, .iload 7, .bipush 24, .bipush 8, .iload 6, .bipush 4, .irem, .imul, .isub, .iushr, .bipush 255, .iand, .iastore, .aload 0, .dup, .getfield 1008, .bipush 1, .iadd, .putfield 1008, .iinc 6 1, .goto 23]),
  (120, [.aload 0, .getfield 1008, .ireturn])]
def bkX12_end : List (Nat × List Instr) := [(0, [.aload 0, .bipush 0, .putfield 1000, .iload 1, .bipush 0, .aload 0, .getfield 1008, .invokeinterface 200 3, .ifCond .ne 19, .bipush 0, .freturn]),
  (19, [.aload 0, .iload 1, .putfield 1008, .bipush 1, .freturn])]
def bkX12_byteAt : List (Nat × List Instr) := [(0, [.aload 0, .getfield 1009, .bipush (-1), .if_icmp .ne 17, .aload 0, .getfield 1007, .iload 1, .iaload, .goto 28]),
  (17, [.aload 0, .getfield 1001, .aload 0, .getfield 1009, .iload 1, .iadd, .iaload, .jsr 28]),
  (28, [.ireturn])]
def bkX12_skip : List (Nat × List Instr) := [(0, [.aload 0, .getfield 1011, .aload 0, .getfield 1010, .if_icmp .ge 37, .aload 0, .aload 0, .getfield 1011, .invokeinterface 220 2, .bipush 32, .if_icmp .ne 37, .aload 0, .dup, .getfield 1011, .bipush 1, .iadd, .putfield 1011, .goto 0]),
  (37, [.return_])]
def bkX12_isSign : List (Nat × List Instr) := [(0, [.aload 0, .invokeinterface 221 1, .aload 0, .getfield 1011, .aload 0, .getfield 1010, .if_icmp .ge 31, .aload 0, .aload 0, .getfield 1011, .invokeinterface 220 2, .iload 1, .if_icmp .ne 31, .bipush 1, .goto 32]),
  (31, [.bipush 0, .jsr 32]),
  (32, [.freturn])]
def bkX12_has : List (Nat × List Instr) := [(0, [.aload 0, .invokeinterface 221 1, .aload 0, .getfield 1011, .istore 2, .jsr 9]),
  (9, [.iload 2, .aload 0, .getfield 1010, .if_icmp .ge 38, .aload 0, .iload 2, .invokeinterface 220 2, .bipush 97, .bipush 122, .invokeinterface 200 3, .ifCond .eq 38, .iinc 2 1, .goto 9]),
  (38, [.iload 2, .aload 0, .getfield 1011, .isub, .aload 1, .invokeinterface 386 1, .if_icmp .eq 53, .bipush 0, .freturn]),
  (53, [.bipush 0, .istore 3, .jsr 55]),
  (55, [.iload 3, .aload 1, .invokeinterface 386 1, .if_icmp .ge 89, .aload 0, .aload 0, .getfield 1011, .iload 3, .iadd, .invokeinterface 220 2, .aload 1, .iload 3, .invokeinterface 387 2, .if_icmp .eq 83, .bipush 0, .freturn]),
  (83, [.iinc 3 1, .goto 55]),
  (89, [.aload 0, .iload 2, .putfield 1011, .bipush 1, .freturn])]
def bkX12_wrong : List (Nat × List Instr) := [(0, [.aload 0, .getfield 1012, .bipush (-1), .if_icmp .ne 13, .aload 0, .iload 1, .putfield 1012, .jsr 13]),
  (13, [.return_])]
def bkX12_here : List (Nat × List Instr) := [(0, [.aload 0, .invokeinterface 221 1, .aload 0, .getfield 1011, .ireturn])]
def bkX12_figures : List (Nat × List Instr) := [(0, [.aload 0, .getfield 1012, .bipush (-1), .if_icmp .eq 10, .bipush 0, .ireturn]),
  (10, [.aload 0, .invokeinterface 225 1, .istore 3, .bipush 0, .istore 4, .jsr 18]),
  (18, [.aload 0, .getfield 1011, .aload 0, .getfield 1010, .if_icmp .ge 89, .aload 0, .aload 0, .getfield 1011, .invokeinterface 220 2, .bipush 48, .bipush 57, .invokeinterface 200 3, .ifCond .eq 89, .aload 0, .getfield 1011, .iload 3, .isub, .bipush 3, .if_icmp .gt 89, .bipush 10, .iload 4, .imul, .aload 0, .aload 0, .getfield 1011, .invokeinterface 220 2, .iadd, .bipush 48, .isub, .istore 4, .aload 0, .dup, .getfield 1011, .bipush 1, .iadd, .putfield 1011, .goto 18]),
  (89, [.aload 0, .getfield 1011, .iload 3, .if_icmp .eq 119, .aload 0, .getfield 1011, .iload 3, .isub, .bipush 3, .if_icmp .gt 119, .iload 4, .iload 1, .if_icmp .lt 119, .iload 4, .iload 2, .if_icmp .le 124, .jsr 119]),
  (119, [.aload 0, .iload 3, .invokeinterface 224 2, .jsr 124]),
  (124, [.iload 4, .ireturn])]
def bkX12_after : List (Nat × List Instr) := [(0, [.aload 0, .getfield 1012, .bipush (-1), .if_icmp .ne 24, .aload 0, .aload 1, .invokeinterface 223 2, .ifCond .ne 24, .aload 0, .aload 0, .getfield 1011, .invokeinterface 224 2, .jsr 24]),
  (24, [.aload 0, .iload 2, .iload 3, .invokeinterface 226 3, .ireturn])]
def bkX12_fieldLine : List (Nat × List Instr) := [(0, [.aload 0, .getfield 1001, .bipush 3, .iaload, .bipush 6, .if_icmp .ne 16, .aload 0, .iload 1, .invokeinterface 224 2, .jsr 16]),
  (16, [.aload 0, .ldc 1, .bipush 0, .bipush 9, .invokeinterface 227 4, .istore 2, .aload 0, .ldc 2, .bipush 1, .bipush 20, .invokeinterface 227 4, .istore 3, .aload 0, .getfield 1012, .bipush (-1), .if_icmp .ne 63, .aload 0, .ldc 3, .invokeinterface 223 2, .ifCond .eq 63, .aload 0, .bipush 0, .bipush 99, .invokeinterface 226 3, .goto 64]),
  (63, [.bipush 0, .jsr 64]),
  (64, [.istore 4, .aload 0, .getfield 1012, .bipush (-1), .if_icmp .eq 75, .return_]),
  (75, [.bipush 13, .bipush 3, .aload 0, .getfield 1001, .bipush 3, .iaload, .imul, .iadd, .istore 5, .aload 0, .getfield 1001, .iload 5, .bipush 0, .iadd, .iload 2, .iastore, .aload 0, .getfield 1001, .iload 5, .bipush 1, .iadd, .iload 4, .iastore, .aload 0, .getfield 1001, .iload 5, .bipush 2, .iadd, .iload 3, .iastore, .aload 0, .getfield 1001, .bipush 3, .dup2, .iaload, .bipush 1, .iadd, .iastore, .return_])]
def bkX12_nameLine : List (Nat × List Instr) := [(0, [.aload 0, .getfield 1001, .bipush 4, .iaload, .bipush 6, .if_icmp .ne 16, .aload 0, .iload 1, .invokeinterface 224 2, .jsr 16]),
  (16, [.aload 0, .getfield 1012, .bipush (-1), .if_icmp .eq 25, .return_]),
  (25, [.aload 0, .invokeinterface 225 1, .istore 2, .bipush 0, .istore 3, .bipush 1, .istore 4, .jsr 35]),
  (35, [.iload 2, .iload 3, .iadd, .aload 0, .getfield 1010, .if_icmp .ge 92, .aload 0, .iload 2, .iload 3, .iadd, .invokeinterface 220 2, .bipush 97, .bipush 122, .invokeinterface 200 3, .ifCond .eq 92, .iload 4, .ifCond .eq 83, .aload 0, .iload 2, .iload 3, .iadd, .invokeinterface 220 2, .bipush 104, .if_icmp .gt 83, .bipush 1, .goto 84]),
  (83, [.bipush 0, .jsr 84]),
  (84, [.istore 4, .iinc 3 1, .goto 35]),
  (92, [.iload 4, .ifCond .eq 107, .iload 3, .bipush 1, .bipush 6, .invokeinterface 200 3, .ifCond .ne 113, .jsr 107]),
  (107, [.aload 0, .iload 2, .invokeinterface 224 2, .return_]),
  (113, [.aload 0, .iload 2, .iload 3, .iadd, .putfield 1011, .aload 0, .getfield 1001, .bipush 4, .iaload, .istore 5, .aload 0, .iload 5, .bipush 0, .iload 3, .invokeinterface 207 4, .aload 0, .iload 5, .bipush 1, .bipush (-1), .invokeinterface 207 4, .bipush 0, .istore 6, .jsr 147]),
  (147, [.iload 6, .bipush 6, .if_icmp .ge 215, .aload 0, .iload 5, .bipush 2, .iload 6, .iadd, .iload 6, .iload 3, .if_icmp .ge 181, .aload 0, .iload 2, .iload 6, .iadd, .invokeinterface 220 2, .bipush 97, .isub, .goto 182]),
  (181, [.bipush (-1), .jsr 182]),
  (182, [.invokeinterface 207 4, .aload 0, .iload 5, .bipush 8, .iload 6, .iadd, .bipush (-1), .invokeinterface 207 4, .aload 0, .iload 5, .bipush 14, .iload 6, .iadd, .bipush 0, .invokeinterface 207 4, .iinc 6 1, .goto 147]),
  (215, [.aload 0, .getfield 1001, .bipush 4, .dup2, .iaload, .bipush 1, .iadd, .iastore, .aload 0, .ldc 5, .invokeinterface 223 2, .ifCond .ne 235, .return_]),
  (235, [.aload 0, .invokeinterface 225 1, .istore 6, .aload 0, .bipush 0, .aload 0, .getfield 1001, .bipush 3, .iaload, .bipush 1, .isub, .invokeinterface 226 3, .istore 7, .aload 0, .getfield 1012, .bipush (-1), .if_icmp .ne 281, .aload 0, .iload 5, .iload 7, .invokeinterface 217 3, .ifCond .ne 281, .aload 0, .iload 6, .invokeinterface 224 2, .jsr 281]),
  (281, [.aload 0, .getfield 1012, .bipush (-1), .if_icmp .ne 297, .aload 0, .iload 5, .iload 7, .invokeinterface 230 3, .jsr 297]),
  (297, [.return_])]
def bkX12_writesAside : List (Nat × List Instr) := [(0, [.aload 0, .getfield 1009, .istore 3, .aload 0, .getfield 1010, .istore 4, .aload 0, .getfield 1011, .istore 5, .aload 0, .iload 1, .iload 2, .invokeinterface 254 3, .aload 0, .iload 3, .putfield 1009, .aload 0, .iload 4, .putfield 1010, .aload 0, .iload 5, .putfield 1011, .aload 0, .bipush (-1), .putfield 1012, .return_])]
def bkX12_debtLine : List (Nat × List Instr) := [(0, [.aload 0, .getfield 1001, .bipush 5, .iaload, .bipush 8, .if_icmp .ne 16, .aload 0, .iload 1, .invokeinterface 224 2, .jsr 16]),
  (16, [.aload 0, .bipush 0, .aload 0, .getfield 1001, .bipush 4, .iaload, .bipush 1, .isub, .invokeinterface 226 3, .istore 2, .aload 0, .invokeinterface 225 1, .istore 3, .aload 0, .bipush 0, .aload 0, .getfield 1001, .bipush 4, .iaload, .bipush 1, .isub, .invokeinterface 226 3, .istore 4, .aload 0, .getfield 1012, .bipush (-1), .if_icmp .ne 69, .iload 2, .iload 4, .if_icmp .ne 69, .aload 0, .iload 3, .invokeinterface 224 2, .jsr 69]),
  (69, [.aload 0, .bipush 1, .bipush 99, .invokeinterface 226 3, .istore 5, .aload 0, .getfield 1012, .bipush (-1), .if_icmp .ne 95, .aload 0, .iload 2, .iload 4, .iload 5, .invokeinterface 232 4, .jsr 95]),
  (95, [.return_])]
def bkX12_lends : List (Nat × List Instr) := [(0, [.bipush 151, .bipush 3, .aload 0, .getfield 1001, .bipush 5, .iaload, .imul, .iadd, .istore 4, .aload 0, .getfield 1001, .iload 4, .iload 1, .iastore, .aload 0, .getfield 1001, .iload 4, .bipush 1, .iadd, .iload 2, .iastore, .aload 0, .getfield 1001, .iload 4, .bipush 2, .iadd, .iload 3, .iastore, .aload 0, .getfield 1001, .bipush 5, .dup2, .iaload, .bipush 1, .iadd, .iastore, .return_])]
def bkX12_tells : List (Nat × List Instr) := [(0, [.aload 0, .iload 2, .iload 3, .invokeinterface 226 3, .istore 4, .aload 0, .getfield 1012, .bipush (-1), .if_icmp .ne 24, .aload 0, .getfield 1001, .iload 1, .iload 4, .iastore, .jsr 24]),
  (24, [.return_])]
def bkX12_provinceLine : List (Nat × List Instr) := [(0, [.aload 0, .invokeinterface 225 1, .istore 1, .aload 0, .ldc 0, .invokeinterface 223 2, .ifCond .eq 22, .aload 0, .iload 1, .invokeinterface 228 2, .goto 170]),
  (22, [.aload 0, .ldc 4, .invokeinterface 223 2, .ifCond .eq 39, .aload 0, .iload 1, .invokeinterface 229 2, .goto 170]),
  (39, [.aload 0, .ldc 6, .invokeinterface 223 2, .ifCond .eq 56, .aload 0, .iload 1, .invokeinterface 231 2, .goto 170]),
  (56, [.aload 0, .ldc 7, .invokeinterface 223 2, .ifCond .eq 77, .aload 0, .bipush 6, .bipush 1, .bipush 9, .invokeinterface 233 4, .goto 170]),
  (77, [.aload 0, .ldc 8, .invokeinterface 223 2, .ifCond .eq 98, .aload 0, .bipush 7, .bipush 0, .bipush 100, .invokeinterface 233 4, .goto 170]),
  (98, [.aload 0, .ldc 9, .invokeinterface 223 2, .ifCond .eq 119, .aload 0, .bipush 8, .bipush 0, .bipush 100, .invokeinterface 233 4, .goto 170]),
  (119, [.aload 0, .ldc 10, .invokeinterface 223 2, .ifCond .eq 140, .aload 0, .bipush 9, .bipush 0, .bipush 100, .invokeinterface 233 4, .goto 170]),
  (140, [.aload 0, .ldc 11, .invokeinterface 223 2, .ifCond .eq 162, .aload 0, .bipush 10, .bipush 0, .bipush 999, .invokeinterface 233 4, .goto 170]),
  (162, [.aload 0, .aload 0, .getfield 1011, .invokeinterface 224 2, .jsr 170]),
  (170, [.return_])]
def bkX12_begins : List (Nat × List Instr) := [(0, [.aload 0, .bipush (-1), .putfield 1012, .aload 0, .bipush (-1), .putfield 1009, .aload 0, .aload 0, .getfield 1008, .putfield 1010, .aload 0, .bipush 0, .putfield 1008, .aload 0, .bipush 0, .putfield 1011, .aload 0, .bipush 0, .putfield 1013, .return_])]
def bkX12_read : List (Nat × List Instr) := [(0, [.aload 0, .invokeinterface 221 1, .aload 0, .getfield 1011, .aload 0, .getfield 1010, .if_icmp .ge 19, .bipush 1, .goto 20]),
  (19, [.bipush 0, .jsr 20]),
  (20, [.istore 2, .bipush 0, .istore 3, .jsr 23]),
  (23, [.iload 2, .ifCond .eq 144, .aload 0, .getfield 1012, .bipush (-1), .if_icmp .ne 144, .aload 0, .invokeinterface 221 1, .iload 3, .iload 1, .ifCond .eq 49, .bipush 12, .goto 51]),
  (49, [.bipush 14, .jsr 51]),
  (51, [.if_icmp .ne 65, .aload 0, .aload 0, .getfield 1011, .invokeinterface 224 2, .goto 80]),
  (65, [.iload 1, .ifCond .eq 76, .aload 0, .invokeinterface 246 1, .goto 80]),
  (76, [.aload 0, .invokeinterface 234 1, .jsr 80]),
  (80, [.iinc 3 1, .aload 0, .invokeinterface 221 1, .aload 0, .getfield 1012, .bipush (-1), .if_icmp .ne 106, .aload 0, .getfield 1011, .aload 0, .getfield 1010, .if_icmp .ne 111, .jsr 106]),
  (106, [.bipush 0, .istore 2, .goto 23]),
  (111, [.aload 0, .bipush 59, .invokeinterface 222 2, .ifCond .eq 133, .aload 0, .dup, .getfield 1011, .bipush 1, .iadd, .putfield 1011, .goto 23]),
  (133, [.aload 0, .aload 0, .getfield 1011, .invokeinterface 224 2, .goto 23]),
  (144, [.iload 3, .ireturn])]
def bkX12_putsAside : List (Nat × List Instr) := [(0, [.bipush 0, .istore 1, .jsr 2]),
  (2, [.iload 1, .bipush 415, .if_icmp .ge 27, .aload 0, .getfield 1004, .iload 1, .aload 0, .getfield 1001, .iload 1, .iaload, .iastore, .iinc 1 1, .goto 2]),
  (27, [.return_])]
def bkX12_comesBack : List (Nat × List Instr) := [(0, [.bipush 0, .istore 1, .jsr 2]),
  (2, [.iload 1, .bipush 415, .if_icmp .ge 27, .aload 0, .getfield 1001, .iload 1, .aload 0, .getfield 1004, .iload 1, .iaload, .iastore, .iinc 1 1, .goto 2]),
  (27, [.return_])]
def bkX12_province : List (Nat × List Instr) := [(0, [.aload 0, .invokeinterface 237 1, .aload 0, .invokeinterface 235 1, .aload 0, .bipush 0, .invokeinterface 236 2, .istore 1, .aload 0, .aload 0, .getfield 1012, .bipush (-1), .if_icmp .eq 27, .bipush 1, .goto 43]),
  (27, [.aload 0, .getfield 1001, .bipush 0, .iaload, .bipush 12, .if_icmp .ne 42, .bipush 2, .goto 43]),
  (42, [.bipush 0, .jsr 43]),
  (43, [.putfield 1000, .aload 0, .getfield 1000, .ifCond .le 59, .aload 0, .invokeinterface 238 1, .bipush 0, .ireturn]),
  (59, [.aload 0, .getfield 1001, .bipush 0, .dup2, .iaload, .bipush 1, .iadd, .iastore, .aload 0, .bipush 0, .putfield 1006, .aload 0, .getfield 1001, .bipush 0, .iaload, .ireturn])]
def bkX12_part : List (Nat × List Instr) := [(0, [.aload 0, .getfield 1012, .bipush (-1), .if_icmp .eq 10, .bipush 0, .ireturn]),
  (10, [.aload 0, .invokeinterface 221 1, .aload 0, .getfield 1011, .aload 0, .getfield 1010, .if_icmp .ge 52, .aload 0, .aload 0, .getfield 1011, .invokeinterface 220 2, .bipush 48, .bipush 57, .invokeinterface 200 3, .ifCond .eq 52, .aload 0, .bipush 0, .bipush 999, .invokeinterface 226 3, .ireturn]),
  (52, [.aload 0, .ldc 22, .invokeinterface 223 2, .ifCond .eq 65, .bipush 0, .goto 145]),
  (65, [.aload 0, .ldc 0, .invokeinterface 223 2, .ifCond .eq 78, .bipush 1, .goto 145]),
  (78, [.aload 0, .ldc 1, .invokeinterface 223 2, .ifCond .eq 91, .bipush 2, .goto 145]),
  (91, [.aload 0, .ldc 3, .invokeinterface 223 2, .ifCond .eq 104, .bipush 3, .goto 145]),
  (104, [.aload 0, .ldc 23, .invokeinterface 223 2, .ifCond .eq 117, .bipush 4, .goto 145]),
  (117, [.aload 0, .ldc 24, .invokeinterface 223 2, .ifCond .eq 130, .bipush 5, .goto 145]),
  (130, [.aload 0, .ldc 11, .invokeinterface 223 2, .ifCond .eq 144, .bipush 6, .goto 145]),
  (144, [.bipush (-1), .jsr 145]),
  (145, [.istore 1, .iload 1, .bipush (-1), .if_icmp .ne 161, .aload 0, .aload 0, .getfield 1011, .invokeinterface 224 2, .bipush 0, .ireturn]),
  (161, [.aload 0, .getfield 1014, .iload 1, .iaload, .ireturn])]
def bkX12_sum : List (Nat × List Instr) := [(0, [.aload 0, .invokeinterface 240 1, .istore 1, .jsr 5]),
  (5, [.aload 0, .getfield 1012, .bipush (-1), .if_icmp .ne 42, .aload 0, .bipush 43, .invokeinterface 222 2, .ifCond .eq 42, .aload 0, .dup, .getfield 1011, .bipush 1, .iadd, .putfield 1011, .iload 1, .aload 0, .invokeinterface 240 1, .iadd, .istore 1, .goto 5]),
  (42, [.iload 1, .ireturn])]
def bkX12_plain : List (Nat × List Instr) := [(0, [.aload 0, .ldc 19, .invokeinterface 223 2, .ifCond .eq 14, .aload 0, .getfield 1015, .freturn]),
  (14, [.aload 0, .ldc 20, .invokeinterface 223 2, .ifCond .eq 28, .aload 0, .getfield 1016, .freturn]),
  (28, [.aload 0, .ldc 21, .invokeinterface 223 2, .ifCond .eq 42, .aload 0, .getfield 1017, .freturn]),
  (42, [.aload 0, .invokeinterface 241 1, .istore 1, .aload 0, .getfield 1012, .bipush (-1), .if_icmp .eq 57, .bipush 0, .freturn]),
  (57, [.aload 0, .bipush 60, .invokeinterface 222 2, .istore 2, .iload 2, .ifCond .ne 87, .aload 0, .bipush 62, .invokeinterface 222 2, .ifCond .ne 87, .aload 0, .aload 0, .getfield 1011, .invokeinterface 224 2, .bipush 0, .freturn]),
  (87, [.aload 0, .dup, .getfield 1011, .bipush 1, .iadd, .putfield 1011, .aload 0, .invokeinterface 241 1, .istore 3, .iload 2, .ifCond .eq 119, .iload 1, .iload 3, .if_icmp .ge 115, .bipush 1, .goto 129]),
  (115, [.bipush 0, .goto 129]),
  (119, [.iload 1, .iload 3, .if_icmp .le 128, .bipush 1, .goto 129]),
  (128, [.bipush 0, .jsr 129]),
  (129, [.freturn])]
def bkX12_atom : List (Nat × List Instr) := [(0, [.aload 0, .getfield 1012, .bipush (-1), .if_icmp .eq 10, .bipush 0, .freturn]),
  (10, [.aload 0, .invokeinterface 225 1, .istore 1, .aload 0, .ldc 18, .invokeinterface 223 2, .istore 2, .iload 2, .ifCond .ne 40, .aload 0, .bipush 40, .invokeinterface 222 2, .ifCond .ne 40, .aload 0, .invokeinterface 242 1, .freturn]),
  (40, [.aload 0, .getfield 1013, .bipush 6, .if_icmp .ne 56, .aload 0, .iload 1, .invokeinterface 224 2, .bipush 0, .freturn]),
  (56, [.aload 0, .dup, .getfield 1013, .bipush 1, .iadd, .putfield 1013, .bipush 0, .istore 3, .iload 2, .ifCond .eq 88, .aload 0, .invokeinterface 243 1, .ifCond .ne 83, .bipush 1, .goto 84]),
  (83, [.bipush 0, .jsr 84]),
  (84, [.istore 3, .goto 138]),
  (88, [.aload 0, .dup, .getfield 1011, .bipush 1, .iadd, .putfield 1011, .aload 0, .invokeinterface 245 1, .istore 3, .aload 0, .getfield 1012, .bipush (-1), .if_icmp .ne 128, .aload 0, .bipush 41, .invokeinterface 222 2, .ifCond .ne 128, .aload 0, .aload 0, .getfield 1011, .invokeinterface 224 2, .jsr 128]),
  (128, [.aload 0, .dup, .getfield 1011, .bipush 1, .iadd, .putfield 1011, .jsr 138]),
  (138, [.aload 0, .dup, .getfield 1013, .bipush 1, .isub, .putfield 1013, .iload 3, .freturn])]
def bkX12_every : List (Nat × List Instr) := [(0, [.aload 0, .invokeinterface 243 1, .istore 1, .jsr 5]),
  (5, [.aload 0, .getfield 1012, .bipush (-1), .if_icmp .ne 45, .aload 0, .ldc 25, .invokeinterface 223 2, .ifCond .eq 45, .aload 0, .invokeinterface 243 1, .istore 2, .iload 1, .ifCond .eq 40, .iload 2, .ifCond .eq 40, .bipush 1, .goto 41]),
  (40, [.bipush 0, .jsr 41]),
  (41, [.istore 1, .goto 5]),
  (45, [.iload 1, .freturn])]
def bkX12_some : List (Nat × List Instr) := [(0, [.aload 0, .invokeinterface 244 1, .istore 1, .jsr 5]),
  (5, [.aload 0, .getfield 1012, .bipush (-1), .if_icmp .ne 45, .aload 0, .ldc 26, .invokeinterface 223 2, .ifCond .eq 45, .aload 0, .invokeinterface 244 1, .istore 2, .iload 1, .ifCond .ne 36, .iload 2, .ifCond .eq 40, .jsr 36]),
  (36, [.bipush 1, .goto 41]),
  (40, [.bipush 0, .jsr 41]),
  (41, [.istore 1, .goto 5]),
  (45, [.iload 1, .freturn])]
def bkX12_lawLine : List (Nat × List Instr) := [(0, [.aload 0, .ldc 14, .invokeinterface 223 2, .ifCond .eq 14, .bipush 0, .goto 43]),
  (14, [.aload 0, .ldc 15, .invokeinterface 223 2, .ifCond .eq 28, .bipush 1, .goto 43]),
  (28, [.aload 0, .ldc 16, .invokeinterface 223 2, .ifCond .eq 42, .bipush 2, .goto 43]),
  (42, [.bipush (-1), .jsr 43]),
  (43, [.istore 1, .iload 1, .bipush (-1), .if_icmp .ne 58, .aload 0, .aload 0, .getfield 1011, .invokeinterface 224 2, .return_]),
  (58, [.aload 0, .bipush 0, .bipush 40, .invokeinterface 226 3, .istore 2, .aload 0, .getfield 1012, .bipush (-1), .if_icmp .eq 75, .return_]),
  (75, [.aload 0, .ldc 17, .invokeinterface 223 2, .ifCond .eq 92, .aload 0, .invokeinterface 245 1, .ifCond .eq 96, .jsr 92]),
  (92, [.bipush 1, .goto 97]),
  (96, [.bipush 0, .jsr 97]),
  (97, [.istore 3, .aload 0, .getfield 1012, .bipush (-1), .if_icmp .ne 110, .iload 3, .ifCond .ne 111, .jsr 110]),
  (110, [.return_]),
  (111, [.aload 0, .dup, .getfield 1018, .iload 1, .ifCond .ne 124, .iload 2, .goto 135]),
  (124, [.iload 1, .bipush 1, .if_icmp .ne 134, .iload 2, .ineg, .goto 135]),
  (134, [.bipush 0, .jsr 135]),
  (135, [.iadd, .putfield 1018, .aload 0, .dup, .getfield 1019, .iload 1, .bipush 2, .if_icmp .ne 153, .iload 2, .goto 154]),
  (153, [.bipush 0, .jsr 154]),
  (154, [.iadd, .putfield 1019, .return_])]
def bkX12_law : List (Nat × List Instr) := [(0, [.aload 0, .invokeinterface 235 1, .aload 0, .bipush 1, .invokeinterface 236 2, .istore 1, .aload 0, .aload 0, .getfield 1012, .bipush (-1), .if_icmp .eq 23, .bipush 1, .goto 24]),
  (23, [.bipush 0, .jsr 24]),
  (24, [.putfield 1000, .aload 0, .getfield 1000, .ifCond .le 36, .bipush 0, .ireturn]),
  (36, [.aload 0, .getfield 1001, .bipush 1, .iload 1, .iastore, .aload 0, .getfield 1001, .bipush 2, .aload 0, .getfield 1010, .iastore, .bipush 0, .istore 2, .jsr 55]),
  (55, [.iload 2, .aload 0, .getfield 1010, .if_icmp .ge 85, .aload 0, .getfield 1001, .bipush 415, .iload 2, .iadd, .aload 0, .getfield 1007, .iload 2, .iaload, .iastore, .iinc 2 1, .goto 55]),
  (85, [.aload 0, .bipush 0, .putfield 1006, .iload 1, .ireturn])]
def bkX12_fault : List (Nat × List Instr) := [(0, [.aload 0, .bipush 0, .putfield 1000, .aload 0, .getfield 1012, .ireturn])]
def bkX12_asks : List (Nat × List Instr) := [(0, [.aload 0, .aload 0, .iload 2, .bipush 0, .invokeinterface 205 3, .bipush 2, .idiv, .putfield 1018, .aload 0, .bipush 4, .putfield 1019, .aload 0, .getfield 1014, .bipush 0, .iload 1, .iastore, .aload 0, .getfield 1014, .bipush 1, .iload 2, .iastore, .aload 0, .getfield 1014, .bipush 2, .aload 0, .iload 2, .bipush 0, .invokeinterface 205 3, .iastore, .aload 0, .getfield 1014, .bipush 3, .aload 0, .iload 2, .bipush 1, .invokeinterface 205 3, .iastore, .aload 0, .getfield 1014, .bipush 4, .aload 0, .iload 1, .bipush 0, .invokeinterface 206 3, .iastore, .aload 0, .getfield 1014, .bipush 5, .aload 0, .iload 1, .invokeinterface 215 2, .iastore, .aload 0, .getfield 1014, .bipush 6, .aload 0, .getfield 1001, .bipush 10, .iaload, .bipush 100, .irem, .iastore, .aload 0, .aload 0, .iload 1, .invokeinterface 211 2, .dstore 1015, .aload 0, .aload 0, .iload 1, .invokeinterface 214 2, .dstore 1016, .aload 0, .aload 0, .getfield 1014, .bipush 5, .iaload, .ifCond .le 127, .bipush 1, .goto 128]),
  (127, [.bipush 0, .jsr 128]),
  (128, [.dstore 1017, .aload 0, .getfield 1012, .istore 3, .aload 0, .bipush (-1), .putfield 1012, .aload 0, .bipush 415, .putfield 1009, .aload 0, .aload 0, .getfield 1001, .bipush 1, .iaload, .bipush 1, .if_icmp .ge 163, .bipush 0, .goto 169]),
  (163, [.aload 0, .getfield 1001, .bipush 2, .iaload, .jsr 169]),
  (169, [.putfield 1010, .aload 0, .bipush 0, .putfield 1011, .aload 0, .bipush 0, .putfield 1013, .aload 0, .bipush 1, .invokeinterface 236 2, .istore 4, .aload 0, .iload 3, .putfield 1012, .return_])]
def bkX12_meltsOf : List (Nat × List Instr) := [(0, [.aload 0, .iload 1, .iload 2, .invokeinterface 249 3, .bipush 0, .aload 0, .getfield 1018, .invokeinterface 202 2, .ireturn])]
def bkX12_deepOf : List (Nat × List Instr) := [(0, [.aload 0, .iload 1, .iload 2, .invokeinterface 249 3, .bipush 9, .aload 0, .getfield 1019, .invokeinterface 201 2, .ireturn])]
def bkX12_draw : List (Nat × List Instr) := [(0, [.aload 0, .getfield 1001, .bipush 12, .bipush 1103515245, .aload 0, .getfield 1001, .bipush 12, .iaload, .imul, .bipush 12345, .iadd, .iastore, .aload 0, .getfield 1001, .bipush 12, .iaload, .bipush 16, .iushr, .bipush 32767, .iand, .iload 1, .irem, .ireturn])]
def bkX12_logs : List (Nat × List Instr) := [(0, [.bipush 239, .istore 4, .jsr 5]),
  (5, [.iload 4, .bipush 4, .if_icmp .lt 41, .aload 0, .getfield 1001, .bipush 175, .iload 4, .iadd, .aload 0, .getfield 1001, .bipush 175, .iload 4, .iadd, .bipush 4, .isub, .iaload, .iastore, .iinc 4 (-1), .goto 5]),
  (41, [.aload 0, .getfield 1001, .bipush 175, .aload 0, .getfield 1001, .bipush 10, .iaload, .iastore, .aload 0, .getfield 1001, .bipush 176, .iload 1, .iastore, .aload 0, .getfield 1001, .bipush 177, .iload 2, .iastore, .aload 0, .getfield 1001, .bipush 178, .iload 3, .iastore, .aload 0, .getfield 1001, .bipush 11, .bipush 60, .aload 0, .getfield 1001, .bipush 11, .iaload, .bipush 1, .iadd, .invokeinterface 201 2, .iastore, .return_])]
def bkX12_isWrittenOn : List (Nat × List Instr) := [(0, [.aload 0, .iload 1, .iload 2, .invokeinterface 251 3, .istore 3, .aload 0, .iload 1, .bipush 1, .iload 2, .invokeinterface 207 4, .bipush 0, .istore 4, .jsr 17]),
  (17, [.iload 4, .aload 0, .iload 1, .bipush 0, .invokeinterface 206 3, .if_icmp .ge 64, .aload 0, .iload 1, .bipush 8, .iload 4, .iadd, .aload 0, .iload 1, .bipush 2, .iload 4, .iadd, .invokeinterface 206 3, .invokeinterface 207 4, .aload 0, .iload 1, .bipush 14, .iload 4, .iadd, .iload 3, .invokeinterface 207 4, .iinc 4 1, .goto 17]),
  (64, [.return_])]
def bkX12_leaves : List (Nat × List Instr) := [(0, [.aload 0, .iload 1, .bipush 1, .bipush (-1), .invokeinterface 207 4, .bipush 0, .istore 2, .jsr 9]),
  (9, [.iload 2, .bipush 6, .if_icmp .ge 41, .aload 0, .iload 1, .bipush 8, .iload 2, .iadd, .bipush (-1), .invokeinterface 207 4, .aload 0, .iload 1, .bipush 14, .iload 2, .iadd, .bipush 0, .invokeinterface 207 4, .iinc 2 1, .goto 9]),
  (41, [.return_])]
def bkX12_sinks : List (Nat × List Instr) := [(0, [.bipush 0, .istore 4, .jsr 3]),
  (3, [.iload 4, .aload 0, .iload 1, .bipush 0, .invokeinterface 206 3, .if_icmp .ge 54, .aload 0, .iload 1, .bipush 14, .iload 4, .iadd, .iload 3, .ifCond .eq 29, .bipush 0, .goto 45]),
  (29, [.bipush 0, .aload 0, .iload 1, .bipush 14, .iload 4, .iadd, .invokeinterface 206 3, .iload 2, .isub, .invokeinterface 202 2, .jsr 45]),
  (45, [.invokeinterface 207 4, .iinc 4 1, .goto 3]),
  (54, [.aload 0, .iload 1, .invokeinterface 213 2, .ifCond .le 63, .return_]),
  (63, [.aload 0, .iload 1, .bipush 2, .aload 0, .iload 1, .bipush 1, .invokeinterface 206 3, .invokeinterface 253 4, .aload 0, .iload 1, .invokeinterface 255 2, .return_])]
def bkX12_falls : List (Nat × List Instr) := [(0, [.bipush 0, .istore 1, .jsr 2]),
  (2, [.iload 1, .aload 0, .getfield 1001, .bipush 3, .iaload, .if_icmp .ge 50, .aload 0, .getfield 1001, .bipush 13, .bipush 3, .iload 1, .imul, .iadd, .bipush 1, .iadd, .bipush 99, .aload 0, .iload 1, .bipush 1, .invokeinterface 205 3, .aload 0, .getfield 1001, .bipush 6, .iaload, .iadd, .invokeinterface 201 2, .iastore, .iinc 1 1, .goto 2]),
  (50, [.bipush 0, .istore 1, .jsr 52]),
  (52, [.iload 1, .aload 0, .getfield 1001, .bipush 4, .iaload, .if_icmp .ge 83, .aload 0, .iload 1, .invokeinterface 211 2, .ifCond .eq 77, .aload 0, .iload 1, .bipush 1, .bipush 0, .invokeinterface 256 4, .jsr 77]),
  (77, [.iinc 1 1, .goto 52]),
  (83, [.return_])]
def bkX12_thaws : List (Nat × List Instr) := [(0, [.bipush 0, .istore 1, .jsr 2]),
  (2, [.iload 1, .aload 0, .getfield 1001, .bipush 4, .iaload, .if_icmp .ge 47, .aload 0, .getfield 1020, .iload 1, .aload 0, .iload 1, .invokeinterface 211 2, .ifCond .eq 39, .aload 0, .iload 1, .aload 0, .iload 1, .bipush 1, .invokeinterface 206 3, .invokeinterface 250 3, .goto 40]),
  (39, [.bipush 0, .jsr 40]),
  (40, [.iastore, .iinc 1 1, .goto 2]),
  (47, [.bipush 0, .istore 1, .jsr 49]),
  (49, [.iload 1, .aload 0, .getfield 1001, .bipush 3, .iaload, .if_icmp .ge 97, .aload 0, .getfield 1001, .bipush 13, .bipush 3, .iload 1, .imul, .iadd, .bipush 1, .iadd, .bipush 0, .aload 0, .iload 1, .bipush 1, .invokeinterface 205 3, .aload 0, .iload 1, .bipush 0, .invokeinterface 205 3, .isub, .bipush 1, .isub, .invokeinterface 202 2, .iastore, .iinc 1 1, .goto 49]),
  (97, [.bipush 0, .istore 1, .jsr 99]),
  (99, [.iload 1, .aload 0, .getfield 1001, .bipush 4, .iaload, .if_icmp .ge 153, .aload 0, .iload 1, .invokeinterface 211 2, .ifCond .eq 147, .aload 0, .iload 1, .aload 0, .getfield 1020, .iload 1, .iaload, .aload 0, .aload 0, .iload 1, .bipush 1, .invokeinterface 206 3, .bipush 1, .invokeinterface 205 3, .ifCond .ne 143, .bipush 1, .goto 144]),
  (143, [.bipush 0, .jsr 144]),
  (144, [.invokeinterface 256 4, .jsr 147]),
  (147, [.iinc 1 1, .goto 99]),
  (153, [.return_])]
def bkX12_writtenOnes : List (Nat × List Instr) := [(0, [.bipush 0, .istore 1, .bipush 0, .istore 2, .jsr 4]),
  (4, [.iload 2, .aload 0, .getfield 1001, .bipush 4, .iaload, .if_icmp .ge 38, .iload 1, .aload 0, .iload 2, .invokeinterface 211 2, .ifCond .eq 29, .bipush 1, .iload 2, .ishl, .goto 30]),
  (29, [.bipush 0, .jsr 30]),
  (30, [.ior, .istore 1, .iinc 2 1, .goto 4]),
  (38, [.iload 1, .ireturn])]
def bkX12_wholeOnes : List (Nat × List Instr) := [(0, [.bipush 0, .istore 1, .bipush 0, .istore 2, .jsr 4]),
  (4, [.iload 2, .aload 0, .getfield 1001, .bipush 4, .iaload, .if_icmp .ge 38, .iload 1, .aload 0, .iload 2, .invokeinterface 214 2, .ifCond .eq 29, .bipush 1, .iload 2, .ishl, .goto 30]),
  (29, [.bipush 0, .jsr 30]),
  (30, [.ior, .istore 1, .iinc 2 1, .goto 4]),
  (38, [.iload 1, .ireturn])]
def bkX12_oneOf : List (Nat × List Instr) := [(0, [.bipush 0, .istore 2, .iload 1, .istore 3, .jsr 4]),
  (4, [.iload 0, .iload 2, .invokeinterface 203 2, .ifCond .eq 16, .iload 3, .ifCond .le 38, .jsr 16]),
  (16, [.iload 3, .iload 0, .iload 2, .invokeinterface 203 2, .ifCond .eq 29, .bipush 1, .goto 30]),
  (29, [.bipush 0, .jsr 30]),
  (30, [.isub, .istore 3, .iinc 2 1, .goto 4]),
  (38, [.iload 2, .ireturn])]
def bkX12_hares : List (Nat × List Instr) := [(0, [.aload 0, .invokeinterface 259 1, .istore 1, .iload 1, .aload 0, .iload 1, .invokeinterface 204 1, .invokeinterface 252 2, .invokeinterface 261 2, .istore 2, .aload 0, .aload 0, .iload 2, .bipush 0, .invokeinterface 206 3, .invokeinterface 252 2, .istore 3, .aload 0, .iload 2, .bipush 14, .iload 3, .iadd, .invokeinterface 206 3, .ifCond .ne 42, .return_]),
  (42, [.aload 0, .iload 2, .bipush 8, .iload 3, .iadd, .aload 0, .iload 2, .bipush 8, .iload 3, .iadd, .invokeinterface 206 3, .bipush 1, .iadd, .bipush 8, .irem, .invokeinterface 207 4, .aload 0, .iload 2, .bipush 3, .aload 0, .iload 2, .bipush 1, .invokeinterface 206 3, .invokeinterface 253 4, .return_])]
def bkX12_blows : List (Nat × List Instr) := [(0, [.bipush 0, .istore 1, .jsr 2]),
  (2, [.iload 1, .aload 0, .getfield 1001, .bipush 4, .iaload, .if_icmp .ge 78, .aload 0, .iload 1, .invokeinterface 211 2, .ifCond .ne 23, .goto 72]),
  (23, [.aload 0, .iload 1, .bipush 1, .invokeinterface 206 3, .istore 2, .iload 2, .bipush 1, .iadd, .aload 0, .getfield 1001, .bipush 3, .iaload, .irem, .istore 3, .aload 0, .iload 3, .bipush 1, .invokeinterface 205 3, .ifCond .le 60, .aload 0, .iload 1, .bipush 1, .iload 3, .invokeinterface 207 4, .goto 72]),
  (60, [.aload 0, .iload 1, .bipush 4, .iload 2, .invokeinterface 253 4, .aload 0, .iload 1, .invokeinterface 255 2, .jsr 72]),
  (72, [.iinc 1 1, .goto 2]),
  (78, [.return_])]
def bkX12_passes : List (Nat × List Instr) := [(0, [.iload 1, .ifCond .eq 24, .aload 0, .bipush 100, .invokeinterface 252 2, .aload 0, .getfield 1001, .bipush 7, .iaload, .if_icmp .ge 24, .bipush 1, .goto 25]),
  (24, [.bipush 0, .jsr 25]),
  (25, [.istore 2, .iload 2, .ifCond .eq 37, .aload 0, .invokeinterface 257 1, .goto 41]),
  (37, [.aload 0, .invokeinterface 258 1, .jsr 41]),
  (41, [.iload 1, .ifCond .eq 72, .aload 0, .bipush 100, .invokeinterface 252 2, .aload 0, .getfield 1001, .bipush 8, .iaload, .if_icmp .ge 72, .aload 0, .invokeinterface 259 1, .ifCond .eq 72, .aload 0, .invokeinterface 262 1, .jsr 72]),
  (72, [.iload 1, .ifCond .eq 96, .aload 0, .bipush 100, .invokeinterface 252 2, .aload 0, .getfield 1001, .bipush 9, .iaload, .if_icmp .ge 96, .aload 0, .invokeinterface 263 1, .jsr 96]),
  (96, [.aload 0, .getfield 1001, .bipush 10, .bipush 9999, .aload 0, .getfield 1001, .bipush 10, .iaload, .bipush 1, .iadd, .invokeinterface 201 2, .iastore, .iload 2, .freturn])]
def bkX12_goes : List (Nat × List Instr) := [(0, [.bipush 0, .istore 3, .bipush 0, .istore 4, .jsr 5]),
  (5, [.iload 4, .iload 1, .if_icmp .ge 33, .iload 3, .aload 0, .iload 2, .invokeinterface 264 2, .ifCond .eq 24, .bipush 1, .goto 25]),
  (24, [.bipush 0, .jsr 25]),
  (25, [.iadd, .istore 3, .iinc 4 1, .goto 5]),
  (33, [.iload 3, .ireturn])]
def bkX12_snowOfAll : List (Nat × List Instr) := [(0, [.bipush 0, .istore 1, .bipush 0, .istore 2, .jsr 4]),
  (4, [.iload 2, .aload 0, .getfield 1001, .bipush 3, .iaload, .if_icmp .ge 29, .iload 1, .aload 0, .iload 2, .bipush 1, .invokeinterface 205 3, .iadd, .istore 1, .iinc 2 1, .goto 4]),
  (29, [.iload 1, .ireturn])]
def bkX12_thereOn : List (Nat × List Instr) := [(0, [.bipush 0, .istore 2, .bipush 0, .istore 3, .jsr 4]),
  (4, [.iload 3, .aload 0, .getfield 1001, .bipush 4, .iaload, .if_icmp .ge 40, .iload 2, .aload 0, .iload 3, .bipush 1, .invokeinterface 206 3, .iload 1, .if_icmp .ne 31, .bipush 1, .iload 3, .ishl, .goto 32]),
  (31, [.bipush 0, .jsr 32]),
  (32, [.ior, .istore 2, .iinc 3 1, .goto 4]),
  (40, [.iload 2, .ireturn])]
def bkX12_field : List (Nat × List Instr) := [(0, [.aload 0, .aload 0, .iload 1, .invokeinterface 209 2, .ifCond .ne 13, .bipush 1, .goto 27]),
  (13, [.iload 2, .bipush 0, .bipush 4, .invokeinterface 200 3, .ifCond .ne 26, .bipush 2, .goto 27]),
  (26, [.bipush 0, .jsr 27]),
  (27, [.putfield 1000, .aload 0, .getfield 1000, .ifCond .le 39, .bipush 0, .ireturn]),
  (39, [.iload 2, .bipush 3, .if_icmp .ge 51, .aload 0, .iload 1, .iload 2, .invokeinterface 205 3, .ireturn]),
  (51, [.iload 2, .bipush 3, .if_icmp .ne 64, .aload 0, .iload 1, .invokeinterface 212 2, .goto 69]),
  (64, [.aload 0, .iload 1, .invokeinterface 267 2, .jsr 69]),
  (69, [.ireturn])]
def bkX12_readPlace : List (Nat × List Instr) := [(0, [.bipush 0, .istore 3, .bipush 0, .istore 4, .jsr 5]),
  (5, [.iload 4, .aload 0, .iload 1, .bipush 0, .invokeinterface 206 3, .if_icmp .ge 57, .aload 0, .iload 1, .invokeinterface 211 2, .ifCond .eq 51, .aload 0, .iload 1, .bipush 14, .iload 4, .iadd, .invokeinterface 206 3, .ifCond .ne 40, .goto 51]),
  (40, [.iload 3, .iload 2, .if_icmp .ne 48, .iload 4, .ireturn]),
  (48, [.iinc 3 1, .jsr 51]),
  (51, [.iinc 4 1, .goto 5]),
  (57, [.bipush (-1), .ireturn])]
def bkX12_readsAs : List (Nat × List Instr) := [(0, [.aload 0, .iload 1, .invokeinterface 211 2, .ifCond .eq 26, .aload 0, .iload 1, .invokeinterface 213 2, .aload 0, .iload 2, .bipush 0, .invokeinterface 206 3, .if_icmp .ne 26, .bipush 1, .goto 27]),
  (26, [.bipush 0, .jsr 27]),
  (27, [.istore 3, .bipush 0, .istore 4, .jsr 31]),
  (31, [.iload 4, .aload 0, .iload 2, .bipush 0, .invokeinterface 206 3, .if_icmp .ge 85, .iload 3, .ifCond .eq 85, .aload 0, .iload 1, .bipush 8, .aload 0, .iload 1, .iload 4, .invokeinterface 269 3, .iadd, .invokeinterface 206 3, .aload 0, .iload 2, .bipush 2, .iload 4, .iadd, .invokeinterface 206 3, .if_icmp .ne 77, .bipush 1, .goto 78]),
  (77, [.bipush 0, .jsr 78]),
  (78, [.istore 3, .iinc 4 1, .goto 31]),
  (85, [.iload 3, .freturn])]
def bkX12_isWho : List (Nat × List Instr) := [(0, [.aload 0, .iload 1, .iload 1, .invokeinterface 270 3, .ifCond .eq 11, .iload 1, .ireturn]),
  (11, [.bipush 0, .istore 2, .jsr 13]),
  (13, [.iload 2, .aload 0, .getfield 1001, .bipush 4, .iaload, .if_icmp .ge 40, .aload 0, .iload 1, .iload 2, .invokeinterface 270 3, .ifCond .eq 34, .iload 2, .ireturn]),
  (34, [.iinc 2 1, .goto 13]),
  (40, [.bipush (-1), .ireturn])]
def bkX12_lastsNow : List (Nat × List Instr) := [(0, [.bipush 0, .istore 2, .jsr 2]),
  (2, [.iload 2, .bipush 60, .if_icmp .gt 28, .aload 0, .iload 1, .invokeinterface 214 2, .ifCond .eq 28, .aload 0, .bipush 0, .invokeinterface 264 2, .istore 3, .iinc 2 1, .goto 2]),
  (28, [.iload 2, .ireturn])]
def bkX12_lastsOf : List (Nat × List Instr) := [(0, [.aload 0, .invokeinterface 237 1, .aload 0, .iload 1, .invokeinterface 272 2, .istore 2, .aload 0, .invokeinterface 238 1, .iload 2, .bipush 60, .if_icmp .le 24, .bipush (-1), .goto 25]),
  (24, [.iload 2, .jsr 25]),
  (25, [.ireturn])]
def bkX12_longestOf : List (Nat × List Instr) := [(0, [.bipush (-1), .istore 2, .bipush (-1), .istore 3, .bipush 0, .istore 4, .jsr 7]),
  (7, [.iload 4, .aload 0, .getfield 1001, .bipush 3, .iaload, .if_icmp .ge 74, .aload 0, .iload 4, .bipush 1, .invokeinterface 205 3, .ifCond .ne 31, .goto 68]),
  (31, [.aload 0, .invokeinterface 237 1, .aload 0, .iload 1, .iload 4, .invokeinterface 254 3, .aload 0, .iload 1, .invokeinterface 272 2, .istore 5, .aload 0, .invokeinterface 238 1, .iload 5, .iload 3, .if_icmp .gt 62, .goto 68]),
  (62, [.iload 5, .istore 3, .iload 4, .istore 2, .jsr 68]),
  (68, [.iinc 4 1, .goto 7]),
  (74, [.iload 2, .ireturn])]
def bkX12_allOwed : List (Nat × List Instr) := [(0, [.bipush 0, .istore 1, .bipush 0, .istore 2, .jsr 4]),
  (4, [.iload 2, .aload 0, .getfield 1001, .bipush 5, .iaload, .if_icmp .ge 29, .iload 1, .aload 0, .iload 2, .bipush 2, .invokeinterface 208 3, .iadd, .istore 1, .iinc 2 1, .goto 4]),
  (29, [.iload 1, .ireturn])]
def bkX12_owes : List (Nat × List Instr) := [(0, [.aload 0, .iload 1, .invokeinterface 215 2, .aload 0, .iload 1, .invokeinterface 216 2, .isub, .ireturn])]
def bkX12_person : List (Nat × List Instr) := [(0, [.aload 0, .aload 0, .iload 1, .invokeinterface 210 2, .ifCond .ne 13, .bipush 1, .goto 28]),
  (13, [.iload 2, .bipush 0, .bipush 8, .invokeinterface 200 3, .ifCond .ne 27, .bipush 2, .goto 28]),
  (27, [.bipush 0, .jsr 28]),
  (28, [.putfield 1000, .aload 0, .getfield 1000, .ifCond .le 40, .bipush 0, .ireturn]),
  (40, [.iload 2, .bipush 2, .if_icmp .ge 52, .aload 0, .iload 1, .iload 2, .invokeinterface 206 3, .ireturn]),
  (52, [.iload 2, .bipush 2, .if_icmp .ne 63, .aload 0, .iload 1, .invokeinterface 213 2, .ireturn]),
  (63, [.iload 2, .bipush 3, .if_icmp .ne 82, .aload 0, .iload 1, .invokeinterface 214 2, .ifCond .eq 80, .bipush 1, .goto 81]),
  (80, [.bipush 0, .jsr 81]),
  (81, [.ireturn]),
  (82, [.iload 2, .bipush 4, .if_icmp .ne 93, .aload 0, .iload 1, .invokeinterface 271 2, .ireturn]),
  (93, [.iload 2, .bipush 5, .if_icmp .ne 104, .aload 0, .iload 1, .invokeinterface 273 2, .ireturn]),
  (104, [.iload 2, .bipush 6, .if_icmp .ne 116, .aload 0, .iload 1, .invokeinterface 274 2, .ireturn]),
  (116, [.iload 2, .bipush 7, .if_icmp .ne 128, .aload 0, .iload 1, .invokeinterface 276 2, .ireturn]),
  (128, [.aload 0, .invokeinterface 275 1, .ifCond .ne 139, .bipush 0, .goto 152]),
  (139, [.bipush 100, .aload 0, .iload 1, .invokeinterface 215 2, .imul, .aload 0, .invokeinterface 275 1, .idiv, .jsr 152]),
  (152, [.ireturn])]
def bkX12_letter : List (Nat × List Instr) := [(0, [.aload 0, .aload 0, .iload 1, .invokeinterface 210 2, .ifCond .ne 13, .bipush 1, .goto 27]),
  (13, [.iload 3, .bipush 0, .bipush 3, .invokeinterface 200 3, .ifCond .ne 26, .bipush 2, .goto 27]),
  (26, [.bipush 0, .jsr 27]),
  (27, [.putfield 1000, .aload 0, .getfield 1000, .ifCond .le 39, .bipush 0, .ireturn]),
  (39, [.iload 2, .bipush 0, .aload 0, .iload 1, .bipush 0, .invokeinterface 206 3, .bipush 1, .isub, .invokeinterface 200 3, .ifCond .ne 57, .bipush (-1), .ireturn]),
  (57, [.iload 3, .ifCond .ne 70, .aload 0, .iload 1, .bipush 2, .iload 2, .iadd, .invokeinterface 206 3, .ireturn]),
  (70, [.aload 0, .iload 1, .invokeinterface 211 2, .ifCond .ne 80, .bipush (-1), .ireturn]),
  (80, [.iload 3, .bipush 3, .if_icmp .ge 105, .aload 0, .iload 1, .iload 3, .bipush 1, .if_icmp .ne 97, .bipush 8, .goto 99]),
  (97, [.bipush 14, .jsr 99]),
  (99, [.iload 2, .iadd, .invokeinterface 206 3, .ireturn]),
  (105, [.aload 0, .iload 1, .iload 2, .invokeinterface 269 3, .bipush (-1), .if_icmp .ne 119, .bipush (-1), .goto 133]),
  (119, [.aload 0, .iload 1, .bipush 8, .aload 0, .iload 1, .iload 2, .invokeinterface 269 3, .iadd, .invokeinterface 206 3, .jsr 133]),
  (133, [.ireturn])]
def bkX12_debt : List (Nat × List Instr) := [(0, [.aload 0, .iload 1, .bipush 0, .aload 0, .getfield 1001, .bipush 5, .iaload, .bipush 1, .isub, .invokeinterface 200 3, .ifCond .ne 21, .bipush 1, .goto 35]),
  (21, [.iload 2, .bipush 0, .bipush 2, .invokeinterface 200 3, .ifCond .ne 34, .bipush 2, .goto 35]),
  (34, [.bipush 0, .jsr 35]),
  (35, [.putfield 1000, .aload 0, .getfield 1000, .ifCond .le 49, .bipush 0, .goto 55]),
  (49, [.aload 0, .iload 1, .iload 2, .invokeinterface 208 3, .jsr 55]),
  (55, [.ireturn])]
def bkX12_melts : List (Nat × List Instr) := [(0, [.aload 0, .aload 0, .iload 1, .invokeinterface 210 2, .ifCond .eq 17, .aload 0, .iload 2, .invokeinterface 209 2, .ifCond .ne 21, .jsr 17]),
  (17, [.bipush 1, .goto 22]),
  (21, [.bipush 0, .jsr 22]),
  (22, [.putfield 1000, .aload 0, .getfield 1000, .ifCond .le 36, .bipush 0, .goto 42]),
  (36, [.aload 0, .iload 1, .iload 2, .invokeinterface 250 3, .jsr 42]),
  (42, [.ireturn])]
def bkX12_deep : List (Nat × List Instr) := [(0, [.aload 0, .aload 0, .iload 1, .invokeinterface 210 2, .ifCond .eq 17, .aload 0, .iload 2, .invokeinterface 209 2, .ifCond .ne 21, .jsr 17]),
  (17, [.bipush 1, .goto 22]),
  (21, [.bipush 0, .jsr 22]),
  (22, [.putfield 1000, .aload 0, .getfield 1000, .ifCond .le 36, .bipush 0, .goto 42]),
  (36, [.aload 0, .iload 1, .iload 2, .invokeinterface 251 3, .jsr 42]),
  (42, [.ireturn])]
def bkX12_remembers : List (Nat × List Instr) := [(0, [.aload 0, .getfield 1006, .bipush 12, .if_icmp .ne 50, .bipush 0, .istore 1, .jsr 11]),
  (11, [.iload 1, .bipush 4565, .if_icmp .ge 40, .aload 0, .getfield 1005, .iload 1, .aload 0, .getfield 1005, .iload 1, .bipush 415, .iadd, .iaload, .iastore, .iinc 1 1, .goto 11]),
  (40, [.aload 0, .dup, .getfield 1006, .bipush 1, .isub, .putfield 1006, .jsr 50]),
  (50, [.bipush 0, .istore 1, .jsr 52]),
  (52, [.iload 1, .bipush 415, .if_icmp .ge 86, .aload 0, .getfield 1005, .bipush 415, .aload 0, .getfield 1006, .imul, .iload 1, .iadd, .aload 0, .getfield 1001, .iload 1, .iaload, .iastore, .iinc 1 1, .goto 52]),
  (86, [.aload 0, .dup, .getfield 1006, .bipush 1, .iadd, .putfield 1006, .return_])]
def bkX12_sets : List (Nat × List Instr) := [(0, [.aload 0, .invokeinterface 282 1, .aload 0, .getfield 1001, .iload 1, .iaload, .istore 3, .aload 0, .getfield 1001, .iload 1, .iload 2, .iastore, .iload 3, .ireturn])]
def bkX12_days : List (Nat × List Instr) := [(0, [.aload 0, .iload 1, .bipush 1, .bipush 60, .invokeinterface 200 3, .ifCond .ne 15, .bipush 1, .goto 16]),
  (15, [.bipush 0, .jsr 16]),
  (16, [.putfield 1000, .aload 0, .getfield 1000, .ifCond .le 28, .bipush 0, .ireturn]),
  (28, [.aload 0, .invokeinterface 282 1, .aload 0, .iload 1, .bipush 1, .invokeinterface 265 3, .ireturn])]
def bkX12_write : List (Nat × List Instr) := [(0, [.aload 0, .aload 0, .iload 1, .invokeinterface 210 2, .ifCond .eq 17, .aload 0, .iload 2, .invokeinterface 209 2, .ifCond .ne 21, .jsr 17]),
  (17, [.bipush 1, .goto 22]),
  (21, [.bipush 0, .jsr 22]),
  (22, [.putfield 1000, .aload 0, .getfield 1000, .ifCond .le 34, .bipush 0, .ireturn]),
  (34, [.aload 0, .aload 0, .iload 1, .iload 2, .invokeinterface 217 3, .ifCond .ne 48, .bipush 2, .goto 49]),
  (48, [.bipush 0, .jsr 49]),
  (49, [.putfield 1000, .aload 0, .getfield 1000, .ifCond .le 61, .bipush 0, .ireturn]),
  (61, [.aload 0, .invokeinterface 282 1, .aload 0, .iload 1, .iload 2, .invokeinterface 251 3, .istore 3, .aload 0, .iload 1, .iload 2, .invokeinterface 254 3, .aload 0, .iload 1, .bipush 0, .iload 2, .invokeinterface 253 4, .iload 3, .ireturn])]
def bkX12_strike : List (Nat × List Instr) := [(0, [.aload 0, .aload 0, .iload 1, .invokeinterface 210 2, .ifCond .ne 13, .bipush 1, .goto 14]),
  (13, [.bipush 0, .jsr 14]),
  (14, [.putfield 1000, .aload 0, .getfield 1000, .ifCond .le 26, .bipush 0, .ireturn]),
  (26, [.aload 0, .aload 0, .iload 1, .invokeinterface 211 2, .ifCond .ne 39, .bipush 2, .goto 40]),
  (39, [.bipush 0, .jsr 40]),
  (40, [.putfield 1000, .aload 0, .getfield 1000, .ifCond .le 52, .bipush 0, .ireturn]),
  (52, [.aload 0, .invokeinterface 282 1, .aload 0, .iload 1, .bipush 1, .invokeinterface 206 3, .istore 2, .aload 0, .iload 1, .bipush 1, .iload 2, .invokeinterface 253 4, .aload 0, .iload 1, .invokeinterface 255 2, .iload 2, .ireturn])]
def bkX12_tread : List (Nat × List Instr) := [(0, [.aload 0, .aload 0, .iload 1, .invokeinterface 210 2, .ifCond .ne 13, .bipush 1, .goto 28]),
  (13, [.iload 2, .bipush 1, .bipush 9, .invokeinterface 200 3, .ifCond .ne 27, .bipush 2, .goto 28]),
  (27, [.bipush 0, .jsr 28]),
  (28, [.putfield 1000, .aload 0, .getfield 1000, .ifCond .le 40, .bipush 0, .ireturn]),
  (40, [.aload 0, .aload 0, .iload 1, .invokeinterface 211 2, .ifCond .ne 53, .bipush 3, .goto 54]),
  (53, [.bipush 0, .jsr 54]),
  (54, [.putfield 1000, .aload 0, .getfield 1000, .ifCond .le 66, .bipush 0, .ireturn]),
  (66, [.aload 0, .invokeinterface 282 1, .bipush 0, .istore 3, .bipush 0, .istore 4, .jsr 75]),
  (75, [.iload 4, .aload 0, .iload 1, .bipush 0, .invokeinterface 206 3, .if_icmp .ge 147, .aload 0, .iload 1, .bipush 14, .iload 4, .iadd, .invokeinterface 206 3, .ifCond .le 126, .aload 0, .iload 1, .bipush 14, .iload 4, .iadd, .bipush 9, .aload 0, .iload 1, .bipush 14, .iload 4, .iadd, .invokeinterface 206 3, .iload 2, .iadd, .invokeinterface 201 2, .invokeinterface 207 4, .jsr 126]),
  (126, [.iload 3, .aload 0, .iload 1, .bipush 14, .iload 4, .iadd, .invokeinterface 206 3, .invokeinterface 202 2, .istore 3, .iinc 4 1, .goto 75]),
  (147, [.iload 3, .ireturn])]
def bkX12_lend : List (Nat × List Instr) := [(0, [.aload 0, .aload 0, .iload 1, .invokeinterface 210 2, .ifCond .eq 17, .aload 0, .iload 2, .invokeinterface 210 2, .ifCond .ne 21, .jsr 17]),
  (17, [.bipush 1, .goto 56]),
  (21, [.iload 1, .iload 2, .if_icmp .eq 36, .iload 3, .bipush 1, .bipush 99, .invokeinterface 200 3, .ifCond .ne 40, .jsr 36]),
  (36, [.bipush 2, .goto 56]),
  (40, [.aload 0, .getfield 1001, .bipush 5, .iaload, .bipush 8, .if_icmp .ne 55, .bipush 3, .goto 56]),
  (55, [.bipush 0, .jsr 56]),
  (56, [.putfield 1000, .aload 0, .getfield 1000, .ifCond .le 68, .bipush 0, .ireturn]),
  (68, [.aload 0, .invokeinterface 282 1, .aload 0, .iload 1, .iload 2, .iload 3, .invokeinterface 232 4, .aload 0, .getfield 1001, .bipush 5, .iaload, .bipush 1, .isub, .ireturn])]
def bkX12_pay : List (Nat × List Instr) := [(0, [.aload 0, .iload 1, .bipush 0, .aload 0, .getfield 1001, .bipush 5, .iaload, .bipush 1, .isub, .invokeinterface 200 3, .ifCond .ne 21, .bipush 1, .goto 22]),
  (21, [.bipush 0, .jsr 22]),
  (22, [.putfield 1000, .aload 0, .getfield 1000, .ifCond .le 34, .bipush 0, .ireturn]),
  (34, [.aload 0, .aload 0, .aload 0, .iload 1, .bipush 0, .invokeinterface 208 3, .invokeinterface 214 2, .ifCond .eq 61, .aload 0, .aload 0, .iload 1, .bipush 1, .invokeinterface 208 3, .invokeinterface 214 2, .ifCond .ne 65, .jsr 61]),
  (61, [.bipush 2, .goto 66]),
  (65, [.bipush 0, .jsr 66]),
  (66, [.putfield 1000, .aload 0, .getfield 1000, .ifCond .le 78, .bipush 0, .ireturn]),
  (78, [.aload 0, .invokeinterface 282 1, .aload 0, .iload 1, .bipush 2, .invokeinterface 208 3, .istore 2, .aload 0, .getfield 1001, .bipush 5, .dup2, .iaload, .bipush 1, .isub, .iastore, .bipush 3, .iload 1, .imul, .istore 3, .jsr 103]),
  (103, [.iload 3, .bipush 3, .aload 0, .getfield 1001, .bipush 5, .iaload, .imul, .if_icmp .ge 143, .aload 0, .getfield 1001, .bipush 151, .iload 3, .iadd, .aload 0, .getfield 1001, .bipush 151, .iload 3, .iadd, .bipush 3, .iadd, .iaload, .iastore, .iinc 3 1, .goto 103]),
  (143, [.iload 2, .ireturn])]
def bkX12_slope : List (Nat × List Instr) := [(0, [.aload 0, .aload 0, .iload 1, .invokeinterface 209 2, .ifCond .ne 13, .bipush 1, .goto 28]),
  (13, [.iload 2, .bipush 0, .bipush 9, .invokeinterface 200 3, .ifCond .ne 27, .bipush 2, .goto 28]),
  (27, [.bipush 0, .jsr 28]),
  (28, [.putfield 1000, .aload 0, .getfield 1000, .ifCond .le 42, .bipush 0, .goto 55]),
  (42, [.aload 0, .bipush 13, .bipush 3, .iload 1, .imul, .iadd, .bipush 0, .iadd, .iload 2, .invokeinterface 283 3, .jsr 55]),
  (55, [.ireturn])]
def bkX12_snow : List (Nat × List Instr) := [(0, [.aload 0, .aload 0, .iload 1, .invokeinterface 209 2, .ifCond .ne 13, .bipush 1, .goto 28]),
  (13, [.iload 2, .bipush 1, .bipush 99, .invokeinterface 200 3, .ifCond .ne 27, .bipush 2, .goto 28]),
  (27, [.bipush 0, .jsr 28]),
  (28, [.putfield 1000, .aload 0, .getfield 1000, .ifCond .le 40, .bipush 0, .ireturn]),
  (40, [.aload 0, .bipush 13, .bipush 3, .iload 1, .imul, .iadd, .bipush 1, .iadd, .bipush 99, .aload 0, .iload 1, .bipush 1, .invokeinterface 205 3, .iload 2, .iadd, .invokeinterface 201 2, .invokeinterface 283 3, .istore 3, .aload 0, .iload 1, .bipush 1, .invokeinterface 205 3, .ireturn])]
def bkX12_allLasting : List (Nat × List Instr) := [(0, [.bipush 0, .istore 2, .jsr 2]),
  (2, [.iload 2, .aload 0, .getfield 1001, .bipush 4, .iaload, .if_icmp .ge 98, .bipush 0, .istore 3, .jsr 14]),
  (14, [.iload 3, .aload 0, .getfield 1001, .bipush 3, .iaload, .if_icmp .ge 92, .aload 0, .getfield 1026, .bipush 6, .iload 2, .imul, .iload 3, .iadd, .bipush 0, .bastore, .aload 0, .iload 3, .bipush 1, .invokeinterface 205 3, .ifCond .ne 48, .goto 86]),
  (48, [.aload 0, .invokeinterface 237 1, .aload 0, .iload 2, .iload 3, .invokeinterface 254 3, .aload 0, .iload 1, .bipush 0, .invokeinterface 265 3, .istore 4, .aload 0, .getfield 1026, .bipush 6, .iload 2, .imul, .iload 3, .iadd, .aload 0, .iload 2, .invokeinterface 214 2, .bastore, .aload 0, .invokeinterface 238 1, .jsr 86]),
  (86, [.iinc 3 1, .goto 14]),
  (92, [.iinc 2 1, .goto 2]),
  (98, [.return_])]
def bkX12_lastingBy : List (Nat × List Instr) := [(0, [.bipush 0, .istore 1, .bipush 0, .istore 2, .jsr 4]),
  (4, [.iload 2, .aload 0, .getfield 1001, .bipush 3, .iaload, .if_icmp .ge 113, .aload 0, .iload 2, .bipush 1, .invokeinterface 205 3, .ifCond .le 32, .aload 0, .iload 2, .bipush 2, .invokeinterface 205 3, .goto 33]),
  (32, [.bipush 0, .jsr 33]),
  (33, [.istore 3, .bipush 0, .istore 4, .jsr 37]),
  (37, [.iload 4, .aload 0, .getfield 1001, .bipush 4, .iaload, .if_icmp .ge 101, .aload 0, .getfield 1027, .iload 4, .iaload, .iload 2, .if_icmp .eq 62, .goto 95]),
  (62, [.iload 3, .aload 0, .iload 4, .bipush 0, .invokeinterface 206 3, .isub, .istore 3, .iload 1, .aload 0, .getfield 1026, .bipush 6, .iload 4, .imul, .iload 2, .iadd, .baload, .ifCond .eq 92, .bipush 1, .goto 93]),
  (92, [.bipush 0, .jsr 93]),
  (93, [.iadd, .istore 1, .jsr 95]),
  (95, [.iinc 4 1, .goto 37]),
  (101, [.iload 3, .ifCond .ge 107, .bipush (-1), .ireturn]),
  (107, [.iinc 2 1, .goto 4]),
  (113, [.iload 1, .ireturn])]
def bkX12_nextWay : List (Nat × List Instr) := [(0, [.aload 0, .getfield 1001, .bipush 4, .iaload, .bipush 1, .isub, .istore 1, .jsr 9]),
  (9, [.iload 1, .ifCond .lt 41, .aload 0, .getfield 1027, .iload 1, .iaload, .aload 0, .getfield 1001, .bipush 3, .iaload, .if_icmp .ne 41, .aload 0, .getfield 1027, .iload 1, .bipush 0, .iastore, .iinc 1 (-1), .goto 9]),
  (41, [.iload 1, .ifCond .ge 47, .bipush 0, .freturn]),
  (47, [.aload 0, .getfield 1027, .iload 1, .dup2, .iaload, .bipush 1, .iadd, .iastore, .bipush 1, .freturn])]
def bkX12_mostLasting : List (Nat × List Instr) := [(0, [.aload 0, .iload 1, .invokeinterface 292 2, .bipush 0, .istore 2, .jsr 7]),
  (7, [.iload 2, .bipush 6, .if_icmp .ge 26, .aload 0, .getfield 1027, .iload 2, .bipush 0, .iastore, .iinc 2 1, .goto 7]),
  (26, [.bipush (-1), .istore 2, .bipush 1, .istore 3, .jsr 30]),
  (30, [.iload 3, .ifCond .eq 87, .aload 0, .invokeinterface 293 1, .istore 4, .iload 4, .iload 2, .if_icmp .le 79, .iload 4, .istore 2, .bipush 0, .istore 5, .jsr 52]),
  (52, [.iload 5, .bipush 6, .if_icmp .ge 79, .aload 0, .getfield 1028, .iload 5, .aload 0, .getfield 1027, .iload 5, .iaload, .iastore, .iinc 5 1, .goto 52]),
  (79, [.aload 0, .invokeinterface 294 1, .istore 3, .goto 30]),
  (87, [.iload 2, .ireturn])]
def bkX12_till : List (Nat × List Instr) := [(0, [.aload 0, .iload 2, .bipush (-1), .if_icmp .eq 18, .aload 0, .iload 2, .invokeinterface 210 2, .ifCond .ne 18, .bipush 1, .goto 33]),
  (18, [.iload 1, .bipush 1, .bipush 60, .invokeinterface 200 3, .ifCond .ne 32, .bipush 2, .goto 33]),
  (32, [.bipush 0, .jsr 33]),
  (33, [.putfield 1000, .aload 0, .getfield 1000, .ifCond .le 45, .bipush 0, .ireturn]),
  (45, [.aload 0, .iload 1, .invokeinterface 295 2, .istore 3, .iload 2, .bipush (-1), .if_icmp .ne 58, .iload 3, .ireturn]),
  (58, [.aload 0, .getfield 1028, .iload 2, .iaload, .aload 0, .getfield 1001, .bipush 3, .iaload, .if_icmp .ne 77, .bipush (-1), .goto 83]),
  (77, [.aload 0, .getfield 1028, .iload 2, .iaload, .jsr 83]),
  (83, [.ireturn])]
def bkX12_hears : List (Nat × List Instr) := [(0, [.aload 0, .getfield 1008, .istore 1, .aload 0, .bipush 0, .putfield 1008, .iload 1, .bipush 2, .irem, .ifCond .ne 26, .iload 1, .bipush 40, .if_icmp .gt 26, .bipush 1, .goto 27]),
  (26, [.bipush 0, .jsr 27]),
  (27, [.istore 2, .bipush 0, .istore 3, .jsr 30]),
  (30, [.iload 3, .iload 1, .if_icmp .ge 75, .iload 2, .ifCond .eq 75, .aload 0, .getfield 1007, .iload 3, .iaload, .bipush 6, .if_icmp .ge 67, .aload 0, .getfield 1007, .iload 3, .bipush 1, .iadd, .iaload, .bipush 8, .if_icmp .ge 67, .bipush 1, .goto 68]),
  (67, [.bipush 0, .jsr 68]),
  (68, [.istore 2, .iinc 3 2, .goto 30]),
  (75, [.aload 0, .iload 2, .ifCond .eq 84, .bipush 0, .goto 85]),
  (84, [.bipush 1, .jsr 85]),
  (85, [.putfield 1000, .bipush 0, .istore 3, .bipush 0, .istore 4, .jsr 93]),
  (93, [.iload 4, .aload 0, .getfield 1001, .bipush 4, .iaload, .if_icmp .ge 201, .iload 2, .ifCond .eq 201, .aload 0, .getfield 1022, .iload 4, .bipush 0, .iastore, .bipush 0, .istore 5, .jsr 119]),
  (119, [.iload 5, .iload 1, .if_icmp .ge 173, .aload 0, .getfield 1022, .iload 4, .dup2, .iaload, .aload 0, .iload 4, .bipush 2, .aload 0, .getfield 1007, .iload 5, .iaload, .iadd, .invokeinterface 206 3, .aload 0, .getfield 1007, .iload 5, .bipush 1, .iadd, .iaload, .if_icmp .ne 164, .bipush 0, .goto 165]),
  (164, [.bipush 1, .jsr 165]),
  (165, [.iadd, .iastore, .iinc 5 2, .goto 119]),
  (173, [.iload 3, .aload 0, .getfield 1022, .iload 4, .iaload, .bipush 1, .if_icmp .gt 192, .bipush 1, .iload 4, .ishl, .goto 193]),
  (192, [.bipush 0, .jsr 193]),
  (193, [.ior, .istore 3, .iinc 4 1, .goto 93]),
  (201, [.iload 3, .ireturn])]
def bkX12_who : List (Nat × List Instr) := [(0, [.aload 0, .invokeinterface 297 1, .istore 1, .aload 0, .getfield 1000, .ifCond .le 16, .bipush 0, .goto 17]),
  (16, [.iload 1, .jsr 17]),
  (17, [.ireturn])]
def bkX12_likely : List (Nat × List Instr) := [(0, [.aload 0, .invokeinterface 297 1, .istore 1, .aload 0, .getfield 1000, .ifCond .le 14, .bipush 0, .ireturn]),
  (14, [.bipush (-1), .istore 2, .bipush 0, .istore 3, .jsr 18]),
  (18, [.iload 3, .aload 0, .getfield 1001, .bipush 4, .iaload, .if_icmp .ge 64, .iload 1, .iload 3, .invokeinterface 203 2, .ifCond .eq 58, .iload 2, .bipush (-1), .if_icmp .eq 56, .aload 0, .getfield 1022, .iload 3, .iaload, .aload 0, .getfield 1022, .iload 2, .iaload, .if_icmp .ge 58, .jsr 56]),
  (56, [.iload 3, .istore 2, .jsr 58]),
  (58, [.iinc 3 1, .goto 18]),
  (64, [.iload 2, .ireturn])]
def bkX12_partBy : List (Nat × List Instr) := [(0, [.bipush 0, .istore 3, .bipush (-1), .istore 4, .jsr 5]),
  (5, [.iload 4, .bipush 8, .if_icmp .ge 81, .bipush 0, .istore 5, .bipush 0, .istore 6, .jsr 18]),
  (18, [.iload 6, .aload 0, .getfield 1001, .bipush 4, .iaload, .if_icmp .ge 68, .iload 5, .iload 1, .iload 6, .invokeinterface 203 2, .ifCond .eq 58, .aload 0, .iload 6, .bipush 2, .iload 2, .iadd, .invokeinterface 206 3, .iload 4, .if_icmp .ne 58, .bipush 1, .goto 59]),
  (58, [.bipush 0, .jsr 59]),
  (59, [.iadd, .istore 5, .iinc 6 1, .goto 18]),
  (68, [.iload 3, .iload 5, .invokeinterface 202 2, .istore 3, .iinc 4 1, .goto 5]),
  (81, [.iload 3, .ireturn])]
def bkX12_look : List (Nat × List Instr) := [(0, [.aload 0, .invokeinterface 297 1, .istore 1, .aload 0, .getfield 1000, .ifCond .le 14, .bipush 0, .ireturn]),
  (14, [.bipush (-1), .istore 2, .bipush 2000000000, .istore 3, .bipush 0, .istore 4, .jsr 23]),
  (23, [.iload 4, .bipush 6, .if_icmp .ge 68, .iload 1, .invokeinterface 204 1, .bipush 1, .if_icmp .le 68, .aload 0, .iload 1, .iload 4, .invokeinterface 300 3, .istore 5, .iload 5, .iload 3, .if_icmp .lt 56, .goto 62]),
  (56, [.iload 5, .istore 3, .iload 4, .istore 2, .jsr 62]),
  (62, [.iinc 4 1, .goto 23]),
  (68, [.iload 2, .ireturn])]
def bkX12_tellsApart : List (Nat × List Instr) := [(0, [.bipush 1, .istore 2, .bipush 0, .istore 3, .jsr 4]),
  (4, [.iload 3, .aload 0, .getfield 1001, .bipush 4, .iaload, .if_icmp .ge 112, .bipush 0, .istore 4, .jsr 17]),
  (17, [.iload 4, .iload 3, .if_icmp .ge 106, .bipush 0, .istore 5, .bipush 0, .istore 6, .jsr 29]),
  (29, [.iload 6, .bipush 6, .if_icmp .ge 85, .iload 5, .ifCond .ne 72, .iload 1, .iload 6, .invokeinterface 203 2, .ifCond .eq 76, .aload 0, .iload 3, .bipush 2, .iload 6, .iadd, .invokeinterface 206 3, .aload 0, .iload 4, .bipush 2, .iload 6, .iadd, .invokeinterface 206 3, .if_icmp .eq 76, .jsr 72]),
  (72, [.bipush 1, .goto 77]),
  (76, [.bipush 0, .jsr 77]),
  (77, [.istore 5, .iinc 6 1, .goto 29]),
  (85, [.iload 2, .ifCond .eq 98, .iload 5, .ifCond .eq 98, .bipush 1, .goto 99]),
  (98, [.bipush 0, .jsr 99]),
  (99, [.istore 2, .iinc 4 1, .goto 17]),
  (106, [.iinc 3 1, .goto 4]),
  (112, [.iload 2, .freturn])]
def bkX12_places : List (Nat × List Instr) := [(0, [.aload 0, .bipush 0, .putfield 1000, .bipush (-1), .istore 1, .bipush 0, .istore 2, .jsr 9]),
  (9, [.iload 2, .bipush 64, .if_icmp .ge 47, .iload 1, .bipush (-1), .if_icmp .eq 31, .iload 2, .invokeinterface 204 1, .iload 1, .invokeinterface 204 1, .if_icmp .ge 41, .jsr 31]),
  (31, [.aload 0, .iload 2, .invokeinterface 302 2, .ifCond .eq 41, .iload 2, .istore 1, .jsr 41]),
  (41, [.iinc 2 1, .goto 9]),
  (47, [.iload 1, .ireturn])]
def bkX12_areTwo : List (Nat × List Instr) := [(0, [.aload 0, .aload 0, .iload 1, .invokeinterface 210 2, .ifCond .eq 17, .aload 0, .iload 2, .invokeinterface 210 2, .ifCond .ne 21, .jsr 17]),
  (17, [.bipush 1, .goto 22]),
  (21, [.bipush 0, .jsr 22]),
  (22, [.putfield 1000, .return_])]
def bkX12_change : List (Nat × List Instr) := [(0, [.aload 0, .iload 1, .iload 2, .invokeinterface 304 3, .aload 0, .getfield 1000, .ifCond .le 15, .bipush 0, .ireturn]),
  (15, [.aload 0, .iload 1, .bipush 0, .invokeinterface 206 3, .istore 3, .aload 0, .iload 2, .bipush 0, .invokeinterface 206 3, .istore 4, .bipush 0, .istore 5, .jsr 33]),
  (33, [.iload 5, .iload 3, .if_icmp .gt 190, .bipush 0, .istore 6, .jsr 42]),
  (42, [.iload 6, .iload 4, .if_icmp .gt 184, .iload 5, .ifCond .ne 59, .iload 6, .goto 61]),
  (59, [.iload 5, .jsr 61]),
  (61, [.istore 7, .iload 5, .ifCond .le 163, .iload 6, .ifCond .le 163, .aload 0, .getfield 1021, .bipush 7, .iload 5, .imul, .bipush 7, .isub, .iload 6, .iadd, .iaload, .aload 0, .getfield 1021, .bipush 7, .iload 5, .imul, .iload 6, .iadd, .bipush 1, .isub, .iaload, .invokeinterface 201 2, .bipush 1, .iadd, .aload 0, .getfield 1021, .bipush 7, .iload 5, .imul, .bipush 7, .isub, .iload 6, .iadd, .bipush 1, .isub, .iaload, .aload 0, .iload 1, .bipush 2, .iload 5, .iadd, .bipush 1, .isub, .invokeinterface 206 3, .aload 0, .iload 2, .bipush 2, .iload 6, .iadd, .bipush 1, .isub, .invokeinterface 206 3, .if_icmp .ne 156, .bipush 0, .goto 157]),
  (156, [.bipush 1, .jsr 157]),
  (157, [.iadd, .invokeinterface 201 2, .istore 7, .jsr 163]),
  (163, [.aload 0, .getfield 1021, .bipush 7, .iload 5, .imul, .iload 6, .iadd, .iload 7, .iastore, .iinc 6 1, .goto 42]),
  (184, [.iinc 5 1, .goto 33]),
  (190, [.aload 0, .getfield 1021, .bipush 7, .iload 3, .imul, .iload 4, .iadd, .iaload, .ireturn])]
def bkX12_areMixed : List (Nat × List Instr) := [(0, [.bipush 0, .istore 3, .bipush 1, .istore 4, .bipush 0, .istore 5, .jsr 8]),
  (8, [.iload 5, .aload 0, .iload 1, .bipush 0, .invokeinterface 206 3, .if_icmp .ge 96, .aload 0, .iload 1, .bipush 2, .iload 5, .iadd, .invokeinterface 206 3, .istore 6, .aload 0, .iload 2, .bipush 2, .iload 5, .iadd, .invokeinterface 206 3, .istore 7, .iload 6, .iload 7, .if_icmp .ne 51, .goto 90]),
  (51, [.iinc 3 1, .iload 4, .ifCond .eq 87, .iload 6, .bipush 1, .iadd, .bipush 8, .irem, .iload 7, .if_icmp .eq 83, .iload 7, .bipush 1, .iadd, .bipush 8, .irem, .iload 6, .if_icmp .ne 87, .jsr 83]),
  (83, [.bipush 1, .goto 88]),
  (87, [.bipush 0, .jsr 88]),
  (88, [.istore 4, .jsr 90]),
  (90, [.iinc 5 1, .goto 8]),
  (96, [.aload 0, .iload 1, .bipush 0, .invokeinterface 206 3, .aload 0, .iload 2, .bipush 0, .invokeinterface 206 3, .if_icmp .ne 125, .iload 3, .bipush 1, .if_icmp .ne 125, .iload 4, .ifCond .eq 125, .bipush 1, .goto 126]),
  (125, [.bipush 0, .jsr 126]),
  (126, [.freturn])]
def bkX12_mixed : List (Nat × List Instr) := [(0, [.aload 0, .iload 1, .iload 2, .invokeinterface 304 3, .aload 0, .getfield 1000, .ifCond .ne 26, .aload 0, .iload 1, .iload 2, .invokeinterface 306 3, .ifCond .eq 26, .bipush 1, .goto 27]),
  (26, [.bipush 0, .jsr 27]),
  (27, [.freturn])]
def bkX12_safe : List (Nat × List Instr) := [(0, [.aload 0, .bipush 0, .putfield 1000, .bipush 0, .istore 1, .bipush 1, .istore 2, .jsr 9]),
  (9, [.iload 2, .bipush 1, .aload 0, .getfield 1001, .bipush 4, .iaload, .ishl, .if_icmp .ge 125, .iload 2, .invokeinterface 204 1, .iload 1, .invokeinterface 204 1, .if_icmp .le 36, .bipush 1, .goto 37]),
  (36, [.bipush 0, .jsr 37]),
  (37, [.istore 3, .bipush 0, .istore 4, .jsr 41]),
  (41, [.iload 4, .aload 0, .getfield 1001, .bipush 4, .iaload, .if_icmp .ge 113, .bipush 0, .istore 5, .jsr 55]),
  (55, [.iload 5, .iload 4, .if_icmp .ge 107, .iload 3, .ifCond .eq 99, .iload 2, .iload 4, .invokeinterface 203 2, .ifCond .eq 95, .iload 2, .iload 5, .invokeinterface 203 2, .ifCond .eq 95, .aload 0, .iload 4, .iload 5, .invokeinterface 306 3, .ifCond .ne 99, .jsr 95]),
  (95, [.bipush 1, .goto 100]),
  (99, [.bipush 0, .jsr 100]),
  (100, [.istore 3, .iinc 5 1, .goto 55]),
  (107, [.iinc 4 1, .goto 41]),
  (113, [.iload 3, .ifCond .eq 119, .iload 2, .istore 1, .jsr 119]),
  (119, [.iinc 2 1, .goto 9]),
  (125, [.iload 1, .ireturn])]
def bkX12_isRun : List (Nat × List Instr) := [(0, [.iload 3, .aload 0, .iload 2, .bipush 0, .invokeinterface 206 3, .iadd, .aload 0, .iload 1, .bipush 0, .invokeinterface 206 3, .if_icmp .gt 21, .bipush 1, .goto 22]),
  (21, [.bipush 0, .jsr 22]),
  (22, [.istore 4, .bipush 0, .istore 5, .jsr 27]),
  (27, [.iload 5, .aload 0, .iload 2, .bipush 0, .invokeinterface 206 3, .if_icmp .ge 79, .iload 4, .ifCond .eq 79, .aload 0, .iload 1, .bipush 2, .iload 3, .iadd, .iload 5, .iadd, .invokeinterface 206 3, .aload 0, .iload 2, .bipush 2, .iload 5, .iadd, .invokeinterface 206 3, .if_icmp .ne 70, .bipush 1, .goto 71]),
  (70, [.bipush 0, .jsr 71]),
  (71, [.istore 4, .iinc 5 1, .goto 27]),
  (79, [.iload 4, .freturn])]
def bkX12_holds : List (Nat × List Instr) := [(0, [.bipush 0, .istore 3, .bipush 0, .istore 4, .jsr 5]),
  (5, [.iload 4, .bipush 6, .if_icmp .ge 39, .iload 3, .ifCond .ne 27, .aload 0, .iload 1, .iload 2, .iload 4, .invokeinterface 309 4, .ifCond .eq 31, .jsr 27]),
  (27, [.bipush 1, .goto 32]),
  (31, [.bipush 0, .jsr 32]),
  (32, [.istore 3, .iinc 4 1, .goto 5]),
  (39, [.iload 3, .freturn])]
def bkX12_shares : List (Nat × List Instr) := [(0, [.bipush 0, .istore 3, .bipush 1, .istore 4, .jsr 5]),
  (5, [.iload 4, .aload 0, .iload 1, .bipush 0, .invokeinterface 206 3, .aload 0, .iload 2, .bipush 0, .invokeinterface 206 3, .invokeinterface 201 2, .if_icmp .gt 105, .bipush 1, .istore 5, .bipush 0, .istore 6, .jsr 31]),
  (31, [.iload 6, .iload 4, .if_icmp .ge 87, .iload 5, .ifCond .eq 87, .aload 0, .iload 1, .bipush 2, .aload 0, .iload 1, .bipush 0, .invokeinterface 206 3, .iadd, .iload 4, .isub, .iload 6, .iadd, .invokeinterface 206 3, .aload 0, .iload 2, .bipush 2, .iload 6, .iadd, .invokeinterface 206 3, .if_icmp .ne 78, .bipush 1, .goto 79]),
  (78, [.bipush 0, .jsr 79]),
  (79, [.istore 5, .iinc 6 1, .goto 31]),
  (87, [.iload 5, .ifCond .eq 97, .iload 4, .goto 98]),
  (97, [.iload 3, .jsr 98]),
  (98, [.istore 3, .iinc 4 1, .goto 5]),
  (105, [.iload 3, .ireturn])]
def bkX12_together : List (Nat × List Instr) := [(0, [.aload 0, .iload 1, .iload 2, .invokeinterface 304 3, .aload 0, .getfield 1000, .ifCond .le 15, .bipush 0, .ireturn]),
  (15, [.aload 0, .iload 1, .iload 2, .if_icmp .ne 25, .bipush 2, .goto 26]),
  (25, [.bipush 0, .jsr 26]),
  (26, [.putfield 1000, .aload 0, .getfield 1000, .ifCond .le 38, .bipush 0, .ireturn]),
  (38, [.aload 0, .iload 2, .iload 1, .invokeinterface 311 3, .aload 0, .iload 1, .iload 2, .invokeinterface 311 3, .if_icmp .le 57, .iload 2, .goto 58]),
  (57, [.iload 1, .jsr 58]),
  (58, [.istore 4, .aload 0, .iload 2, .iload 1, .invokeinterface 310 3, .ifCond .eq 72, .iload 2, .istore 4, .jsr 72]),
  (72, [.aload 0, .iload 1, .iload 2, .invokeinterface 310 3, .ifCond .eq 84, .iload 1, .istore 4, .jsr 84]),
  (84, [.iload 4, .iload 1, .if_icmp .ne 94, .iload 2, .goto 95]),
  (94, [.iload 1, .jsr 95]),
  (95, [.istore 5, .aload 0, .iload 4, .bipush 0, .invokeinterface 206 3, .istore 6, .aload 0, .iload 4, .iload 5, .invokeinterface 310 3, .ifCond .eq 122, .iload 6, .goto 141]),
  (122, [.iload 6, .aload 0, .iload 5, .bipush 0, .invokeinterface 206 3, .iadd, .aload 0, .iload 4, .iload 5, .invokeinterface 311 3, .isub, .jsr 141]),
  (141, [.istore 7, .iload 3, .bipush (-1), .if_icmp .ne 151, .iload 7, .ireturn]),
  (151, [.iload 3, .bipush 0, .iload 7, .bipush 1, .isub, .invokeinterface 200 3, .ifCond .ne 165, .bipush (-1), .ireturn]),
  (165, [.iload 3, .iload 6, .if_icmp .ge 183, .aload 0, .iload 4, .bipush 2, .iload 3, .iadd, .invokeinterface 206 3, .goto 203]),
  (183, [.aload 0, .iload 5, .bipush 2, .iload 3, .iadd, .iload 7, .isub, .aload 0, .iload 5, .bipush 0, .invokeinterface 206 3, .iadd, .invokeinterface 206 3, .jsr 203]),
  (203, [.ireturn])]
def bkX12_owesOf : List (Nat × List Instr) := [(0, [.bipush 0, .istore 2, .bipush 0, .istore 3, .jsr 4]),
  (4, [.iload 3, .aload 0, .getfield 1001, .bipush 4, .iaload, .if_icmp .ge 40, .iload 2, .iload 1, .iload 3, .invokeinterface 203 2, .ifCond .eq 31, .aload 0, .iload 3, .invokeinterface 276 2, .goto 32]),
  (31, [.bipush 0, .jsr 32]),
  (32, [.iadd, .istore 2, .iinc 3 1, .goto 4]),
  (40, [.iload 2, .ireturn])]
def bkX12_settle : List (Nat × List Instr) := [(0, [.aload 0, .bipush 0, .putfield 1000, .bipush 0, .istore 1, .bipush 0, .istore 2, .jsr 9]),
  (9, [.iload 2, .aload 0, .getfield 1001, .bipush 4, .iaload, .if_icmp .ge 43, .iload 1, .aload 0, .iload 2, .invokeinterface 276 2, .ifCond .eq 34, .bipush 1, .iload 2, .ishl, .goto 35]),
  (34, [.bipush 0, .jsr 35]),
  (35, [.ior, .istore 1, .iinc 2 1, .goto 9]),
  (43, [.aload 0, .getfield 1023, .bipush 0, .bipush 0, .iastore, .bipush 1, .istore 2, .jsr 52]),
  (52, [.iload 2, .bipush 64, .if_icmp .ge 138, .bipush 0, .istore 3, .bipush 0, .istore 4, .jsr 63]),
  (63, [.iload 4, .bipush 6, .if_icmp .ge 103, .iload 2, .iload 4, .invokeinterface 203 2, .ifCond .eq 97, .iload 3, .aload 0, .getfield 1023, .iload 2, .bipush 1, .iload 4, .ishl, .bipush (-1), .ixor, .iand, .iaload, .invokeinterface 202 2, .istore 3, .jsr 97]),
  (97, [.iinc 4 1, .goto 63]),
  (103, [.aload 0, .getfield 1023, .iload 2, .iload 3, .iload 2, .iload 1, .bipush (-1), .ixor, .iand, .ifCond .ne 129, .aload 0, .iload 2, .invokeinterface 313 2, .ifCond .ne 129, .bipush 1, .goto 130]),
  (129, [.bipush 0, .jsr 130]),
  (130, [.iadd, .iastore, .iinc 2 1, .goto 52]),
  (138, [.iload 1, .invokeinterface 204 1, .aload 0, .getfield 1023, .iload 1, .iaload, .isub, .ireturn])]
def bkX12_debtors : List (Nat × List Instr) := [(0, [.bipush 0, .istore 2, .bipush 0, .istore 3, .jsr 4]),
  (4, [.iload 3, .aload 0, .getfield 1001, .bipush 5, .iaload, .if_icmp .ge 48, .iload 2, .iload 1, .aload 0, .iload 3, .bipush 0, .invokeinterface 208 3, .invokeinterface 203 2, .ifCond .eq 39, .bipush 1, .aload 0, .iload 3, .bipush 1, .invokeinterface 208 3, .ishl, .goto 40]),
  (39, [.bipush 0, .jsr 40]),
  (40, [.ior, .istore 2, .iinc 3 1, .goto 4]),
  (48, [.iload 2, .ireturn])]
def bkX12_ring : List (Nat × List Instr) := [(0, [.aload 0, .bipush 0, .putfield 1000, .bipush (-1), .istore 1, .bipush 0, .istore 2, .jsr 9]),
  (9, [.iload 2, .aload 0, .getfield 1001, .bipush 4, .iaload, .if_icmp .ge 73, .bipush 1, .iload 2, .ishl, .istore 3, .bipush 1, .istore 4, .jsr 26]),
  (26, [.iload 4, .bipush 6, .if_icmp .gt 67, .aload 0, .iload 3, .invokeinterface 315 2, .istore 3, .iload 3, .iload 2, .invokeinterface 203 2, .ifCond .eq 61, .iload 1, .bipush (-1), .if_icmp .eq 58, .iload 4, .iload 1, .if_icmp .ge 61, .jsr 58]),
  (58, [.iload 4, .istore 1, .jsr 61]),
  (61, [.iinc 4 1, .goto 26]),
  (67, [.iinc 2 1, .goto 9]),
  (73, [.iload 1, .ireturn])]
def bkX12_poorest : List (Nat × List Instr) := [(0, [.aload 0, .bipush 0, .putfield 1000, .bipush (-1), .istore 1, .bipush 0, .istore 2, .jsr 9]),
  (9, [.iload 2, .aload 0, .getfield 1001, .bipush 4, .iaload, .if_icmp .ge 45, .iload 1, .bipush (-1), .if_icmp .eq 37, .aload 0, .iload 2, .invokeinterface 276 2, .aload 0, .iload 1, .invokeinterface 276 2, .if_icmp .le 39, .jsr 37]),
  (37, [.iload 2, .istore 1, .jsr 39]),
  (39, [.iinc 2 1, .goto 9]),
  (45, [.iload 1, .ireturn])]
def bkX12_clear : List (Nat × List Instr) := [(0, [.aload 0, .bipush 0, .putfield 1000, .bipush 1, .aload 0, .getfield 1001, .bipush 4, .iaload, .ishl, .bipush 1, .isub, .istore 1, .bipush 0, .istore 2, .jsr 18]),
  (18, [.iload 2, .aload 0, .getfield 1001, .bipush 5, .iaload, .if_icmp .ge 56, .iload 1, .bipush 1, .aload 0, .iload 2, .bipush 0, .invokeinterface 208 3, .ishl, .bipush 1, .aload 0, .iload 2, .bipush 1, .invokeinterface 208 3, .ishl, .ior, .bipush (-1), .ixor, .iand, .istore 1, .iinc 2 1, .goto 18]),
  (56, [.iload 1, .ireturn])]
def bkX12_nim : List (Nat × List Instr) := [(0, [.bipush 0, .istore 1, .bipush 0, .istore 2, .jsr 4]),
  (4, [.iload 2, .aload 0, .getfield 1001, .bipush 4, .iaload, .if_icmp .ge 33, .iload 1, .aload 0, .getfield 1025, .aload 0, .iload 2, .invokeinterface 213 2, .iaload, .ixor, .istore 1, .iinc 2 1, .goto 4]),
  (33, [.iload 1, .ireturn])]
def bkX12_wins : List (Nat × List Instr) := [(0, [.aload 0, .bipush 0, .putfield 1000, .aload 0, .invokeinterface 319 1, .ifCond .eq 16, .bipush 1, .goto 17]),
  (16, [.bipush 0, .jsr 17]),
  (17, [.freturn])]
def bkX12_first : List (Nat × List Instr) := [(0, [.aload 0, .bipush 0, .putfield 1000, .aload 0, .invokeinterface 319 1, .istore 1, .bipush 0, .istore 2, .jsr 12]),
  (12, [.iload 2, .bipush 100, .aload 0, .getfield 1001, .bipush 4, .iaload, .imul, .if_icmp .ge 115, .aload 0, .iload 2, .bipush 100, .idiv, .invokeinterface 213 2, .istore 3, .iload 2, .bipush 10, .idiv, .bipush 10, .irem, .istore 4, .iload 2, .bipush 10, .irem, .istore 5, .iload 5, .bipush 1, .bipush 2, .invokeinterface 200 3, .ifCond .eq 109, .iload 4, .iload 5, .iadd, .iload 3, .if_icmp .gt 109, .iload 1, .ifCond .ne 75, .goto 109]),
  (75, [.iload 1, .aload 0, .getfield 1025, .iload 3, .iaload, .ixor, .aload 0, .getfield 1025, .iload 4, .iaload, .ixor, .aload 0, .getfield 1025, .iload 3, .iload 4, .isub, .iload 5, .isub, .iaload, .ixor, .ifCond .ne 109, .iload 2, .ireturn]),
  (109, [.iinc 2 1, .goto 12]),
  (115, [.bipush (-1), .ireturn])]
def bkX12_lowest : List (Nat × List Instr) := [(0, [.bipush 0, .istore 1, .jsr 2]),
  (2, [.iload 0, .iload 1, .invokeinterface 203 2, .ifCond .ne 16, .iinc 1 1, .goto 2]),
  (16, [.iload 1, .ireturn])]
def bkX12_kinds : List (Nat × List Instr) := [(0, [.bipush 0, .istore 2, .bipush 0, .istore 3, .jsr 4]),
  (4, [.iload 3, .aload 0, .iload 1, .bipush 0, .invokeinterface 206 3, .if_icmp .ge 33, .iload 2, .bipush 1, .aload 0, .iload 1, .bipush 2, .iload 3, .iadd, .invokeinterface 206 3, .ishl, .ior, .istore 2, .iinc 3 1, .goto 4]),
  (33, [.iload 2, .ireturn])]
def bkX12_common : List (Nat × List Instr) := [(0, [.aload 0, .iload 1, .invokeinterface 323 2, .aload 0, .iload 2, .invokeinterface 323 2, .iand, .invokeinterface 204 1, .ireturn])]
def bkX12_allBest : List (Nat × List Instr) := [(0, [.aload 0, .getfield 1023, .bipush 0, .bipush 0, .iastore, .bipush 1, .istore 1, .jsr 9]),
  (9, [.iload 1, .bipush 1, .aload 0, .getfield 1001, .bipush 4, .iaload, .ishl, .if_icmp .ge 119, .iload 1, .invokeinterface 322 1, .istore 2, .iload 1, .bipush 1, .iload 2, .ishl, .bipush (-1), .ixor, .iand, .istore 3, .aload 0, .getfield 1023, .iload 1, .aload 0, .getfield 1023, .iload 3, .iaload, .iastore, .iload 2, .bipush 1, .iadd, .istore 4, .jsr 51]),
  (51, [.iload 4, .aload 0, .getfield 1001, .bipush 4, .iaload, .if_icmp .ge 113, .iload 3, .iload 4, .invokeinterface 203 2, .ifCond .eq 107, .aload 0, .getfield 1023, .iload 1, .aload 0, .getfield 1023, .iload 1, .iaload, .aload 0, .iload 2, .iload 4, .invokeinterface 324 3, .aload 0, .getfield 1023, .iload 3, .bipush 1, .iload 4, .ishl, .bipush (-1), .ixor, .iand, .iaload, .iadd, .invokeinterface 202 2, .iastore, .jsr 107]),
  (107, [.iinc 4 1, .goto 51]),
  (113, [.iinc 1 1, .goto 9]),
  (119, [.return_])]
def bkX12_pairs : List (Nat × List Instr) := [(0, [.aload 0, .iload 1, .bipush (-1), .if_icmp .eq 18, .aload 0, .iload 1, .invokeinterface 210 2, .ifCond .ne 18, .bipush 1, .goto 19]),
  (18, [.bipush 0, .jsr 19]),
  (19, [.putfield 1000, .aload 0, .getfield 1000, .ifCond .le 31, .bipush 0, .ireturn]),
  (31, [.aload 0, .invokeinterface 325 1, .bipush 1, .aload 0, .getfield 1001, .bipush 4, .iaload, .ishl, .bipush 1, .isub, .istore 2, .iload 1, .bipush (-1), .if_icmp .ne 58, .aload 0, .getfield 1023, .iload 2, .iaload, .ireturn]),
  (58, [.iload 2, .ifCond .eq 202, .iload 2, .invokeinterface 322 1, .istore 3, .iload 2, .bipush 1, .iload 3, .ishl, .bipush (-1), .ixor, .iand, .istore 4, .bipush (-1), .istore 5, .aload 0, .getfield 1001, .bipush 4, .iaload, .bipush 1, .isub, .istore 6, .jsr 89]),
  (89, [.iload 6, .iload 3, .if_icmp .le 162, .aload 0, .getfield 1023, .iload 4, .iaload, .aload 0, .getfield 1023, .iload 2, .iaload, .if_icmp .eq 162, .iload 4, .iload 6, .invokeinterface 203 2, .ifCond .eq 156, .aload 0, .iload 3, .iload 6, .invokeinterface 324 3, .aload 0, .getfield 1023, .iload 4, .bipush 1, .iload 6, .ishl, .bipush (-1), .ixor, .iand, .iaload, .iadd, .aload 0, .getfield 1023, .iload 2, .iaload, .if_icmp .ne 156, .iload 6, .istore 5, .jsr 156]),
  (156, [.iinc 6 (-1), .goto 89]),
  (162, [.iload 3, .iload 1, .if_icmp .ne 170, .iload 5, .ireturn]),
  (170, [.iload 5, .iload 1, .if_icmp .ne 178, .iload 3, .ireturn]),
  (178, [.iload 5, .bipush (-1), .if_icmp .ne 189, .iload 4, .goto 198]),
  (189, [.iload 4, .bipush 1, .iload 5, .ishl, .bipush (-1), .ixor, .iand, .jsr 198]),
  (198, [.istore 2, .goto 58]),
  (202, [.bipush (-1), .ireturn])]
def bkX12_share : List (Nat × List Instr) := [(0, [.aload 0, .aload 0, .iload 1, .invokeinterface 209 2, .ifCond .ne 13, .bipush 1, .goto 28]),
  (13, [.iload 2, .bipush 0, .bipush 99, .invokeinterface 200 3, .ifCond .ne 27, .bipush 2, .goto 28]),
  (27, [.bipush 0, .jsr 28]),
  (28, [.putfield 1000, .aload 0, .getfield 1000, .ifCond .le 40, .bipush 0, .ireturn]),
  (40, [.bipush 0, .istore 3, .jsr 42]),
  (42, [.iload 3, .bipush 6, .if_icmp .ge 61, .aload 0, .getfield 1024, .iload 3, .bipush 0, .iastore, .iinc 3 1, .goto 42]),
  (61, [.bipush 0, .istore 3, .jsr 63]),
  (63, [.iload 3, .iload 2, .if_icmp .ge 149, .bipush 0, .istore 4, .bipush 1, .istore 5, .jsr 74]),
  (74, [.iload 5, .aload 0, .getfield 1001, .bipush 3, .iaload, .if_icmp .ge 132, .aload 0, .iload 5, .bipush 2, .invokeinterface 205 3, .aload 0, .getfield 1024, .iload 5, .iaload, .bipush 1, .iadd, .idiv, .aload 0, .iload 4, .bipush 2, .invokeinterface 205 3, .aload 0, .getfield 1024, .iload 4, .iaload, .bipush 1, .iadd, .idiv, .if_icmp .le 126, .iload 5, .istore 4, .jsr 126]),
  (126, [.iinc 5 1, .goto 74]),
  (132, [.aload 0, .getfield 1024, .iload 4, .dup2, .iaload, .bipush 1, .iadd, .iastore, .iinc 3 1, .goto 63]),
  (149, [.aload 0, .getfield 1024, .iload 1, .iaload, .ireturn])]
def bkX12_clerkHas : List (Nat × List Instr) := [(0, [.iload 3, .ifCond .ne 32, .iload 4, .ifCond .ne 25, .aload 0, .iload 1, .iload 2, .invokeinterface 251 3, .aload 0, .iload 1, .iload 2, .invokeinterface 250 3, .isub, .goto 31]),
  (25, [.aload 0, .iload 1, .iload 2, .invokeinterface 251 3, .jsr 31]),
  (31, [.ireturn]),
  (32, [.iload 4, .ifCond .ne 41, .bipush 0, .goto 42]),
  (41, [.bipush 1, .jsr 42]),
  (42, [.ireturn])]
def bkX12_sunHas : List (Nat × List Instr) := [(0, [.iload 2, .ifCond .ne 14, .iload 3, .ifCond .ne 12, .bipush 2, .goto 13]),
  (12, [.bipush 1, .jsr 13]),
  (13, [.ireturn]),
  (14, [.iload 3, .ifCond .ne 28, .aload 0, .iload 1, .bipush 0, .invokeinterface 205 3, .ineg, .goto 29]),
  (28, [.bipush 0, .jsr 29]),
  (29, [.ireturn])]
def bkX12_rests : List (Nat × List Instr) := [(0, [.aload 0, .aload 0, .iload 1, .invokeinterface 210 2, .ifCond .eq 17, .aload 0, .iload 2, .invokeinterface 209 2, .ifCond .ne 21, .jsr 17]),
  (17, [.bipush 1, .goto 22]),
  (21, [.bipush 0, .jsr 22]),
  (22, [.putfield 1000, .aload 0, .getfield 1000, .ifCond .le 34, .bipush 0, .ireturn]),
  (34, [.bipush 0, .istore 3, .bipush 0, .istore 4, .jsr 39]),
  (39, [.iload 4, .bipush 4, .if_icmp .ge 118, .iload 4, .bipush 2, .idiv, .istore 5, .iload 4, .bipush 2, .irem, .istore 6, .aload 0, .iload 1, .iload 2, .bipush 1, .iload 5, .isub, .iload 6, .invokeinterface 328 5, .aload 0, .iload 1, .iload 2, .iload 5, .iload 6, .invokeinterface 328 5, .if_icmp .gt 112, .aload 0, .iload 2, .iload 5, .bipush 1, .iload 6, .isub, .invokeinterface 329 4, .aload 0, .iload 2, .iload 5, .iload 6, .invokeinterface 329 4, .if_icmp .gt 112, .iload 3, .bipush 1, .iload 4, .ishl, .ior, .istore 3, .jsr 112]),
  (112, [.iinc 4 1, .goto 39]),
  (118, [.iload 3, .ireturn])]
def bkX12_odds : List (Nat × List Instr) := [(0, [.aload 0, .iload 1, .bipush 0, .bipush 5, .invokeinterface 200 3, .ifCond .eq 19, .iload 2, .bipush 0, .bipush 5, .invokeinterface 200 3, .ifCond .ne 23, .jsr 19]),
  (19, [.bipush 1, .goto 24]),
  (23, [.bipush 0, .jsr 24]),
  (24, [.putfield 1000, .aload 0, .getfield 1000, .ifCond .le 36, .bipush 0, .ireturn]),
  (36, [.sipush 0, .lstore 3, .sipush 1, .lstore 5, .bipush 0, .istore 7, .jsr 44]),
  (44, [.iload 7, .iload 1, .if_icmp .ge 64, .lload 5, .sipush 100, .lmul, .lstore 5, .iinc 7 1, .goto 44]),
  (64, [.bipush 0, .istore 7, .jsr 67]),
  (67, [.iload 7, .bipush 1, .iload 1, .ishl, .if_icmp .ge 154, .iload 7, .invokeinterface 204 1, .iload 2, .if_icmp .ge 88, .sipush 0, .goto 89]),
  (88, [.sipush 1, .jsr 89]),
  (89, [.lstore 8, .bipush 0, .istore 10, .jsr 94]),
  (94, [.iload 10, .iload 1, .if_icmp .ge 143, .lload 8, .iload 7, .iload 10, .invokeinterface 203 2, .ifCond .eq 123, .aload 0, .getfield 1001, .bipush 8, .iaload, .i2l, .goto 134]),
  (123, [.bipush 100, .aload 0, .getfield 1001, .bipush 8, .iaload, .isub, .i2l, .jsr 134]),
  (134, [.lmul, .lstore 8, .iinc 10 1, .goto 94]),
  (143, [.lload 3, .lload 8, .ladd, .lstore 3, .iinc 7 1, .goto 67]),
  (154, [.sipush 10000, .lload 3, .lmul, .lload 5, .ldiv, .l2i, .ireturn])]
def bkX12_valueOf : List (Nat × List Instr) := [(0, [.iload 1, .ifCond .ne 19, .aload 0, .iload 2, .bipush 2, .invokeinterface 205 3, .aload 0, .iload 2, .invokeinterface 212 2, .isub, .goto 39]),
  (19, [.iload 1, .bipush 1, .if_icmp .ne 33, .aload 0, .iload 2, .bipush 1, .invokeinterface 205 3, .goto 39]),
  (33, [.aload 0, .iload 2, .bipush 0, .invokeinterface 206 3, .jsr 39]),
  (39, [.ireturn])]
def bkX12_most : List (Nat × List Instr) := [(0, [.aload 0, .iload 1, .bipush 0, .bipush 2, .invokeinterface 200 3, .ifCond .ne 14, .bipush 1, .goto 15]),
  (14, [.bipush 0, .jsr 15]),
  (15, [.putfield 1000, .aload 0, .getfield 1000, .ifCond .le 27, .bipush 0, .ireturn]),
  (27, [.iload 1, .bipush 2, .if_icmp .ge 41, .aload 0, .getfield 1001, .bipush 3, .iaload, .goto 47]),
  (41, [.aload 0, .getfield 1001, .bipush 4, .iaload, .jsr 47]),
  (47, [.istore 2, .bipush (-1), .istore 3, .bipush 0, .istore 4, .jsr 53]),
  (53, [.iload 4, .iload 2, .if_icmp .ge 89, .iload 3, .bipush (-1), .if_icmp .eq 80, .aload 0, .iload 1, .iload 4, .invokeinterface 332 3, .aload 0, .iload 1, .iload 3, .invokeinterface 332 3, .if_icmp .le 83, .jsr 80]),
  (80, [.iload 4, .istore 3, .jsr 83]),
  (83, [.iinc 4 1, .goto 53]),
  (89, [.iload 3, .ireturn])]
def bkX12_written : List (Nat × List Instr) := [(0, [.aload 0, .bipush 0, .putfield 1000, .iload 1, .ifCond .eq 16, .aload 0, .invokeinterface 260 1, .goto 20]),
  (16, [.aload 0, .invokeinterface 259 1, .jsr 20]),
  (20, [.ireturn])]
def bkX12_twins : List (Nat × List Instr) := [(0, [.aload 0, .bipush 0, .putfield 1000, .bipush 0, .istore 1, .bipush 0, .istore 2, .jsr 9]),
  (9, [.iload 2, .aload 0, .getfield 1001, .bipush 4, .iaload, .if_icmp .ge 71, .bipush 0, .istore 3, .jsr 21]),
  (21, [.iload 3, .iload 2, .if_icmp .ge 65, .iload 1, .aload 0, .iload 2, .bipush 0, .invokeinterface 206 3, .aload 0, .iload 3, .bipush 0, .invokeinterface 206 3, .if_icmp .ne 56, .aload 0, .iload 2, .iload 3, .bipush 0, .invokeinterface 309 4, .ifCond .eq 56, .bipush 1, .goto 57]),
  (56, [.bipush 0, .jsr 57]),
  (57, [.iadd, .istore 1, .iinc 3 1, .goto 21]),
  (65, [.iinc 2 1, .goto 9]),
  (71, [.iload 1, .ireturn])]
def bkX12_having : List (Nat × List Instr) := [(0, [.aload 0, .iload 1, .bipush 0, .bipush 7, .invokeinterface 200 3, .ifCond .ne 15, .bipush 1, .goto 16]),
  (15, [.bipush 0, .jsr 16]),
  (16, [.putfield 1000, .aload 0, .getfield 1000, .ifCond .le 28, .bipush 0, .ireturn]),
  (28, [.bipush 0, .istore 2, .bipush 0, .istore 3, .jsr 32]),
  (32, [.iload 3, .aload 0, .getfield 1001, .bipush 4, .iaload, .if_icmp .ge 70, .iload 2, .aload 0, .iload 3, .invokeinterface 323 2, .iload 1, .invokeinterface 203 2, .ifCond .eq 61, .bipush 1, .iload 3, .ishl, .goto 62]),
  (61, [.bipush 0, .jsr 62]),
  (62, [.ior, .istore 2, .iinc 3 1, .goto 32]),
  (70, [.iload 2, .ireturn])]
def bkX12_ahead : List (Nat × List Instr) := [(0, [.aload 0, .aload 0, .iload 1, .invokeinterface 209 2, .ifCond .ne 13, .bipush 1, .goto 28]),
  (13, [.iload 2, .bipush 0, .bipush 60, .invokeinterface 200 3, .ifCond .ne 27, .bipush 2, .goto 28]),
  (27, [.bipush 0, .jsr 28]),
  (28, [.putfield 1000, .aload 0, .getfield 1000, .ifCond .le 40, .bipush 0, .ireturn]),
  (40, [.aload 0, .invokeinterface 237 1, .aload 0, .iload 2, .bipush 0, .invokeinterface 265 3, .istore 4, .iload 3, .ifCond .eq 64, .aload 0, .iload 1, .invokeinterface 267 2, .goto 70]),
  (64, [.aload 0, .iload 1, .bipush 1, .invokeinterface 205 3, .jsr 70]),
  (70, [.istore 5, .aload 0, .invokeinterface 238 1, .iload 5, .ireturn])]
def bkX12_trial : List (Nat × List Instr) := [(0, [.aload 0, .iload 1, .bipush 0, .bipush 60, .invokeinterface 200 3, .ifCond .ne 15, .bipush 1, .goto 16]),
  (15, [.bipush 0, .jsr 16]),
  (16, [.putfield 1000, .aload 0, .getfield 1000, .ifCond .le 28, .bipush 0, .ireturn]),
  (28, [.aload 0, .invokeinterface 237 1, .aload 0, .iload 1, .bipush 1, .invokeinterface 265 3, .istore 3, .iload 2, .ifCond .eq 50, .aload 0, .invokeinterface 266 1, .goto 54]),
  (50, [.aload 0, .invokeinterface 259 1, .jsr 54]),
  (54, [.istore 4, .aload 0, .invokeinterface 238 1, .iload 4, .ireturn])]
def bkX12_span : List (Nat × List Instr) := [(0, [.aload 0, .iload 1, .bipush 0, .bipush 60, .invokeinterface 200 3, .ifCond .ne 15, .bipush 1, .goto 16]),
  (15, [.bipush 0, .jsr 16]),
  (16, [.putfield 1000, .aload 0, .getfield 1000, .ifCond .le 28, .bipush 0, .ireturn]),
  (28, [.aload 0, .invokeinterface 237 1, .bipush (-1), .istore 3, .bipush 1, .istore 4, .jsr 37]),
  (37, [.iload 4, .bipush 6, .if_icmp .gt 110, .aload 0, .getfield 1001, .bipush 12, .iload 4, .iastore, .aload 0, .iload 1, .bipush 1, .invokeinterface 265 3, .istore 5, .aload 0, .invokeinterface 260 1, .invokeinterface 204 1, .istore 6, .aload 0, .invokeinterface 238 1, .iload 3, .bipush (-1), .if_icmp .ne 84, .iload 6, .goto 103]),
  (84, [.iload 2, .ifCond .eq 97, .iload 3, .iload 6, .invokeinterface 202 2, .goto 103]),
  (97, [.iload 3, .iload 6, .invokeinterface 201 2, .jsr 103]),
  (103, [.istore 3, .iinc 4 1, .goto 37]),
  (110, [.iload 3, .ireturn])]
def bkX12_logged : List (Nat × List Instr) := [(0, [.aload 0, .getfield 1001, .bipush 175, .bipush 4, .iload 1, .imul, .iadd, .iload 2, .iadd, .iaload, .ireturn])]
def bkX12_led : List (Nat × List Instr) := [(0, [.aload 0, .aload 0, .iload 1, .invokeinterface 210 2, .ifCond .ne 13, .bipush 1, .goto 14]),
  (13, [.bipush 0, .jsr 14]),
  (14, [.putfield 1000, .aload 0, .getfield 1000, .ifCond .le 26, .bipush 0, .ireturn]),
  (26, [.bipush 0, .istore 3, .bipush (-1), .istore 4, .aload 0, .getfield 1001, .bipush 11, .iaload, .bipush 1, .isub, .istore 5, .jsr 42]),
  (42, [.iload 5, .ifCond .lt 79, .aload 0, .iload 5, .bipush 1, .invokeinterface 340 3, .iload 1, .if_icmp .eq 61, .goto 73]),
  (61, [.iinc 3 1, .aload 0, .iload 5, .bipush 0, .invokeinterface 340 3, .istore 4, .jsr 73]),
  (73, [.iinc 5 (-1), .goto 42]),
  (79, [.iload 2, .ifCond .eq 88, .iload 4, .goto 89]),
  (88, [.iload 3, .jsr 89]),
  (89, [.ireturn])]
def bkX12_log : List (Nat × List Instr) := [(0, [.aload 0, .iload 2, .bipush 0, .bipush 3, .invokeinterface 200 3, .ifCond .ne 14, .bipush 1, .goto 15]),
  (14, [.bipush 0, .jsr 15]),
  (15, [.putfield 1000, .aload 0, .getfield 1000, .ifCond .le 27, .bipush 0, .ireturn]),
  (27, [.iload 1, .bipush 0, .aload 0, .getfield 1001, .bipush 11, .iaload, .bipush 1, .isub, .invokeinterface 200 3, .ifCond .eq 53, .aload 0, .iload 1, .iload 2, .invokeinterface 340 3, .goto 54]),
  (53, [.bipush (-1), .jsr 54]),
  (54, [.ireturn])]
def bkX12_seed : List (Nat × List Instr) := [(0, [.aload 0, .bipush 0, .putfield 1000, .aload 0, .getfield 1001, .bipush 12, .iaload, .istore 2, .aload 0, .getfield 1001, .bipush 12, .iload 1, .iastore, .iload 2, .ireturn])]
def bkX12_undo : List (Nat × List Instr) := [(0, [.aload 0, .bipush 0, .putfield 1000, .aload 0, .getfield 1006, .ifCond .ne 14, .bipush 0, .freturn]),
  (14, [.aload 0, .dup, .getfield 1006, .bipush 1, .isub, .putfield 1006, .bipush 0, .istore 1, .jsr 26]),
  (26, [.iload 1, .bipush 415, .if_icmp .ge 60, .aload 0, .getfield 1001, .iload 1, .aload 0, .getfield 1005, .bipush 415, .aload 0, .getfield 1006, .imul, .iload 1, .iadd, .iaload, .iastore, .iinc 1 1, .goto 26]),
  (60, [.bipush 1, .freturn])]
def bkX12_image : List (Nat × List Instr) := [(0, [.aload 0, .bipush 0, .putfield 1000, .bipush 0, .istore 1, .jsr 7]),
  (7, [.iload 1, .bipush 815, .if_icmp .ge 32, .aload 0, .getfield 1002, .iload 1, .aload 0, .getfield 1001, .iload 1, .iaload, .iastore, .iinc 1 1, .goto 7]),
  (32, [.aload 0, .bipush 1, .dstore 1003, .return_])]
def bkX12_back : List (Nat × List Instr) := [(0, [.aload 0, .bipush 0, .putfield 1000, .aload 0, .getfield 1003, .ifCond .ne 14, .bipush 0, .freturn]),
  (14, [.bipush 0, .istore 1, .jsr 16]),
  (16, [.iload 1, .bipush 815, .if_icmp .ge 41, .aload 0, .getfield 1001, .iload 1, .aload 0, .getfield 1002, .iload 1, .iaload, .iastore, .iinc 1 1, .goto 16]),
  (41, [.aload 0, .bipush 0, .putfield 1006, .bipush 1, .freturn])]
def bkX12_count : List (Nat × List Instr) := [(0, [.aload 0, .bipush 0, .putfield 1000, .iload 1, .bipush 0, .bipush 2, .invokeinterface 200 3, .ifCond .eq 23, .aload 0, .getfield 1001, .bipush 3, .iload 1, .iadd, .iaload, .ireturn]),
  (23, [.iload 1, .bipush 3, .if_icmp .ne 35, .aload 0, .getfield 1001, .bipush 0, .iaload, .ireturn]),
  (35, [.iload 1, .bipush 4, .if_icmp .ne 47, .aload 0, .getfield 1001, .bipush 1, .iaload, .ireturn]),
  (47, [.iload 1, .bipush 5, .bipush 9, .invokeinterface 200 3, .ifCond .eq 69, .aload 0, .getfield 1001, .bipush 6, .iload 1, .iadd, .bipush 5, .isub, .iaload, .ireturn]),
  (69, [.iload 1, .bipush 10, .if_icmp .ne 80, .aload 0, .invokeinterface 266 1, .ireturn]),
  (80, [.iload 1, .bipush 11, .if_icmp .ne 94, .aload 0, .getfield 1001, .bipush 11, .iaload, .ireturn]),
  (94, [.iload 1, .bipush 12, .if_icmp .ne 107, .aload 0, .getfield 1006, .goto 108]),
  (107, [.bipush (-1), .jsr 108]),
  (108, [.ireturn])]
def bkL_province : List (Nat × List Instr) := [(0, [.aload 1, .bipush 0, .aload 0, .invokeinterface 131 1, .i2l, .lastore, .goto 17]),
  (12, [.bipush 1, .ireturn]),
  (15, [.bipush 2, .ireturn]),
  (17, [.bipush 0, .ireturn])]
def bkL_law : List (Nat × List Instr) := [(0, [.aload 1, .bipush 0, .aload 0, .invokeinterface 132 1, .i2l, .lastore, .goto 14]),
  (12, [.bipush 1, .ireturn]),
  (14, [.bipush 0, .ireturn])]
def bkL_field : List (Nat × List Instr) := [(0, [.aload 3, .bipush 0, .aload 0, .iload 1, .iload 2, .invokeinterface 135 3, .i2l, .lastore, .goto 21]),
  (15, [.bipush 1, .ireturn]),
  (19, [.bipush 2, .ireturn]),
  (21, [.bipush 0, .ireturn])]
def bkL_person : List (Nat × List Instr) := [(0, [.aload 3, .bipush 0, .aload 0, .iload 1, .iload 2, .invokeinterface 136 3, .i2l, .lastore, .goto 21]),
  (15, [.bipush 1, .ireturn]),
  (19, [.bipush 2, .ireturn]),
  (21, [.bipush 0, .ireturn])]
def bkL_letter : List (Nat × List Instr) := [(0, [.aload 4, .bipush 0, .aload 0, .iload 1, .iload 2, .iload 3, .invokeinterface 138 4, .i2l, .lastore, .goto 23]),
  (17, [.bipush 1, .ireturn]),
  (21, [.bipush 2, .ireturn]),
  (23, [.bipush 0, .ireturn])]
def bkL_debt : List (Nat × List Instr) := [(0, [.aload 3, .bipush 0, .aload 0, .iload 1, .iload 2, .invokeinterface 139 3, .i2l, .lastore, .goto 21]),
  (15, [.bipush 1, .ireturn]),
  (19, [.bipush 2, .ireturn]),
  (21, [.bipush 0, .ireturn])]
def bkL_melts : List (Nat × List Instr) := [(0, [.aload 3, .bipush 0, .aload 0, .iload 1, .iload 2, .invokeinterface 140 3, .i2l, .lastore, .goto 17]),
  (15, [.bipush 1, .ireturn]),
  (17, [.bipush 0, .ireturn])]
def bkL_deep : List (Nat × List Instr) := [(0, [.aload 3, .bipush 0, .aload 0, .iload 1, .iload 2, .invokeinterface 141 3, .i2l, .lastore, .goto 17]),
  (15, [.bipush 1, .ireturn]),
  (17, [.bipush 0, .ireturn])]
def bkL_days : List (Nat × List Instr) := [(0, [.aload 2, .bipush 0, .aload 0, .iload 1, .invokeinterface 146 2, .i2l, .lastore, .goto 15]),
  (13, [.bipush 1, .ireturn]),
  (15, [.bipush 0, .ireturn])]
def bkL_write : List (Nat × List Instr) := [(0, [.aload 3, .bipush 0, .aload 0, .iload 1, .iload 2, .invokeinterface 147 3, .i2l, .lastore, .goto 21]),
  (15, [.bipush 1, .ireturn]),
  (19, [.bipush 2, .ireturn]),
  (21, [.bipush 0, .ireturn])]
def bkL_strike : List (Nat × List Instr) := [(0, [.aload 2, .bipush 0, .aload 0, .iload 1, .invokeinterface 148 2, .i2l, .lastore, .goto 18]),
  (13, [.bipush 1, .ireturn]),
  (16, [.bipush 2, .ireturn]),
  (18, [.bipush 0, .ireturn])]
def bkL_tread : List (Nat × List Instr) := [(0, [.aload 3, .bipush 0, .aload 0, .iload 1, .iload 2, .invokeinterface 149 3, .i2l, .lastore, .goto 25]),
  (15, [.bipush 1, .ireturn]),
  (19, [.bipush 2, .ireturn]),
  (23, [.bipush 3, .ireturn]),
  (25, [.bipush 0, .ireturn])]
def bkL_lend : List (Nat × List Instr) := [(0, [.aload 4, .bipush 0, .aload 0, .iload 1, .iload 2, .iload 3, .invokeinterface 150 4, .i2l, .lastore, .goto 27]),
  (17, [.bipush 1, .ireturn]),
  (21, [.bipush 2, .ireturn]),
  (25, [.bipush 3, .ireturn]),
  (27, [.bipush 0, .ireturn])]
def bkL_pay : List (Nat × List Instr) := [(0, [.aload 2, .bipush 0, .aload 0, .iload 1, .invokeinterface 151 2, .i2l, .lastore, .goto 18]),
  (13, [.bipush 1, .ireturn]),
  (16, [.bipush 2, .ireturn]),
  (18, [.bipush 0, .ireturn])]
def bkL_slope : List (Nat × List Instr) := [(0, [.aload 3, .bipush 0, .aload 0, .iload 1, .iload 2, .invokeinterface 152 3, .i2l, .lastore, .goto 21]),
  (15, [.bipush 1, .ireturn]),
  (19, [.bipush 2, .ireturn]),
  (21, [.bipush 0, .ireturn])]
def bkL_snow : List (Nat × List Instr) := [(0, [.aload 3, .bipush 0, .aload 0, .iload 1, .iload 2, .invokeinterface 153 3, .i2l, .lastore, .goto 21]),
  (15, [.bipush 1, .ireturn]),
  (19, [.bipush 2, .ireturn]),
  (21, [.bipush 0, .ireturn])]
def bkL_till : List (Nat × List Instr) := [(0, [.aload 3, .bipush 0, .aload 0, .iload 1, .iload 2, .invokeinterface 156 3, .i2l, .lastore, .goto 21]),
  (15, [.bipush 1, .ireturn]),
  (19, [.bipush 2, .ireturn]),
  (21, [.bipush 0, .ireturn])]
def bkL_who : List (Nat × List Instr) := [(0, [.aload 1, .bipush 0, .aload 0, .invokeinterface 157 1, .i2l, .lastore, .goto 14]),
  (12, [.bipush 1, .ireturn]),
  (14, [.bipush 0, .ireturn])]
def bkL_likely : List (Nat × List Instr) := [(0, [.aload 1, .bipush 0, .aload 0, .invokeinterface 158 1, .i2l, .lastore, .goto 14]),
  (12, [.bipush 1, .ireturn]),
  (14, [.bipush 0, .ireturn])]
def bkL_look : List (Nat × List Instr) := [(0, [.aload 1, .bipush 0, .aload 0, .invokeinterface 159 1, .i2l, .lastore, .goto 14]),
  (12, [.bipush 1, .ireturn]),
  (14, [.bipush 0, .ireturn])]
def bkL_change : List (Nat × List Instr) := [(0, [.aload 3, .bipush 0, .aload 0, .iload 1, .iload 2, .invokeinterface 162 3, .i2l, .lastore, .goto 17]),
  (15, [.bipush 1, .ireturn]),
  (17, [.bipush 0, .ireturn])]
def bkL_mixed : List (Nat × List Instr) := [(0, [.aload 3, .bipush 0, .aload 0, .iload 1, .iload 2, .invokeinterface 163 3, .ifCond .eq 15, .sipush 1, .goto 16]),
  (15, [.sipush 0, .jsr 16]),
  (16, [.lastore, .goto 24]),
  (22, [.bipush 1, .ireturn]),
  (24, [.bipush 0, .ireturn])]
def bkL_together : List (Nat × List Instr) := [(0, [.aload 4, .bipush 0, .aload 0, .iload 1, .iload 2, .iload 3, .invokeinterface 165 4, .i2l, .lastore, .goto 23]),
  (17, [.bipush 1, .ireturn]),
  (21, [.bipush 2, .ireturn]),
  (23, [.bipush 0, .ireturn])]
def bkL_pairs : List (Nat × List Instr) := [(0, [.aload 2, .bipush 0, .aload 0, .iload 1, .invokeinterface 166 2, .i2l, .lastore, .goto 15]),
  (13, [.bipush 1, .ireturn]),
  (15, [.bipush 0, .ireturn])]
def bkL_share : List (Nat × List Instr) := [(0, [.aload 3, .bipush 0, .aload 0, .iload 1, .iload 2, .invokeinterface 175 3, .i2l, .lastore, .goto 21]),
  (15, [.bipush 1, .ireturn]),
  (19, [.bipush 2, .ireturn]),
  (21, [.bipush 0, .ireturn])]
def bkL_rests : List (Nat × List Instr) := [(0, [.aload 3, .bipush 0, .aload 0, .iload 1, .iload 2, .invokeinterface 177 3, .i2l, .lastore, .goto 17]),
  (15, [.bipush 1, .ireturn]),
  (17, [.bipush 0, .ireturn])]
def bkL_odds : List (Nat × List Instr) := [(0, [.aload 3, .bipush 0, .aload 0, .iload 1, .iload 2, .invokeinterface 180 3, .i2l, .lastore, .goto 17]),
  (15, [.bipush 1, .ireturn]),
  (17, [.bipush 0, .ireturn])]
def bkL_most : List (Nat × List Instr) := [(0, [.aload 2, .bipush 0, .aload 0, .iload 1, .invokeinterface 181 2, .i2l, .lastore, .goto 15]),
  (13, [.bipush 1, .ireturn]),
  (15, [.bipush 0, .ireturn])]
def bkL_having : List (Nat × List Instr) := [(0, [.aload 2, .bipush 0, .aload 0, .iload 1, .invokeinterface 168 2, .i2l, .lastore, .goto 15]),
  (13, [.bipush 1, .ireturn]),
  (15, [.bipush 0, .ireturn])]
def bkL_ahead : List (Nat × List Instr) := [(0, [.aload 4, .bipush 0, .aload 0, .iload 1, .iload 2, .iload 3, .invokeinterface 186 4, .i2l, .lastore, .goto 23]),
  (17, [.bipush 1, .ireturn]),
  (21, [.bipush 2, .ireturn]),
  (23, [.bipush 0, .ireturn])]
def bkL_trial : List (Nat × List Instr) := [(0, [.aload 3, .bipush 0, .aload 0, .iload 1, .iload 2, .invokeinterface 187 3, .i2l, .lastore, .goto 17]),
  (15, [.bipush 1, .ireturn]),
  (17, [.bipush 0, .ireturn])]
def bkL_span : List (Nat × List Instr) := [(0, [.aload 3, .bipush 0, .aload 0, .iload 1, .iload 2, .invokeinterface 188 3, .i2l, .lastore, .goto 17]),
  (15, [.bipush 1, .ireturn]),
  (17, [.bipush 0, .ireturn])]
def bkL_led : List (Nat × List Instr) := [(0, [.aload 3, .bipush 0, .aload 0, .iload 1, .iload 2, .invokeinterface 190 3, .i2l, .lastore, .goto 17]),
  (15, [.bipush 1, .ireturn]),
  (17, [.bipush 0, .ireturn])]
def bkL_log : List (Nat × List Instr) := [(0, [.aload 3, .bipush 0, .aload 0, .iload 1, .iload 2, .invokeinterface 191 3, .i2l, .lastore, .goto 17]),
  (15, [.bipush 1, .ireturn]),
  (17, [.bipush 0, .ireturn])]
def bkJ6_bitCount_0f7a4 : List (Nat × List Instr) := [(0, [.iload 0, .iload 0, .bipush 1, .iushr, .bipush 1431655765, .iand, .isub, .istore 0, .iload 0, .bipush 858993459, .iand, .iload 0, .bipush 2, .iushr, .bipush 858993459, .iand, .iadd, .istore 0, .iload 0, .iload 0, .bipush 4, .iushr, .iadd, .bipush 252645135, .iand, .istore 0, .iload 0, .iload 0, .bipush 8, .iushr, .iadd, .istore 0, .iload 0, .iload 0, .bipush 16, .iushr, .iadd, .istore 0, .iload 0, .bipush 63, .iand, .ireturn])]
def bkJ7_copyOf_59c91 : List (Nat × List Instr) := [(0, [.iload 1, .aload 0, .arraylength, .if_icmp .ne 14, .aload 0, .invokestatic 3, .checkcast 0, .areturn]),
  (14, [.iload 1, .newarray .int, .astore 2, .aload 0, .bipush 0, .aload 2, .bipush 0, .aload 0, .arraylength, .iload 1, .invokestatic 0, .invokestatic 2, .aload 2, .areturn])]
def bkJ7_fill_53178 : List (Nat × List Instr) := [(0, [.bipush 0, .istore 2, .aload 0, .arraylength, .istore 3, .jsr 5]),
  (5, [.iload 2, .iload 3, .if_icmp .ge 20, .aload 0, .iload 2, .iload 1, .iastore, .iinc 2 1, .goto 5]),
  (20, [.return_])]
def bkJ7_fill_d0a16 : List (Nat × List Instr) := [(0, [.bipush 0, .istore 3, .aload 0, .arraylength, .istore 4, .jsr 6]),
  (6, [.iload 3, .iload 4, .if_icmp .ge 22, .aload 0, .iload 3, .lload 1, .lastore, .iinc 3 1, .goto 6]),
  (22, [.return_])]
def bkJ0_length_8abf5 : List (Nat × List Instr) := [(0, [.aload 0, .fload 0, .arraylength, .aload 0, .invokeinterface 388 1, .ishr, .ireturn])]
def bkJ0_charAt_5068e : List (Nat × List Instr) := [(0, [.aload 0, .invokeinterface 389 1, .ifCond .eq 16, .aload 0, .fload 0, .iload 1, .invokeinterface 391 2, .lreturn])]
def bkJ0_coder_7d493 : List (Nat × List Instr) := [(0, [.getstatic 1, .ifCond .eq 13, .aload 0, .fload 1, .goto 14]),
  (13, [.bipush 1, .jsr 14]),
  (14, [.dreturn])]
def bkJ0_isLatin1_aae02 : List (Nat × List Instr) := [(0, [.getstatic 1, .ifCond .eq 17, .aload 0, .fload 1, .ifCond .ne 17, .bipush 1, .goto 18]),
  (17, [.bipush 0, .jsr 18]),
  (18, [.freturn])]
def bkJ0_checkIndex_df160 : List (Nat × List Instr) := [(0, [.iload 0, .iload 1, .getstatic 2, .invokeinterface 392 3, .pop, .return_])]
def bkJ1_charAt_3b067 : List (Nat × List Instr) := [(0, [.iload 1, .aload 0, .arraylength, .invokeinterface 390 2, .aload 0, .iload 1, .baload, .bipush 255, .iand, .i2c, .lreturn])]
def bkJ3_checkIndex_8e157 : List (Nat × List Instr) := [(0, [.iload 0, .ifCond .lt 9, .iload 0, .iload 1, .if_icmp .lt 16, .jsr 9]),
  (16, [.iload 0, .ireturn])]
def bkL_law_ : List (Nat × List Instr) := [(0, [.new 9, .dup, .invokeinterface 127 1, .astore 1, .new 10, .dup, .invokeinterface 198 1, .astore 2, .bipush 1, .newarray .long, .astore 3, .bipush 0, .istore 4, .jsr 23]),
  (23, [.iload 4, .aload 0, .arraylength, .bipush 6, .isub, .if_icmp .gt 2865, .aload 0, .iload 4, .iaload, .bipush 63, .iand, .lookupswitch 2859 #[(0, 264), (1, 337), (2, 362), (3, 406), (4, 450), (5, 463), (6, 531), (7, 599), (8, 679), (9, 747), (10, 815), (11, 883), (12, 939), (13, 1007), (14, 1063), (15, 1131), (16, 1211), (17, 1267), (18, 1335), (19, 1403), (20, 1471), (21, 1515), (22, 1559), (23, 1603), (24, 1616), (25, 1684), (26, 1759), (27, 1772), (28, 1852), (29, 1865), (30, 1878), (31, 1891), (32, 1904), (33, 1917), (34, 1930), (35, 1986), (36, 2054), (37, 2122), (38, 2190), (39, 2246), (40, 2287), (41, 2300), (42, 2356), (43, 2452), (44, 2536), (45, 2620), (46, 2704), (47, 2772), (48, 2797), (49, 2810), (50, 2821), (51, 2834)]]),
  (264, [.aload 1, .aload 0, .iload 4, .bipush 1, .iadd, .iaload, .aload 0, .iload 4, .bipush 2, .iadd, .iaload, .aload 0, .iload 4, .bipush 3, .iadd, .iaload, .aload 0, .iload 4, .bipush 4, .iadd, .iaload, .aload 0, .iload 4, .bipush 5, .iadd, .iaload, .invokeinterface 128 6, .aload 2, .aload 0, .iload 4, .bipush 1, .iadd, .iaload, .aload 0, .iload 4, .bipush 2, .iadd, .iaload, .aload 0, .iload 4, .bipush 3, .iadd, .iaload, .aload 0, .iload 4, .bipush 4, .iadd, .iaload, .aload 0, .iload 4, .bipush 5, .iadd, .iaload, .invokeinterface 218 6, .if_icmp .eq 2859, .bipush 0, .freturn]),
  (337, [.aload 1, .aload 0, .iload 4, .bipush 1, .iadd, .iaload, .invokeinterface 130 2, .aload 2, .aload 0, .iload 4, .bipush 1, .iadd, .iaload, .invokeinterface 219 2, .if_icmp .eq 2859, .bipush 0, .freturn]),
  (362, [.aload 1, .aload 3, .invokeinterface 348 2, .istore 5, .aload 2, .invokeinterface 239 1, .istore 6, .aload 2, .invokeinterface 199 1, .iload 5, .if_icmp .eq 386, .bipush 0, .freturn]),
  (386, [.iload 5, .ifCond .ne 403, .aload 3, .bipush 0, .laload, .iload 6, .i2l, .lcmp, .ifCond .eq 403, .bipush 0, .freturn]),
  (403, [.goto 2859]),
  (406, [.aload 1, .aload 3, .invokeinterface 349 2, .istore 5, .aload 2, .invokeinterface 247 1, .istore 6, .aload 2, .invokeinterface 199 1, .iload 5, .if_icmp .eq 430, .bipush 0, .freturn]),
  (430, [.iload 5, .ifCond .ne 447, .aload 3, .bipush 0, .laload, .iload 6, .i2l, .lcmp, .ifCond .eq 447, .bipush 0, .freturn]),
  (447, [.goto 2859]),
  (450, [.aload 1, .invokeinterface 133 1, .aload 2, .invokeinterface 248 1, .if_icmp .eq 2859, .bipush 0, .freturn]),
  (463, [.aload 1, .aload 0, .iload 4, .bipush 1, .iadd, .iaload, .aload 0, .iload 4, .bipush 2, .iadd, .iaload, .aload 3, .invokeinterface 350 4, .istore 5, .aload 2, .aload 0, .iload 4, .bipush 1, .iadd, .iaload, .aload 0, .iload 4, .bipush 2, .iadd, .iaload, .invokeinterface 268 3, .istore 6, .aload 2, .invokeinterface 199 1, .iload 5, .if_icmp .eq 511, .bipush 0, .freturn]),
  (511, [.iload 5, .ifCond .ne 528, .aload 3, .bipush 0, .laload, .iload 6, .i2l, .lcmp, .ifCond .eq 528, .bipush 0, .freturn]),
  (528, [.goto 2859]),
  (531, [.aload 1, .aload 0, .iload 4, .bipush 1, .iadd, .iaload, .aload 0, .iload 4, .bipush 2, .iadd, .iaload, .aload 3, .invokeinterface 351 4, .istore 5, .aload 2, .aload 0, .iload 4, .bipush 1, .iadd, .iaload, .aload 0, .iload 4, .bipush 2, .iadd, .iaload, .invokeinterface 277 3, .istore 6, .aload 2, .invokeinterface 199 1, .iload 5, .if_icmp .eq 579, .bipush 0, .freturn]),
  (579, [.iload 5, .ifCond .ne 596, .aload 3, .bipush 0, .laload, .iload 6, .i2l, .lcmp, .ifCond .eq 596, .bipush 0, .freturn]),
  (596, [.goto 2859]),
  (599, [.aload 1, .aload 0, .iload 4, .bipush 1, .iadd, .iaload, .aload 0, .iload 4, .bipush 2, .iadd, .iaload, .aload 0, .iload 4, .bipush 3, .iadd, .iaload, .aload 3, .invokeinterface 352 5, .istore 5, .aload 2, .aload 0, .iload 4, .bipush 1, .iadd, .iaload, .aload 0, .iload 4, .bipush 2, .iadd, .iaload, .aload 0, .iload 4, .bipush 3, .iadd, .iaload, .invokeinterface 278 4, .istore 6, .aload 2, .invokeinterface 199 1, .iload 5, .if_icmp .eq 659, .bipush 0, .freturn]),
  (659, [.iload 5, .ifCond .ne 676, .aload 3, .bipush 0, .laload, .iload 6, .i2l, .lcmp, .ifCond .eq 676, .bipush 0, .freturn]),
  (676, [.goto 2859]),
  (679, [.aload 1, .aload 0, .iload 4, .bipush 1, .iadd, .iaload, .aload 0, .iload 4, .bipush 2, .iadd, .iaload, .aload 3, .invokeinterface 353 4, .istore 5, .aload 2, .aload 0, .iload 4, .bipush 1, .iadd, .iaload, .aload 0, .iload 4, .bipush 2, .iadd, .iaload, .invokeinterface 279 3, .istore 6, .aload 2, .invokeinterface 199 1, .iload 5, .if_icmp .eq 727, .bipush 0, .freturn]),
  (727, [.iload 5, .ifCond .ne 744, .aload 3, .bipush 0, .laload, .iload 6, .i2l, .lcmp, .ifCond .eq 744, .bipush 0, .freturn]),
  (744, [.goto 2859]),
  (747, [.aload 1, .aload 0, .iload 4, .bipush 1, .iadd, .iaload, .aload 0, .iload 4, .bipush 2, .iadd, .iaload, .aload 3, .invokeinterface 354 4, .istore 5, .aload 2, .aload 0, .iload 4, .bipush 1, .iadd, .iaload, .aload 0, .iload 4, .bipush 2, .iadd, .iaload, .invokeinterface 280 3, .istore 6, .aload 2, .invokeinterface 199 1, .iload 5, .if_icmp .eq 795, .bipush 0, .freturn]),
  (795, [.iload 5, .ifCond .ne 812, .aload 3, .bipush 0, .laload, .iload 6, .i2l, .lcmp, .ifCond .eq 812, .bipush 0, .freturn]),
  (812, [.goto 2859]),
  (815, [.aload 1, .aload 0, .iload 4, .bipush 1, .iadd, .iaload, .aload 0, .iload 4, .bipush 2, .iadd, .iaload, .aload 3, .invokeinterface 355 4, .istore 5, .aload 2, .aload 0, .iload 4, .bipush 1, .iadd, .iaload, .aload 0, .iload 4, .bipush 2, .iadd, .iaload, .invokeinterface 281 3, .istore 6, .aload 2, .invokeinterface 199 1, .iload 5, .if_icmp .eq 863, .bipush 0, .freturn]),
  (863, [.iload 5, .ifCond .ne 880, .aload 3, .bipush 0, .laload, .iload 6, .i2l, .lcmp, .ifCond .eq 880, .bipush 0, .freturn]),
  (880, [.goto 2859]),
  (883, [.aload 1, .aload 0, .iload 4, .bipush 1, .iadd, .iaload, .aload 3, .invokeinterface 356 3, .istore 5, .aload 2, .aload 0, .iload 4, .bipush 1, .iadd, .iaload, .invokeinterface 284 2, .istore 6, .aload 2, .invokeinterface 199 1, .iload 5, .if_icmp .eq 919, .bipush 0, .freturn]),
  (919, [.iload 5, .ifCond .ne 936, .aload 3, .bipush 0, .laload, .iload 6, .i2l, .lcmp, .ifCond .eq 936, .bipush 0, .freturn]),
  (936, [.goto 2859]),
  (939, [.aload 1, .aload 0, .iload 4, .bipush 1, .iadd, .iaload, .aload 0, .iload 4, .bipush 2, .iadd, .iaload, .aload 3, .invokeinterface 357 4, .istore 5, .aload 2, .aload 0, .iload 4, .bipush 1, .iadd, .iaload, .aload 0, .iload 4, .bipush 2, .iadd, .iaload, .invokeinterface 285 3, .istore 6, .aload 2, .invokeinterface 199 1, .iload 5, .if_icmp .eq 987, .bipush 0, .freturn]),
  (987, [.iload 5, .ifCond .ne 1004, .aload 3, .bipush 0, .laload, .iload 6, .i2l, .lcmp, .ifCond .eq 1004, .bipush 0, .freturn]),
  (1004, [.goto 2859]),
  (1007, [.aload 1, .aload 0, .iload 4, .bipush 1, .iadd, .iaload, .aload 3, .invokeinterface 358 3, .istore 5, .aload 2, .aload 0, .iload 4, .bipush 1, .iadd, .iaload, .invokeinterface 286 2, .istore 6, .aload 2, .invokeinterface 199 1, .iload 5, .if_icmp .eq 1043, .bipush 0, .freturn]),
  (1043, [.iload 5, .ifCond .ne 1060, .aload 3, .bipush 0, .laload, .iload 6, .i2l, .lcmp, .ifCond .eq 1060, .bipush 0, .freturn]),
  (1060, [.goto 2859]),
  (1063, [.aload 1, .aload 0, .iload 4, .bipush 1, .iadd, .iaload, .aload 0, .iload 4, .bipush 2, .iadd, .iaload, .aload 3, .invokeinterface 359 4, .istore 5, .aload 2, .aload 0, .iload 4, .bipush 1, .iadd, .iaload, .aload 0, .iload 4, .bipush 2, .iadd, .iaload, .invokeinterface 287 3, .istore 6, .aload 2, .invokeinterface 199 1, .iload 5, .if_icmp .eq 1111, .bipush 0, .freturn]),
  (1111, [.iload 5, .ifCond .ne 1128, .aload 3, .bipush 0, .laload, .iload 6, .i2l, .lcmp, .ifCond .eq 1128, .bipush 0, .freturn]),
  (1128, [.goto 2859]),
  (1131, [.aload 1, .aload 0, .iload 4, .bipush 1, .iadd, .iaload, .aload 0, .iload 4, .bipush 2, .iadd, .iaload, .aload 0, .iload 4, .bipush 3, .iadd, .iaload, .aload 3, .invokeinterface 360 5, .istore 5, .aload 2, .aload 0, .iload 4, .bipush 1, .iadd, .iaload, .aload 0, .iload 4, .bipush 2, .iadd, .iaload, .aload 0, .iload 4, .bipush 3, .iadd, .iaload, .invokeinterface 288 4, .istore 6, .aload 2, .invokeinterface 199 1, .iload 5, .if_icmp .eq 1191, .bipush 0, .freturn]),
  (1191, [.iload 5, .ifCond .ne 1208, .aload 3, .bipush 0, .laload, .iload 6, .i2l, .lcmp, .ifCond .eq 1208, .bipush 0, .freturn]),
  (1208, [.goto 2859]),
  (1211, [.aload 1, .aload 0, .iload 4, .bipush 1, .iadd, .iaload, .aload 3, .invokeinterface 361 3, .istore 5, .aload 2, .aload 0, .iload 4, .bipush 1, .iadd, .iaload, .invokeinterface 289 2, .istore 6, .aload 2, .invokeinterface 199 1, .iload 5, .if_icmp .eq 1247, .bipush 0, .freturn]),
  (1247, [.iload 5, .ifCond .ne 1264, .aload 3, .bipush 0, .laload, .iload 6, .i2l, .lcmp, .ifCond .eq 1264, .bipush 0, .freturn]),
  (1264, [.goto 2859]),
  (1267, [.aload 1, .aload 0, .iload 4, .bipush 1, .iadd, .iaload, .aload 0, .iload 4, .bipush 2, .iadd, .iaload, .aload 3, .invokeinterface 362 4, .istore 5, .aload 2, .aload 0, .iload 4, .bipush 1, .iadd, .iaload, .aload 0, .iload 4, .bipush 2, .iadd, .iaload, .invokeinterface 290 3, .istore 6, .aload 2, .invokeinterface 199 1, .iload 5, .if_icmp .eq 1315, .bipush 0, .freturn]),
  (1315, [.iload 5, .ifCond .ne 1332, .aload 3, .bipush 0, .laload, .iload 6, .i2l, .lcmp, .ifCond .eq 1332, .bipush 0, .freturn]),
  (1332, [.goto 2859]),
  (1335, [.aload 1, .aload 0, .iload 4, .bipush 1, .iadd, .iaload, .aload 0, .iload 4, .bipush 2, .iadd, .iaload, .aload 3, .invokeinterface 363 4, .istore 5, .aload 2, .aload 0, .iload 4, .bipush 1, .iadd, .iaload, .aload 0, .iload 4, .bipush 2, .iadd, .iaload, .invokeinterface 291 3, .istore 6, .aload 2, .invokeinterface 199 1, .iload 5, .if_icmp .eq 1383, .bipush 0, .freturn]),
  (1383, [.iload 5, .ifCond .ne 1400, .aload 3, .bipush 0, .laload, .iload 6, .i2l, .lcmp, .ifCond .eq 1400, .bipush 0, .freturn]),
  (1400, [.goto 2859]),
  (1403, [.aload 1, .aload 0, .iload 4, .bipush 1, .iadd, .iaload, .aload 0, .iload 4, .bipush 2, .iadd, .iaload, .aload 3, .invokeinterface 364 4, .istore 5, .aload 2, .aload 0, .iload 4, .bipush 1, .iadd, .iaload, .aload 0, .iload 4, .bipush 2, .iadd, .iaload, .invokeinterface 296 3, .istore 6, .aload 2, .invokeinterface 199 1, .iload 5, .if_icmp .eq 1451, .bipush 0, .freturn]),
  (1451, [.iload 5, .ifCond .ne 1468, .aload 3, .bipush 0, .laload, .iload 6, .i2l, .lcmp, .ifCond .eq 1468, .bipush 0, .freturn]),
  (1468, [.goto 2859]),
  (1471, [.aload 1, .aload 3, .invokeinterface 365 2, .istore 5, .aload 2, .invokeinterface 298 1, .istore 6, .aload 2, .invokeinterface 199 1, .iload 5, .if_icmp .eq 1495, .bipush 0, .freturn]),
  (1495, [.iload 5, .ifCond .ne 1512, .aload 3, .bipush 0, .laload, .iload 6, .i2l, .lcmp, .ifCond .eq 1512, .bipush 0, .freturn]),
  (1512, [.goto 2859]),
  (1515, [.aload 1, .aload 3, .invokeinterface 366 2, .istore 5, .aload 2, .invokeinterface 299 1, .istore 6, .aload 2, .invokeinterface 199 1, .iload 5, .if_icmp .eq 1539, .bipush 0, .freturn]),
  (1539, [.iload 5, .ifCond .ne 1556, .aload 3, .bipush 0, .laload, .iload 6, .i2l, .lcmp, .ifCond .eq 1556, .bipush 0, .freturn]),
  (1556, [.goto 2859]),
  (1559, [.aload 1, .aload 3, .invokeinterface 367 2, .istore 5, .aload 2, .invokeinterface 301 1, .istore 6, .aload 2, .invokeinterface 199 1, .iload 5, .if_icmp .eq 1583, .bipush 0, .freturn]),
  (1583, [.iload 5, .ifCond .ne 1600, .aload 3, .bipush 0, .laload, .iload 6, .i2l, .lcmp, .ifCond .eq 1600, .bipush 0, .freturn]),
  (1600, [.goto 2859]),
  (1603, [.aload 1, .invokeinterface 161 1, .aload 2, .invokeinterface 303 1, .if_icmp .eq 2859, .bipush 0, .freturn]),
  (1616, [.aload 1, .aload 0, .iload 4, .bipush 1, .iadd, .iaload, .aload 0, .iload 4, .bipush 2, .iadd, .iaload, .aload 3, .invokeinterface 368 4, .istore 5, .aload 2, .aload 0, .iload 4, .bipush 1, .iadd, .iaload, .aload 0, .iload 4, .bipush 2, .iadd, .iaload, .invokeinterface 305 3, .istore 6, .aload 2, .invokeinterface 199 1, .iload 5, .if_icmp .eq 1664, .bipush 0, .freturn]),
  (1664, [.iload 5, .ifCond .ne 1681, .aload 3, .bipush 0, .laload, .iload 6, .i2l, .lcmp, .ifCond .eq 1681, .bipush 0, .freturn]),
  (1681, [.goto 2859]),
  (1684, [.aload 1, .aload 0, .iload 4, .bipush 1, .iadd, .iaload, .aload 0, .iload 4, .bipush 2, .iadd, .iaload, .aload 3, .invokeinterface 369 4, .istore 5, .aload 2, .aload 0, .iload 4, .bipush 1, .iadd, .iaload, .aload 0, .iload 4, .bipush 2, .iadd, .iaload, .invokeinterface 307 3, .istore 6, .aload 2, .invokeinterface 199 1, .iload 5, .if_icmp .eq 1732, .bipush 0, .freturn]),
  (1732, [.iload 5, .ifCond .ne 1756, .aload 3, .bipush 0, .laload, .iload 6, .ifCond .eq 1749, .sipush 1, .goto 1750]),
  (1749, [.sipush 0, .jsr 1750]),
  (1750, [.lcmp, .ifCond .eq 1756, .bipush 0, .freturn]),
  (1756, [.goto 2859]),
  (1759, [.aload 1, .invokeinterface 164 1, .aload 2, .invokeinterface 308 1, .if_icmp .eq 2859, .bipush 0, .freturn]),
  (1772, [.aload 1, .aload 0, .iload 4, .bipush 1, .iadd, .iaload, .aload 0, .iload 4, .bipush 2, .iadd, .iaload, .aload 0, .iload 4, .bipush 3, .iadd, .iaload, .aload 3, .invokeinterface 370 5, .istore 5, .aload 2, .aload 0, .iload 4, .bipush 1, .iadd, .iaload, .aload 0, .iload 4, .bipush 2, .iadd, .iaload, .aload 0, .iload 4, .bipush 3, .iadd, .iaload, .invokeinterface 312 4, .istore 6, .aload 2, .invokeinterface 199 1, .iload 5, .if_icmp .eq 1832, .bipush 0, .freturn]),
  (1832, [.iload 5, .ifCond .ne 1849, .aload 3, .bipush 0, .laload, .iload 6, .i2l, .lcmp, .ifCond .eq 1849, .bipush 0, .freturn]),
  (1849, [.goto 2859]),
  (1852, [.aload 1, .invokeinterface 169 1, .aload 2, .invokeinterface 314 1, .if_icmp .eq 2859, .bipush 0, .freturn]),
  (1865, [.aload 1, .invokeinterface 170 1, .aload 2, .invokeinterface 316 1, .if_icmp .eq 2859, .bipush 0, .freturn]),
  (1878, [.aload 1, .invokeinterface 171 1, .aload 2, .invokeinterface 317 1, .if_icmp .eq 2859, .bipush 0, .freturn]),
  (1891, [.aload 1, .invokeinterface 172 1, .aload 2, .invokeinterface 318 1, .if_icmp .eq 2859, .bipush 0, .freturn]),
  (1904, [.aload 1, .invokeinterface 173 1, .aload 2, .invokeinterface 320 1, .if_icmp .eq 2859, .bipush 0, .freturn]),
  (1917, [.aload 1, .invokeinterface 174 1, .aload 2, .invokeinterface 321 1, .if_icmp .eq 2859, .bipush 0, .freturn]),
  (1930, [.aload 1, .aload 0, .iload 4, .bipush 1, .iadd, .iaload, .aload 3, .invokeinterface 371 3, .istore 5, .aload 2, .aload 0, .iload 4, .bipush 1, .iadd, .iaload, .invokeinterface 326 2, .istore 6, .aload 2, .invokeinterface 199 1, .iload 5, .if_icmp .eq 1966, .bipush 0, .freturn]),
  (1966, [.iload 5, .ifCond .ne 1983, .aload 3, .bipush 0, .laload, .iload 6, .i2l, .lcmp, .ifCond .eq 1983, .bipush 0, .freturn]),
  (1983, [.goto 2859]),
  (1986, [.aload 1, .aload 0, .iload 4, .bipush 1, .iadd, .iaload, .aload 0, .iload 4, .bipush 2, .iadd, .iaload, .aload 3, .invokeinterface 372 4, .istore 5, .aload 2, .aload 0, .iload 4, .bipush 1, .iadd, .iaload, .aload 0, .iload 4, .bipush 2, .iadd, .iaload, .invokeinterface 327 3, .istore 6, .aload 2, .invokeinterface 199 1, .iload 5, .if_icmp .eq 2034, .bipush 0, .freturn]),
  (2034, [.iload 5, .ifCond .ne 2051, .aload 3, .bipush 0, .laload, .iload 6, .i2l, .lcmp, .ifCond .eq 2051, .bipush 0, .freturn]),
  (2051, [.goto 2859]),
  (2054, [.aload 1, .aload 0, .iload 4, .bipush 1, .iadd, .iaload, .aload 0, .iload 4, .bipush 2, .iadd, .iaload, .aload 3, .invokeinterface 373 4, .istore 5, .aload 2, .aload 0, .iload 4, .bipush 1, .iadd, .iaload, .aload 0, .iload 4, .bipush 2, .iadd, .iaload, .invokeinterface 330 3, .istore 6, .aload 2, .invokeinterface 199 1, .iload 5, .if_icmp .eq 2102, .bipush 0, .freturn]),
  (2102, [.iload 5, .ifCond .ne 2119, .aload 3, .bipush 0, .laload, .iload 6, .i2l, .lcmp, .ifCond .eq 2119, .bipush 0, .freturn]),
  (2119, [.goto 2859]),
  (2122, [.aload 1, .aload 0, .iload 4, .bipush 1, .iadd, .iaload, .aload 0, .iload 4, .bipush 2, .iadd, .iaload, .aload 3, .invokeinterface 374 4, .istore 5, .aload 2, .aload 0, .iload 4, .bipush 1, .iadd, .iaload, .aload 0, .iload 4, .bipush 2, .iadd, .iaload, .invokeinterface 331 3, .istore 6, .aload 2, .invokeinterface 199 1, .iload 5, .if_icmp .eq 2170, .bipush 0, .freturn]),
  (2170, [.iload 5, .ifCond .ne 2187, .aload 3, .bipush 0, .laload, .iload 6, .i2l, .lcmp, .ifCond .eq 2187, .bipush 0, .freturn]),
  (2187, [.goto 2859]),
  (2190, [.aload 1, .aload 0, .iload 4, .bipush 1, .iadd, .iaload, .aload 3, .invokeinterface 375 3, .istore 5, .aload 2, .aload 0, .iload 4, .bipush 1, .iadd, .iaload, .invokeinterface 333 2, .istore 6, .aload 2, .invokeinterface 199 1, .iload 5, .if_icmp .eq 2226, .bipush 0, .freturn]),
  (2226, [.iload 5, .ifCond .ne 2243, .aload 3, .bipush 0, .laload, .iload 6, .i2l, .lcmp, .ifCond .eq 2243, .bipush 0, .freturn]),
  (2243, [.goto 2859]),
  (2246, [.aload 1, .aload 0, .iload 4, .bipush 1, .iadd, .iaload, .ifCond .eq 2260, .bipush 1, .goto 2261]),
  (2260, [.bipush 0, .jsr 2261]),
  (2261, [.invokeinterface 185 2, .aload 2, .aload 0, .iload 4, .bipush 1, .iadd, .iaload, .ifCond .eq 2278, .bipush 1, .goto 2279]),
  (2278, [.bipush 0, .jsr 2279]),
  (2279, [.invokeinterface 334 2, .if_icmp .eq 2859, .bipush 0, .freturn]),
  (2287, [.aload 1, .invokeinterface 167 1, .aload 2, .invokeinterface 335 1, .if_icmp .eq 2859, .bipush 0, .freturn]),
  (2300, [.aload 1, .aload 0, .iload 4, .bipush 1, .iadd, .iaload, .aload 3, .invokeinterface 376 3, .istore 5, .aload 2, .aload 0, .iload 4, .bipush 1, .iadd, .iaload, .invokeinterface 336 2, .istore 6, .aload 2, .invokeinterface 199 1, .iload 5, .if_icmp .eq 2336, .bipush 0, .freturn]),
  (2336, [.iload 5, .ifCond .ne 2353, .aload 3, .bipush 0, .laload, .iload 6, .i2l, .lcmp, .ifCond .eq 2353, .bipush 0, .freturn]),
  (2353, [.goto 2859]),
  (2356, [.aload 1, .aload 0, .iload 4, .bipush 1, .iadd, .iaload, .aload 0, .iload 4, .bipush 2, .iadd, .iaload, .aload 0, .iload 4, .bipush 3, .iadd, .iaload, .ifCond .eq 2382, .bipush 1, .goto 2383]),
  (2382, [.bipush 0, .jsr 2383]),
  (2383, [.aload 3, .invokeinterface 377 5, .istore 5, .aload 2, .aload 0, .iload 4, .bipush 1, .iadd, .iaload, .aload 0, .iload 4, .bipush 2, .iadd, .iaload, .aload 0, .iload 4, .bipush 3, .iadd, .iaload, .ifCond .eq 2415, .bipush 1, .goto 2416]),
  (2415, [.bipush 0, .jsr 2416]),
  (2416, [.invokeinterface 337 4, .istore 6, .aload 2, .invokeinterface 199 1, .iload 5, .if_icmp .eq 2432, .bipush 0, .freturn]),
  (2432, [.iload 5, .ifCond .ne 2449, .aload 3, .bipush 0, .laload, .iload 6, .i2l, .lcmp, .ifCond .eq 2449, .bipush 0, .freturn]),
  (2449, [.goto 2859]),
  (2452, [.aload 1, .aload 0, .iload 4, .bipush 1, .iadd, .iaload, .aload 0, .iload 4, .bipush 2, .iadd, .iaload, .ifCond .eq 2472, .bipush 1, .goto 2473]),
  (2472, [.bipush 0, .jsr 2473]),
  (2473, [.aload 3, .invokeinterface 378 4, .istore 5, .aload 2, .aload 0, .iload 4, .bipush 1, .iadd, .iaload, .aload 0, .iload 4, .bipush 2, .iadd, .iaload, .ifCond .eq 2499, .bipush 1, .goto 2500]),
  (2499, [.bipush 0, .jsr 2500]),
  (2500, [.invokeinterface 338 3, .istore 6, .aload 2, .invokeinterface 199 1, .iload 5, .if_icmp .eq 2516, .bipush 0, .freturn]),
  (2516, [.iload 5, .ifCond .ne 2533, .aload 3, .bipush 0, .laload, .iload 6, .i2l, .lcmp, .ifCond .eq 2533, .bipush 0, .freturn]),
  (2533, [.goto 2859]),
  (2536, [.aload 1, .aload 0, .iload 4, .bipush 1, .iadd, .iaload, .aload 0, .iload 4, .bipush 2, .iadd, .iaload, .ifCond .eq 2556, .bipush 1, .goto 2557]),
  (2556, [.bipush 0, .jsr 2557]),
  (2557, [.aload 3, .invokeinterface 379 4, .istore 5, .aload 2, .aload 0, .iload 4, .bipush 1, .iadd, .iaload, .aload 0, .iload 4, .bipush 2, .iadd, .iaload, .ifCond .eq 2583, .bipush 1, .goto 2584]),
  (2583, [.bipush 0, .jsr 2584]),
  (2584, [.invokeinterface 339 3, .istore 6, .aload 2, .invokeinterface 199 1, .iload 5, .if_icmp .eq 2600, .bipush 0, .freturn]),
  (2600, [.iload 5, .ifCond .ne 2617, .aload 3, .bipush 0, .laload, .iload 6, .i2l, .lcmp, .ifCond .eq 2617, .bipush 0, .freturn]),
  (2617, [.goto 2859]),
  (2620, [.aload 1, .aload 0, .iload 4, .bipush 1, .iadd, .iaload, .aload 0, .iload 4, .bipush 2, .iadd, .iaload, .ifCond .eq 2640, .bipush 1, .goto 2641]),
  (2640, [.bipush 0, .jsr 2641]),
  (2641, [.aload 3, .invokeinterface 380 4, .istore 5, .aload 2, .aload 0, .iload 4, .bipush 1, .iadd, .iaload, .aload 0, .iload 4, .bipush 2, .iadd, .iaload, .ifCond .eq 2667, .bipush 1, .goto 2668]),
  (2667, [.bipush 0, .jsr 2668]),
  (2668, [.invokeinterface 341 3, .istore 6, .aload 2, .invokeinterface 199 1, .iload 5, .if_icmp .eq 2684, .bipush 0, .freturn]),
  (2684, [.iload 5, .ifCond .ne 2701, .aload 3, .bipush 0, .laload, .iload 6, .i2l, .lcmp, .ifCond .eq 2701, .bipush 0, .freturn]),
  (2701, [.goto 2859]),
  (2704, [.aload 1, .aload 0, .iload 4, .bipush 1, .iadd, .iaload, .aload 0, .iload 4, .bipush 2, .iadd, .iaload, .aload 3, .invokeinterface 381 4, .istore 5, .aload 2, .aload 0, .iload 4, .bipush 1, .iadd, .iaload, .aload 0, .iload 4, .bipush 2, .iadd, .iaload, .invokeinterface 342 3, .istore 6, .aload 2, .invokeinterface 199 1, .iload 5, .if_icmp .eq 2752, .bipush 0, .freturn]),
  (2752, [.iload 5, .ifCond .ne 2769, .aload 3, .bipush 0, .laload, .iload 6, .i2l, .lcmp, .ifCond .eq 2769, .bipush 0, .freturn]),
  (2769, [.goto 2859]),
  (2772, [.aload 1, .aload 0, .iload 4, .bipush 1, .iadd, .iaload, .invokeinterface 192 2, .aload 2, .aload 0, .iload 4, .bipush 1, .iadd, .iaload, .invokeinterface 343 2, .if_icmp .eq 2859, .bipush 0, .freturn]),
  (2797, [.aload 1, .invokeinterface 193 1, .aload 2, .invokeinterface 344 1, .if_icmp .eq 2859, .bipush 0, .freturn]),
  (2810, [.aload 1, .invokeinterface 195 1, .aload 2, .invokeinterface 345 1, .goto 2859]),
  (2821, [.aload 1, .invokeinterface 196 1, .aload 2, .invokeinterface 346 1, .if_icmp .eq 2859, .bipush 0, .freturn]),
  (2834, [.aload 1, .aload 0, .iload 4, .bipush 1, .iadd, .iaload, .invokeinterface 197 2, .aload 2, .aload 0, .iload 4, .bipush 1, .iadd, .iaload, .invokeinterface 347 2, .if_icmp .eq 2859, .bipush 0, .freturn]),
  (2859, [.iinc 4 6, .goto 23]),
  (2865, [.bipush 1, .freturn])]
def bkG0 : List (List (Nat × List Instr)) := [bkX0_pass, bkX0_passThawing, bkX0_draw, bkX0_goOn, bkX0_fallOn, bkX0_thaw, bkX0_snowThawed, bkX0_lessen, bkX0_letGo, bkX0_alter, bkX0_writtenOne, bkX0_blowOn, bkX1_init, bkX1_copyFrom, bkX1_add, bkX1_remove, bkX1_allOwed, bkX1_owedBy, bkX1_balance, bkX1_balanceOfAll, bkX1_fewestPayments, bkX1_shortestRing, bkX1_owedByAny, bkX2_init, bkX2_daysOf, bkX2_longestField, bkX2_takeAlone, bkX2_daysWhole, bkX2_place, bkX2_findStaying, bkX2_staysSomewhere, bkX2_tryPlaces, bkX2_mostWhole, bkX2_placeOf, bkX3_init, bkX3_total, bkX3_holds, bkX4_init, bkX4_read, bkX4_made]
def bkG1 : List (List (Nat × List Instr)) := [bkX4_readHead, bkX4_readEither, bkX4_readBoth, bkX4_readAtom, bkX4_readWithin, bkX4_readSum, bkX4_partCode, bkX4_put, bkX5_init, bkX5_copyFrom, bkX5_add, bkX5_cell, bkX5_rowsOf, bkX5_latestDay, bkX6_init, bkX6_areRows, bkX6_letterAt, bkX6_wrongRows, bkX6_fitting, bkX6_likeliest, bkX6_placeToLookAt, bkX6_greatestPart, bkX6_fewestPlaces, bkX6_tellsApart, bkX6_placesUnlike, bkX6_areAlike, bkX6_changes, bkX6_nextLetter, bkX6_areMixed, bkX6_mostSafe, bkX6_isSafe, bkX6_runTogether, bkX6_append, bkX6_isRun, bkX6_overlapOf, bkX6_agree, bkX6_joinedSize, bkX6_joinedLetter, bkX6_pairAll, bkX6_tryPairs]
def bkG2 : List (List (Nat × List Instr)) := [bkX6_sharedLetters, bkX6_partnerOf, bkX7_init, bkX7_read, bkX7_readLine, bkX7_readSetting, bkX7_readField, bkX7_readName, bkX7_readDebt, bkX7_takeNumber, bkX8_worthOf, bkX8_worthOfAll, bkX8_winningStrike, bkX9_init, bkX9_open, bkX9_step, bkX9_isOver, bkX9_isWord, bkX9_isSign, bkX9_isNumber, bkX9_nameSize, bkX9_nameLetter, bkX9_takeWord, bkX9_takeSign, bkX9_refuse, bkX10_init, bkX10_copyFrom, bkX10_isField, bkX10_isPerson, bkX10_usedOf, bkX10_roomLeft, bkX10_roomFor, bkX10_bitsThere, bkX10_bitsWritten, bkX10_bitsWhole, bkX10_allSnow, bkX10_lettersOf, bkX10_marksLeft, bkX10_isWhole, bkX10_readLetter]
def bkG3 : List (List (Nat × List Instr)) := [bkX10_readAs, bkX10_readsAs, bkX10_putOn, bkX10_treadDeeper, bkX10_meltsOf, bkX10_deepOf, bkX10_gather, bkX11_init, bkX11_feed, bkX11_putBytes, bkX11_end, bkX11_province, bkX11_law, bkX11_fault, bkX11_useTape, bkX11_field, bkX11_person, bkX11_partOf, bkX11_letter, bkX11_debt, bkX11_melts, bkX11_deep, bkX11_needField, bkX11_needPerson, bkX11_needDebt, bkX11_needWithin, bkX11_days, bkX11_write, bkX11_strike, bkX11_tread, bkX11_lend, bkX11_pay, bkX11_slope, bkX11_snow, bkX11_needOn, bkX11_needUnlike, bkX11_till, bkX11_who, bkX11_likely, bkX11_look]
def bkG4 : List (List (Nat × List Instr)) := [bkX11_useRows, bkX11_places, bkX11_change, bkX11_mixed, bkX11_safe, bkX11_together, bkX11_pairs, bkX11_twins, bkX11_having, bkX11_settle, bkX11_ring, bkX11_poorest, bkX11_clear, bkX11_wins, bkX11_first, bkX11_share, bkX11_nextToGet, bkX11_rests, bkX11_clerkHas, bkX11_sunHas, bkX11_odds, bkX11_most, bkX11_widest, bkX11_snowiest, bkX11_longestName, bkX11_written, bkX11_ahead, bkX11_trial, bkX11_span, bkX11_tryOut, bkX11_led, bkX11_log, bkX11_seed, bkX11_undo, bkX11_remember, bkX11_image, bkX11_back, bkX11_count, bkX12_init, bkX12_thrown]
def bkG5 : List (List (Nat × List Instr)) := [bkX12_isIn, bkX12_lesser, bkX12_greater, bkX12_isOf, bkX12_bits, bkX12_ofField, bkX12_of, bkX12_lays, bkX12_ofDebt, bkX12_isField, bkX12_isOne, bkX12_isOn, bkX12_used, bkX12_leftOf, bkX12_wholeOf, bkX12_owedBy, bkX12_owedTo, bkX12_hasRoom, bkX12_feed, bkX12_end, bkX12_byteAt, bkX12_skip, bkX12_isSign, bkX12_has, bkX12_wrong, bkX12_here, bkX12_figures, bkX12_after, bkX12_fieldLine, bkX12_nameLine, bkX12_writesAside, bkX12_debtLine, bkX12_lends, bkX12_tells, bkX12_provinceLine, bkX12_begins, bkX12_read, bkX12_putsAside, bkX12_comesBack, bkX12_province]
def bkG6 : List (List (Nat × List Instr)) := [bkX12_part, bkX12_sum, bkX12_plain, bkX12_atom, bkX12_every, bkX12_some, bkX12_lawLine, bkX12_law, bkX12_fault, bkX12_asks, bkX12_meltsOf, bkX12_deepOf, bkX12_draw, bkX12_logs, bkX12_isWrittenOn, bkX12_leaves, bkX12_sinks, bkX12_falls, bkX12_thaws, bkX12_writtenOnes, bkX12_wholeOnes, bkX12_oneOf, bkX12_hares, bkX12_blows, bkX12_passes, bkX12_goes, bkX12_snowOfAll, bkX12_thereOn, bkX12_field, bkX12_readPlace, bkX12_readsAs, bkX12_isWho, bkX12_lastsNow, bkX12_lastsOf, bkX12_longestOf, bkX12_allOwed, bkX12_owes, bkX12_person, bkX12_letter, bkX12_debt]
def bkG7 : List (List (Nat × List Instr)) := [bkX12_melts, bkX12_deep, bkX12_remembers, bkX12_sets, bkX12_days, bkX12_write, bkX12_strike, bkX12_tread, bkX12_lend, bkX12_pay, bkX12_slope, bkX12_snow, bkX12_allLasting, bkX12_lastingBy, bkX12_nextWay, bkX12_mostLasting, bkX12_till, bkX12_hears, bkX12_who, bkX12_likely, bkX12_partBy, bkX12_look, bkX12_tellsApart, bkX12_places, bkX12_areTwo, bkX12_change, bkX12_areMixed, bkX12_mixed, bkX12_safe, bkX12_isRun, bkX12_holds, bkX12_shares, bkX12_together, bkX12_owesOf, bkX12_settle, bkX12_debtors, bkX12_ring, bkX12_poorest, bkX12_clear, bkX12_nim]
def bkG8 : List (List (Nat × List Instr)) := [bkX12_wins, bkX12_first, bkX12_lowest, bkX12_kinds, bkX12_common, bkX12_allBest, bkX12_pairs, bkX12_share, bkX12_clerkHas, bkX12_sunHas, bkX12_rests, bkX12_odds, bkX12_valueOf, bkX12_most, bkX12_written, bkX12_twins, bkX12_having, bkX12_ahead, bkX12_trial, bkX12_span, bkX12_logged, bkX12_led, bkX12_log, bkX12_seed, bkX12_undo, bkX12_image, bkX12_back, bkX12_count, bkL_province, bkL_law, bkL_field, bkL_person, bkL_letter, bkL_debt, bkL_melts, bkL_deep, bkL_days, bkL_write, bkL_strike, bkL_tread]
def bkG9 : List (List (Nat × List Instr)) := [bkL_lend, bkL_pay, bkL_slope, bkL_snow, bkL_till, bkL_who, bkL_likely, bkL_look, bkL_change, bkL_mixed, bkL_together, bkL_pairs, bkL_share, bkL_rests, bkL_odds, bkL_most, bkL_having, bkL_ahead, bkL_trial, bkL_span, bkL_led, bkL_log, bkJ6_bitCount_0f7a4, bkJ7_copyOf_59c91, bkJ7_fill_53178, bkJ7_fill_d0a16, bkJ0_length_8abf5, bkJ0_charAt_5068e, bkJ0_coder_7d493, bkJ0_isLatin1_aae02, bkJ0_checkIndex_df160, bkJ1_charAt_3b067, bkJ3_checkIndex_8e157]
def bkGs : List (List (List (Nat × List Instr))) := [bkG0, bkG1, bkG2, bkG3, bkG4, bkG5, bkG6, bkG7, bkG8, bkG9]
def bkM (M : Nat) : List (Nat × List Instr) := bif Nat.ble 393 M then [] else ((bkGs[M / 40]?).bind fun g => g[M % 40]?).getD []
def fndB (L : Nat) : List (Nat × List Instr) → List Instr
  | [] => []
  | q :: qs => bif Nat.beq q.1 L then q.2 else fndB L qs
def fndH (E : Nat) : List (Nat × Nat × Nat) → Option (Nat × Nat)
  | [] => none
  | q :: qs => bif Nat.beq q.1 E then some q.2 else fndH E qs
/-- the program -/
def pg : Prg := (fun M L => fndB L (bkM M), fun M E => fndH E (mx M).2.2.2.2.2.2.1, fun M => (mt M).2.2.1, rcvM, fun M => (mx M).2.2.2.2.2.1.contains)
def cpM (M : Nat) : List CPE := match owns[(mx M).2.2.2.2.2.2.2]? with
  | some r => r.2.1
  | none => []
def ociM (M : Nat) : Nat := match owns[(mx M).2.2.2.2.2.2.2]? with
  | some r => r.2.2
  | none => 9999
def ownCk (M : Nat) : Bool := match owns[(mx M).2.2.2.2.2.2.2]? with
  | some r => decide (r.1 = (mt M).1.cls)
  | none => false
def mCk (M : Nat) : Bool := ownCk M && (bkM M).all fun b => bChk mt 393 (cpM M) fkT (ociM M) (decide ((mt M).1.name = "<init>")) (mx M).2.2.2.2.2.1 (pg.2.1 M) (mt M).2.1 (mt M).2.2.1 (mt M).2.2.2.1 (mt M).2.2.2.2.1 b.1 b.2
