/-! rows of the constructors, and of the law up to its loop: printed by program -/
def mc_X1 : MR := (1, 0, ⟨"Samovar$Entries", "<init>", "()V"⟩, prog_3_method_1_code, 1, (Option.none : Option Jvm.ClassFile.FieldType), 1, 20, [(0, .aload_n 0, 0, [], [], 0),
  (1, .invokespecial 3, 0, [0, 114], [], 0),
  (4, .aload_n 0, 0, [], [], 0),
  (5, .bipush 8, 0, [], [(8, 0)], 0),
  (7, .newarray .int, 0, [0, 148], [], 0),
  (9, .putfield 9, 0, [1, 0, 115, 1], [], 0),
  (12, .aload_n 0, 0, [], [], 0),
  (13, .bipush 8, 0, [], [(8, 0)], 0),
  (15, .newarray .int, 0, [0, 148], [], 0),
  (17, .putfield 15, 0, [1, 1, 121, 1], [], 0),
  (20, .aload_n 0, 0, [], [], 0),
  (21, .bipush 8, 0, [], [(8, 0)], 0),
  (23, .newarray .int, 0, [0, 148], [], 0),
  (25, .putfield 18, 0, [1, 2, 127, 1], [], 0),
  (28, .return_, 0, [], [], 0)])
def mc_X6 : MR := (6, 2, ⟨"Samovar$Text", "<init>", "(Ljava/lang/String;I)V"⟩, prog_8_method_1_code, 3, (Option.none : Option Jvm.ClassFile.FieldType), 2, 40, [(0, .aload_n 0, 0, [], [], 0),
  (1, .invokespecial 3, 0, [0, 108], [], 0),
  (4, .aload_n 0, 0, [], [], 0),
  (5, .new 9, 0, [1, 109, 110, 77], [], 0),
  (8, .dup, 0, [], [], 0),
  (9, .invokespecial 11, 0, [1], [], 0),
  (12, .putfield 12, 0, [6, 0, 149, 1], [], 0),
  (15, .aload_n 0, 0, [], [], 0),
  (16, .bipush 31, 0, [], [(31, 0)], 0),
  (18, .newarray .int, 0, [0, 148], [], 0),
  (20, .putfield 18, 0, [6, 1, 151, 1], [], 0),
  (23, .aload_n 0, 0, [], [], 0),
  (24, .iconst (-1), 0, [], [((-1), 0)], 0),
  (25, .putfield 22, 0, [6, 5, 156, 0], [], 0),
  (28, .aload_n 0, 0, [], [], 0),
  (29, .aload_n 1, 0, [], [], 0),
  (30, .putfield 26, 0, [6, 2, 152, 1], [], 0),
  (33, .aload_n 0, 0, [], [], 0),
  (34, .iload_n 2, 0, [], [], 0),
  (35, .putfield 30, 0, [6, 3, 153, 1], [], 0),
  (38, .return_, 0, [], [], 0)])
def mc_X4 : MR := (4, 3, ⟨"Samovar$Plan", "<init>", "(LSamovar$Entries;LSamovar$Entries;LSamovar$Entries;)V"⟩, prog_6_method_1_code, 4, (Option.none : Option Jvm.ClassFile.FieldType), 1, 20, [(0, .aload_n 0, 0, [], [], 0),
  (1, .invokespecial 1, 0, [0, 179], [], 0),
  (4, .aload_n 0, 0, [], [], 0),
  (5, .bipush 16, 0, [], [(16, 0)], 0),
  (7, .putfield 7, 0, [4, 3, 188, 0], [], 0),
  (10, .aload_n 0, 0, [], [], 0),
  (11, .bipush 16, 0, [], [(16, 0)], 0),
  (13, .putfield 13, 0, [4, 4, 192, 0], [], 0),
  (16, .aload_n 0, 0, [], [], 0),
  (17, .aload_n 1, 0, [], [], 0),
  (18, .putfield 16, 0, [4, 0, 180, 1], [], 0),
  (21, .aload_n 0, 0, [], [], 0),
  (22, .aload_n 2, 0, [], [], 0),
  (23, .putfield 20, 0, [4, 1, 183, 1], [], 0),
  (26, .aload_n 0, 0, [], [], 0),
  (27, .aload_n 3, 0, [], [], 0),
  (28, .putfield 23, 0, [4, 2, 186, 1], [], 0),
  (31, .return_, 0, [], [], 0)])
def mc_X3 : MR := (3, 0, ⟨"Samovar$Kettle", "<init>", "()V"⟩, prog_5_method_1_code, 1, (Option.none : Option Jvm.ClassFile.FieldType), 1, 20, [(0, .aload_n 0, 0, [], [], 0),
  (1, .invokespecial 3, 0, [0, 222], [], 0),
  (4, .return_, 0, [], [], 0)])
def mc_X0 : MR := (0, 0, ⟨"Samovar$Company", "<init>", "()V"⟩, prog_2_method_1_code, 1, (Option.none : Option Jvm.ClassFile.FieldType), 1, 20, [(0, .aload_n 0, 0, [], [], 0),
  (1, .invokespecial 3, 0, [0, 247], [], 0),
  (4, .aload_n 0, 0, [], [], 0),
  (5, .bipush 8, 0, [], [(8, 0)], 0),
  (7, .newarray .int, 0, [0, 148], [], 0),
  (9, .putfield 9, 0, [0, 0, 248, 1], [], 0),
  (12, .aload_n 0, 0, [], [], 0),
  (13, .bipush 8, 0, [], [(8, 0)], 0),
  (15, .newarray .int, 0, [0, 148], [], 0),
  (17, .putfield 15, 0, [0, 1, 250, 1], [], 0),
  (20, .aload_n 0, 0, [], [], 0),
  (21, .bipush 8, 0, [], [(8, 0)], 0),
  (23, .newarray .int, 0, [0, 148], [], 0),
  (25, .putfield 18, 0, [0, 2, 252, 1], [], 0),
  (28, .aload_n 0, 0, [], [], 0),
  (29, .bipush 8, 0, [], [(8, 0)], 0),
  (31, .newarray .int, 0, [0, 148], [], 0),
  (33, .putfield 21, 0, [0, 3, 253, 1], [], 0),
  (36, .return_, 0, [], [], 0)])
def mc_X2 : MR := (2, 0, ⟨"Samovar$Evening", "<init>", "()V"⟩, prog_4_method_1_code, 1, (Option.none : Option Jvm.ClassFile.FieldType), 2, 40, [(0, .aload_n 0, 0, [], [], 0),
  (1, .invokespecial 3, 0, [0, 216], [], 0),
  (4, .aload_n 0, 0, [], [], 0),
  (5, .bipush 24, 0, [], [(24, 0)], 0),
  (7, .newarray .int, 0, [0, 148], [], 0),
  (9, .putfield 9, 0, [2, 0, 285, 1], [], 0),
  (12, .aload_n 0, 0, [], [], 0),
  (13, .bipush 24, 0, [], [(24, 0)], 0),
  (15, .newarray .int, 0, [0, 148], [], 0),
  (17, .putfield 15, 0, [2, 1, 287, 1], [], 0),
  (20, .aload_n 0, 0, [], [], 0),
  (21, .bipush 24, 0, [], [(24, 0)], 0),
  (23, .newarray .int, 0, [0, 148], [], 0),
  (25, .putfield 18, 0, [2, 2, 289, 1], [], 0),
  (28, .aload_n 0, 0, [], [], 0),
  (29, .bipush 24, 0, [], [(24, 0)], 0),
  (31, .newarray .int, 0, [0, 148], [], 0),
  (33, .putfield 21, 0, [2, 3, 291, 1], [], 0),
  (36, .aload_n 0, 0, [], [], 0),
  (37, .bipush 24, 0, [], [(24, 0)], 0),
  (39, .newarray .int, 0, [0, 148], [], 0),
  (41, .putfield 24, 0, [2, 4, 293, 1], [], 0),
  (44, .aload_n 0, 0, [], [], 0),
  (45, .bipush 24, 0, [], [(24, 0)], 0),
  (47, .newarray .int, 0, [0, 148], [], 0),
  (49, .putfield 27, 0, [2, 5, 295, 1], [], 0),
  (52, .aload_n 0, 0, [], [], 0),
  (53, .sipush 192, 0, [], [(192, 0)], 0),
  (56, .newarray .int, 0, [0, 148], [], 0),
  (58, .putfield 30, 0, [2, 6, 297, 1], [], 0),
  (61, .aload_n 0, 0, [], [], 0),
  (62, .sipush 192, 0, [], [(192, 0)], 0),
  (65, .newarray .int, 0, [0, 148], [], 0),
  (67, .putfield 33, 0, [2, 7, 298, 1], [], 0),
  (70, .aload_n 0, 0, [], [], 0),
  (71, .new 36, 0, [3, 217, 218, 80], [], 0),
  (74, .dup, 0, [], [], 0),
  (75, .invokespecial 38, 0, [1], [], 0),
  (78, .putfield 39, 0, [2, 8, 299, 1], [], 0),
  (81, .aload_n 0, 0, [], [], 0),
  (82, .new 43, 0, [0, 242, 243, 81], [], 0),
  (85, .dup, 0, [], [], 0),
  (86, .invokespecial 45, 0, [1], [], 0),
  (89, .putfield 46, 0, [2, 9, 301, 1], [], 0),
  (92, .return_, 0, [], [], 0)])
def mc_X7 : MR := (7, 1, ⟨"Samovar$Trials", "<init>", "(LSamovar$Plan;)V"⟩, prog_9_method_1_code, 2, (Option.none : Option Jvm.ClassFile.FieldType), 3, 60, [(0, .aload_n 0, 0, [], [], 0),
  (1, .invokespecial 5, 0, [0, 335], [], 0),
  (4, .aload_n 0, 0, [], [], 0),
  (5, .sipush 503, 0, [], [(503, 0)], 0),
  (8, .newarray .long, 0, [1, 358], [], 0),
  (10, .putfield 11, 0, [7, 0, 342, 1], [], 0),
  (13, .aload_n 0, 0, [], [], 0),
  (14, .new 15, 0, [4, 336, 175, 78], [], 0),
  (17, .dup, 0, [], [], 0),
  (18, .new 17, 0, [1, 337, 110, 77], [], 0),
  (21, .dup, 0, [], [], 0),
  (22, .invokespecial 19, 0, [1], [], 0),
  (25, .new 17, 0, [1, 337, 110, 77], [], 0),
  (28, .dup, 0, [], [], 0),
  (29, .invokespecial 19, 0, [1], [], 0),
  (32, .new 17, 0, [1, 337, 110, 77], [], 0),
  (35, .dup, 0, [], [], 0),
  (36, .invokespecial 19, 0, [1], [], 0),
  (39, .invokespecial 20, 0, [1], [], 0),
  (42, .putfield 23, 0, [7, 2, 344, 1], [], 0),
  (45, .aload_n 0, 0, [], [], 0),
  (46, .new 27, 0, [2, 340, 212, 79], [], 0),
  (49, .dup, 0, [], [], 0),
  (50, .invokespecial 29, 0, [1], [], 0),
  (53, .putfield 30, 0, [7, 3, 345, 1], [], 0),
  (56, .aload_n 0, 0, [], [], 0),
  (57, .iconst 1, 0, [], [(1, 0)], 0),
  (58, .putfield 34, 0, [7, 4, 346, 0], [], 0),
  (61, .aload_n 0, 0, [], [], 0),
  (62, .aload_n 1, 0, [], [], 0),
  (63, .putfield 38, 0, [7, 1, 343, 1], [], 0),
  (66, .return_, 0, [], [], 0)])
def mc_X5 : MR := (5, 0, ⟨"Samovar$Sheet", "<init>", "()V"⟩, prog_7_method_1_code, 1, (Option.none : Option Jvm.ClassFile.FieldType), 1, 20, [(0, .aload_n 0, 0, [], [], 0),
  (1, .invokespecial 3, 0, [0, 364], [], 0),
  (4, .aload_n 0, 0, [], [], 0),
  (5, .bipush 60, 0, [], [(60, 0)], 0),
  (7, .newarray .int, 0, [0, 148], [], 0),
  (9, .putfield 9, 0, [5, 0, 365, 1], [], 0),
  (12, .aload_n 0, 0, [], [], 0),
  (13, .iconst 1, 0, [], [(1, 0)], 0),
  (14, .putfield 15, 0, [5, 1, 367, 0], [], 0),
  (17, .return_, 0, [], [], 0)])
def mc_X8 : MR := (8, 0, ⟨"Samovar", "<init>", "()V"⟩, prog_1_method_1_code, 1, (Option.none : Option Jvm.ClassFile.FieldType), 4, 81, [(0, .aload_n 0, 0, [], [], 0),
  (1, .invokespecial 3, 0, [0, 99], [], 0),
  (4, .aload_n 0, 0, [], [], 0),
  (5, .new 9, 0, [6, 102, 103, 76], [], 0),
  (8, .dup, 0, [], [], 0),
  (9, .ldc 11, 0, [200, 11], [], 0),
  (11, .iconst 3, 0, [], [(3, 0)], 0),
  (12, .invokespecial 13, 0, [1], [], 0),
  (15, .putfield 16, 0, [8, 0, 382, 1], [], 0),
  (18, .aload_n 0, 0, [], [], 0),
  (19, .new 9, 0, [6, 102, 103, 76], [], 0),
  (22, .dup, 0, [], [], 0),
  (23, .ldc 20, 0, [201, 20], [], 0),
  (25, .iconst 4, 0, [], [(4, 0)], 0),
  (26, .invokespecial 13, 0, [1], [], 0),
  (29, .putfield 22, 0, [8, 1, 383, 1], [], 0),
  (32, .aload_n 0, 0, [], [], 0),
  (33, .new 25, 0, [1, 172, 110, 77], [], 0),
  (36, .dup, 0, [], [], 0),
  (37, .invokespecial 27, 0, [1], [], 0),
  (40, .putfield 28, 0, [8, 2, 384, 1], [], 0),
  (43, .aload_n 0, 0, [], [], 0),
  (44, .new 25, 0, [1, 172, 110, 77], [], 0),
  (47, .dup, 0, [], [], 0),
  (48, .invokespecial 27, 0, [1], [], 0),
  (51, .putfield 32, 0, [8, 3, 385, 1], [], 0),
  (54, .aload_n 0, 0, [], [], 0),
  (55, .new 35, 0, [4, 174, 175, 78], [], 0),
  (58, .dup, 0, [], [], 0),
  (59, .aload_n 0, 0, [], [], 0),
  (60, .getfield 16, 0, [8, 0, 382, 0], [], 0),
  (63, .getfield 37, 0, [6, 0, 150, 0], [], 0),
  (66, .aload_n 0, 0, [], [], 0),
  (67, .getfield 22, 0, [8, 1, 383, 0], [], 0),
  (70, .getfield 37, 0, [6, 0, 150, 0], [], 0),
  (73, .aload_n 0, 0, [], [], 0),
  (74, .getfield 28, 0, [8, 2, 384, 0], [], 0),
  (77, .invokespecial 40, 0, [1], [], 0),
  (80, .putfield 43, 0, [8, 4, 386, 1], [], 0),
  (83, .aload_n 0, 0, [], [], 0),
  (84, .new 47, 0, [2, 211, 212, 79], [], 0),
  (87, .dup, 0, [], [], 0),
  (88, .invokespecial 49, 0, [1], [], 0),
  (91, .putfield 50, 0, [8, 5, 387, 1], [], 0),
  (94, .aload_n 0, 0, [], [], 0),
  (95, .new 54, 0, [7, 330, 331, 82], [], 0),
  (98, .dup, 0, [], [], 0),
  (99, .aload_n 0, 0, [], [], 0),
  (100, .getfield 43, 0, [8, 4, 386, 0], [], 0),
  (103, .invokespecial 56, 0, [1], [], 0),
  (106, .putfield 59, 0, [8, 6, 388, 1], [], 0),
  (109, .aload_n 0, 0, [], [], 0),
  (110, .new 63, 0, [5, 359, 360, 83], [], 0),
  (113, .dup, 0, [], [], 0),
  (114, .invokespecial 65, 0, [1], [], 0),
  (117, .putfield 66, 0, [8, 7, 389, 1], [], 0),
  (120, .aload_n 0, 0, [], [], 0),
  (121, .new 63, 0, [5, 359, 360, 83], [], 0),
  (124, .dup, 0, [], [], 0),
  (125, .invokespecial 65, 0, [1], [], 0),
  (128, .putfield 70, 0, [8, 8, 390, 1], [], 0),
  (131, .aload_n 0, 0, [], [], 0),
  (132, .new 63, 0, [5, 359, 360, 83], [], 0),
  (135, .dup, 0, [], [], 0),
  (136, .invokespecial 65, 0, [1], [], 0),
  (139, .putfield 73, 0, [8, 9, 391, 1], [], 0),
  (142, .aload_n 0, 0, [], [], 0),
  (143, .new 63, 0, [5, 359, 360, 83], [], 0),
  (146, .dup, 0, [], [], 0),
  (147, .invokespecial 65, 0, [1], [], 0),
  (150, .putfield 76, 0, [8, 10, 392, 1], [], 0),
  (153, .return_, 0, [], [], 0)])
def mc_X9 : MR := (9, 0, ⟨"SamovarModel", "<init>", "()V"⟩, prog_11_method_1_code, 1, (Option.none : Option Jvm.ClassFile.FieldType), 1, 20, [(0, .aload_n 0, 0, [], [], 0),
  (1, .invokespecial 1, 0, [0, 961], [], 0),
  (4, .aload_n 0, 0, [], [], 0),
  (5, .iconst 2, 0, [], [(2, 0)], 0),
  (6, .newarray .int, 0, [0, 148], [], 0),
  (8, .putfield 7, 0, [9, 0, 962, 1], [], 0),
  (11, .aload_n 0, 0, [], [], 0),
  (12, .bipush 62, 0, [], [(62, 0)], 0),
  (14, .newarray .int, 0, [0, 148], [], 0),
  (16, .putfield 13, 0, [9, 1, 963, 1], [], 0),
  (19, .aload_n 0, 0, [], [], 0),
  (20, .bipush 9, 0, [], [(9, 0)], 0),
  (22, .newarray .int, 0, [0, 148], [], 0),
  (24, .putfield 16, 0, [9, 3, 965, 1], [], 0),
  (27, .aload_n 0, 0, [], [], 0),
  (28, .bipush 9, 0, [], [(9, 0)], 0),
  (30, .newarray .int, 0, [0, 148], [], 0),
  (32, .putfield 19, 0, [9, 4, 966, 1], [], 0),
  (35, .aload_n 0, 0, [], [], 0),
  (36, .bipush 9, 0, [], [(9, 0)], 0),
  (38, .newarray .int, 0, [0, 148], [], 0),
  (40, .putfield 22, 0, [9, 5, 967, 1], [], 0),
  (43, .aload_n 0, 0, [], [], 0),
  (44, .bipush 9, 0, [], [(9, 0)], 0),
  (46, .newarray .int, 0, [0, 148], [], 0),
  (48, .putfield 25, 0, [9, 7, 969, 1], [], 0),
  (51, .aload_n 0, 0, [], [], 0),
  (52, .bipush 9, 0, [], [(9, 0)], 0),
  (54, .newarray .int, 0, [0, 148], [], 0),
  (56, .putfield 28, 0, [9, 8, 970, 1], [], 0),
  (59, .aload_n 0, 0, [], [], 0),
  (60, .bipush 9, 0, [], [(9, 0)], 0),
  (62, .newarray .int, 0, [0, 148], [], 0),
  (64, .putfield 31, 0, [9, 9, 971, 1], [], 0),
  (67, .aload_n 0, 0, [], [], 0),
  (68, .bipush 8, 0, [], [(8, 0)], 0),
  (70, .newarray .int, 0, [0, 148], [], 0),
  (72, .putfield 34, 0, [9, 13, 975, 1], [], 0),
  (75, .aload_n 0, 0, [], [], 0),
  (76, .bipush 8, 0, [], [(8, 0)], 0),
  (78, .newarray .int, 0, [0, 148], [], 0),
  (80, .putfield 37, 0, [9, 14, 976, 1], [], 0),
  (83, .aload_n 0, 0, [], [], 0),
  (84, .bipush 8, 0, [], [(8, 0)], 0),
  (86, .newarray .int, 0, [0, 148], [], 0),
  (88, .putfield 40, 0, [9, 15, 977, 1], [], 0),
  (91, .aload_n 0, 0, [], [], 0),
  (92, .bipush 8, 0, [], [(8, 0)], 0),
  (94, .newarray .int, 0, [0, 148], [], 0),
  (96, .putfield 43, 0, [9, 17, 979, 1], [], 0),
  (99, .aload_n 0, 0, [], [], 0),
  (100, .bipush 8, 0, [], [(8, 0)], 0),
  (102, .newarray .int, 0, [0, 148], [], 0),
  (104, .putfield 46, 0, [9, 18, 980, 1], [], 0),
  (107, .aload_n 0, 0, [], [], 0),
  (108, .bipush 8, 0, [], [(8, 0)], 0),
  (110, .newarray .int, 0, [0, 148], [], 0),
  (112, .putfield 49, 0, [9, 19, 981, 1], [], 0),
  (115, .aload_n 0, 0, [], [], 0),
  (116, .bipush 8, 0, [], [(8, 0)], 0),
  (118, .newarray .int, 0, [0, 148], [], 0),
  (120, .putfield 52, 0, [9, 30, 992, 1], [], 0),
  (123, .aload_n 0, 0, [], [], 0),
  (124, .bipush 8, 0, [], [(8, 0)], 0),
  (126, .newarray .int, 0, [0, 148], [], 0),
  (128, .putfield 55, 0, [9, 31, 993, 1], [], 0),
  (131, .aload_n 0, 0, [], [], 0),
  (132, .bipush 8, 0, [], [(8, 0)], 0),
  (134, .newarray .int, 0, [0, 148], [], 0),
  (136, .putfield 58, 0, [9, 32, 994, 1], [], 0),
  (139, .aload_n 0, 0, [], [], 0),
  (140, .bipush 8, 0, [], [(8, 0)], 0),
  (142, .newarray .int, 0, [0, 148], [], 0),
  (144, .putfield 61, 0, [9, 33, 995, 1], [], 0),
  (147, .aload_n 0, 0, [], [], 0),
  (148, .bipush 8, 0, [], [(8, 0)], 0),
  (150, .newarray .int, 0, [0, 148], [], 0),
  (152, .putfield 64, 0, [9, 34, 996, 1], [], 0),
  (155, .aload_n 0, 0, [], [], 0),
  (156, .bipush 8, 0, [], [(8, 0)], 0),
  (158, .newarray .int, 0, [0, 148], [], 0),
  (160, .putfield 67, 0, [9, 35, 997, 1], [], 0),
  (163, .aload_n 0, 0, [], [], 0),
  (164, .sipush 144, 0, [], [(144, 0)], 0),
  (167, .newarray .int, 0, [0, 148], [], 0),
  (169, .putfield 70, 0, [9, 36, 998, 1], [], 0),
  (172, .aload_n 0, 0, [], [], 0),
  (173, .bipush 24, 0, [], [(24, 0)], 0),
  (175, .newarray .int, 0, [0, 148], [], 0),
  (177, .putfield 73, 0, [9, 37, 999, 1], [], 0),
  (180, .aload_n 0, 0, [], [], 0),
  (181, .sipush 192, 0, [], [(192, 0)], 0),
  (184, .newarray .int, 0, [0, 148], [], 0),
  (186, .putfield 76, 0, [9, 38, 1000, 1], [], 0),
  (189, .aload_n 0, 0, [], [], 0),
  (190, .sipush 192, 0, [], [(192, 0)], 0),
  (193, .newarray .int, 0, [0, 148], [], 0),
  (195, .putfield 79, 0, [9, 39, 1001, 1], [], 0),
  (198, .aload_n 0, 0, [], [], 0),
  (199, .iconst 2, 0, [], [(2, 0)], 0),
  (200, .newarray .int, 0, [0, 148], [], 0),
  (202, .putfield 82, 0, [9, 42, 1004, 1], [], 0),
  (205, .aload_n 0, 0, [], [], 0),
  (206, .bipush 8, 0, [], [(8, 0)], 0),
  (208, .newarray .int, 0, [0, 148], [], 0),
  (210, .putfield 85, 0, [9, 44, 1006, 1], [], 0),
  (213, .aload_n 0, 0, [], [], 0),
  (214, .bipush 8, 0, [], [(8, 0)], 0),
  (216, .newarray .int, 0, [0, 148], [], 0),
  (218, .putfield 88, 0, [9, 45, 1007, 1], [], 0),
  (221, .aload_n 0, 0, [], [], 0),
  (222, .bipush 24, 0, [], [(24, 0)], 0),
  (224, .newarray .int, 0, [0, 148], [], 0),
  (226, .putfield 91, 0, [9, 46, 1008, 1], [], 0),
  (229, .aload_n 0, 0, [], [], 0),
  (230, .iconst 4, 0, [], [(4, 0)], 0),
  (231, .newarray .boolean, 0, [2, 1122], [], 0),
  (233, .putfield 94, 0, [9, 47, 1009, 1], [], 0),
  (236, .aload_n 0, 0, [], [], 0),
  (237, .iconst 4, 0, [], [(4, 0)], 0),
  (238, .newarray .int, 0, [0, 148], [], 0),
  (240, .putfield 98, 0, [9, 48, 1010, 1], [], 0),
  (243, .aload_n 0, 0, [], [], 0),
  (244, .iconst 4, 0, [], [(4, 0)], 0),
  (245, .newarray .int, 0, [0, 148], [], 0),
  (247, .putfield 101, 0, [9, 49, 1011, 1], [], 0),
  (250, .aload_n 0, 0, [], [], 0),
  (251, .sipush 240, 0, [], [(240, 0)], 0),
  (254, .newarray .int, 0, [0, 148], [], 0),
  (256, .putfield 104, 0, [9, 50, 1012, 1], [], 0),
  (259, .aload_n 0, 0, [], [], 0),
  (260, .bipush 60, 0, [], [(60, 0)], 0),
  (262, .newarray .int, 0, [0, 148], [], 0),
  (264, .putfield 107, 0, [9, 51, 1013, 1], [], 0),
  (267, .aload_n 0, 0, [], [], 0),
  (268, .bipush 16, 0, [], [(16, 0)], 0),
  (270, .putfield 110, 0, [9, 10, 972, 0], [], 0),
  (273, .aload_n 0, 0, [], [], 0),
  (274, .bipush 16, 0, [], [(16, 0)], 0),
  (276, .putfield 114, 0, [9, 11, 973, 0], [], 0),
  (279, .return_, 0, [], [], 0)])
def mc_L : MR := (15, 1, ⟨"SamovarLaw", "law", "([I)Z"⟩, code, 4, (Option.some Jvm.ClassFile.FieldType.boolean), 5, 101, [(0, .new 7, 0, [8, 94, 95, 75], [], 0),
  (3, .dup, 0, [], [], 0),
  (4, .invokespecial 9, 0, [1], [], 0),
  (7, .astore_n 1, 0, [], [], 0),
  (8, .new 10, 0, [9, 956, 957, 84], [], 0),
  (11, .dup, 0, [], [], 0),
  (12, .invokespecial 12, 0, [1], [], 0),
  (15, .astore_n 2, 0, [], [], 0)])
def bm_mlt : Nat → List ML := fun o => match o with
  | 2 => [(38, mc_X3, [1, 0, 220, 80]), (45, mc_X0, [1, 1, 245, 81])]
  | 6 => [(11, mc_X1, [1, 2, 112, 77])]
  | 7 => [(19, mc_X1, [1, 3, 112, 77]), (20, mc_X4, [0, 339, 177, 78]), (29, mc_X2, [1, 4, 214, 79])]
  | 8 => [(13, mc_X6, [0, 105, 106, 76]), (27, mc_X1, [1, 5, 112, 77]), (40, mc_X4, [0, 176, 177, 78]), (49, mc_X2, [1, 6, 214, 79]), (56, mc_X7, [0, 332, 333, 82]), (65, mc_X5, [1, 7, 362, 83])]
  | 15 => [(9, mc_X8, [0, 96, 97, 75]), (12, mc_X9, [0, 958, 959, 84])]
  | _ => []
def bm_ml (o idx : Nat) : Option (MR × List Nat) := am_mfind (bm_mlt o) idx
def bm_nest : List (String × Nat × MethodName) := [("Samovar$Evening", 38, ⟨"Samovar$Kettle", "<init>", "()V"⟩), ("Samovar$Evening", 45, ⟨"Samovar$Company", "<init>", "()V"⟩), ("Samovar$Text", 11, ⟨"Samovar$Entries", "<init>", "()V"⟩), ("Samovar$Trials", 19, ⟨"Samovar$Entries", "<init>", "()V"⟩), ("Samovar$Trials", 29, ⟨"Samovar$Evening", "<init>", "()V"⟩), ("Samovar", 27, ⟨"Samovar$Entries", "<init>", "()V"⟩), ("Samovar", 49, ⟨"Samovar$Evening", "<init>", "()V"⟩), ("Samovar", 65, ⟨"Samovar$Sheet", "<init>", "()V"⟩)]
def bm_s0 : Nat := 11
def bm_s1 : Nat := 20
def bm_kt (k : Nat) : FieldType := if k = 0 then .int else if k = 1 then .long else .boolean
def bm_len : Jvm.ClassFile.Instr → Nat
  | .new _ | .invokespecial _ => 3
  | .newarray _ => 2
  | i => am_len i
def bm_rowx (o : Nat) (r : RW) : Bool := match r.2.1 with
  | .iconst n => match r.2.2.2.2.1 with
    | q :: _ => decide (Int32.ofInt n = q.1)
    | [] => false
  | .bipush n => match r.2.2.2.2.1 with
    | q :: _ => decide ((Int8.ofInt n).toInt32 = q.1)
    | [] => false
  | .sipush n => match r.2.2.2.2.1 with
    | q :: _ => decide ((Int16.ofInt n).toInt32 = q.1)
    | [] => false
  | .ldc idx => match r.2.2.2.1 with
    | [a, _] => decide (o = 8) && (decide (a = 200 ∧ idx = bm_s0) || decide (a = 201 ∧ idx = bm_s1))
    | _ => false
  | .new idx => match r.2.2.2.1 with
    | [ci, p1, p2, p3] => match am_cl[ci]? with
      | some q => am_wd p1 (.classLink (am_cn o) idx q.1) && (am_wd p2 (.instantiable q.1 q.2.2) && am_wd p3 (.initialized q.1))
      | none => false
    | _ => false
  | .newarray t => match r.2.2.2.1 with
    | [kd, p] => decide (kd < 3) && (decide (newarray.typeOf t = bm_kt kd) && am_wd p (.arrayClass (bm_kt kd)))
    | _ => false
  | .getfield idx => match r.2.2.2.1 with
    | ci :: _ => !(decide (ci = 100)) && am_fl o idx r.2.2.2.1
    | [] => false
  | .putfield idx => match r.2.2.2.1 with
    | [ci, k, p, fin] => match am_cl[ci]? with
      | some q => decide (k < q.2.2) && (am_wd p (.fieldLink (am_cn o) idx (q.2.1 k).1 (q.2.1 k).2.1 (q.2.1 k).2.2.1) && (if fin = 0 then !((q.2.1 k).2.2.2) else ((q.2.1 k).2.2.2 && decide ((q.2.1 k).1 = am_cn o))))
      | none => false
    | _ => false
  | .invokespecial idx => match r.2.2.2.1 with
    | 0 :: p :: _ => am_wd p (.methodLink (am_cn o) idx objectInit)
    | [0] => false
    | _ => true
  | _ => true
def bm_rowok (o : Nat) (b : ByteArray) (r : RW) : Bool := (match decode b r.1 with
    | .ok (j, n) => decide (j = r.2.1) && Nat.beq n (bm_len r.2.1)
    | .error _ => false) && bm_rowx o r
def bm_G (R : MR) : Prop := (mr_c R).all (bm_rowok (mr_o R) (mr_b R)) = true ∧ am_nm R = true ∧ Jvm.Cond.code (mr_y R) (mr_b R) (mr_L R) (mr_r R) ∈ am_all ∧ (mr_y R).name = "<init>" ∧ mr_r R = none
def bm_mlk (o : Nat) (e : ML) : Bool := match e.2.2 with
  | [0, p1, p2, p4] => am_wd p1 (.methodLink (am_cn o) e.1 (mr_y e.2.1)) && (am_wd p2 (.instanceMethod (mr_y e.2.1)) && am_wd p4 (.initialized (mr_y e.2.1).cls))
  | [1, j, p2, p4] => decide (bm_nest[j]? = some (am_cn o, e.1, mr_y e.2.1)) && (am_wd p2 (.instanceMethod (mr_y e.2.1)) && am_wd p4 (.initialized (mr_y e.2.1).cls))
  | _ => false
set_option maxRecDepth 100000 in
theorem gc_X1 : bm_G mc_X1 := ⟨by decide +kernel, by decide +kernel, am_memT (t_in_1 _ (List.mem_of_getElem? (i := 39) rfl)) rfl, rfl, rfl⟩
set_option maxRecDepth 100000 in
theorem gc_X6 : bm_G mc_X6 := ⟨by decide +kernel, by decide +kernel, am_memT (t_in_1 _ (List.mem_of_getElem? (i := 33) rfl)) rfl, rfl, rfl⟩
set_option maxRecDepth 100000 in
theorem gc_X4 : bm_G mc_X4 := ⟨by decide +kernel, by decide +kernel, am_memT (t_in_1 _ (List.mem_of_getElem? (i := 104) rfl)) rfl, rfl, rfl⟩
set_option maxRecDepth 100000 in
theorem gc_X3 : bm_G mc_X3 := ⟨by decide +kernel, by decide +kernel, am_memT (t_in_1 _ (List.mem_of_getElem? (i := 147) rfl)) rfl, rfl, rfl⟩
set_option maxRecDepth 100000 in
theorem gc_X0 : bm_G mc_X0 := ⟨by decide +kernel, by decide +kernel, am_memT (t_in_1 _ (List.mem_of_getElem? (i := 172) rfl)) rfl, rfl, rfl⟩
set_option maxRecDepth 100000 in
theorem gc_X2 : bm_G mc_X2 := ⟨by decide +kernel, by decide +kernel, am_memT (t_in_1 _ (List.mem_of_getElem? (i := 141) rfl)) rfl, rfl, rfl⟩
set_option maxRecDepth 100000 in
theorem gc_X7 : bm_G mc_X7 := ⟨by decide +kernel, by decide +kernel, am_memT (t_in_2 _ (List.mem_of_getElem? (i := 20) rfl)) rfl, rfl, rfl⟩
set_option maxRecDepth 100000 in
theorem gc_X5 : bm_G mc_X5 := ⟨by decide +kernel, by decide +kernel, am_memT (t_in_2 _ (List.mem_of_getElem? (i := 49) rfl)) rfl, rfl, rfl⟩
set_option maxRecDepth 100000 in
theorem gc_X8 : bm_G mc_X8 := ⟨by decide +kernel, by decide +kernel, am_memT (t_in_1 _ (List.mem_of_getElem? (i := 24) rfl)) rfl, rfl, rfl⟩
set_option maxRecDepth 100000 in
theorem gc_X9 : bm_G mc_X9 := ⟨by decide +kernel, by decide +kernel, am_memT (t_in_4 _ (List.mem_of_getElem? (i := 166) rfl)) rfl, rfl, rfl⟩
set_option maxRecDepth 100000 in
theorem gc_L : (mr_c mc_L).all (bm_rowok (mr_o mc_L) (mr_b mc_L)) = true := by decide +kernel
theorem bm_links (o : Nat) : ∀ e ∈ bm_mlt o, bm_mlk o e = true ∧ bm_G e.2.1 := by
  intro e he
  match o, he with
  | 0, he => exact absurd he List.not_mem_nil
  | 1, he => exact absurd he List.not_mem_nil
  | 2, he => exact (List.forall_mem_cons.mpr ⟨⟨by decide +kernel, gc_X3⟩, List.forall_mem_cons.mpr ⟨⟨by decide +kernel, gc_X0⟩, fun _ h => absurd h List.not_mem_nil⟩⟩ : ∀ e ∈ bm_mlt 2, bm_mlk 2 e = true ∧ bm_G e.2.1) e he
  | 3, he => exact absurd he List.not_mem_nil
  | 4, he => exact absurd he List.not_mem_nil
  | 5, he => exact absurd he List.not_mem_nil
  | 6, he => exact (List.forall_mem_cons.mpr ⟨⟨by decide +kernel, gc_X1⟩, fun _ h => absurd h List.not_mem_nil⟩ : ∀ e ∈ bm_mlt 6, bm_mlk 6 e = true ∧ bm_G e.2.1) e he
  | 7, he => exact (List.forall_mem_cons.mpr ⟨⟨by decide +kernel, gc_X1⟩, List.forall_mem_cons.mpr ⟨⟨by decide +kernel, gc_X4⟩, List.forall_mem_cons.mpr ⟨⟨by decide +kernel, gc_X2⟩, fun _ h => absurd h List.not_mem_nil⟩⟩⟩ : ∀ e ∈ bm_mlt 7, bm_mlk 7 e = true ∧ bm_G e.2.1) e he
  | 8, he => exact (List.forall_mem_cons.mpr ⟨⟨by decide +kernel, gc_X6⟩, List.forall_mem_cons.mpr ⟨⟨by decide +kernel, gc_X1⟩, List.forall_mem_cons.mpr ⟨⟨by decide +kernel, gc_X4⟩, List.forall_mem_cons.mpr ⟨⟨by decide +kernel, gc_X2⟩, List.forall_mem_cons.mpr ⟨⟨by decide +kernel, gc_X7⟩, List.forall_mem_cons.mpr ⟨⟨by decide +kernel, gc_X5⟩, fun _ h => absurd h List.not_mem_nil⟩⟩⟩⟩⟩⟩ : ∀ e ∈ bm_mlt 8, bm_mlk 8 e = true ∧ bm_G e.2.1) e he
  | 9, he => exact absurd he List.not_mem_nil
  | 10, he => exact absurd he List.not_mem_nil
  | 11, he => exact absurd he List.not_mem_nil
  | 12, he => exact absurd he List.not_mem_nil
  | 13, he => exact absurd he List.not_mem_nil
  | 14, he => exact absurd he List.not_mem_nil
  | 15, he => exact (List.forall_mem_cons.mpr ⟨⟨by decide +kernel, gc_X8⟩, List.forall_mem_cons.mpr ⟨⟨by decide +kernel, gc_X9⟩, fun _ h => absurd h List.not_mem_nil⟩⟩ : ∀ e ∈ bm_mlt 15, bm_mlk 15 e = true ∧ bm_G e.2.1) e he
  | n + 16, he => exact absurd he List.not_mem_nil
theorem w_oiI : Cond.instanceMethod objectInit ∈ am_all := am_wd_mem (p := 100) (by decide +kernel)
theorem w_oiC : Cond.code objectInit ⟨#[0xb1]⟩ 1 none ∈ am_all := am_wd_mem (p := 101) (by decide +kernel)
def bm_fin : List BC := [.inr (8, [.ref 1, .ref 7, .ref 13, .ref 17, .ref 21, .ref 22, .ref 37, .ref 67, .ref 69, .ref 71, .ref 73, .int 0, .int 0]),
  .inr (6, [.ref 2, .ref 6, .ref 200, .int 3, .int 0, .int (-1)]),
  .inr (1, [.ref 3, .ref 4, .ref 5, .int 0]),
  .inl (0, 8),
  .inl (0, 8),
  .inl (0, 8),
  .inl (0, 31),
  .inr (6, [.ref 8, .ref 12, .ref 201, .int 4, .int 0, .int (-1)]),
  .inr (1, [.ref 9, .ref 10, .ref 11, .int 0]),
  .inl (0, 8),
  .inl (0, 8),
  .inl (0, 8),
  .inl (0, 31),
  .inr (1, [.ref 14, .ref 15, .ref 16, .int 0]),
  .inl (0, 8),
  .inl (0, 8),
  .inl (0, 8),
  .inr (1, [.ref 18, .ref 19, .ref 20, .int 0]),
  .inl (0, 8),
  .inl (0, 8),
  .inl (0, 8),
  .inr (4, [.ref 2, .ref 8, .ref 13, .int 16, .int 16, .int 0]),
  .inr (2, [.ref 23, .ref 24, .ref 25, .ref 26, .ref 27, .ref 28, .ref 29, .ref 30, .ref 31, .ref 32, .int 0]),
  .inl (0, 24),
  .inl (0, 24),
  .inl (0, 24),
  .inl (0, 24),
  .inl (0, 24),
  .inl (0, 24),
  .inl (0, 192),
  .inl (0, 192),
  .inr (3, [.int 0, .int 0, .int 0, .int 0]),
  .inr (0, [.ref 33, .ref 34, .ref 35, .ref 36, .int 0, .int 0, .int 0, .int 0, .int 0]),
  .inl (0, 8),
  .inl (0, 8),
  .inl (0, 8),
  .inl (0, 8),
  .inr (7, [.ref 38, .ref 21, .ref 39, .ref 52, .int 1]),
  .inl (1, 503),
  .inr (4, [.ref 40, .ref 44, .ref 48, .int 16, .int 16, .int 0]),
  .inr (1, [.ref 41, .ref 42, .ref 43, .int 0]),
  .inl (0, 8),
  .inl (0, 8),
  .inl (0, 8),
  .inr (1, [.ref 45, .ref 46, .ref 47, .int 0]),
  .inl (0, 8),
  .inl (0, 8),
  .inl (0, 8),
  .inr (1, [.ref 49, .ref 50, .ref 51, .int 0]),
  .inl (0, 8),
  .inl (0, 8),
  .inl (0, 8),
  .inr (2, [.ref 53, .ref 54, .ref 55, .ref 56, .ref 57, .ref 58, .ref 59, .ref 60, .ref 61, .ref 62, .int 0]),
  .inl (0, 24),
  .inl (0, 24),
  .inl (0, 24),
  .inl (0, 24),
  .inl (0, 24),
  .inl (0, 24),
  .inl (0, 192),
  .inl (0, 192),
  .inr (3, [.int 0, .int 0, .int 0, .int 0]),
  .inr (0, [.ref 63, .ref 64, .ref 65, .ref 66, .int 0, .int 0, .int 0, .int 0, .int 0]),
  .inl (0, 8),
  .inl (0, 8),
  .inl (0, 8),
  .inl (0, 8),
  .inr (5, [.ref 68, .int 1, .int 0, .int 0]),
  .inl (0, 60),
  .inr (5, [.ref 70, .int 1, .int 0, .int 0]),
  .inl (0, 60),
  .inr (5, [.ref 72, .int 1, .int 0, .int 0]),
  .inl (0, 60),
  .inr (5, [.ref 74, .int 1, .int 0, .int 0]),
  .inl (0, 60),
  .inr (9, [.ref 76, .ref 77, .int 0, .ref 78, .ref 79, .ref 80, .int 0, .ref 81, .ref 82, .ref 83, .int 16, .int 16, .int 0, .ref 84, .ref 85, .ref 86, .int 0, .ref 87, .ref 88, .ref 89, .int 0, .int 0, .int 0, .int 0, .int 0, .int 0, .int 0, .int 0, .int 0, .int 0, .ref 90, .ref 91, .ref 92, .ref 93, .ref 94, .ref 95, .ref 96, .ref 97, .ref 98, .ref 99, .int 0, .int 0, .ref 100, .int 0, .ref 101, .ref 102, .ref 103, .ref 104, .ref 105, .ref 106, .ref 107, .ref 108, .int 0]),
  .inl (0, 2),
  .inl (0, 62),
  .inl (0, 9),
  .inl (0, 9),
  .inl (0, 9),
  .inl (0, 9),
  .inl (0, 9),
  .inl (0, 9),
  .inl (0, 8),
  .inl (0, 8),
  .inl (0, 8),
  .inl (0, 8),
  .inl (0, 8),
  .inl (0, 8),
  .inl (0, 8),
  .inl (0, 8),
  .inl (0, 8),
  .inl (0, 8),
  .inl (0, 8),
  .inl (0, 8),
  .inl (0, 144),
  .inl (0, 24),
  .inl (0, 192),
  .inl (0, 192),
  .inl (0, 2),
  .inl (0, 8),
  .inl (0, 8),
  .inl (0, 24),
  .inl (2, 4),
  .inl (0, 4),
  .inl (0, 4),
  .inl (0, 240),
  .inl (0, 60)]
def bm_lv : LV := [(2, .ref 75), (1, .ref 0), (0, .ref 206)]
def bm_ceq : BC → BC → Bool
  | .inl a, .inl b => decide (a = b)
  | .inr a, .inr b => decide (a = b)
  | _, _ => false
theorem bm_ceq_eq {a b : BC} (h : bm_ceq a b = true) : a = b := by
  cases a with
  | inl a => cases b with
    | inl b => rw [of_decide_eq_true h]
    | inr b => cases h
  | inr a => cases b with
    | inl b => cases h
    | inr b => rw [of_decide_eq_true h]
def bm_weq : List BC → List BC → Bool
  | [], [] => true
  | a :: l, b :: k => bm_ceq a b && bm_weq l k
  | _, _ => false
theorem bm_weq_eq : ∀ {l k : List BC}, bm_weq l k = true → l = k
  | [], [], _ => rfl
  | a :: l, b :: k, h => by
    rw [bm_weq, Bool.and_eq_true] at h
    rw [bm_ceq_eq h.1, bm_weq_eq h.2]
  | [], _ :: _, h => by cases h
  | _ :: _, [], h => by cases h
def bm_seq (E F : BS) : Bool := decide (E.1 = F.1) && (decide (E.2.1 = F.2.1) && (decide (E.2.2.1 = F.2.2.1) && bm_weq E.2.2.2 F.2.2.2))
theorem bm_seq_eq {E F : BS} (h : bm_seq E F = true) : E = F := by
  obtain ⟨a, b, c, d⟩ := E
  obtain ⟨a', b', c', d'⟩ := F
  simp only [bm_seq, Bool.and_eq_true, decide_eq_true_eq] at h
  obtain ⟨h1, h2, h3, h4⟩ := h
  rw [h1, h2, h3, bm_weq_eq h4]
def bm_chk (o : Option BS) (F : BS) : Bool := match o with
  | some E => bm_seq E F
  | none => false
theorem bm_chk_eq {o : Option BS} {F : BS} (h : bm_chk o F = true) : o = some F := by
  cases o with
  | none => cases h
  | some E => rw [bm_seq_eq (show bm_seq E F = true from h)]
set_option maxRecDepth 100000 in
theorem bm_runs : bm_run bm_ml 1000 (some 16) mc_L (0, [(0, .ref 206)], [], []) = some (16, bm_lv, [], bm_fin) := bm_chk_eq (by decide +kernel)
