/-! INSTRUCTIONS, written by wip/whole/gen_tables.py -/
-- 179: MarkInlinesModel.output(I)I
def am_o179 : Nat → Option am_O := am_sel 11 (am_lf [(0, (.aload_n 0, 1, 0, 0, .null), []),
    (1, (.iconst 0, 1, 0, 0, .int 0), []),
    (2, (.putfield 129, 3, 11, 0, .null), [1393]),
    (5, (.iload_n 1, 1, 1, 0, .null), []),
    (6, (.ifCond .lt (20), 3, 26, 0, .null), []),
    (9, (.iload_n 1, 1, 1, 0, .null), []),
    (10, (.aload_n 0, 1, 0, 0, .null), []),
    (11, (.getfield 341, 3, 11, 49, .null), [1442])]) (am_lf [(14, (.if_icmp .ge (12), 3, 26, 0, .null), []),
    (17, (.aload_n 0, 1, 0, 0, .null), []),
    (18, (.getfield 123, 3, 11, 48, .null), [1441]),
    (21, (.iload_n 1, 1, 1, 0, .null), []),
    (22, (.iaload, 1, 0, 0, .null), []),
    (23, (.goto (4), 3, 27, 0, .null), []),
    (26, (.iconst (-1), 1, 0, 0, .int (-1)), []),
    (27, (.ireturn, 1, 0, 0, .null), [])])
-- 180: MarkInlinesModel.about(I)I
def am_o180 : Nat → Option am_O := am_sel 41 (am_lf [(0, (.aload_n 0, 1, 0, 0, .null), []),
    (1, (.iconst 0, 1, 0, 0, .int 0), []),
    (2, (.putfield 129, 3, 11, 0, .null), [1393]),
    (5, (.iload_n 1, 1, 1, 0, .null), []),
    (6, (.tableswitch (50) (0) (3) #[30, 35, 40, 45], 30, 0, 0, .null), []),
    (36, (.aload_n 0, 1, 0, 0, .null), []),
    (37, (.getfield 138, 3, 11, 3, .null), [1396]),
    (40, (.ireturn, 1, 0, 0, .null), []),
    (41, (.aload_n 0, 1, 0, 0, .null), [])]) (am_lf [(42, (.getfield 212, 3, 11, 7, .null), [1400]),
    (45, (.ireturn, 1, 0, 0, .null), []),
    (46, (.aload_n 0, 1, 0, 0, .null), []),
    (47, (.getfield 116, 3, 11, 45, .null), [1438]),
    (50, (.ireturn, 1, 0, 0, .null), []),
    (51, (.aload_n 0, 1, 0, 0, .null), []),
    (52, (.getfield 341, 3, 11, 49, .null), [1442]),
    (55, (.ireturn, 1, 0, 0, .null), []),
    (56, (.iconst (-1), 1, 0, 0, .int (-1)), []),
    (57, (.ireturn, 1, 0, 0, .null), [])])
-- 181: MarkInlinesModel.isPunctuation(I)Z
def am_o181 : Nat → Option am_O := am_sel 29 (am_sel 14 (am_lf [(0, (.iload_n 0, 1, 0, 0, .null), []),
    (1, (.invokestatic 132, 3, 176, 1, .null), [1644]),
    (4, (.ifCond .ne (52), 3, 56, 0, .null), []),
    (7, (.iload_n 0, 1, 0, 0, .null), []),
    (8, (.sipush (161), 3, 0, 0, .int 161), []),
    (11, (.if_icmp .eq (45), 3, 56, 0, .null), []),
    (14, (.iload_n 0, 1, 0, 0, .null), [])]) (am_lf [(15, (.sipush (167), 3, 0, 0, .int 167), []),
    (18, (.if_icmp .eq (38), 3, 56, 0, .null), []),
    (21, (.iload_n 0, 1, 0, 0, .null), []),
    (22, (.sipush (171), 3, 0, 0, .int 171), []),
    (25, (.if_icmp .eq (31), 3, 56, 0, .null), []),
    (28, (.iload_n 0, 1, 0, 0, .null), []),
    (29, (.sipush (182), 3, 0, 0, .int 182), [])])) (am_sel 46 (am_lf [(32, (.if_icmp .eq (24), 3, 56, 0, .null), []),
    (35, (.iload_n 0, 1, 0, 0, .null), []),
    (36, (.sipush (183), 3, 0, 0, .int 183), []),
    (39, (.if_icmp .eq (17), 3, 56, 0, .null), []),
    (42, (.iload_n 0, 1, 0, 0, .null), []),
    (43, (.sipush (187), 3, 0, 0, .int 187), []),
    (46, (.if_icmp .eq (10), 3, 56, 0, .null), [])]) (am_lf [(49, (.iload_n 0, 1, 0, 0, .null), []),
    (50, (.sipush (191), 3, 0, 0, .int 191), []),
    (53, (.if_icmp .ne (7), 3, 60, 0, .null), []),
    (56, (.iconst 1, 1, 0, 0, .int 1), []),
    (57, (.goto (4), 3, 61, 0, .null), []),
    (60, (.iconst 0, 1, 0, 0, .int 0), []),
    (61, (.ireturn, 1, 0, 0, .null), [])]))
-- 182: MarkInlinesModel.isForbidden(I)Z
def am_o182 : Nat → Option am_O := am_sel 19 (am_lf [(0, (.iload_n 0, 1, 0, 0, .null), []),
    (1, (.bipush (32), 2, 0, 0, .int 32), []),
    (3, (.if_icmp .ge (21), 3, 24, 0, .null), []),
    (6, (.iload_n 0, 1, 0, 0, .null), []),
    (7, (.bipush (9), 2, 0, 0, .int 9), []),
    (9, (.if_icmp .eq (15), 3, 24, 0, .null), []),
    (12, (.iload_n 0, 1, 0, 0, .null), []),
    (13, (.bipush (10), 2, 0, 0, .int 10), []),
    (15, (.if_icmp .eq (9), 3, 24, 0, .null), []),
    (18, (.iload_n 0, 1, 0, 0, .null), []),
    (19, (.bipush (13), 2, 0, 0, .int 13), [])]) (am_lf [(21, (.if_icmp .ne (15), 3, 36, 0, .null), []),
    (24, (.iload_n 0, 1, 0, 0, .null), []),
    (25, (.ldc 136, 2, 0, 0, .int 65534), [1702]),
    (27, (.if_icmp .eq (9), 3, 36, 0, .null), []),
    (30, (.iload_n 0, 1, 0, 0, .null), []),
    (31, (.ldc 137, 2, 0, 0, .int 65535), [1703]),
    (33, (.if_icmp .ne (7), 3, 40, 0, .null), []),
    (36, (.iconst 1, 1, 0, 0, .int 1), []),
    (37, (.goto (4), 3, 41, 0, .null), []),
    (40, (.iconst 0, 1, 0, 0, .int 0), []),
    (41, (.ireturn, 1, 0, 0, .null), [])])
-- 183: MarkInlinesModel.at(I)I
def am_o183 : Nat → Option am_O := am_sel 9 (am_lf [(0, (.iload_n 1, 1, 1, 0, .null), []),
    (1, (.ifCond .lt (11), 3, 12, 0, .null), []),
    (4, (.iload_n 1, 1, 1, 0, .null), []),
    (5, (.aload_n 0, 1, 0, 0, .null), []),
    (6, (.getfield 138, 3, 11, 3, .null), [1396]),
    (9, (.if_icmp .lt (7), 3, 16, 0, .null), [])]) (am_lf [(12, (.iconst (-1), 1, 0, 0, .int (-1)), []),
    (13, (.goto (9), 3, 22, 0, .null), []),
    (16, (.aload_n 0, 1, 0, 0, .null), []),
    (17, (.getfield 7, 3, 11, 1, .null), [1394]),
    (20, (.iload_n 1, 1, 1, 0, .null), []),
    (21, (.iaload, 1, 0, 0, .null), []),
    (22, (.ireturn, 1, 0, 0, .null), [])])
-- 184: java/lang/String.coder()B
def am_o184 : Nat → Option am_O := am_lf [(0, (.getstatic 38, 3, 0, 0, .null), [319]),
    (3, (.ifCond .eq (10), 3, 13, 0, .null), []),
    (6, (.aload_n 0, 1, 0, 0, .null), []),
    (7, (.getfield 15, 3, 12, 1, .null), [457]),
    (10, (.goto (4), 3, 14, 0, .null), []),
    (13, (.iconst 1, 1, 0, 0, .int 1), []),
    (14, (.ireturn, 1, 0, 0, .null), [])]
-- 185: java/lang/String.isLatin1()Z
def am_o185 : Nat → Option am_O := am_lf [(0, (.getstatic 38, 3, 0, 0, .null), [319]),
    (3, (.ifCond .eq (14), 3, 17, 0, .null), []),
    (6, (.aload_n 0, 1, 0, 0, .null), []),
    (7, (.getfield 15, 3, 12, 1, .null), [457]),
    (10, (.ifCond .ne (7), 3, 17, 0, .null), []),
    (13, (.iconst 1, 1, 0, 0, .int 1), []),
    (14, (.goto (4), 3, 18, 0, .null), []),
    (17, (.iconst 0, 1, 0, 0, .int 0), []),
    (18, (.ireturn, 1, 0, 0, .null), [])]
-- 186: java/lang/String.checkIndex(II)V
def am_o186 : Nat → Option am_O := am_lf [(0, (.iload_n 0, 1, 0, 0, .null), []),
    (1, (.iload_n 1, 1, 1, 0, .null), []),
    (2, (.getstatic 1053, 3, 2, 0, .null), [297]),
    (5, (.invokestatic 1059, 3, 212, 3, .null), [1107]),
    (8, (.pop, 1, 0, 0, .null), []),
    (9, (.return_, 1, 0, 0, .null), [])]
-- 187: java/lang/String.length()I
def am_o187 : Nat → Option am_O := am_lf [(0, (.aload_n 0, 1, 0, 0, .null), []),
    (1, (.getfield 9, 3, 12, 0, .null), [456]),
    (4, (.arraylength, 1, 0, 0, .null), []),
    (5, (.aload_n 0, 1, 0, 0, .null), []),
    (6, (.invokevirtual 335, 3, 184, 0, .null), [315]),
    (9, (.ishr, 1, 0, 0, .null), []),
    (10, (.ireturn, 1, 0, 0, .null), [])]
-- 188: java/lang/String.isEmpty()Z
def am_o188 : Nat → Option am_O := am_lf [(0, (.aload_n 0, 1, 0, 0, .null), []),
    (1, (.getfield 9, 3, 12, 0, .null), [456]),
    (4, (.arraylength, 1, 0, 0, .null), []),
    (5, (.ifCond .ne (7), 3, 12, 0, .null), []),
    (8, (.iconst 1, 1, 0, 0, .int 1), []),
    (9, (.goto (4), 3, 13, 0, .null), []),
    (12, (.iconst 0, 1, 0, 0, .int 0), []),
    (13, (.ireturn, 1, 0, 0, .null), [])]
-- 189: java/lang/String.charAt(I)C
def am_o189 : Nat → Option am_O := am_lf [(0, (.aload_n 0, 1, 0, 0, .null), []),
    (1, (.invokevirtual 492, 3, 185, 0, .null), [1097]),
    (4, (.ifCond .eq (12), 3, 16, 0, .null), []),
    (7, (.aload_n 0, 1, 0, 0, .null), []),
    (8, (.getfield 9, 3, 12, 0, .null), [456]),
    (11, (.iload_n 1, 1, 1, 0, .null), []),
    (12, (.invokestatic 495, 3, 208, 2, .null), [1101]),
    (15, (.ireturn, 1, 0, 0, .null), []),
    (16, (.aload_n 0, 1, 0, 0, .null), []),
    (17, (.getfield 9, 3, 12, 0, .null), [456]),
    (20, (.iload_n 1, 1, 1, 0, .null), []),
    (24, (.ireturn, 1, 0, 0, .null), [])]
-- 190: MarkInlines$Signs.isMailSign(I)Z
def am_o190 : Nat → Option am_O := am_sel 16 (am_lf [(0, (.iload_n 0, 1, 0, 0, .null), []),
    (1, (.invokestatic 20, 3, 197, 1, .null), [1031]),
    (4, (.ifCond .ne (27), 3, 31, 0, .null), []),
    (7, (.iload_n 0, 1, 0, 0, .null), []),
    (8, (.bipush (46), 2, 0, 0, .int 46), []),
    (10, (.if_icmp .eq (21), 3, 31, 0, .null), []),
    (13, (.iload_n 0, 1, 0, 0, .null), []),
    (14, (.bipush (45), 2, 0, 0, .int 45), []),
    (16, (.if_icmp .eq (15), 3, 31, 0, .null), [])]) (am_lf [(19, (.iload_n 0, 1, 0, 0, .null), []),
    (20, (.bipush (95), 2, 0, 0, .int 95), []),
    (22, (.if_icmp .eq (9), 3, 31, 0, .null), []),
    (25, (.iload_n 0, 1, 0, 0, .null), []),
    (26, (.bipush (43), 2, 0, 0, .int 43), []),
    (28, (.if_icmp .ne (7), 3, 35, 0, .null), []),
    (31, (.iconst 1, 1, 0, 0, .int 1), []),
    (32, (.goto (4), 3, 36, 0, .null), []),
    (35, (.iconst 0, 1, 0, 0, .int 0), []),
    (36, (.ireturn, 1, 0, 0, .null), [])])
-- 191: MarkInlines$Signs.isAddressSign(I)Z
def am_o191 : Nat → Option am_O := am_sel 13 (am_lf [(0, (.iload_n 0, 1, 0, 0, .null), []),
    (1, (.bipush (32), 2, 0, 0, .int 32), []),
    (3, (.if_icmp .le (25), 3, 28, 0, .null), []),
    (6, (.iload_n 0, 1, 0, 0, .null), []),
    (7, (.bipush (60), 2, 0, 0, .int 60), []),
    (9, (.if_icmp .eq (19), 3, 28, 0, .null), []),
    (12, (.iload_n 0, 1, 0, 0, .null), []),
    (13, (.bipush (62), 2, 0, 0, .int 62), [])]) (am_lf [(15, (.if_icmp .eq (13), 3, 28, 0, .null), []),
    (18, (.iload_n 0, 1, 0, 0, .null), []),
    (19, (.bipush (127), 2, 0, 0, .int 127), []),
    (21, (.if_icmp .eq (7), 3, 28, 0, .null), []),
    (24, (.iconst 1, 1, 0, 0, .int 1), []),
    (25, (.goto (4), 3, 29, 0, .null), []),
    (28, (.iconst 0, 1, 0, 0, .int 0), []),
    (29, (.ireturn, 1, 0, 0, .null), [])])
-- 192: MarkInlines$Signs.small(I)I
def am_o192 : Nat → Option am_O := am_lf [(0, (.iload_n 0, 1, 0, 0, .null), []),
    (1, (.bipush (65), 2, 0, 0, .int 65), []),
    (3, (.if_icmp .lt (16), 3, 19, 0, .null), []),
    (6, (.iload_n 0, 1, 0, 0, .null), []),
    (7, (.bipush (90), 2, 0, 0, .int 90), []),
    (9, (.if_icmp .gt (10), 3, 19, 0, .null), []),
    (12, (.iload_n 0, 1, 0, 0, .null), []),
    (13, (.bipush (32), 2, 0, 0, .int 32), []),
    (15, (.iadd, 1, 0, 0, .null), []),
    (16, (.goto (4), 3, 20, 0, .null), []),
    (19, (.iload_n 0, 1, 0, 0, .null), []),
    (20, (.ireturn, 1, 0, 0, .null), [])]
-- 193: MarkInlines$Signs.worth(II)I
def am_o193 : Nat → Option am_O := am_sel 37 (am_sel 17 (am_lf [(0, (.iconst (-1), 1, 0, 0, .int (-1)), []),
    (1, (.istore_n 2, 1, 2, 0, .null), []),
    (2, (.iload_n 0, 1, 0, 0, .null), []),
    (3, (.bipush (48), 2, 0, 0, .int 48), []),
    (5, (.if_icmp .lt (17), 3, 22, 0, .null), []),
    (8, (.iload_n 0, 1, 0, 0, .null), []),
    (9, (.bipush (57), 2, 0, 0, .int 57), []),
    (11, (.if_icmp .gt (11), 3, 22, 0, .null), []),
    (14, (.iload_n 0, 1, 0, 0, .null), []),
    (15, (.bipush (48), 2, 0, 0, .int 48), []),
    (17, (.isub, 1, 0, 0, .null), [])]) (am_lf [(18, (.istore_n 2, 1, 2, 0, .null), []),
    (19, (.goto (46), 3, 65, 0, .null), []),
    (22, (.iload_n 0, 1, 0, 0, .null), []),
    (23, (.bipush (65), 2, 0, 0, .int 65), []),
    (25, (.if_icmp .lt (20), 3, 45, 0, .null), []),
    (28, (.iload_n 0, 1, 0, 0, .null), []),
    (29, (.bipush (90), 2, 0, 0, .int 90), []),
    (31, (.if_icmp .gt (14), 3, 45, 0, .null), []),
    (34, (.iload_n 0, 1, 0, 0, .null), []),
    (35, (.bipush (65), 2, 0, 0, .int 65), []),
    (37, (.isub, 1, 0, 0, .null), [])])) (am_sel 57 (am_lf [(38, (.bipush (10), 2, 0, 0, .int 10), []),
    (40, (.iadd, 1, 0, 0, .null), []),
    (41, (.istore_n 2, 1, 2, 0, .null), []),
    (42, (.goto (23), 3, 65, 0, .null), []),
    (45, (.iload_n 0, 1, 0, 0, .null), []),
    (46, (.bipush (97), 2, 0, 0, .int 97), []),
    (48, (.if_icmp .lt (17), 3, 65, 0, .null), []),
    (51, (.iload_n 0, 1, 0, 0, .null), []),
    (52, (.bipush (122), 2, 0, 0, .int 122), []),
    (54, (.if_icmp .gt (11), 3, 65, 0, .null), []),
    (57, (.iload_n 0, 1, 0, 0, .null), [])]) (am_lf [(58, (.bipush (97), 2, 0, 0, .int 97), []),
    (60, (.isub, 1, 0, 0, .null), []),
    (61, (.bipush (10), 2, 0, 0, .int 10), []),
    (63, (.iadd, 1, 0, 0, .null), []),
    (64, (.istore_n 2, 1, 2, 0, .null), []),
    (65, (.iload_n 2, 1, 2, 0, .null), []),
    (66, (.iload_n 1, 1, 1, 0, .null), []),
    (67, (.if_icmp .ge (7), 3, 74, 0, .null), []),
    (70, (.iload_n 2, 1, 2, 0, .null), []),
    (71, (.goto (4), 3, 75, 0, .null), []),
    (74, (.iconst (-1), 1, 0, 0, .int (-1)), []),
    (75, (.ireturn, 1, 0, 0, .null), [])]))
-- 194: MarkInlines$Signs.isWhite(I)Z
def am_o194 : Nat → Option am_O := am_sel 13 (am_lf [(0, (.iload_n 0, 1, 0, 0, .null), []),
    (1, (.bipush (9), 2, 0, 0, .int 9), []),
    (3, (.if_icmp .eq (21), 3, 24, 0, .null), []),
    (6, (.iload_n 0, 1, 0, 0, .null), []),
    (7, (.bipush (10), 2, 0, 0, .int 10), []),
    (9, (.if_icmp .eq (15), 3, 24, 0, .null), []),
    (12, (.iload_n 0, 1, 0, 0, .null), []),
    (13, (.bipush (13), 2, 0, 0, .int 13), [])]) (am_lf [(15, (.if_icmp .eq (9), 3, 24, 0, .null), []),
    (18, (.iload_n 0, 1, 0, 0, .null), []),
    (19, (.bipush (32), 2, 0, 0, .int 32), []),
    (21, (.if_icmp .ne (7), 3, 28, 0, .null), []),
    (24, (.iconst 1, 1, 0, 0, .int 1), []),
    (25, (.goto (4), 3, 29, 0, .null), []),
    (28, (.iconst 0, 1, 0, 0, .int 0), []),
    (29, (.ireturn, 1, 0, 0, .null), [])])
-- 195: MarkInlines$Signs.isBlank(I)Z
def am_o195 : Nat → Option am_O := am_lf [(0, (.iload_n 0, 1, 0, 0, .null), []),
    (1, (.invokestatic 9, 3, 194, 1, .null), [1146]),
    (4, (.ifCond .ne (10), 3, 14, 0, .null), []),
    (7, (.iload_n 0, 1, 0, 0, .null), []),
    (8, (.sipush (160), 3, 0, 0, .int 160), []),
    (11, (.if_icmp .ne (7), 3, 18, 0, .null), []),
    (14, (.iconst 1, 1, 0, 0, .int 1), []),
    (15, (.goto (4), 3, 19, 0, .null), []),
    (18, (.iconst 0, 1, 0, 0, .int 0), []),
    (19, (.ireturn, 1, 0, 0, .null), [])]
-- 196: MarkInlines$Signs.isLetter(I)Z
def am_o196 : Nat → Option am_O := am_sel 13 (am_lf [(0, (.iload_n 0, 1, 0, 0, .null), []),
    (1, (.bipush (65), 2, 0, 0, .int 65), []),
    (3, (.if_icmp .lt (9), 3, 12, 0, .null), []),
    (6, (.iload_n 0, 1, 0, 0, .null), []),
    (7, (.bipush (90), 2, 0, 0, .int 90), []),
    (9, (.if_icmp .le (15), 3, 24, 0, .null), []),
    (12, (.iload_n 0, 1, 0, 0, .null), []),
    (13, (.bipush (97), 2, 0, 0, .int 97), [])]) (am_lf [(15, (.if_icmp .lt (13), 3, 28, 0, .null), []),
    (18, (.iload_n 0, 1, 0, 0, .null), []),
    (19, (.bipush (122), 2, 0, 0, .int 122), []),
    (21, (.if_icmp .gt (7), 3, 28, 0, .null), []),
    (24, (.iconst 1, 1, 0, 0, .int 1), []),
    (25, (.goto (4), 3, 29, 0, .null), []),
    (28, (.iconst 0, 1, 0, 0, .int 0), []),
    (29, (.ireturn, 1, 0, 0, .null), [])])
-- 197: MarkInlines$Signs.isLetterOrDigit(I)Z
def am_o197 : Nat → Option am_O := am_sel 19 (am_lf [(0, (.iload_n 0, 1, 0, 0, .null), []),
    (1, (.bipush (65), 2, 0, 0, .int 65), []),
    (3, (.if_icmp .lt (9), 3, 12, 0, .null), []),
    (6, (.iload_n 0, 1, 0, 0, .null), []),
    (7, (.bipush (90), 2, 0, 0, .int 90), []),
    (9, (.if_icmp .le (27), 3, 36, 0, .null), []),
    (12, (.iload_n 0, 1, 0, 0, .null), []),
    (13, (.bipush (97), 2, 0, 0, .int 97), []),
    (15, (.if_icmp .lt (9), 3, 24, 0, .null), []),
    (18, (.iload_n 0, 1, 0, 0, .null), []),
    (19, (.bipush (122), 2, 0, 0, .int 122), [])]) (am_lf [(21, (.if_icmp .le (15), 3, 36, 0, .null), []),
    (24, (.iload_n 0, 1, 0, 0, .null), []),
    (25, (.bipush (48), 2, 0, 0, .int 48), []),
    (27, (.if_icmp .lt (13), 3, 40, 0, .null), []),
    (30, (.iload_n 0, 1, 0, 0, .null), []),
    (31, (.bipush (57), 2, 0, 0, .int 57), []),
    (33, (.if_icmp .gt (7), 3, 40, 0, .null), []),
    (36, (.iconst 1, 1, 0, 0, .int 1), []),
    (37, (.goto (4), 3, 41, 0, .null), []),
    (40, (.iconst 0, 1, 0, 0, .int 0), []),
    (41, (.ireturn, 1, 0, 0, .null), [])])
-- 198: MarkInlines$Signs.isAsciiPunctuation(I)Z
def am_o198 : Nat → Option am_O := am_sel 25 (am_sel 12 (am_lf [(0, (.iload_n 0, 1, 0, 0, .null), []),
    (1, (.bipush (33), 2, 0, 0, .int 33), []),
    (3, (.if_icmp .lt (9), 3, 12, 0, .null), []),
    (6, (.iload_n 0, 1, 0, 0, .null), []),
    (7, (.bipush (47), 2, 0, 0, .int 47), []),
    (9, (.if_icmp .le (39), 3, 48, 0, .null), []),
    (12, (.iload_n 0, 1, 0, 0, .null), [])]) (am_lf [(13, (.bipush (58), 2, 0, 0, .int 58), []),
    (15, (.if_icmp .lt (9), 3, 24, 0, .null), []),
    (18, (.iload_n 0, 1, 0, 0, .null), []),
    (19, (.bipush (64), 2, 0, 0, .int 64), []),
    (21, (.if_icmp .le (27), 3, 48, 0, .null), []),
    (24, (.iload_n 0, 1, 0, 0, .null), []),
    (25, (.bipush (91), 2, 0, 0, .int 91), [])])) (am_sel 39 (am_lf [(27, (.if_icmp .lt (9), 3, 36, 0, .null), []),
    (30, (.iload_n 0, 1, 0, 0, .null), []),
    (31, (.bipush (96), 2, 0, 0, .int 96), []),
    (33, (.if_icmp .le (15), 3, 48, 0, .null), []),
    (36, (.iload_n 0, 1, 0, 0, .null), []),
    (37, (.bipush (123), 2, 0, 0, .int 123), []),
    (39, (.if_icmp .lt (13), 3, 52, 0, .null), [])]) (am_lf [(42, (.iload_n 0, 1, 0, 0, .null), []),
    (43, (.bipush (126), 2, 0, 0, .int 126), []),
    (45, (.if_icmp .gt (7), 3, 52, 0, .null), []),
    (48, (.iconst 1, 1, 0, 0, .int 1), []),
    (49, (.goto (4), 3, 53, 0, .null), []),
    (52, (.iconst 0, 1, 0, 0, .int 0), []),
    (53, (.ireturn, 1, 0, 0, .null), [])]))
-- 199: MarkInlines$Signs.isPunctuation(I)Z
def am_o199 : Nat → Option am_O := am_sel 29 (am_sel 14 (am_lf [(0, (.iload_n 0, 1, 0, 0, .null), []),
    (1, (.invokestatic 15, 3, 198, 1, .null), [1150]),
    (4, (.ifCond .ne (52), 3, 56, 0, .null), []),
    (7, (.iload_n 0, 1, 0, 0, .null), []),
    (8, (.sipush (161), 3, 0, 0, .int 161), []),
    (11, (.if_icmp .eq (45), 3, 56, 0, .null), []),
    (14, (.iload_n 0, 1, 0, 0, .null), [])]) (am_lf [(15, (.sipush (167), 3, 0, 0, .int 167), []),
    (18, (.if_icmp .eq (38), 3, 56, 0, .null), []),
    (21, (.iload_n 0, 1, 0, 0, .null), []),
    (22, (.sipush (171), 3, 0, 0, .int 171), []),
    (25, (.if_icmp .eq (31), 3, 56, 0, .null), []),
    (28, (.iload_n 0, 1, 0, 0, .null), []),
    (29, (.sipush (182), 3, 0, 0, .int 182), [])])) (am_sel 46 (am_lf [(32, (.if_icmp .eq (24), 3, 56, 0, .null), []),
    (35, (.iload_n 0, 1, 0, 0, .null), []),
    (36, (.sipush (183), 3, 0, 0, .int 183), []),
    (39, (.if_icmp .eq (17), 3, 56, 0, .null), []),
    (42, (.iload_n 0, 1, 0, 0, .null), []),
    (43, (.sipush (187), 3, 0, 0, .int 187), []),
    (46, (.if_icmp .eq (10), 3, 56, 0, .null), [])]) (am_lf [(49, (.iload_n 0, 1, 0, 0, .null), []),
    (50, (.sipush (191), 3, 0, 0, .int 191), []),
    (53, (.if_icmp .ne (7), 3, 60, 0, .null), []),
    (56, (.iconst 1, 1, 0, 0, .int 1), []),
    (57, (.goto (4), 3, 61, 0, .null), []),
    (60, (.iconst 0, 1, 0, 0, .int 0), []),
    (61, (.ireturn, 1, 0, 0, .null), [])]))
-- 200: MarkInlines$Signs.isForbidden(I)Z
def am_o200 : Nat → Option am_O := am_sel 19 (am_lf [(0, (.iload_n 0, 1, 0, 0, .null), []),
    (1, (.bipush (32), 2, 0, 0, .int 32), []),
    (3, (.if_icmp .ge (21), 3, 24, 0, .null), []),
    (6, (.iload_n 0, 1, 0, 0, .null), []),
    (7, (.bipush (9), 2, 0, 0, .int 9), []),
    (9, (.if_icmp .eq (15), 3, 24, 0, .null), []),
    (12, (.iload_n 0, 1, 0, 0, .null), []),
    (13, (.bipush (10), 2, 0, 0, .int 10), []),
    (15, (.if_icmp .eq (9), 3, 24, 0, .null), []),
    (18, (.iload_n 0, 1, 0, 0, .null), []),
    (19, (.bipush (13), 2, 0, 0, .int 13), [])]) (am_lf [(21, (.if_icmp .ne (15), 3, 36, 0, .null), []),
    (24, (.iload_n 0, 1, 0, 0, .null), []),
    (25, (.ldc 18, 2, 0, 0, .int 65534), [1131]),
    (27, (.if_icmp .eq (9), 3, 36, 0, .null), []),
    (30, (.iload_n 0, 1, 0, 0, .null), []),
    (31, (.ldc 19, 2, 0, 0, .int 65535), [1132]),
    (33, (.if_icmp .ne (7), 3, 40, 0, .null), []),
    (36, (.iconst 1, 1, 0, 0, .int 1), []),
    (37, (.goto (4), 3, 41, 0, .null), []),
    (40, (.iconst 0, 1, 0, 0, .int 0), []),
    (41, (.ireturn, 1, 0, 0, .null), [])])
-- 201: MarkInlines$Signs.isSchemeSign(I)Z
def am_o201 : Nat → Option am_O := am_sel 14 (am_lf [(0, (.iload_n 0, 1, 0, 0, .null), []),
    (1, (.invokestatic 20, 3, 197, 1, .null), [1031]),
    (4, (.ifCond .ne (21), 3, 25, 0, .null), []),
    (7, (.iload_n 0, 1, 0, 0, .null), []),
    (8, (.bipush (43), 2, 0, 0, .int 43), []),
    (10, (.if_icmp .eq (15), 3, 25, 0, .null), []),
    (13, (.iload_n 0, 1, 0, 0, .null), []),
    (14, (.bipush (45), 2, 0, 0, .int 45), [])]) (am_lf [(16, (.if_icmp .eq (9), 3, 25, 0, .null), []),
    (19, (.iload_n 0, 1, 0, 0, .null), []),
    (20, (.bipush (46), 2, 0, 0, .int 46), []),
    (22, (.if_icmp .ne (7), 3, 29, 0, .null), []),
    (25, (.iconst 1, 1, 0, 0, .int 1), []),
    (26, (.goto (4), 3, 30, 0, .null), []),
    (29, (.iconst 0, 1, 0, 0, .int 0), []),
    (30, (.ireturn, 1, 0, 0, .null), [])])
-- 202: MarkInlinesLaw.define(LMarkInlines;[J)I
def am_o202 : Nat → Option am_O := am_sel 8 (am_lf [(0, (.aload_n 1, 1, 1, 0, .null), []),
    (1, (.iconst 0, 1, 0, 0, .int 0), []),
    (2, (.aload_n 0, 1, 0, 0, .null), []),
    (3, (.invokevirtual 7, 3, 12, 0, .null), [877]),
    (6, (.i2l, 1, 0, 0, .null), []),
    (7, (.lastore, 1, 0, 0, .null), []),
    (8, (.goto (9), 3, 17, 0, .null), [])]) (am_lf [(11, (.astore_n 2, 1, 2, 0, .null), []),
    (12, (.iconst 1, 1, 0, 0, .int 1), []),
    (13, (.ireturn, 1, 0, 0, .null), []),
    (14, (.astore_n 2, 1, 2, 0, .null), []),
    (15, (.iconst 2, 1, 0, 0, .int 2), []),
    (16, (.ireturn, 1, 0, 0, .null), []),
    (17, (.iconst 0, 1, 0, 0, .int 0), []),
    (18, (.ireturn, 1, 0, 0, .null), [])])
-- 203: MarkInlinesLaw.read(LMarkInlines;[J)I
def am_o203 : Nat → Option am_O := am_lf [(0, (.aload_n 1, 1, 1, 0, .null), []),
    (1, (.iconst 0, 1, 0, 0, .int 0), []),
    (2, (.aload_n 0, 1, 0, 0, .null), []),
    (3, (.invokevirtual 17, 3, 14, 0, .null), [946]),
    (6, (.i2l, 1, 0, 0, .null), []),
    (7, (.lastore, 1, 0, 0, .null), []),
    (8, (.goto (6), 3, 14, 0, .null), []),
    (11, (.astore_n 2, 1, 2, 0, .null), []),
    (12, (.iconst 1, 1, 0, 0, .int 1), []),
    (13, (.ireturn, 1, 0, 0, .null), []),
    (14, (.iconst 0, 1, 0, 0, .int 0), []),
    (15, (.ireturn, 1, 0, 0, .null), [])]
-- 204: MarkInlinesLaw.plain(LMarkInlines;I[J)I
def am_o204 : Nat → Option am_O := am_sel 7 (am_lf [(0, (.aload_n 2, 1, 2, 0, .null), []),
    (1, (.iconst 0, 1, 0, 0, .int 0), []),
    (2, (.aload_n 0, 1, 0, 0, .null), []),
    (3, (.iload_n 1, 1, 1, 0, .null), []),
    (4, (.invokevirtual 20, 3, 3, 1, .null), [1281]),
    (7, (.i2l, 1, 0, 0, .null), [])]) (am_lf [(8, (.lastore, 1, 0, 0, .null), []),
    (9, (.goto (6), 3, 15, 0, .null), []),
    (12, (.astore_n 3, 1, 3, 0, .null), []),
    (13, (.iconst 1, 1, 0, 0, .int 1), []),
    (14, (.ireturn, 1, 0, 0, .null), []),
    (15, (.iconst 0, 1, 0, 0, .int 0), []),
    (16, (.ireturn, 1, 0, 0, .null), [])])
-- 205: MarkInlinesLaw.write(LMarkInlines;[J)I
def am_o205 : Nat → Option am_O := am_lf [(0, (.aload_n 1, 1, 1, 0, .null), []),
    (1, (.iconst 0, 1, 0, 0, .int 0), []),
    (2, (.aload_n 0, 1, 0, 0, .null), []),
    (3, (.invokevirtual 26, 3, 4, 0, .null), [1345]),
    (6, (.i2l, 1, 0, 0, .null), []),
    (7, (.lastore, 1, 0, 0, .null), []),
    (8, (.goto (6), 3, 14, 0, .null), []),
    (11, (.astore_n 2, 1, 2, 0, .null), []),
    (12, (.iconst 1, 1, 0, 0, .int 1), []),
    (13, (.ireturn, 1, 0, 0, .null), []),
    (14, (.iconst 0, 1, 0, 0, .int 0), []),
    (15, (.ireturn, 1, 0, 0, .null), [])]
-- 206: java/lang/Math.max(II)I
def am_o206 : Nat → Option am_O := am_lf [(0, (.iload_n 0, 1, 0, 0, .null), []),
    (1, (.iload_n 1, 1, 1, 0, .null), []),
    (2, (.if_icmp .lt (7), 3, 9, 0, .null), []),
    (5, (.iload_n 0, 1, 0, 0, .null), []),
    (6, (.goto (4), 3, 10, 0, .null), []),
    (9, (.iload_n 1, 1, 1, 0, .null), []),
    (10, (.ireturn, 1, 0, 0, .null), [])]
-- 207: java/lang/Math.min(II)I
def am_o207 : Nat → Option am_O := am_lf [(0, (.iload_n 0, 1, 0, 0, .null), []),
    (1, (.iload_n 1, 1, 1, 0, .null), []),
    (2, (.if_icmp .gt (7), 3, 9, 0, .null), []),
    (5, (.iload_n 0, 1, 0, 0, .null), []),
    (6, (.goto (4), 3, 10, 0, .null), []),
    (9, (.iload_n 1, 1, 1, 0, .null), []),
    (10, (.ireturn, 1, 0, 0, .null), [])]
-- 208: java/lang/StringLatin1.charAt([BI)C
def am_o208 : Nat → Option am_O := am_lf [(0, (.iload_n 1, 1, 1, 0, .null), []),
    (1, (.aload_n 0, 1, 0, 0, .null), []),
    (2, (.arraylength, 1, 0, 0, .null), []),
    (3, (.invokestatic 9, 3, 186, 2, .null), [1104]),
    (6, (.aload_n 0, 1, 0, 0, .null), []),
    (7, (.iload_n 1, 1, 1, 0, .null), []),
    (8, (.baload, 1, 0, 0, .null), []),
    (9, (.sipush (255), 3, 0, 0, .int 255), []),
    (12, (.iand, 1, 0, 0, .null), []),
    (13, (.i2c, 1, 0, 0, .null), []),
    (14, (.ireturn, 1, 0, 0, .null), [])]
-- 209: java/util/Arrays.fill([IIII)V
def am_o209 : Nat → Option am_O := am_sel 10 (am_lf [(0, (.aload_n 0, 1, 0, 0, .null), []),
    (1, (.arraylength, 1, 0, 0, .null), []),
    (2, (.iload_n 1, 1, 1, 0, .null), []),
    (3, (.iload_n 2, 1, 2, 0, .null), []),
    (4, (.invokestatic 13, 3, 211, 3, .null), [160]),
    (7, (.iload_n 1, 1, 1, 0, .null), []),
    (8, (.istore 4, 2, 4, 0, .null), []),
    (10, (.iload 4, 2, 4, 0, .null), [])]) (am_lf [(12, (.iload_n 2, 1, 2, 0, .null), []),
    (13, (.if_icmp .ge (14), 3, 27, 0, .null), []),
    (16, (.aload_n 0, 1, 0, 0, .null), []),
    (17, (.iload 4, 2, 4, 0, .null), []),
    (19, (.iload_n 3, 1, 3, 0, .null), []),
    (20, (.iastore, 1, 0, 0, .null), []),
    (21, (.iinc 4 (1), 3, 4, 0, .int 1), []),
    (24, (.goto (-14), 3, 10, 0, .null), []),
    (27, (.return_, 1, 0, 0, .null), [])])
-- 210: java/util/Arrays.copyOf([II)[I
def am_o210 : Nat → Option am_O := am_sel 18 (am_lf [(0, (.iload_n 1, 1, 1, 0, .null), []),
    (1, (.aload_n 0, 1, 0, 0, .null), []),
    (2, (.arraylength, 1, 0, 0, .null), []),
    (3, (.if_icmp .ne (11), 3, 14, 0, .null), []),
    (6, (.aload_n 0, 1, 0, 0, .null), []),
    (13, (.areturn, 1, 0, 0, .null), []),
    (14, (.iload_n 1, 1, 1, 0, .null), []),
    (15, (.newarray .int, 2, 0, 0, .null), [146]),
    (17, (.astore_n 2, 1, 2, 0, .null), []),
    (18, (.aload_n 0, 1, 0, 0, .null), [])]) (am_lf [(19, (.iconst 0, 1, 0, 0, .int 0), []),
    (20, (.aload_n 2, 1, 2, 0, .null), []),
    (21, (.iconst 0, 1, 0, 0, .int 0), []),
    (22, (.aload_n 0, 1, 0, 0, .null), []),
    (23, (.arraylength, 1, 0, 0, .null), []),
    (24, (.iload_n 1, 1, 1, 0, .null), []),
    (25, (.invokestatic 304, 3, 207, 2, .null), [276]),
    (28, (.invokestatic 150, 3, 1000, 5, .null), [277]),
    (31, (.aload_n 2, 1, 2, 0, .null), []),
    (32, (.areturn, 1, 0, 0, .null), [])])
-- 211: java/util/Arrays.rangeCheck(III)V
def am_o211 : Nat → Option am_O := am_sel 46 (am_lf [(0, (.iload_n 1, 1, 1, 0, .null), []),
    (1, (.iload_n 2, 1, 2, 0, .null), []),
    (2, (.if_icmp .le (44), 3, 46, 0, .null), []),
    (8, (.dup, 1, 0, 0, .null), []),
    (12, (.dup, 1, 0, 0, .null), []),
    (21, (.iload_n 1, 1, 1, 0, .null), []),
    (30, (.iload_n 2, 1, 2, 0, .null), []),
    (46, (.iload_n 1, 1, 1, 0, .null), [])]) (am_lf [(47, (.ifCond .ge (12), 3, 59, 0, .null), []),
    (53, (.dup, 1, 0, 0, .null), []),
    (54, (.iload_n 1, 1, 1, 0, .null), []),
    (59, (.iload_n 2, 1, 2, 0, .null), []),
    (60, (.iload_n 0, 1, 0, 0, .null), []),
    (61, (.if_icmp .le (12), 3, 73, 0, .null), []),
    (67, (.dup, 1, 0, 0, .null), []),
    (68, (.iload_n 2, 1, 2, 0, .null), []),
    (73, (.return_, 1, 0, 0, .null), [])])
-- 212: jdk/internal/util/Preconditions.checkIndex(IILjava/util/function/BiFunction;)I
def am_o212 : Nat → Option am_O := am_lf [(0, (.iload_n 0, 1, 0, 0, .null), []),
    (1, (.ifCond .lt (8), 3, 9, 0, .null), []),
    (4, (.iload_n 0, 1, 0, 0, .null), []),
    (5, (.iload_n 1, 1, 1, 0, .null), []),
    (6, (.if_icmp .lt (10), 3, 16, 0, .null), []),
    (9, (.aload_n 2, 1, 2, 0, .null), []),
    (10, (.iload_n 0, 1, 0, 0, .null), []),
    (11, (.iload_n 1, 1, 1, 0, .null), []),
    (16, (.iload_n 0, 1, 0, 0, .null), []),
    (17, (.ireturn, 1, 0, 0, .null), [])]
set_option maxRecDepth 100000 in
theorem am_k179 : ∀ pc o, am_o179 pc = some o → am_right "MarkInlinesModel" false prog_14_method_72_code pc o := (am_sel_ok (am_lf_ok (by decide +kernel)) (am_lf_ok (by decide +kernel)))
set_option maxRecDepth 100000 in
theorem am_k180 : ∀ pc o, am_o180 pc = some o → am_right "MarkInlinesModel" false prog_14_method_73_code pc o := (am_sel_ok (am_lf_ok (by decide +kernel)) (am_lf_ok (by decide +kernel)))
set_option maxRecDepth 100000 in
theorem am_k181 : ∀ pc o, am_o181 pc = some o → am_right "MarkInlinesModel" false prog_14_method_7_code pc o := (am_sel_ok (am_sel_ok (am_lf_ok (by decide +kernel)) (am_lf_ok (by decide +kernel))) (am_sel_ok (am_lf_ok (by decide +kernel)) (am_lf_ok (by decide +kernel))))
set_option maxRecDepth 100000 in
theorem am_k182 : ∀ pc o, am_o182 pc = some o → am_right "MarkInlinesModel" false prog_14_method_8_code pc o := (am_sel_ok (am_lf_ok (by decide +kernel)) (am_lf_ok (by decide +kernel)))
set_option maxRecDepth 100000 in
theorem am_k183 : ∀ pc o, am_o183 pc = some o → am_right "MarkInlinesModel" false prog_14_method_9_code pc o := (am_sel_ok (am_lf_ok (by decide +kernel)) (am_lf_ok (by decide +kernel)))
set_option maxRecDepth 100000 in
theorem am_k184 : ∀ pc o, am_o184 pc = some o → am_right "java/lang/String" false prog_25_method_152_code pc o := (am_lf_ok (by decide +kernel))
set_option maxRecDepth 100000 in
theorem am_k185 : ∀ pc o, am_o185 pc = some o → am_right "java/lang/String" false prog_25_method_154_code pc o := (am_lf_ok (by decide +kernel))
set_option maxRecDepth 100000 in
theorem am_k186 : ∀ pc o, am_o186 pc = some o → am_right "java/lang/String" false prog_25_method_155_code pc o := (am_lf_ok (by decide +kernel))
set_option maxRecDepth 100000 in
theorem am_k187 : ∀ pc o, am_o187 pc = some o → am_right "java/lang/String" false prog_25_method_54_code pc o := (am_lf_ok (by decide +kernel))
set_option maxRecDepth 100000 in
theorem am_k188 : ∀ pc o, am_o188 pc = some o → am_right "java/lang/String" false prog_25_method_55_code pc o := (am_lf_ok (by decide +kernel))
set_option maxRecDepth 100000 in
theorem am_k189 : ∀ pc o, am_o189 pc = some o → am_right "java/lang/String" false prog_25_method_56_code pc o := (am_lf_ok (by decide +kernel))
set_option maxRecDepth 100000 in
theorem am_k190 : ∀ pc o, am_o190 pc = some o → am_right "MarkInlines$Signs" false prog_11_method_10_code pc o := (am_sel_ok (am_lf_ok (by decide +kernel)) (am_lf_ok (by decide +kernel)))
set_option maxRecDepth 100000 in
theorem am_k191 : ∀ pc o, am_o191 pc = some o → am_right "MarkInlines$Signs" false prog_11_method_11_code pc o := (am_sel_ok (am_lf_ok (by decide +kernel)) (am_lf_ok (by decide +kernel)))
set_option maxRecDepth 100000 in
theorem am_k192 : ∀ pc o, am_o192 pc = some o → am_right "MarkInlines$Signs" false prog_11_method_12_code pc o := (am_lf_ok (by decide +kernel))
set_option maxRecDepth 100000 in
theorem am_k193 : ∀ pc o, am_o193 pc = some o → am_right "MarkInlines$Signs" false prog_11_method_13_code pc o := (am_sel_ok (am_sel_ok (am_lf_ok (by decide +kernel)) (am_lf_ok (by decide +kernel))) (am_sel_ok (am_lf_ok (by decide +kernel)) (am_lf_ok (by decide +kernel))))
set_option maxRecDepth 100000 in
theorem am_k194 : ∀ pc o, am_o194 pc = some o → am_right "MarkInlines$Signs" false prog_11_method_2_code pc o := (am_sel_ok (am_lf_ok (by decide +kernel)) (am_lf_ok (by decide +kernel)))
set_option maxRecDepth 100000 in
theorem am_k195 : ∀ pc o, am_o195 pc = some o → am_right "MarkInlines$Signs" false prog_11_method_3_code pc o := (am_lf_ok (by decide +kernel))
set_option maxRecDepth 100000 in
theorem am_k196 : ∀ pc o, am_o196 pc = some o → am_right "MarkInlines$Signs" false prog_11_method_4_code pc o := (am_sel_ok (am_lf_ok (by decide +kernel)) (am_lf_ok (by decide +kernel)))
set_option maxRecDepth 100000 in
theorem am_k197 : ∀ pc o, am_o197 pc = some o → am_right "MarkInlines$Signs" false prog_11_method_5_code pc o := (am_sel_ok (am_lf_ok (by decide +kernel)) (am_lf_ok (by decide +kernel)))
set_option maxRecDepth 100000 in
theorem am_k198 : ∀ pc o, am_o198 pc = some o → am_right "MarkInlines$Signs" false prog_11_method_6_code pc o := (am_sel_ok (am_sel_ok (am_lf_ok (by decide +kernel)) (am_lf_ok (by decide +kernel))) (am_sel_ok (am_lf_ok (by decide +kernel)) (am_lf_ok (by decide +kernel))))
set_option maxRecDepth 100000 in
theorem am_k199 : ∀ pc o, am_o199 pc = some o → am_right "MarkInlines$Signs" false prog_11_method_7_code pc o := (am_sel_ok (am_sel_ok (am_lf_ok (by decide +kernel)) (am_lf_ok (by decide +kernel))) (am_sel_ok (am_lf_ok (by decide +kernel)) (am_lf_ok (by decide +kernel))))
set_option maxRecDepth 100000 in
theorem am_k200 : ∀ pc o, am_o200 pc = some o → am_right "MarkInlines$Signs" false prog_11_method_8_code pc o := (am_sel_ok (am_lf_ok (by decide +kernel)) (am_lf_ok (by decide +kernel)))
set_option maxRecDepth 100000 in
theorem am_k201 : ∀ pc o, am_o201 pc = some o → am_right "MarkInlines$Signs" false prog_11_method_9_code pc o := (am_sel_ok (am_lf_ok (by decide +kernel)) (am_lf_ok (by decide +kernel)))
set_option maxRecDepth 100000 in
theorem am_k202 : ∀ pc o, am_o202 pc = some o → am_right "MarkInlinesLaw" false method_3_code pc o := (am_sel_ok (am_lf_ok (by decide +kernel)) (am_lf_ok (by decide +kernel)))
set_option maxRecDepth 100000 in
theorem am_k203 : ∀ pc o, am_o203 pc = some o → am_right "MarkInlinesLaw" false method_4_code pc o := (am_lf_ok (by decide +kernel))
set_option maxRecDepth 100000 in
theorem am_k204 : ∀ pc o, am_o204 pc = some o → am_right "MarkInlinesLaw" false method_5_code pc o := (am_sel_ok (am_lf_ok (by decide +kernel)) (am_lf_ok (by decide +kernel)))
set_option maxRecDepth 100000 in
theorem am_k205 : ∀ pc o, am_o205 pc = some o → am_right "MarkInlinesLaw" false method_6_code pc o := (am_lf_ok (by decide +kernel))
set_option maxRecDepth 100000 in
theorem am_k206 : ∀ pc o, am_o206 pc = some o → am_right "java/lang/Math" false prog_23_method_65_code pc o := (am_lf_ok (by decide +kernel))
set_option maxRecDepth 100000 in
theorem am_k207 : ∀ pc o, am_o207 pc = some o → am_right "java/lang/Math" false prog_23_method_69_code pc o := (am_lf_ok (by decide +kernel))
set_option maxRecDepth 100000 in
theorem am_k208 : ∀ pc o, am_o208 pc = some o → am_right "java/lang/StringLatin1" false prog_27_method_2_code pc o := (am_lf_ok (by decide +kernel))
set_option maxRecDepth 100000 in
theorem am_k209 : ∀ pc o, am_o209 pc = some o → am_right "java/util/Arrays" false prog_31_method_104_code pc o := (am_sel_ok (am_lf_ok (by decide +kernel)) (am_lf_ok (by decide +kernel)))
set_option maxRecDepth 100000 in
theorem am_k210 : ∀ pc o, am_o210 pc = some o → am_right "java/util/Arrays" false prog_31_method_123_code pc o := (am_sel_ok (am_lf_ok (by decide +kernel)) (am_lf_ok (by decide +kernel)))
set_option maxRecDepth 100000 in
theorem am_k211 : ∀ pc o, am_o211 pc = some o → am_right "java/util/Arrays" false prog_31_method_30_code pc o := (am_sel_ok (am_lf_ok (by decide +kernel)) (am_lf_ok (by decide +kernel)))
set_option maxRecDepth 100000 in
theorem am_k212 : ∀ pc o, am_o212 pc = some o → am_right "jdk/internal/util/Preconditions" false prog_33_method_11_code pc o := (am_lf_ok (by decide +kernel))
