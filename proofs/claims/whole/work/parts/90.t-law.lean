/-! THE LAW: its decoded rows -/
def tbL_h : List zv_I := [(0, .new 7, 3, (0, 0, 0, 0, 0, 0)), (3, .dup, 4, (0, 0, 0, 0, 0, 0)), (4, .invokespecial 9, 7, (0, 0, 0, 0, 0, 0)), (7, .astore_n 1, 8, (0, 0, 0, 0, 0, 0)), (8, .new 10, 11, (0, 0, 0, 0, 0, 0)), (11, .dup, 12, (0, 0, 0, 0, 0, 0)), (12, .invokespecial 12, 15, (0, 0, 0, 0, 0, 0)), (15, .astore_n 2, 16, (0, 0, 0, 0, 0, 0)), (16, .iconst 0, 17, (0, 0, 0, 0, 0, 0)), (17, .istore_n 3, 18, (0, 0, 0, 0, 0, 0)), (18, .iload_n 3, 19, (0, 0, 0, 0, 0, 0)), (19, .aload_n 0, 20, (0, 0, 0, 0, 0, 0)), (20, .arraylength, 21, (99, 0, 0, 0, 0, 0)), (21, .iconst 4, 22, (0, 0, 0, 0, 4, 0)), (22, .isub, 23, (0, 0, 0, 0, 0, 0)), (23, .if_icmp .gt 685, 26, (708, 0, 0, 0, 0, 0)), (26, .aload_n 0, 27, (0, 0, 0, 0, 0, 0)), (27, .iload_n 3, 28, (0, 0, 0, 0, 0, 0)), (28, .iaload, 29, (99, 0, 0, 0, 0, 0)), (29, .bipush 31, 31, (0, 0, 0, 0, 31, 0)), (31, .iand, 32, (0, 0, 0, 0, 0, 0))]
theorem okL_h : zv_ok 4 code RL zt vwCl tbL_h = true := by decide +kernel
def tbL_0 : List zv_I := [(124, .aload_n 1, 125, (0, 0, 0, 0, 0, 0)), (125, .aload_n 0, 126, (0, 0, 0, 0, 0, 0)), (126, .iload_n 3, 127, (0, 0, 0, 0, 0, 0)), (127, .iconst 1, 128, (0, 0, 0, 0, 1, 0)), (128, .iadd, 129, (0, 0, 0, 0, 0, 0)), (129, .iaload, 130, (99, 0, 0, 0, 0, 0)), (130, .invokevirtual 13, 133, (0, 0, 0, 0, 0, 0)), (133, .aload_n 2, 134, (0, 0, 0, 0, 0, 0)), (134, .aload_n 0, 135, (0, 0, 0, 0, 0, 0)), (135, .iload_n 3, 136, (0, 0, 0, 0, 0, 0)), (136, .iconst 1, 137, (0, 0, 0, 0, 1, 0)), (137, .iadd, 138, (0, 0, 0, 0, 0, 0)), (138, .iaload, 139, (99, 0, 0, 0, 0, 0)), (139, .invokevirtual 17, 142, (0, 0, 0, 0, 0, 0)), (142, .if_icmp .eq 560, 145, (702, 0, 0, 0, 0, 0)), (145, .iconst 0, 146, (0, 0, 0, 0, 0, 0)), (146, .ireturn, 147, (0, 0, 0, 0, 0, 0))]
theorem okL_0 : zv_ok 4 code RL zt vwCl tbL_0 = true := by decide +kernel
def tbL_1 : List zv_I := [(147, .aload_n 1, 148, (0, 0, 0, 0, 0, 0)), (148, .aload_n 0, 149, (0, 0, 0, 0, 0, 0)), (149, .iload_n 3, 150, (0, 0, 0, 0, 0, 0)), (150, .iconst 1, 151, (0, 0, 0, 0, 1, 0)), (151, .iadd, 152, (0, 0, 0, 0, 0, 0)), (152, .iaload, 153, (99, 0, 0, 0, 0, 0)), (153, .aload_n 0, 154, (0, 0, 0, 0, 0, 0)), (154, .iload_n 3, 155, (0, 0, 0, 0, 0, 0)), (155, .iconst 2, 156, (0, 0, 0, 0, 2, 0)), (156, .iadd, 157, (0, 0, 0, 0, 0, 0)), (157, .iaload, 158, (99, 0, 0, 0, 0, 0)), (158, .invokevirtual 18, 161, (0, 0, 0, 0, 0, 0)), (161, .aload_n 2, 162, (0, 0, 0, 0, 0, 0)), (162, .aload_n 0, 163, (0, 0, 0, 0, 0, 0)), (163, .iload_n 3, 164, (0, 0, 0, 0, 0, 0)), (164, .iconst 1, 165, (0, 0, 0, 0, 1, 0)), (165, .iadd, 166, (0, 0, 0, 0, 0, 0)), (166, .iaload, 167, (99, 0, 0, 0, 0, 0)), (167, .aload_n 0, 168, (0, 0, 0, 0, 0, 0)), (168, .iload_n 3, 169, (0, 0, 0, 0, 0, 0)), (169, .iconst 2, 170, (0, 0, 0, 0, 2, 0)), (170, .iadd, 171, (0, 0, 0, 0, 0, 0)), (171, .iaload, 172, (99, 0, 0, 0, 0, 0)), (172, .invokevirtual 22, 175, (0, 0, 0, 0, 0, 0)), (175, .if_icmp .eq 527, 178, (702, 0, 0, 0, 0, 0)), (178, .iconst 0, 179, (0, 0, 0, 0, 0, 0)), (179, .ireturn, 180, (0, 0, 0, 0, 0, 0))]
theorem okL_1 : zv_ok 4 code RL zt vwCl tbL_1 = true := by decide +kernel
def tbL_2 : List zv_I := [(180, .aload_n 1, 181, (0, 0, 0, 0, 0, 0)), (181, .aload_n 0, 182, (0, 0, 0, 0, 0, 0)), (182, .iload_n 3, 183, (0, 0, 0, 0, 0, 0)), (183, .iconst 1, 184, (0, 0, 0, 0, 1, 0)), (184, .iadd, 185, (0, 0, 0, 0, 0, 0)), (185, .iaload, 186, (99, 0, 0, 0, 0, 0)), (186, .invokevirtual 23, 189, (0, 0, 0, 0, 0, 0)), (189, .aload_n 2, 190, (0, 0, 0, 0, 0, 0)), (190, .aload_n 0, 191, (0, 0, 0, 0, 0, 0)), (191, .iload_n 3, 192, (0, 0, 0, 0, 0, 0)), (192, .iconst 1, 193, (0, 0, 0, 0, 1, 0)), (193, .iadd, 194, (0, 0, 0, 0, 0, 0)), (194, .iaload, 195, (99, 0, 0, 0, 0, 0)), (195, .invokevirtual 26, 198, (0, 0, 0, 0, 0, 0)), (198, .if_icmp .eq 504, 201, (702, 0, 0, 0, 0, 0)), (201, .iconst 0, 202, (0, 0, 0, 0, 0, 0)), (202, .ireturn, 203, (0, 0, 0, 0, 0, 0))]
theorem okL_2 : zv_ok 4 code RL zt vwCl tbL_2 = true := by decide +kernel
def tbL_3 : List zv_I := [(203, .aload_n 1, 204, (0, 0, 0, 0, 0, 0)), (204, .aload_n 0, 205, (0, 0, 0, 0, 0, 0)), (205, .iload_n 3, 206, (0, 0, 0, 0, 0, 0)), (206, .iconst 1, 207, (0, 0, 0, 0, 1, 0)), (207, .iadd, 208, (0, 0, 0, 0, 0, 0)), (208, .iaload, 209, (99, 0, 0, 0, 0, 0)), (209, .aload_n 0, 210, (0, 0, 0, 0, 0, 0)), (210, .iload_n 3, 211, (0, 0, 0, 0, 0, 0)), (211, .iconst 2, 212, (0, 0, 0, 0, 2, 0)), (212, .iadd, 213, (0, 0, 0, 0, 0, 0)), (213, .iaload, 214, (99, 0, 0, 0, 0, 0)), (214, .invokevirtual 27, 217, (0, 0, 0, 0, 0, 0)), (217, .aload_n 2, 218, (0, 0, 0, 0, 0, 0)), (218, .aload_n 0, 219, (0, 0, 0, 0, 0, 0)), (219, .iload_n 3, 220, (0, 0, 0, 0, 0, 0)), (220, .iconst 1, 221, (0, 0, 0, 0, 1, 0)), (221, .iadd, 222, (0, 0, 0, 0, 0, 0)), (222, .iaload, 223, (99, 0, 0, 0, 0, 0)), (223, .aload_n 0, 224, (0, 0, 0, 0, 0, 0)), (224, .iload_n 3, 225, (0, 0, 0, 0, 0, 0)), (225, .iconst 2, 226, (0, 0, 0, 0, 2, 0)), (226, .iadd, 227, (0, 0, 0, 0, 0, 0)), (227, .iaload, 228, (99, 0, 0, 0, 0, 0)), (228, .invokevirtual 31, 231, (0, 0, 0, 0, 0, 0)), (231, .if_icmp .eq 471, 234, (702, 0, 0, 0, 0, 0)), (234, .iconst 0, 235, (0, 0, 0, 0, 0, 0)), (235, .ireturn, 236, (0, 0, 0, 0, 0, 0))]
theorem okL_3 : zv_ok 4 code RL zt vwCl tbL_3 = true := by decide +kernel
def tbL_4 : List zv_I := [(236, .aload_n 1, 237, (0, 0, 0, 0, 0, 0)), (237, .aload_n 0, 238, (0, 0, 0, 0, 0, 0)), (238, .iload_n 3, 239, (0, 0, 0, 0, 0, 0)), (239, .iconst 1, 240, (0, 0, 0, 0, 1, 0)), (240, .iadd, 241, (0, 0, 0, 0, 0, 0)), (241, .iaload, 242, (99, 0, 0, 0, 0, 0)), (242, .invokevirtual 32, 245, (0, 0, 0, 0, 0, 0)), (245, .aload_n 2, 246, (0, 0, 0, 0, 0, 0)), (246, .aload_n 0, 247, (0, 0, 0, 0, 0, 0)), (247, .iload_n 3, 248, (0, 0, 0, 0, 0, 0)), (248, .iconst 1, 249, (0, 0, 0, 0, 1, 0)), (249, .iadd, 250, (0, 0, 0, 0, 0, 0)), (250, .iaload, 251, (99, 0, 0, 0, 0, 0)), (251, .invokevirtual 35, 254, (0, 0, 0, 0, 0, 0)), (254, .if_icmp .eq 448, 257, (702, 0, 0, 0, 0, 0)), (257, .iconst 0, 258, (0, 0, 0, 0, 0, 0)), (258, .ireturn, 259, (0, 0, 0, 0, 0, 0))]
theorem okL_4 : zv_ok 4 code RL zt vwCl tbL_4 = true := by decide +kernel
def tbL_5 : List zv_I := [(259, .aload_n 1, 260, (0, 0, 0, 0, 0, 0)), (260, .aload_n 0, 261, (0, 0, 0, 0, 0, 0)), (261, .iload_n 3, 262, (0, 0, 0, 0, 0, 0)), (262, .iconst 1, 263, (0, 0, 0, 0, 1, 0)), (263, .iadd, 264, (0, 0, 0, 0, 0, 0)), (264, .iaload, 265, (99, 0, 0, 0, 0, 0)), (265, .invokevirtual 36, 268, (0, 0, 0, 0, 0, 0)), (268, .aload_n 2, 269, (0, 0, 0, 0, 0, 0)), (269, .aload_n 0, 270, (0, 0, 0, 0, 0, 0)), (270, .iload_n 3, 271, (0, 0, 0, 0, 0, 0)), (271, .iconst 1, 272, (0, 0, 0, 0, 1, 0)), (272, .iadd, 273, (0, 0, 0, 0, 0, 0)), (273, .iaload, 274, (99, 0, 0, 0, 0, 0)), (274, .invokevirtual 39, 277, (0, 0, 0, 0, 0, 0)), (277, .if_icmp .eq 425, 280, (702, 0, 0, 0, 0, 0)), (280, .iconst 0, 281, (0, 0, 0, 0, 0, 0)), (281, .ireturn, 282, (0, 0, 0, 0, 0, 0))]
theorem okL_5 : zv_ok 4 code RL zt vwCl tbL_5 = true := by decide +kernel
def tbL_6 : List zv_I := [(282, .aload_n 1, 283, (0, 0, 0, 0, 0, 0)), (283, .aload_n 0, 284, (0, 0, 0, 0, 0, 0)), (284, .iload_n 3, 285, (0, 0, 0, 0, 0, 0)), (285, .iconst 1, 286, (0, 0, 0, 0, 1, 0)), (286, .iadd, 287, (0, 0, 0, 0, 0, 0)), (287, .iaload, 288, (99, 0, 0, 0, 0, 0)), (288, .invokevirtual 40, 291, (0, 0, 0, 0, 0, 0)), (291, .aload_n 2, 292, (0, 0, 0, 0, 0, 0)), (292, .aload_n 0, 293, (0, 0, 0, 0, 0, 0)), (293, .iload_n 3, 294, (0, 0, 0, 0, 0, 0)), (294, .iconst 1, 295, (0, 0, 0, 0, 1, 0)), (295, .iadd, 296, (0, 0, 0, 0, 0, 0)), (296, .iaload, 297, (99, 0, 0, 0, 0, 0)), (297, .invokevirtual 43, 300, (0, 0, 0, 0, 0, 0)), (300, .if_icmp .eq 402, 303, (702, 0, 0, 0, 0, 0)), (303, .iconst 0, 304, (0, 0, 0, 0, 0, 0)), (304, .ireturn, 305, (0, 0, 0, 0, 0, 0))]
theorem okL_6 : zv_ok 4 code RL zt vwCl tbL_6 = true := by decide +kernel
def tbL_7 : List zv_I := [(305, .aload_n 1, 306, (0, 0, 0, 0, 0, 0)), (306, .invokevirtual 44, 309, (0, 0, 0, 0, 0, 0)), (309, .aload_n 2, 310, (0, 0, 0, 0, 0, 0)), (310, .invokevirtual 48, 313, (0, 0, 0, 0, 0, 0)), (313, .if_icmp .eq 389, 316, (702, 0, 0, 0, 0, 0)), (316, .iconst 0, 317, (0, 0, 0, 0, 0, 0)), (317, .ireturn, 318, (0, 0, 0, 0, 0, 0))]
theorem okL_7 : zv_ok 4 code RL zt vwCl tbL_7 = true := by decide +kernel
def tbL_8 : List zv_I := [(318, .aload_n 1, 319, (0, 0, 0, 0, 0, 0)), (319, .aload_n 0, 320, (0, 0, 0, 0, 0, 0)), (320, .iload_n 3, 321, (0, 0, 0, 0, 0, 0)), (321, .iconst 1, 322, (0, 0, 0, 0, 1, 0)), (322, .iadd, 323, (0, 0, 0, 0, 0, 0)), (323, .iaload, 324, (99, 0, 0, 0, 0, 0)), (324, .invokevirtual 49, 327, (0, 0, 0, 0, 0, 0)), (327, .aload_n 2, 328, (0, 0, 0, 0, 0, 0)), (328, .aload_n 0, 329, (0, 0, 0, 0, 0, 0)), (329, .iload_n 3, 330, (0, 0, 0, 0, 0, 0)), (330, .iconst 1, 331, (0, 0, 0, 0, 1, 0)), (331, .iadd, 332, (0, 0, 0, 0, 0, 0)), (332, .iaload, 333, (99, 0, 0, 0, 0, 0)), (333, .invokevirtual 52, 336, (0, 0, 0, 0, 0, 0)), (336, .if_icmp .eq 366, 339, (702, 0, 0, 0, 0, 0)), (339, .iconst 0, 340, (0, 0, 0, 0, 0, 0)), (340, .ireturn, 341, (0, 0, 0, 0, 0, 0))]
theorem okL_8 : zv_ok 4 code RL zt vwCl tbL_8 = true := by decide +kernel
def tbL_9 : List zv_I := [(341, .aload_n 1, 342, (0, 0, 0, 0, 0, 0)), (342, .invokevirtual 53, 345, (0, 0, 0, 0, 0, 0)), (345, .aload_n 2, 346, (0, 0, 0, 0, 0, 0)), (346, .invokevirtual 57, 349, (0, 0, 0, 0, 0, 0)), (349, .lcmp, 350, (0, 0, 0, 0, 0, 0)), (350, .ifCond .eq 352, 353, (702, 0, 0, 0, 0, 0)), (353, .iconst 0, 354, (0, 0, 0, 0, 0, 0)), (354, .ireturn, 355, (0, 0, 0, 0, 0, 0))]
theorem okL_9 : zv_ok 4 code RL zt vwCl tbL_9 = true := by decide +kernel
def tbL_10 : List zv_I := [(355, .aload_n 1, 356, (0, 0, 0, 0, 0, 0)), (356, .aload_n 0, 357, (0, 0, 0, 0, 0, 0)), (357, .iload_n 3, 358, (0, 0, 0, 0, 0, 0)), (358, .iconst 1, 359, (0, 0, 0, 0, 1, 0)), (359, .iadd, 360, (0, 0, 0, 0, 0, 0)), (360, .iaload, 361, (99, 0, 0, 0, 0, 0)), (361, .aload_n 0, 362, (0, 0, 0, 0, 0, 0)), (362, .iload_n 3, 363, (0, 0, 0, 0, 0, 0)), (363, .iconst 2, 364, (0, 0, 0, 0, 2, 0)), (364, .iadd, 365, (0, 0, 0, 0, 0, 0)), (365, .iaload, 366, (99, 0, 0, 0, 0, 0)), (366, .invokevirtual 58, 369, (0, 0, 0, 0, 0, 0)), (369, .aload_n 2, 370, (0, 0, 0, 0, 0, 0)), (370, .aload_n 0, 371, (0, 0, 0, 0, 0, 0)), (371, .iload_n 3, 372, (0, 0, 0, 0, 0, 0)), (372, .iconst 1, 373, (0, 0, 0, 0, 1, 0)), (373, .iadd, 374, (0, 0, 0, 0, 0, 0)), (374, .iaload, 375, (99, 0, 0, 0, 0, 0)), (375, .aload_n 0, 376, (0, 0, 0, 0, 0, 0)), (376, .iload_n 3, 377, (0, 0, 0, 0, 0, 0)), (377, .iconst 2, 378, (0, 0, 0, 0, 2, 0)), (378, .iadd, 379, (0, 0, 0, 0, 0, 0)), (379, .iaload, 380, (99, 0, 0, 0, 0, 0)), (380, .invokevirtual 62, 383, (0, 0, 0, 0, 0, 0)), (383, .lcmp, 384, (0, 0, 0, 0, 0, 0)), (384, .ifCond .eq 318, 387, (702, 0, 0, 0, 0, 0)), (387, .iconst 0, 388, (0, 0, 0, 0, 0, 0)), (388, .ireturn, 389, (0, 0, 0, 0, 0, 0))]
theorem okL_10 : zv_ok 4 code RL zt vwCl tbL_10 = true := by decide +kernel
def tbL_11 : List zv_I := [(389, .aload_n 1, 390, (0, 0, 0, 0, 0, 0)), (390, .aload_n 0, 391, (0, 0, 0, 0, 0, 0)), (391, .iload_n 3, 392, (0, 0, 0, 0, 0, 0)), (392, .iconst 1, 393, (0, 0, 0, 0, 1, 0)), (393, .iadd, 394, (0, 0, 0, 0, 0, 0)), (394, .iaload, 395, (99, 0, 0, 0, 0, 0)), (395, .aload_n 0, 396, (0, 0, 0, 0, 0, 0)), (396, .iload_n 3, 397, (0, 0, 0, 0, 0, 0)), (397, .iconst 2, 398, (0, 0, 0, 0, 2, 0)), (398, .iadd, 399, (0, 0, 0, 0, 0, 0)), (399, .iaload, 400, (99, 0, 0, 0, 0, 0)), (400, .invokevirtual 63, 403, (0, 0, 0, 0, 0, 0)), (403, .aload_n 2, 404, (0, 0, 0, 0, 0, 0)), (404, .aload_n 0, 405, (0, 0, 0, 0, 0, 0)), (405, .iload_n 3, 406, (0, 0, 0, 0, 0, 0)), (406, .iconst 1, 407, (0, 0, 0, 0, 1, 0)), (407, .iadd, 408, (0, 0, 0, 0, 0, 0)), (408, .iaload, 409, (99, 0, 0, 0, 0, 0)), (409, .aload_n 0, 410, (0, 0, 0, 0, 0, 0)), (410, .iload_n 3, 411, (0, 0, 0, 0, 0, 0)), (411, .iconst 2, 412, (0, 0, 0, 0, 2, 0)), (412, .iadd, 413, (0, 0, 0, 0, 0, 0)), (413, .iaload, 414, (99, 0, 0, 0, 0, 0)), (414, .invokevirtual 66, 417, (0, 0, 0, 0, 0, 0)), (417, .lcmp, 418, (0, 0, 0, 0, 0, 0)), (418, .ifCond .eq 284, 421, (702, 0, 0, 0, 0, 0)), (421, .iconst 0, 422, (0, 0, 0, 0, 0, 0)), (422, .ireturn, 423, (0, 0, 0, 0, 0, 0))]
theorem okL_11 : zv_ok 4 code RL zt vwCl tbL_11 = true := by decide +kernel
def tbL_12 : List zv_I := [(423, .aload_n 1, 424, (0, 0, 0, 0, 0, 0)), (424, .aload_n 0, 425, (0, 0, 0, 0, 0, 0)), (425, .iload_n 3, 426, (0, 0, 0, 0, 0, 0)), (426, .iconst 1, 427, (0, 0, 0, 0, 1, 0)), (427, .iadd, 428, (0, 0, 0, 0, 0, 0)), (428, .iaload, 429, (99, 0, 0, 0, 0, 0)), (429, .i2l, 430, (0, 0, 0, 0, 0, 0)), (430, .bipush 32, 432, (0, 0, 0, 0, 32, 0)), (432, .lshl, 433, (0, 0, 0, 0, 0, 0)), (433, .aload_n 0, 434, (0, 0, 0, 0, 0, 0)), (434, .iload_n 3, 435, (0, 0, 0, 0, 0, 0)), (435, .iconst 2, 436, (0, 0, 0, 0, 2, 0)), (436, .iadd, 437, (0, 0, 0, 0, 0, 0)), (437, .iaload, 438, (99, 0, 0, 0, 0, 0)), (438, .i2l, 439, (0, 0, 0, 0, 0, 0)), (439, .ldc2_w 67, 442, (0, 0, 0, 0, 0, 4294967295)), (442, .land, 443, (0, 0, 0, 0, 0, 0)), (443, .lor, 444, (0, 0, 0, 0, 0, 0)), (444, .invokevirtual 69, 447, (0, 0, 0, 0, 0, 0)), (447, .aload_n 2, 448, (0, 0, 0, 0, 0, 0)), (448, .aload_n 0, 449, (0, 0, 0, 0, 0, 0)), (449, .iload_n 3, 450, (0, 0, 0, 0, 0, 0)), (450, .iconst 1, 451, (0, 0, 0, 0, 1, 0)), (451, .iadd, 452, (0, 0, 0, 0, 0, 0)), (452, .iaload, 453, (99, 0, 0, 0, 0, 0)), (453, .i2l, 454, (0, 0, 0, 0, 0, 0)), (454, .bipush 32, 456, (0, 0, 0, 0, 32, 0)), (456, .lshl, 457, (0, 0, 0, 0, 0, 0)), (457, .aload_n 0, 458, (0, 0, 0, 0, 0, 0)), (458, .iload_n 3, 459, (0, 0, 0, 0, 0, 0)), (459, .iconst 2, 460, (0, 0, 0, 0, 2, 0)), (460, .iadd, 461, (0, 0, 0, 0, 0, 0)), (461, .iaload, 462, (99, 0, 0, 0, 0, 0)), (462, .i2l, 463, (0, 0, 0, 0, 0, 0)), (463, .ldc2_w 67, 466, (0, 0, 0, 0, 0, 4294967295)), (466, .land, 467, (0, 0, 0, 0, 0, 0)), (467, .lor, 468, (0, 0, 0, 0, 0, 0)), (468, .invokevirtual 73, 471, (0, 0, 0, 0, 0, 0)), (471, .lcmp, 472, (0, 0, 0, 0, 0, 0)), (472, .ifCond .eq 230, 475, (702, 0, 0, 0, 0, 0)), (475, .iconst 0, 476, (0, 0, 0, 0, 0, 0)), (476, .ireturn, 477, (0, 0, 0, 0, 0, 0))]
theorem okL_12 : zv_ok 4 code RL zt vwCl tbL_12 = true := by decide +kernel
def tbL_13 : List zv_I := [(477, .aload_n 1, 478, (0, 0, 0, 0, 0, 0)), (478, .aload_n 0, 479, (0, 0, 0, 0, 0, 0)), (479, .iload_n 3, 480, (0, 0, 0, 0, 0, 0)), (480, .iconst 1, 481, (0, 0, 0, 0, 1, 0)), (481, .iadd, 482, (0, 0, 0, 0, 0, 0)), (482, .iaload, 483, (99, 0, 0, 0, 0, 0)), (483, .i2l, 484, (0, 0, 0, 0, 0, 0)), (484, .bipush 32, 486, (0, 0, 0, 0, 32, 0)), (486, .lshl, 487, (0, 0, 0, 0, 0, 0)), (487, .aload_n 0, 488, (0, 0, 0, 0, 0, 0)), (488, .iload_n 3, 489, (0, 0, 0, 0, 0, 0)), (489, .iconst 2, 490, (0, 0, 0, 0, 2, 0)), (490, .iadd, 491, (0, 0, 0, 0, 0, 0)), (491, .iaload, 492, (99, 0, 0, 0, 0, 0)), (492, .i2l, 493, (0, 0, 0, 0, 0, 0)), (493, .ldc2_w 67, 496, (0, 0, 0, 0, 0, 4294967295)), (496, .land, 497, (0, 0, 0, 0, 0, 0)), (497, .lor, 498, (0, 0, 0, 0, 0, 0)), (498, .invokevirtual 74, 501, (0, 0, 0, 0, 0, 0)), (501, .aload_n 2, 502, (0, 0, 0, 0, 0, 0)), (502, .aload_n 0, 503, (0, 0, 0, 0, 0, 0)), (503, .iload_n 3, 504, (0, 0, 0, 0, 0, 0)), (504, .iconst 1, 505, (0, 0, 0, 0, 1, 0)), (505, .iadd, 506, (0, 0, 0, 0, 0, 0)), (506, .iaload, 507, (99, 0, 0, 0, 0, 0)), (507, .i2l, 508, (0, 0, 0, 0, 0, 0)), (508, .bipush 32, 510, (0, 0, 0, 0, 32, 0)), (510, .lshl, 511, (0, 0, 0, 0, 0, 0)), (511, .aload_n 0, 512, (0, 0, 0, 0, 0, 0)), (512, .iload_n 3, 513, (0, 0, 0, 0, 0, 0)), (513, .iconst 2, 514, (0, 0, 0, 0, 2, 0)), (514, .iadd, 515, (0, 0, 0, 0, 0, 0)), (515, .iaload, 516, (99, 0, 0, 0, 0, 0)), (516, .i2l, 517, (0, 0, 0, 0, 0, 0)), (517, .ldc2_w 67, 520, (0, 0, 0, 0, 0, 4294967295)), (520, .land, 521, (0, 0, 0, 0, 0, 0)), (521, .lor, 522, (0, 0, 0, 0, 0, 0)), (522, .invokevirtual 77, 525, (0, 0, 0, 0, 0, 0)), (525, .lcmp, 526, (0, 0, 0, 0, 0, 0)), (526, .ifCond .eq 176, 529, (702, 0, 0, 0, 0, 0)), (529, .iconst 0, 530, (0, 0, 0, 0, 0, 0)), (530, .ireturn, 531, (0, 0, 0, 0, 0, 0))]
theorem okL_13 : zv_ok 4 code RL zt vwCl tbL_13 = true := by decide +kernel
def tbL_14 : List zv_I := [(531, .aload_n 1, 532, (0, 0, 0, 0, 0, 0)), (532, .aload_n 0, 533, (0, 0, 0, 0, 0, 0)), (533, .iload_n 3, 534, (0, 0, 0, 0, 0, 0)), (534, .iconst 1, 535, (0, 0, 0, 0, 1, 0)), (535, .iadd, 536, (0, 0, 0, 0, 0, 0)), (536, .iaload, 537, (99, 0, 0, 0, 0, 0)), (537, .invokevirtual 78, 540, (0, 0, 0, 0, 0, 0)), (540, .aload_n 2, 541, (0, 0, 0, 0, 0, 0)), (541, .aload_n 0, 542, (0, 0, 0, 0, 0, 0)), (542, .iload_n 3, 543, (0, 0, 0, 0, 0, 0)), (543, .iconst 1, 544, (0, 0, 0, 0, 1, 0)), (544, .iadd, 545, (0, 0, 0, 0, 0, 0)), (545, .iaload, 546, (99, 0, 0, 0, 0, 0)), (546, .invokevirtual 81, 549, (0, 0, 0, 0, 0, 0)), (549, .if_icmp .eq 153, 552, (702, 0, 0, 0, 0, 0)), (552, .iconst 0, 553, (0, 0, 0, 0, 0, 0)), (553, .ireturn, 554, (0, 0, 0, 0, 0, 0))]
theorem okL_14 : zv_ok 4 code RL zt vwCl tbL_14 = true := by decide +kernel
def tbL_15 : List zv_I := [(554, .aload_n 1, 555, (0, 0, 0, 0, 0, 0)), (555, .aload_n 0, 556, (0, 0, 0, 0, 0, 0)), (556, .iload_n 3, 557, (0, 0, 0, 0, 0, 0)), (557, .iconst 1, 558, (0, 0, 0, 0, 1, 0)), (558, .iadd, 559, (0, 0, 0, 0, 0, 0)), (559, .iaload, 560, (99, 0, 0, 0, 0, 0)), (560, .invokevirtual 82, 563, (0, 0, 0, 0, 0, 0)), (563, .aload_n 2, 564, (0, 0, 0, 0, 0, 0)), (564, .aload_n 0, 565, (0, 0, 0, 0, 0, 0)), (565, .iload_n 3, 566, (0, 0, 0, 0, 0, 0)), (566, .iconst 1, 567, (0, 0, 0, 0, 1, 0)), (567, .iadd, 568, (0, 0, 0, 0, 0, 0)), (568, .iaload, 569, (99, 0, 0, 0, 0, 0)), (569, .invokevirtual 85, 572, (0, 0, 0, 0, 0, 0)), (572, .if_icmp .eq 130, 575, (702, 0, 0, 0, 0, 0)), (575, .iconst 0, 576, (0, 0, 0, 0, 0, 0)), (576, .ireturn, 577, (0, 0, 0, 0, 0, 0))]
theorem okL_15 : zv_ok 4 code RL zt vwCl tbL_15 = true := by decide +kernel
def tbL_16 : List zv_I := [(577, .aload_n 1, 578, (0, 0, 0, 0, 0, 0)), (578, .aload_n 0, 579, (0, 0, 0, 0, 0, 0)), (579, .iload_n 3, 580, (0, 0, 0, 0, 0, 0)), (580, .iconst 1, 581, (0, 0, 0, 0, 1, 0)), (581, .iadd, 582, (0, 0, 0, 0, 0, 0)), (582, .iaload, 583, (99, 0, 0, 0, 0, 0)), (583, .aload_n 0, 584, (0, 0, 0, 0, 0, 0)), (584, .iload_n 3, 585, (0, 0, 0, 0, 0, 0)), (585, .iconst 2, 586, (0, 0, 0, 0, 2, 0)), (586, .iadd, 587, (0, 0, 0, 0, 0, 0)), (587, .iaload, 588, (99, 0, 0, 0, 0, 0)), (588, .aload_n 0, 589, (0, 0, 0, 0, 0, 0)), (589, .iload_n 3, 590, (0, 0, 0, 0, 0, 0)), (590, .iconst 3, 591, (0, 0, 0, 0, 3, 0)), (591, .iadd, 592, (0, 0, 0, 0, 0, 0)), (592, .iaload, 593, (99, 0, 0, 0, 0, 0)), (593, .ifCond .eq 7, 596, (600, 0, 0, 0, 0, 0)), (596, .iconst 1, 597, (0, 0, 0, 0, 1, 0)), (597, .goto 4, 600, (601, 0, 0, 0, 0, 0)), (600, .iconst 0, 601, (0, 0, 0, 0, 0, 0)), (601, .invokevirtual 86, 604, (0, 0, 0, 0, 0, 0)), (604, .aload_n 2, 605, (0, 0, 0, 0, 0, 0)), (605, .aload_n 0, 606, (0, 0, 0, 0, 0, 0)), (606, .iload_n 3, 607, (0, 0, 0, 0, 0, 0)), (607, .iconst 1, 608, (0, 0, 0, 0, 1, 0)), (608, .iadd, 609, (0, 0, 0, 0, 0, 0)), (609, .iaload, 610, (99, 0, 0, 0, 0, 0)), (610, .aload_n 0, 611, (0, 0, 0, 0, 0, 0)), (611, .iload_n 3, 612, (0, 0, 0, 0, 0, 0)), (612, .iconst 2, 613, (0, 0, 0, 0, 2, 0)), (613, .iadd, 614, (0, 0, 0, 0, 0, 0)), (614, .iaload, 615, (99, 0, 0, 0, 0, 0)), (615, .aload_n 0, 616, (0, 0, 0, 0, 0, 0)), (616, .iload_n 3, 617, (0, 0, 0, 0, 0, 0)), (617, .iconst 3, 618, (0, 0, 0, 0, 3, 0)), (618, .iadd, 619, (0, 0, 0, 0, 0, 0)), (619, .iaload, 620, (99, 0, 0, 0, 0, 0)), (620, .ifCond .eq 7, 623, (627, 0, 0, 0, 0, 0)), (623, .iconst 1, 624, (0, 0, 0, 0, 1, 0)), (624, .goto 4, 627, (628, 0, 0, 0, 0, 0)), (627, .iconst 0, 628, (0, 0, 0, 0, 0, 0)), (628, .invokevirtual 90, 631, (0, 0, 0, 0, 0, 0)), (631, .if_icmp .eq 71, 634, (702, 0, 0, 0, 0, 0)), (634, .iconst 0, 635, (0, 0, 0, 0, 0, 0)), (635, .ireturn, 636, (0, 0, 0, 0, 0, 0))]
theorem okL_16 : zv_ok 4 code RL zt vwCl tbL_16 = true := by decide +kernel
def tbL_17 : List zv_I := [(636, .aload_n 1, 637, (0, 0, 0, 0, 0, 0)), (637, .aload_n 0, 638, (0, 0, 0, 0, 0, 0)), (638, .iload_n 3, 639, (0, 0, 0, 0, 0, 0)), (639, .iconst 1, 640, (0, 0, 0, 0, 1, 0)), (640, .iadd, 641, (0, 0, 0, 0, 0, 0)), (641, .iaload, 642, (99, 0, 0, 0, 0, 0)), (642, .aload_n 0, 643, (0, 0, 0, 0, 0, 0)), (643, .iload_n 3, 644, (0, 0, 0, 0, 0, 0)), (644, .iconst 2, 645, (0, 0, 0, 0, 2, 0)), (645, .iadd, 646, (0, 0, 0, 0, 0, 0)), (646, .iaload, 647, (99, 0, 0, 0, 0, 0)), (647, .invokevirtual 91, 650, (0, 0, 0, 0, 0, 0)), (650, .aload_n 2, 651, (0, 0, 0, 0, 0, 0)), (651, .aload_n 0, 652, (0, 0, 0, 0, 0, 0)), (652, .iload_n 3, 653, (0, 0, 0, 0, 0, 0)), (653, .iconst 1, 654, (0, 0, 0, 0, 1, 0)), (654, .iadd, 655, (0, 0, 0, 0, 0, 0)), (655, .iaload, 656, (99, 0, 0, 0, 0, 0)), (656, .aload_n 0, 657, (0, 0, 0, 0, 0, 0)), (657, .iload_n 3, 658, (0, 0, 0, 0, 0, 0)), (658, .iconst 2, 659, (0, 0, 0, 0, 2, 0)), (659, .iadd, 660, (0, 0, 0, 0, 0, 0)), (660, .iaload, 661, (99, 0, 0, 0, 0, 0)), (661, .invokevirtual 94, 664, (0, 0, 0, 0, 0, 0)), (664, .if_icmp .eq 38, 667, (702, 0, 0, 0, 0, 0)), (667, .iconst 0, 668, (0, 0, 0, 0, 0, 0)), (668, .ireturn, 669, (0, 0, 0, 0, 0, 0))]
theorem okL_17 : zv_ok 4 code RL zt vwCl tbL_17 = true := by decide +kernel
def tbL_18 : List zv_I := [(669, .aload_n 1, 670, (0, 0, 0, 0, 0, 0)), (670, .aload_n 0, 671, (0, 0, 0, 0, 0, 0)), (671, .iload_n 3, 672, (0, 0, 0, 0, 0, 0)), (672, .iconst 1, 673, (0, 0, 0, 0, 1, 0)), (673, .iadd, 674, (0, 0, 0, 0, 0, 0)), (674, .iaload, 675, (99, 0, 0, 0, 0, 0)), (675, .aload_n 0, 676, (0, 0, 0, 0, 0, 0)), (676, .iload_n 3, 677, (0, 0, 0, 0, 0, 0)), (677, .iconst 2, 678, (0, 0, 0, 0, 2, 0)), (678, .iadd, 679, (0, 0, 0, 0, 0, 0)), (679, .iaload, 680, (99, 0, 0, 0, 0, 0)), (680, .invokevirtual 95, 683, (0, 0, 0, 0, 0, 0)), (683, .aload_n 2, 684, (0, 0, 0, 0, 0, 0)), (684, .aload_n 0, 685, (0, 0, 0, 0, 0, 0)), (685, .iload_n 3, 686, (0, 0, 0, 0, 0, 0)), (686, .iconst 1, 687, (0, 0, 0, 0, 1, 0)), (687, .iadd, 688, (0, 0, 0, 0, 0, 0)), (688, .iaload, 689, (99, 0, 0, 0, 0, 0)), (689, .aload_n 0, 690, (0, 0, 0, 0, 0, 0)), (690, .iload_n 3, 691, (0, 0, 0, 0, 0, 0)), (691, .iconst 2, 692, (0, 0, 0, 0, 2, 0)), (692, .iadd, 693, (0, 0, 0, 0, 0, 0)), (693, .iaload, 694, (99, 0, 0, 0, 0, 0)), (694, .invokevirtual 98, 697, (0, 0, 0, 0, 0, 0)), (697, .if_icmp .eq 5, 700, (702, 0, 0, 0, 0, 0)), (700, .iconst 0, 701, (0, 0, 0, 0, 0, 0)), (701, .ireturn, 702, (0, 0, 0, 0, 0, 0))]
theorem okL_18 : zv_ok 4 code RL zt vwCl tbL_18 = true := by decide +kernel
def tbL_e : List zv_I := [(702, .iinc 3 4, 705, (0, 0, 0, 0, 4, 0)), (705, .goto (-687), 708, (18, 0, 0, 0, 0, 0)), (708, .iconst 1, 709, (0, 0, 0, 0, 1, 0)), (709, .ireturn, 710, (0, 0, 0, 0, 0, 0))]
theorem okL_e : zv_ok 4 code RL zt vwCl tbL_e = true := by decide +kernel
theorem dzL_0 : decode code 0 = .ok (.new 7, 3) := by decide +kernel
theorem dzL_4 : decode code 4 = .ok (.invokespecial 9, 3) := by decide +kernel
theorem dzL_8 : decode code 8 = .ok (.new 10, 3) := by decide +kernel
theorem dzL_12 : decode code 12 = .ok (.invokespecial 12, 3) := by decide +kernel
theorem dzL_20 : decode code 20 = .ok (.arraylength, 1) := by decide +kernel
theorem dzL_28 : decode code 28 = .ok (.iaload, 1) := by decide +kernel
theorem dzL_32 : decode code 32 = .ok (.tableswitch 670 0 18 #[92, 115, 148, 171, 204, 227, 250, 273, 286, 309, 323, 357, 391, 445, 499, 522, 545, 604, 637], 92) := by decide +kernel
theorem dzL_129 : decode code 129 = .ok (.iaload, 1) := by decide +kernel
theorem dzL_130 : decode code 130 = .ok (.invokevirtual 13, 3) := by decide +kernel
theorem dzL_138 : decode code 138 = .ok (.iaload, 1) := by decide +kernel
theorem dzL_139 : decode code 139 = .ok (.invokevirtual 17, 3) := by decide +kernel
theorem dzL_146 : decode code 146 = .ok (.ireturn, 1) := by decide +kernel
theorem dzL_152 : decode code 152 = .ok (.iaload, 1) := by decide +kernel
theorem dzL_157 : decode code 157 = .ok (.iaload, 1) := by decide +kernel
theorem dzL_158 : decode code 158 = .ok (.invokevirtual 18, 3) := by decide +kernel
theorem dzL_166 : decode code 166 = .ok (.iaload, 1) := by decide +kernel
theorem dzL_171 : decode code 171 = .ok (.iaload, 1) := by decide +kernel
theorem dzL_172 : decode code 172 = .ok (.invokevirtual 22, 3) := by decide +kernel
theorem dzL_179 : decode code 179 = .ok (.ireturn, 1) := by decide +kernel
theorem dzL_185 : decode code 185 = .ok (.iaload, 1) := by decide +kernel
theorem dzL_186 : decode code 186 = .ok (.invokevirtual 23, 3) := by decide +kernel
theorem dzL_194 : decode code 194 = .ok (.iaload, 1) := by decide +kernel
theorem dzL_195 : decode code 195 = .ok (.invokevirtual 26, 3) := by decide +kernel
theorem dzL_202 : decode code 202 = .ok (.ireturn, 1) := by decide +kernel
theorem dzL_208 : decode code 208 = .ok (.iaload, 1) := by decide +kernel
theorem dzL_213 : decode code 213 = .ok (.iaload, 1) := by decide +kernel
theorem dzL_214 : decode code 214 = .ok (.invokevirtual 27, 3) := by decide +kernel
theorem dzL_222 : decode code 222 = .ok (.iaload, 1) := by decide +kernel
theorem dzL_227 : decode code 227 = .ok (.iaload, 1) := by decide +kernel
theorem dzL_228 : decode code 228 = .ok (.invokevirtual 31, 3) := by decide +kernel
theorem dzL_235 : decode code 235 = .ok (.ireturn, 1) := by decide +kernel
theorem dzL_241 : decode code 241 = .ok (.iaload, 1) := by decide +kernel
theorem dzL_242 : decode code 242 = .ok (.invokevirtual 32, 3) := by decide +kernel
theorem dzL_250 : decode code 250 = .ok (.iaload, 1) := by decide +kernel
theorem dzL_251 : decode code 251 = .ok (.invokevirtual 35, 3) := by decide +kernel
theorem dzL_258 : decode code 258 = .ok (.ireturn, 1) := by decide +kernel
theorem dzL_264 : decode code 264 = .ok (.iaload, 1) := by decide +kernel
theorem dzL_265 : decode code 265 = .ok (.invokevirtual 36, 3) := by decide +kernel
theorem dzL_273 : decode code 273 = .ok (.iaload, 1) := by decide +kernel
theorem dzL_274 : decode code 274 = .ok (.invokevirtual 39, 3) := by decide +kernel
theorem dzL_281 : decode code 281 = .ok (.ireturn, 1) := by decide +kernel
theorem dzL_287 : decode code 287 = .ok (.iaload, 1) := by decide +kernel
theorem dzL_288 : decode code 288 = .ok (.invokevirtual 40, 3) := by decide +kernel
theorem dzL_296 : decode code 296 = .ok (.iaload, 1) := by decide +kernel
theorem dzL_297 : decode code 297 = .ok (.invokevirtual 43, 3) := by decide +kernel
theorem dzL_304 : decode code 304 = .ok (.ireturn, 1) := by decide +kernel
theorem dzL_306 : decode code 306 = .ok (.invokevirtual 44, 3) := by decide +kernel
theorem dzL_310 : decode code 310 = .ok (.invokevirtual 48, 3) := by decide +kernel
theorem dzL_317 : decode code 317 = .ok (.ireturn, 1) := by decide +kernel
theorem dzL_323 : decode code 323 = .ok (.iaload, 1) := by decide +kernel
theorem dzL_324 : decode code 324 = .ok (.invokevirtual 49, 3) := by decide +kernel
theorem dzL_332 : decode code 332 = .ok (.iaload, 1) := by decide +kernel
theorem dzL_333 : decode code 333 = .ok (.invokevirtual 52, 3) := by decide +kernel
theorem dzL_340 : decode code 340 = .ok (.ireturn, 1) := by decide +kernel
theorem dzL_342 : decode code 342 = .ok (.invokevirtual 53, 3) := by decide +kernel
theorem dzL_346 : decode code 346 = .ok (.invokevirtual 57, 3) := by decide +kernel
theorem dzL_354 : decode code 354 = .ok (.ireturn, 1) := by decide +kernel
theorem dzL_360 : decode code 360 = .ok (.iaload, 1) := by decide +kernel
theorem dzL_365 : decode code 365 = .ok (.iaload, 1) := by decide +kernel
theorem dzL_366 : decode code 366 = .ok (.invokevirtual 58, 3) := by decide +kernel
theorem dzL_374 : decode code 374 = .ok (.iaload, 1) := by decide +kernel
theorem dzL_379 : decode code 379 = .ok (.iaload, 1) := by decide +kernel
theorem dzL_380 : decode code 380 = .ok (.invokevirtual 62, 3) := by decide +kernel
theorem dzL_388 : decode code 388 = .ok (.ireturn, 1) := by decide +kernel
theorem dzL_394 : decode code 394 = .ok (.iaload, 1) := by decide +kernel
theorem dzL_399 : decode code 399 = .ok (.iaload, 1) := by decide +kernel
theorem dzL_400 : decode code 400 = .ok (.invokevirtual 63, 3) := by decide +kernel
theorem dzL_408 : decode code 408 = .ok (.iaload, 1) := by decide +kernel
theorem dzL_413 : decode code 413 = .ok (.iaload, 1) := by decide +kernel
theorem dzL_414 : decode code 414 = .ok (.invokevirtual 66, 3) := by decide +kernel
theorem dzL_422 : decode code 422 = .ok (.ireturn, 1) := by decide +kernel
theorem dzL_428 : decode code 428 = .ok (.iaload, 1) := by decide +kernel
theorem dzL_437 : decode code 437 = .ok (.iaload, 1) := by decide +kernel
theorem dzL_444 : decode code 444 = .ok (.invokevirtual 69, 3) := by decide +kernel
theorem dzL_452 : decode code 452 = .ok (.iaload, 1) := by decide +kernel
theorem dzL_461 : decode code 461 = .ok (.iaload, 1) := by decide +kernel
theorem dzL_468 : decode code 468 = .ok (.invokevirtual 73, 3) := by decide +kernel
theorem dzL_476 : decode code 476 = .ok (.ireturn, 1) := by decide +kernel
theorem dzL_482 : decode code 482 = .ok (.iaload, 1) := by decide +kernel
theorem dzL_491 : decode code 491 = .ok (.iaload, 1) := by decide +kernel
theorem dzL_498 : decode code 498 = .ok (.invokevirtual 74, 3) := by decide +kernel
theorem dzL_506 : decode code 506 = .ok (.iaload, 1) := by decide +kernel
theorem dzL_515 : decode code 515 = .ok (.iaload, 1) := by decide +kernel
theorem dzL_522 : decode code 522 = .ok (.invokevirtual 77, 3) := by decide +kernel
theorem dzL_530 : decode code 530 = .ok (.ireturn, 1) := by decide +kernel
theorem dzL_536 : decode code 536 = .ok (.iaload, 1) := by decide +kernel
theorem dzL_537 : decode code 537 = .ok (.invokevirtual 78, 3) := by decide +kernel
theorem dzL_545 : decode code 545 = .ok (.iaload, 1) := by decide +kernel
theorem dzL_546 : decode code 546 = .ok (.invokevirtual 81, 3) := by decide +kernel
theorem dzL_553 : decode code 553 = .ok (.ireturn, 1) := by decide +kernel
theorem dzL_559 : decode code 559 = .ok (.iaload, 1) := by decide +kernel
theorem dzL_560 : decode code 560 = .ok (.invokevirtual 82, 3) := by decide +kernel
theorem dzL_568 : decode code 568 = .ok (.iaload, 1) := by decide +kernel
theorem dzL_569 : decode code 569 = .ok (.invokevirtual 85, 3) := by decide +kernel
theorem dzL_576 : decode code 576 = .ok (.ireturn, 1) := by decide +kernel
theorem dzL_582 : decode code 582 = .ok (.iaload, 1) := by decide +kernel
theorem dzL_587 : decode code 587 = .ok (.iaload, 1) := by decide +kernel
theorem dzL_592 : decode code 592 = .ok (.iaload, 1) := by decide +kernel
theorem dzL_601 : decode code 601 = .ok (.invokevirtual 86, 3) := by decide +kernel
theorem dzL_609 : decode code 609 = .ok (.iaload, 1) := by decide +kernel
theorem dzL_614 : decode code 614 = .ok (.iaload, 1) := by decide +kernel
theorem dzL_619 : decode code 619 = .ok (.iaload, 1) := by decide +kernel
theorem dzL_628 : decode code 628 = .ok (.invokevirtual 90, 3) := by decide +kernel
theorem dzL_635 : decode code 635 = .ok (.ireturn, 1) := by decide +kernel
theorem dzL_641 : decode code 641 = .ok (.iaload, 1) := by decide +kernel
theorem dzL_646 : decode code 646 = .ok (.iaload, 1) := by decide +kernel
theorem dzL_647 : decode code 647 = .ok (.invokevirtual 91, 3) := by decide +kernel
theorem dzL_655 : decode code 655 = .ok (.iaload, 1) := by decide +kernel
theorem dzL_660 : decode code 660 = .ok (.iaload, 1) := by decide +kernel
theorem dzL_661 : decode code 661 = .ok (.invokevirtual 94, 3) := by decide +kernel
theorem dzL_668 : decode code 668 = .ok (.ireturn, 1) := by decide +kernel
theorem dzL_674 : decode code 674 = .ok (.iaload, 1) := by decide +kernel
theorem dzL_679 : decode code 679 = .ok (.iaload, 1) := by decide +kernel
theorem dzL_680 : decode code 680 = .ok (.invokevirtual 95, 3) := by decide +kernel
theorem dzL_688 : decode code 688 = .ok (.iaload, 1) := by decide +kernel
theorem dzL_693 : decode code 693 = .ok (.iaload, 1) := by decide +kernel
theorem dzL_694 : decode code 694 = .ok (.invokevirtual 98, 3) := by decide +kernel
theorem dzL_701 : decode code 701 = .ok (.ireturn, 1) := by decide +kernel
theorem dzL_709 : decode code 709 = .ok (.ireturn, 1) := by decide +kernel
