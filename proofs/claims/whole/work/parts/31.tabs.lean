/-! THE PURE PART, 7: shapes and tables by their places -/
theorem sh_0 : mS 0 = .inr (.inr (11, [some (1), some (3), some (12), some (19), some (129), some (138), some (145), some (154), some (163), some (170), some (172), some (173), some (181), some (183), none, none])) := rfl
theorem sh_1 : mS 1 = .inr (.inr (10, [some (2), none, none, none, none, none])) := rfl
theorem sh_2 : mS 2 = .inl (0, 400) := rfl
theorem sh_3 : mS 3 = .inr (.inr (2, [none, some (4), some (5), none, some (6), some (7), none, none, none, none, some (8)])) := rfl
theorem sh_4 : mS 4 = .inl (0, 32) := rfl
theorem sh_5 : mS 5 = .inl (0, 8) := rfl
theorem sh_6 : mS 6 = .inl (0, 4) := rfl
theorem sh_7 : mS 7 = .inl (0, 4) := rfl
theorem sh_8 : mS 8 = .inr (.inr (7, [none, none, some (9), some (10), some (11)])) := rfl
theorem sh_9 : mS 9 = .inl (0, 60) := rfl
theorem sh_10 : mS 10 = .inl (0, 60) := rfl
theorem sh_11 : mS 11 = .inl (0, 60) := rfl
theorem sh_12 : mS 12 = .inr (.inr (4, [none, none, none, some (13), some (14), some (15), some (16), some (17), some (18)])) := rfl
theorem sh_13 : mS 13 = .inl (0, 12) := rfl
theorem sh_14 : mS 14 = .inl (0, 12) := rfl
theorem sh_15 : mS 15 = .inl (0, 12) := rfl
theorem sh_16 : mS 16 = .inl (0, 400) := rfl
theorem sh_17 : mS 17 = .inl (0, 8) := rfl
theorem sh_18 : mS 18 = .inl (0, 32) := rfl
theorem sh_19 : mS 19 = .inr (.inr (0, [none, none, some (20)])) := rfl
theorem sh_20 : mS 20 = .inr (.inl (3, [21, 30, 39, 48, 57, 66, 75, 84, 93, 102, 111, 120])) := rfl
theorem sh_21 : mS 21 = .inr (.inr (2, [none, some (22), some (23), none, some (24), some (25), none, none, none, none, some (26)])) := rfl
theorem sh_22 : mS 22 = .inl (0, 32) := rfl
theorem sh_23 : mS 23 = .inl (0, 8) := rfl
theorem sh_24 : mS 24 = .inl (0, 4) := rfl
theorem sh_25 : mS 25 = .inl (0, 4) := rfl
theorem sh_26 : mS 26 = .inr (.inr (7, [none, none, some (27), some (28), some (29)])) := rfl
theorem sh_27 : mS 27 = .inl (0, 60) := rfl
theorem sh_28 : mS 28 = .inl (0, 60) := rfl
theorem sh_29 : mS 29 = .inl (0, 60) := rfl
theorem sh_30 : mS 30 = .inr (.inr (2, [none, some (31), some (32), none, some (33), some (34), none, none, none, none, some (35)])) := rfl
theorem sh_31 : mS 31 = .inl (0, 32) := rfl
theorem sh_32 : mS 32 = .inl (0, 8) := rfl
theorem sh_33 : mS 33 = .inl (0, 4) := rfl
theorem sh_34 : mS 34 = .inl (0, 4) := rfl
theorem sh_35 : mS 35 = .inr (.inr (7, [none, none, some (36), some (37), some (38)])) := rfl
theorem sh_36 : mS 36 = .inl (0, 60) := rfl
theorem sh_37 : mS 37 = .inl (0, 60) := rfl
theorem sh_38 : mS 38 = .inl (0, 60) := rfl
theorem sh_39 : mS 39 = .inr (.inr (2, [none, some (40), some (41), none, some (42), some (43), none, none, none, none, some (44)])) := rfl
theorem sh_40 : mS 40 = .inl (0, 32) := rfl
theorem sh_41 : mS 41 = .inl (0, 8) := rfl
theorem sh_42 : mS 42 = .inl (0, 4) := rfl
theorem sh_43 : mS 43 = .inl (0, 4) := rfl
theorem sh_44 : mS 44 = .inr (.inr (7, [none, none, some (45), some (46), some (47)])) := rfl
theorem sh_45 : mS 45 = .inl (0, 60) := rfl
theorem sh_46 : mS 46 = .inl (0, 60) := rfl
theorem sh_47 : mS 47 = .inl (0, 60) := rfl
theorem sh_48 : mS 48 = .inr (.inr (2, [none, some (49), some (50), none, some (51), some (52), none, none, none, none, some (53)])) := rfl
theorem sh_49 : mS 49 = .inl (0, 32) := rfl
theorem sh_50 : mS 50 = .inl (0, 8) := rfl
theorem sh_51 : mS 51 = .inl (0, 4) := rfl
theorem sh_52 : mS 52 = .inl (0, 4) := rfl
theorem sh_53 : mS 53 = .inr (.inr (7, [none, none, some (54), some (55), some (56)])) := rfl
theorem sh_54 : mS 54 = .inl (0, 60) := rfl
theorem sh_55 : mS 55 = .inl (0, 60) := rfl
theorem sh_56 : mS 56 = .inl (0, 60) := rfl
theorem sh_57 : mS 57 = .inr (.inr (2, [none, some (58), some (59), none, some (60), some (61), none, none, none, none, some (62)])) := rfl
theorem sh_58 : mS 58 = .inl (0, 32) := rfl
theorem sh_59 : mS 59 = .inl (0, 8) := rfl
theorem sh_60 : mS 60 = .inl (0, 4) := rfl
theorem sh_61 : mS 61 = .inl (0, 4) := rfl
theorem sh_62 : mS 62 = .inr (.inr (7, [none, none, some (63), some (64), some (65)])) := rfl
theorem sh_63 : mS 63 = .inl (0, 60) := rfl
theorem sh_64 : mS 64 = .inl (0, 60) := rfl
theorem sh_65 : mS 65 = .inl (0, 60) := rfl
theorem sh_66 : mS 66 = .inr (.inr (2, [none, some (67), some (68), none, some (69), some (70), none, none, none, none, some (71)])) := rfl
theorem sh_67 : mS 67 = .inl (0, 32) := rfl
theorem sh_68 : mS 68 = .inl (0, 8) := rfl
theorem sh_69 : mS 69 = .inl (0, 4) := rfl
theorem sh_70 : mS 70 = .inl (0, 4) := rfl
theorem sh_71 : mS 71 = .inr (.inr (7, [none, none, some (72), some (73), some (74)])) := rfl
theorem sh_72 : mS 72 = .inl (0, 60) := rfl
theorem sh_73 : mS 73 = .inl (0, 60) := rfl
theorem sh_74 : mS 74 = .inl (0, 60) := rfl
theorem sh_75 : mS 75 = .inr (.inr (2, [none, some (76), some (77), none, some (78), some (79), none, none, none, none, some (80)])) := rfl
theorem sh_76 : mS 76 = .inl (0, 32) := rfl
theorem sh_77 : mS 77 = .inl (0, 8) := rfl
theorem sh_78 : mS 78 = .inl (0, 4) := rfl
theorem sh_79 : mS 79 = .inl (0, 4) := rfl
theorem sh_80 : mS 80 = .inr (.inr (7, [none, none, some (81), some (82), some (83)])) := rfl
theorem sh_81 : mS 81 = .inl (0, 60) := rfl
theorem sh_82 : mS 82 = .inl (0, 60) := rfl
theorem sh_83 : mS 83 = .inl (0, 60) := rfl
theorem sh_84 : mS 84 = .inr (.inr (2, [none, some (85), some (86), none, some (87), some (88), none, none, none, none, some (89)])) := rfl
theorem sh_85 : mS 85 = .inl (0, 32) := rfl
theorem sh_86 : mS 86 = .inl (0, 8) := rfl
theorem sh_87 : mS 87 = .inl (0, 4) := rfl
theorem sh_88 : mS 88 = .inl (0, 4) := rfl
theorem sh_89 : mS 89 = .inr (.inr (7, [none, none, some (90), some (91), some (92)])) := rfl
theorem sh_90 : mS 90 = .inl (0, 60) := rfl
theorem sh_91 : mS 91 = .inl (0, 60) := rfl
theorem sh_92 : mS 92 = .inl (0, 60) := rfl
theorem sh_93 : mS 93 = .inr (.inr (2, [none, some (94), some (95), none, some (96), some (97), none, none, none, none, some (98)])) := rfl
theorem sh_94 : mS 94 = .inl (0, 32) := rfl
theorem sh_95 : mS 95 = .inl (0, 8) := rfl
theorem sh_96 : mS 96 = .inl (0, 4) := rfl
theorem sh_97 : mS 97 = .inl (0, 4) := rfl
theorem sh_98 : mS 98 = .inr (.inr (7, [none, none, some (99), some (100), some (101)])) := rfl
theorem sh_99 : mS 99 = .inl (0, 60) := rfl
theorem sh_100 : mS 100 = .inl (0, 60) := rfl
theorem sh_101 : mS 101 = .inl (0, 60) := rfl
theorem sh_102 : mS 102 = .inr (.inr (2, [none, some (103), some (104), none, some (105), some (106), none, none, none, none, some (107)])) := rfl
theorem sh_103 : mS 103 = .inl (0, 32) := rfl
theorem sh_104 : mS 104 = .inl (0, 8) := rfl
theorem sh_105 : mS 105 = .inl (0, 4) := rfl
theorem sh_106 : mS 106 = .inl (0, 4) := rfl
theorem sh_107 : mS 107 = .inr (.inr (7, [none, none, some (108), some (109), some (110)])) := rfl
theorem sh_108 : mS 108 = .inl (0, 60) := rfl
theorem sh_109 : mS 109 = .inl (0, 60) := rfl
theorem sh_110 : mS 110 = .inl (0, 60) := rfl
theorem sh_111 : mS 111 = .inr (.inr (2, [none, some (112), some (113), none, some (114), some (115), none, none, none, none, some (116)])) := rfl
theorem sh_112 : mS 112 = .inl (0, 32) := rfl
theorem sh_113 : mS 113 = .inl (0, 8) := rfl
theorem sh_114 : mS 114 = .inl (0, 4) := rfl
theorem sh_115 : mS 115 = .inl (0, 4) := rfl
theorem sh_116 : mS 116 = .inr (.inr (7, [none, none, some (117), some (118), some (119)])) := rfl
theorem sh_117 : mS 117 = .inl (0, 60) := rfl
theorem sh_118 : mS 118 = .inl (0, 60) := rfl
theorem sh_119 : mS 119 = .inl (0, 60) := rfl
theorem sh_120 : mS 120 = .inr (.inr (2, [none, some (121), some (122), none, some (123), some (124), none, none, none, none, some (125)])) := rfl
theorem sh_121 : mS 121 = .inl (0, 32) := rfl
theorem sh_122 : mS 122 = .inl (0, 8) := rfl
theorem sh_123 : mS 123 = .inl (0, 4) := rfl
theorem sh_124 : mS 124 = .inl (0, 4) := rfl
theorem sh_125 : mS 125 = .inr (.inr (7, [none, none, some (126), some (127), some (128)])) := rfl
theorem sh_126 : mS 126 = .inl (0, 60) := rfl
theorem sh_127 : mS 127 = .inl (0, 60) := rfl
theorem sh_128 : mS 128 = .inl (0, 60) := rfl
theorem sh_129 : mS 129 = .inr (.inr (2, [none, some (130), some (131), none, some (132), some (133), none, none, none, none, some (134)])) := rfl
theorem sh_130 : mS 130 = .inl (0, 32) := rfl
theorem sh_131 : mS 131 = .inl (0, 8) := rfl
theorem sh_132 : mS 132 = .inl (0, 4) := rfl
theorem sh_133 : mS 133 = .inl (0, 4) := rfl
theorem sh_134 : mS 134 = .inr (.inr (7, [none, none, some (135), some (136), some (137)])) := rfl
theorem sh_135 : mS 135 = .inl (0, 60) := rfl
theorem sh_136 : mS 136 = .inl (0, 60) := rfl
theorem sh_137 : mS 137 = .inl (0, 60) := rfl
theorem sh_138 : mS 138 = .inr (.inr (4, [none, none, none, some (139), some (140), some (141), some (142), some (143), some (144)])) := rfl
theorem sh_139 : mS 139 = .inl (0, 12) := rfl
theorem sh_140 : mS 140 = .inl (0, 12) := rfl
theorem sh_141 : mS 141 = .inl (0, 12) := rfl
theorem sh_142 : mS 142 = .inl (0, 400) := rfl
theorem sh_143 : mS 143 = .inl (0, 8) := rfl
theorem sh_144 : mS 144 = .inl (0, 32) := rfl
theorem sh_145 : mS 145 = .inr (.inr (2, [none, some (146), some (147), none, some (148), some (149), none, none, none, none, some (150)])) := rfl
theorem sh_146 : mS 146 = .inl (0, 32) := rfl
theorem sh_147 : mS 147 = .inl (0, 8) := rfl
theorem sh_148 : mS 148 = .inl (0, 4) := rfl
theorem sh_149 : mS 149 = .inl (0, 4) := rfl
theorem sh_150 : mS 150 = .inr (.inr (7, [none, none, some (151), some (152), some (153)])) := rfl
theorem sh_151 : mS 151 = .inl (0, 60) := rfl
theorem sh_152 : mS 152 = .inl (0, 60) := rfl
theorem sh_153 : mS 153 = .inl (0, 60) := rfl
theorem sh_154 : mS 154 = .inr (.inr (2, [none, some (155), some (156), none, some (157), some (158), none, none, none, none, some (159)])) := rfl
theorem sh_155 : mS 155 = .inl (0, 32) := rfl
theorem sh_156 : mS 156 = .inl (0, 8) := rfl
theorem sh_157 : mS 157 = .inl (0, 4) := rfl
theorem sh_158 : mS 158 = .inl (0, 4) := rfl
theorem sh_159 : mS 159 = .inr (.inr (7, [none, none, some (160), some (161), some (162)])) := rfl
theorem sh_160 : mS 160 = .inl (0, 60) := rfl
theorem sh_161 : mS 161 = .inl (0, 60) := rfl
theorem sh_162 : mS 162 = .inl (0, 60) := rfl
theorem sh_163 : mS 163 = .inr (.inr (4, [none, none, none, some (164), some (165), some (166), some (167), some (168), some (169)])) := rfl
theorem sh_164 : mS 164 = .inl (0, 12) := rfl
theorem sh_165 : mS 165 = .inl (0, 12) := rfl
theorem sh_166 : mS 166 = .inl (0, 12) := rfl
theorem sh_167 : mS 167 = .inl (0, 400) := rfl
theorem sh_168 : mS 168 = .inl (0, 8) := rfl
theorem sh_169 : mS 169 = .inl (0, 32) := rfl
theorem sh_170 : mS 170 = .inr (.inr (3, [some (1), none, some (145), some (171)])) := rfl
theorem sh_171 : mS 171 = .inl (0, 4) := rfl
theorem sh_172 : mS 172 = .inr (.inr (5, [some (1), none, some (163)])) := rfl
theorem sh_173 : mS 173 = .inr (.inr (1, [none, none, none, none, some (174), some (175)])) := rfl
theorem sh_174 : mS 174 = .inl (0, 8) := rfl
theorem sh_175 : mS 175 = .inr (.inl (4, [176, 177, 178, 179, 180])) := rfl
theorem sh_176 : mS 176 = .inl (0, 9) := rfl
theorem sh_177 : mS 177 = .inl (0, 9) := rfl
theorem sh_178 : mS 178 = .inl (0, 9) := rfl
theorem sh_179 : mS 179 = .inl (0, 9) := rfl
theorem sh_180 : mS 180 = .inl (0, 9) := rfl
theorem sh_181 : mS 181 = .inr (.inr (9, [some (3), some (173), some (182)])) := rfl
theorem sh_182 : mS 182 = .inl (0, 9) := rfl
theorem sh_183 : mS 183 = .inr (.inr (8, [some (3), some (173), some (184)])) := rfl
theorem sh_184 : mS 184 = .inl (0, 4) := rfl
theorem sh_185 : mS 185 = .inr (.inr (12, [none, some (186), some (187), some (188), some (189), some (190), none, none, some (191), none, none, none, none, none, none, some (192), none, some (193), some (194), none, some (195), some (196), some (197)])) := rfl
theorem sh_186 : mS 186 = .inl (0, 2121) := rfl
theorem sh_187 : mS 187 = .inl (0, 1272) := rfl
theorem sh_188 : mS 188 = .inl (0, 1272) := rfl
theorem sh_189 : mS 189 = .inl (0, 423) := rfl
theorem sh_190 : mS 190 = .inl (0, 5076) := rfl
theorem sh_191 : mS 191 = .inl (1, 400) := rfl
theorem sh_192 : mS 192 = .inl (0, 5) := rfl
theorem sh_193 : mS 193 = .inl (0, 8) := rfl
theorem sh_194 : mS 194 = .inl (0, 8) := rfl
theorem sh_195 : mS 195 = .inl (0, 400) := rfl
theorem sh_196 : mS 196 = .inl (0, 1116) := rfl
theorem sh_197 : mS 197 = .inl (0, 45) := rfl
theorem sh_198 : mS 198 = .inl (2, 1) := rfl
theorem tb_0 : mTab.getD 0 [] = mc_0 := rfl
theorem tb_1 : mTab.getD 1 [] = mc_1 := rfl
theorem tb_2 : mTab.getD 2 [] = mc_2 := rfl
theorem tb_3 : mTab.getD 3 [] = mc_3 := rfl
theorem tb_4 : mTab.getD 4 [] = mc_4 := rfl
theorem tb_5 : mTab.getD 5 [] = mc_5 := rfl
theorem tb_6 : mTab.getD 6 [] = mc_6 := rfl
theorem tb_7 : mTab.getD 7 [] = mc_7 := rfl
theorem tb_8 : mTab.getD 8 [] = mc_8 := rfl
theorem tb_9 : mTab.getD 9 [] = mc_9 := rfl
theorem tb_10 : mTab.getD 10 [] = mc_10 := rfl
theorem tb_11 : mTab.getD 11 [] = mc_11 := rfl
theorem tb_12 : mTab.getD 12 [] = mc_12 := rfl
theorem tb_13 : mTab.getD 13 [] = mc_13 := rfl
theorem tb_14 : mTab.getD 14 [] = mc_14 := rfl
theorem tb_15 : mTab.getD 15 [] = mc_15 := rfl
theorem tb_16 : mTab.getD 16 [] = mc_16 := rfl
theorem tb_17 : mTab.getD 17 [] = mc_17 := rfl
theorem tb_18 : mTab.getD 18 [] = mc_18 := rfl
theorem tb_19 : mTab.getD 19 [] = mc_19 := rfl
theorem tb_20 : mTab.getD 20 [] = mc_20 := rfl
theorem tb_21 : mTab.getD 21 [] = mc_21 := rfl
theorem tb_22 : mTab.getD 22 [] = mc_22 := rfl
theorem tb_23 : mTab.getD 23 [] = mc_23 := rfl
theorem tb_24 : mTab.getD 24 [] = mc_24 := rfl
theorem tb_25 : mTab.getD 25 [] = mc_25 := rfl
theorem tb_26 : mTab.getD 26 [] = mc_26 := rfl
theorem tb_27 : mTab.getD 27 [] = mc_27 := rfl
theorem tb_28 : mTab.getD 28 [] = mc_28 := rfl
theorem tb_29 : mTab.getD 29 [] = mc_29 := rfl
theorem tb_30 : mTab.getD 30 [] = mc_30 := rfl
theorem tb_31 : mTab.getD 31 [] = mc_31 := rfl
theorem tb_32 : mTab.getD 32 [] = mc_32 := rfl
theorem tb_33 : mTab.getD 33 [] = mc_33 := rfl
theorem tb_34 : mTab.getD 34 [] = mc_34 := rfl
theorem tb_35 : mTab.getD 35 [] = mc_35 := rfl
theorem tb_36 : mTab.getD 36 [] = mc_36 := rfl
theorem tb_37 : mTab.getD 37 [] = mc_37 := rfl
theorem tb_38 : mTab.getD 38 [] = mc_38 := rfl
theorem tb_39 : mTab.getD 39 [] = mc_39 := rfl
theorem tb_40 : mTab.getD 40 [] = mc_40 := rfl
theorem tb_41 : mTab.getD 41 [] = mc_41 := rfl
theorem tb_42 : mTab.getD 42 [] = mc_42 := rfl
theorem tb_43 : mTab.getD 43 [] = mc_43 := rfl
theorem tb_44 : mTab.getD 44 [] = mc_44 := rfl
theorem tb_45 : mTab.getD 45 [] = mc_45 := rfl
theorem tb_46 : mTab.getD 46 [] = mc_46 := rfl
theorem tb_47 : mTab.getD 47 [] = mc_47 := rfl
theorem tb_48 : mTab.getD 48 [] = mc_48 := rfl
theorem tb_49 : mTab.getD 49 [] = mc_49 := rfl
theorem tb_50 : mTab.getD 50 [] = mc_50 := rfl
theorem tb_51 : mTab.getD 51 [] = mc_51 := rfl
theorem tb_52 : mTab.getD 52 [] = mc_52 := rfl
theorem tb_53 : mTab.getD 53 [] = mc_53 := rfl
theorem tb_54 : mTab.getD 54 [] = mc_54 := rfl
theorem tb_55 : mTab.getD 55 [] = mc_55 := rfl
theorem tb_56 : mTab.getD 56 [] = mc_56 := rfl
theorem tb_57 : mTab.getD 57 [] = mc_57 := rfl
theorem tb_58 : mTab.getD 58 [] = mc_58 := rfl
theorem tb_59 : mTab.getD 59 [] = mc_59 := rfl
theorem tb_60 : mTab.getD 60 [] = mc_60 := rfl
theorem tb_61 : mTab.getD 61 [] = mc_61 := rfl
theorem tb_62 : mTab.getD 62 [] = mc_62 := rfl
theorem tb_63 : mTab.getD 63 [] = mc_63 := rfl
theorem tb_64 : mTab.getD 64 [] = mc_64 := rfl
theorem tb_65 : mTab.getD 65 [] = mc_65 := rfl
theorem tb_66 : mTab.getD 66 [] = mc_66 := rfl
theorem tb_67 : mTab.getD 67 [] = mc_67 := rfl
theorem tb_68 : mTab.getD 68 [] = mc_68 := rfl
theorem tb_69 : mTab.getD 69 [] = mc_69 := rfl
theorem tb_70 : mTab.getD 70 [] = mc_70 := rfl
theorem tb_71 : mTab.getD 71 [] = mc_71 := rfl
theorem tb_72 : mTab.getD 72 [] = mc_72 := rfl
theorem tb_73 : mTab.getD 73 [] = mc_73 := rfl
theorem tb_74 : mTab.getD 74 [] = mc_74 := rfl
theorem tb_75 : mTab.getD 75 [] = mc_75 := rfl
theorem tb_76 : mTab.getD 76 [] = mc_76 := rfl
theorem tb_77 : mTab.getD 77 [] = mc_77 := rfl
theorem tb_78 : mTab.getD 78 [] = mc_78 := rfl
theorem tb_79 : mTab.getD 79 [] = mc_79 := rfl
theorem tb_80 : mTab.getD 80 [] = mc_80 := rfl
theorem tb_81 : mTab.getD 81 [] = mc_81 := rfl
theorem tb_82 : mTab.getD 82 [] = mc_82 := rfl
theorem tb_83 : mTab.getD 83 [] = mc_83 := rfl
theorem tb_84 : mTab.getD 84 [] = mc_84 := rfl
theorem tb_85 : mTab.getD 85 [] = mc_85 := rfl
theorem tb_86 : mTab.getD 86 [] = mc_86 := rfl
theorem tb_87 : mTab.getD 87 [] = mc_87 := rfl
theorem tb_88 : mTab.getD 88 [] = mc_88 := rfl
theorem tb_89 : mTab.getD 89 [] = mc_89 := rfl
theorem tb_90 : mTab.getD 90 [] = mc_90 := rfl
theorem tb_91 : mTab.getD 91 [] = mc_91 := rfl
theorem tb_92 : mTab.getD 92 [] = mc_92 := rfl
theorem tb_93 : mTab.getD 93 [] = mc_93 := rfl
theorem tb_94 : mTab.getD 94 [] = mc_94 := rfl
theorem tb_95 : mTab.getD 95 [] = mc_95 := rfl
theorem tb_96 : mTab.getD 96 [] = mc_96 := rfl
theorem tb_97 : mTab.getD 97 [] = mc_97 := rfl
theorem tb_98 : mTab.getD 98 [] = mc_98 := rfl
theorem tb_99 : mTab.getD 99 [] = mc_99 := rfl
theorem tb_100 : mTab.getD 100 [] = mc_100 := rfl
theorem tb_101 : mTab.getD 101 [] = mc_101 := rfl
theorem tb_102 : mTab.getD 102 [] = mc_102 := rfl
theorem tb_103 : mTab.getD 103 [] = mc_103 := rfl
theorem tb_104 : mTab.getD 104 [] = mc_104 := rfl
theorem tb_105 : mTab.getD 105 [] = mc_105 := rfl
theorem tb_106 : mTab.getD 106 [] = mc_106 := rfl
theorem tb_107 : mTab.getD 107 [] = mc_107 := rfl
theorem tb_108 : mTab.getD 108 [] = mc_108 := rfl
theorem tb_109 : mTab.getD 109 [] = mc_109 := rfl
theorem tb_110 : mTab.getD 110 [] = mc_110 := rfl
theorem tb_111 : mTab.getD 111 [] = mc_111 := rfl
theorem tb_112 : mTab.getD 112 [] = mc_112 := rfl
theorem tb_113 : mTab.getD 113 [] = mc_113 := rfl
theorem tb_114 : mTab.getD 114 [] = mc_114 := rfl
theorem tb_115 : mTab.getD 115 [] = mc_115 := rfl
theorem tb_116 : mTab.getD 116 [] = mc_116 := rfl
theorem tb_117 : mTab.getD 117 [] = mc_117 := rfl
theorem tb_118 : mTab.getD 118 [] = mc_118 := rfl
theorem tb_119 : mTab.getD 119 [] = mc_119 := rfl
theorem tb_120 : mTab.getD 120 [] = mc_120 := rfl
theorem tb_121 : mTab.getD 121 [] = mc_121 := rfl
theorem tb_122 : mTab.getD 122 [] = mc_122 := rfl
theorem tb_123 : mTab.getD 123 [] = mc_123 := rfl
theorem tb_124 : mTab.getD 124 [] = mc_124 := rfl
theorem tb_125 : mTab.getD 125 [] = mc_125 := rfl
theorem tb_126 : mTab.getD 126 [] = mc_126 := rfl
theorem tb_127 : mTab.getD 127 [] = mc_127 := rfl
theorem tb_128 : mTab.getD 128 [] = mc_128 := rfl
theorem tb_129 : mTab.getD 129 [] = mc_129 := rfl
theorem tb_130 : mTab.getD 130 [] = mc_130 := rfl
theorem tb_131 : mTab.getD 131 [] = mc_131 := rfl
theorem tb_132 : mTab.getD 132 [] = mc_132 := rfl
theorem tb_133 : mTab.getD 133 [] = mc_133 := rfl
theorem tb_134 : mTab.getD 134 [] = mc_134 := rfl
theorem tb_135 : mTab.getD 135 [] = mc_135 := rfl
theorem tb_136 : mTab.getD 136 [] = mc_136 := rfl
theorem tb_137 : mTab.getD 137 [] = mc_137 := rfl
theorem tb_138 : mTab.getD 138 [] = mc_138 := rfl
theorem tb_139 : mTab.getD 139 [] = mc_139 := rfl
theorem tb_140 : mTab.getD 140 [] = mc_140 := rfl
theorem tb_141 : mTab.getD 141 [] = mc_141 := rfl
theorem tb_142 : mTab.getD 142 [] = mc_142 := rfl
theorem tb_143 : mTab.getD 143 [] = mc_143 := rfl
theorem tb_144 : mTab.getD 144 [] = mc_144 := rfl
theorem tb_145 : mTab.getD 145 [] = mc_145 := rfl
theorem tb_146 : mTab.getD 146 [] = mc_146 := rfl
theorem tb_147 : mTab.getD 147 [] = mc_147 := rfl
theorem tb_148 : mTab.getD 148 [] = mc_148 := rfl
theorem tb_149 : mTab.getD 149 [] = mc_149 := rfl
theorem tb_150 : mTab.getD 150 [] = mc_150 := rfl
theorem tb_151 : mTab.getD 151 [] = mc_151 := rfl
theorem tb_152 : mTab.getD 152 [] = mc_152 := rfl
theorem tb_153 : mTab.getD 153 [] = mc_153 := rfl
theorem tb_154 : mTab.getD 154 [] = mc_154 := rfl
theorem tb_155 : mTab.getD 155 [] = mc_155 := rfl
theorem tb_156 : mTab.getD 156 [] = mc_156 := rfl
theorem tb_157 : mTab.getD 157 [] = mc_157 := rfl
theorem tb_158 : mTab.getD 158 [] = mc_158 := rfl
theorem tb_159 : mTab.getD 159 [] = mc_159 := rfl
theorem tb_160 : mTab.getD 160 [] = mc_160 := rfl
theorem tb_161 : mTab.getD 161 [] = mc_161 := rfl
theorem tb_162 : mTab.getD 162 [] = mc_162 := rfl
theorem tb_163 : mTab.getD 163 [] = mc_163 := rfl
theorem tb_164 : mTab.getD 164 [] = mc_164 := rfl
theorem tb_165 : mTab.getD 165 [] = mc_165 := rfl
theorem tb_166 : mTab.getD 166 [] = mc_166 := rfl
theorem tb_167 : mTab.getD 167 [] = mc_167 := rfl
theorem tb_168 : mTab.getD 168 [] = mc_168 := rfl
theorem tb_169 : mTab.getD 169 [] = mc_169 := rfl
theorem tb_170 : mTab.getD 170 [] = mc_170 := rfl
theorem tb_171 : mTab.getD 171 [] = mc_171 := rfl
theorem tb_172 : mTab.getD 172 [] = mc_172 := rfl
theorem tb_173 : mTab.getD 173 [] = mc_173 := rfl
theorem tb_174 : mTab.getD 174 [] = mc_174 := rfl
theorem tb_175 : mTab.getD 175 [] = mc_175 := rfl
theorem tb_176 : mTab.getD 176 [] = mc_176 := rfl
theorem tb_177 : mTab.getD 177 [] = mc_177 := rfl
theorem tb_178 : mTab.getD 178 [] = mc_178 := rfl
theorem tb_179 : mTab.getD 179 [] = mc_179 := rfl
theorem tb_180 : mTab.getD 180 [] = mc_180 := rfl
theorem tb_181 : mTab.getD 181 [] = mc_181 := rfl
theorem tb_182 : mTab.getD 182 [] = mc_182 := rfl
theorem tb_183 : mTab.getD 183 [] = mc_183 := rfl
theorem tb_184 : mTab.getD 184 [] = mc_184 := rfl
theorem tb_185 : mTab.getD 185 [] = mc_185 := rfl
theorem tb_186 : mTab.getD 186 [] = mc_186 := rfl
theorem tb_187 : mTab.getD 187 [] = mc_187 := rfl
theorem tb_188 : mTab.getD 188 [] = mc_188 := rfl
theorem tb_189 : mTab.getD 189 [] = mc_189 := rfl
theorem tb_190 : mTab.getD 190 [] = mc_190 := rfl
theorem tb_191 : mTab.getD 191 [] = mc_191 := rfl
theorem tb_192 : mTab.getD 192 [] = mc_192 := rfl
theorem tb_193 : mTab.getD 193 [] = mc_193 := rfl
theorem tb_194 : mTab.getD 194 [] = mc_194 := rfl
theorem tb_195 : mTab.getD 195 [] = mc_195 := rfl
theorem tb_196 : mTab.getD 196 [] = mc_196 := rfl
theorem tb_197 : mTab.getD 197 [] = mc_197 := rfl
theorem tb_198 : mTab.getD 198 [] = mc_198 := rfl
theorem tb_199 : mTab.getD 199 [] = mc_199 := rfl
theorem tb_200 : mTab.getD 200 [] = mc_200 := rfl
theorem tb_201 : mTab.getD 201 [] = mc_201 := rfl
theorem tb_202 : mTab.getD 202 [] = mc_202 := rfl
theorem tb_203 : mTab.getD 203 [] = mc_203 := rfl
theorem tb_204 : mTab.getD 204 [] = mc_204 := rfl
theorem tb_205 : mTab.getD 205 [] = mc_205 := rfl
theorem tb_206 : mTab.getD 206 [] = mc_206 := rfl
theorem tb_207 : mTab.getD 207 [] = mc_207 := rfl
theorem tb_208 : mTab.getD 208 [] = mc_208 := rfl
theorem tb_209 : mTab.getD 209 [] = mc_209 := rfl
theorem tb_210 : mTab.getD 210 [] = mc_210 := rfl
theorem tb_211 : mTab.getD 211 [] = mc_211 := rfl
theorem tb_212 : mTab.getD 212 [] = mc_212 := rfl
theorem tb_213 : mTab.getD 213 [] = mc_213 := rfl
theorem tb_214 : mTab.getD 214 [] = mc_214 := rfl
theorem tb_215 : mTab.getD 215 [] = mc_215 := rfl
theorem tb_216 : mTab.getD 216 [] = mc_216 := rfl
theorem tb_217 : mTab.getD 217 [] = mc_217 := rfl
theorem tb_218 : mTab.getD 218 [] = mc_218 := rfl
theorem tb_219 : mTab.getD 219 [] = mc_219 := rfl
theorem tb_220 : mTab.getD 220 [] = mc_220 := rfl
theorem tb_221 : mTab.getD 221 [] = mc_221 := rfl
theorem tb_222 : mTab.getD 222 [] = mc_222 := rfl
theorem tb_223 : mTab.getD 223 [] = mc_223 := rfl
theorem tb_224 : mTab.getD 224 [] = mc_224 := rfl
theorem tb_225 : mTab.getD 225 [] = mc_225 := rfl
theorem tb_226 : mTab.getD 226 [] = mc_226 := rfl
theorem tb_227 : mTab.getD 227 [] = mc_227 := rfl
theorem tb_228 : mTab.getD 228 [] = mc_228 := rfl
theorem tb_229 : mTab.getD 229 [] = mc_229 := rfl
theorem tb_230 : mTab.getD 230 [] = mc_230 := rfl
theorem tb_231 : mTab.getD 231 [] = mc_231 := rfl
theorem tb_232 : mTab.getD 232 [] = mc_232 := rfl
theorem tb_233 : mTab.getD 233 [] = mc_233 := rfl
theorem tb_234 : mTab.getD 234 [] = mc_234 := rfl
theorem tb_235 : mTab.getD 235 [] = mc_235 := rfl
theorem tb_236 : mTab.getD 236 [] = mc_236 := rfl
theorem tb_237 : mTab.getD 237 [] = mc_237 := rfl
theorem tb_238 : mTab.getD 238 [] = mc_238 := rfl
theorem tb_239 : mTab.getD 239 [] = mc_239 := rfl
theorem tb_240 : mTab.getD 240 [] = mc_240 := rfl
theorem tb_241 : mTab.getD 241 [] = mc_241 := rfl
theorem tb_242 : mTab.getD 242 [] = mc_242 := rfl
theorem tb_243 : mTab.getD 243 [] = mc_243 := rfl
theorem tb_244 : mTab.getD 244 [] = mc_244 := rfl
theorem tb_245 : mTab.getD 245 [] = mc_245 := rfl
theorem tb_246 : mTab.getD 246 [] = mc_246 := rfl
theorem tb_247 : mTab.getD 247 [] = mc_247 := rfl
theorem tb_248 : mTab.getD 248 [] = mc_248 := rfl
theorem tb_249 : mTab.getD 249 [] = mc_249 := rfl
theorem tb_250 : mTab.getD 250 [] = mc_250 := rfl
theorem tb_251 : mTab.getD 251 [] = mc_251 := rfl
theorem tb_252 : mTab.getD 252 [] = mc_252 := rfl
theorem tb_253 : mTab.getD 253 [] = mc_253 := rfl
theorem tb_254 : mTab.getD 254 [] = mc_254 := rfl
theorem tb_255 : mTab.getD 255 [] = mc_255 := rfl
theorem tb_256 : mTab.getD 256 [] = mc_256 := rfl
theorem tb_257 : mTab.getD 257 [] = mc_257 := rfl
theorem tb_258 : mTab.getD 258 [] = mc_258 := rfl
theorem tb_259 : mTab.getD 259 [] = mc_259 := rfl
theorem tb_260 : mTab.getD 260 [] = mc_260 := rfl
theorem tb_261 : mTab.getD 261 [] = mc_261 := rfl
theorem tb_262 : mTab.getD 262 [] = mc_262 := rfl
theorem tb_263 : mTab.getD 263 [] = mc_263 := rfl
theorem tb_264 : mTab.getD 264 [] = mc_264 := rfl
theorem tb_265 : mTab.getD 265 [] = mc_265 := rfl
theorem tb_266 : mTab.getD 266 [] = mc_266 := rfl
theorem tb_267 : mTab.getD 267 [] = mc_267 := rfl
theorem tb_268 : mTab.getD 268 [] = mc_268 := rfl
theorem tb_269 : mTab.getD 269 [] = mc_269 := rfl
theorem tb_270 : mTab.getD 270 [] = mc_270 := rfl
theorem tb_271 : mTab.getD 271 [] = mc_271 := rfl
theorem tb_272 : mTab.getD 272 [] = mc_272 := rfl
theorem tb_273 : mTab.getD 273 [] = mc_273 := rfl
theorem tb_274 : mTab.getD 274 [] = mc_274 := rfl
theorem tb_275 : mTab.getD 275 [] = mc_275 := rfl
theorem tb_276 : mTab.getD 276 [] = mc_276 := rfl
theorem tb_277 : mTab.getD 277 [] = mc_277 := rfl
theorem tb_278 : mTab.getD 278 [] = mc_278 := rfl
theorem tb_279 : mTab.getD 279 [] = mc_279 := rfl
theorem tb_280 : mTab.getD 280 [] = mc_280 := rfl
theorem tb_281 : mTab.getD 281 [] = mc_281 := rfl
theorem tb_282 : mTab.getD 282 [] = mc_282 := rfl
theorem tb_283 : mTab.getD 283 [] = mc_283 := rfl
theorem tb_284 : mTab.getD 284 [] = mc_284 := rfl
theorem tb_285 : mTab.getD 285 [] = mc_285 := rfl
theorem tb_286 : mTab.getD 286 [] = mc_286 := rfl
theorem tb_287 : mTab.getD 287 [] = mc_287 := rfl
theorem tb_288 : mTab.getD 288 [] = mc_288 := rfl
theorem tb_289 : mTab.getD 289 [] = mc_289 := rfl
theorem tb_290 : mTab.getD 290 [] = mc_290 := rfl
theorem tb_291 : mTab.getD 291 [] = mc_291 := rfl
theorem tb_292 : mTab.getD 292 [] = mc_292 := rfl
theorem tb_293 : mTab.getD 293 [] = mc_293 := rfl
theorem tb_294 : mTab.getD 294 [] = mc_294 := rfl
theorem tb_295 : mTab.getD 295 [] = mc_295 := rfl
theorem tb_296 : mTab.getD 296 [] = mc_296 := rfl
theorem tb_297 : mTab.getD 297 [] = mc_297 := rfl
theorem tb_298 : mTab.getD 298 [] = mc_298 := rfl
theorem tb_299 : mTab.getD 299 [] = mc_299 := rfl
theorem tb_300 : mTab.getD 300 [] = mc_300 := rfl
theorem tb_301 : mTab.getD 301 [] = mc_301 := rfl
theorem tb_302 : mTab.getD 302 [] = mc_302 := rfl
theorem tb_303 : mTab.getD 303 [] = mc_303 := rfl
theorem tb_304 : mTab.getD 304 [] = mc_304 := rfl
theorem tb_305 : mTab.getD 305 [] = mc_305 := rfl
theorem tb_306 : mTab.getD 306 [] = mc_306 := rfl
theorem tb_307 : mTab.getD 307 [] = mc_307 := rfl
theorem tb_308 : mTab.getD 308 [] = mc_308 := rfl
theorem tb_309 : mTab.getD 309 [] = mc_309 := rfl
theorem tb_310 : mTab.getD 310 [] = mc_310 := rfl
theorem tb_311 : mTab.getD 311 [] = mc_311 := rfl
theorem tb_312 : mTab.getD 312 [] = mc_312 := rfl
theorem tb_313 : mTab.getD 313 [] = mc_313 := rfl
theorem tb_314 : mTab.getD 314 [] = mc_314 := rfl
theorem tb_315 : mTab.getD 315 [] = mc_315 := rfl
theorem tb_316 : mTab.getD 316 [] = mc_316 := rfl
theorem tb_317 : mTab.getD 317 [] = mc_317 := rfl
theorem tb_318 : mTab.getD 318 [] = mc_318 := rfl
theorem tb_319 : mTab.getD 319 [] = mc_319 := rfl
theorem tb_320 : mTab.getD 320 [] = mc_320 := rfl
theorem tb_321 : mTab.getD 321 [] = mc_321 := rfl
theorem tb_322 : mTab.getD 322 [] = mc_322 := rfl
theorem tb_323 : mTab.getD 323 [] = mc_323 := rfl
theorem tb_324 : mTab.getD 324 [] = mc_324 := rfl
theorem tb_325 : mTab.getD 325 [] = mc_325 := rfl
theorem tb_326 : mTab.getD 326 [] = mc_326 := rfl
theorem tb_327 : mTab.getD 327 [] = mc_327 := rfl
theorem tb_328 : mTab.getD 328 [] = mc_328 := rfl
theorem tb_329 : mTab.getD 329 [] = mc_329 := rfl
theorem tb_330 : mTab.getD 330 [] = mc_330 := rfl
theorem tb_331 : mTab.getD 331 [] = mc_331 := rfl
theorem tb_332 : mTab.getD 332 [] = mc_332 := rfl
theorem tb_333 : mTab.getD 333 [] = mc_333 := rfl
theorem tb_334 : mTab.getD 334 [] = mc_334 := rfl
theorem tb_335 : mTab.getD 335 [] = mc_335 := rfl
theorem tb_336 : mTab.getD 336 [] = mc_336 := rfl
theorem tb_337 : mTab.getD 337 [] = mc_337 := rfl
theorem tb_338 : mTab.getD 338 [] = mc_338 := rfl
theorem tb_339 : mTab.getD 339 [] = mc_339 := rfl
theorem tb_340 : mTab.getD 340 [] = mc_340 := rfl
theorem tb_341 : mTab.getD 341 [] = mc_341 := rfl
theorem tb_342 : mTab.getD 342 [] = mc_342 := rfl
theorem tb_343 : mTab.getD 343 [] = mc_343 := rfl
theorem tb_344 : mTab.getD 344 [] = mc_344 := rfl
theorem tb_345 : mTab.getD 345 [] = mc_345 := rfl
theorem mHf_no {M : Nat} : ∀ {t : List (Nat × Nat × Nat × Nat × Nat × Nat)}, (t.any fun e => Nat.beq e.1 M) = false → ∀ pc x, mHf M pc x t = none
  | [], _, _, _ => rfl
  | (M1, a, b, E1, h1, j) :: r, h, pc, x => by
    simp only [List.any_cons, Bool.or_eq_false_iff] at h
    unfold mHf
    rw [if_neg (fun hc => by rw [hc.1] at h; have := h.1; simp at this)]
    exact mHf_no h.2 pc x
theorem mHd_no {M : Nat} (h : (mHs.any fun e => Nat.beq e.1 M) = false) (pc x : Nat) : mHd M pc x = none := mHf_no h pc x
theorem hh_0 (pc x : Nat) : mHd 0 pc x = none := mHd_no (by decide +kernel) pc x
theorem hh_1 (pc x : Nat) : mHd 1 pc x = none := mHd_no (by decide +kernel) pc x
theorem hh_2 (pc x : Nat) : mHd 2 pc x = none := mHd_no (by decide +kernel) pc x
theorem hh_3 (pc x : Nat) : mHd 3 pc x = none := mHd_no (by decide +kernel) pc x
theorem hh_4 (pc x : Nat) : mHd 4 pc x = none := mHd_no (by decide +kernel) pc x
theorem hh_5 (pc x : Nat) : mHd 5 pc x = none := mHd_no (by decide +kernel) pc x
theorem hh_6 (pc x : Nat) : mHd 6 pc x = none := mHd_no (by decide +kernel) pc x
theorem hh_7 (pc x : Nat) : mHd 7 pc x = none := mHd_no (by decide +kernel) pc x
theorem hh_8 (pc x : Nat) : mHd 8 pc x = none := mHd_no (by decide +kernel) pc x
theorem hh_9 (pc x : Nat) : mHd 9 pc x = none := mHd_no (by decide +kernel) pc x
theorem hh_10 (pc x : Nat) : mHd 10 pc x = none := mHd_no (by decide +kernel) pc x
theorem hh_11 (pc x : Nat) : mHd 11 pc x = none := mHd_no (by decide +kernel) pc x
theorem hh_12 (pc x : Nat) : mHd 12 pc x = none := mHd_no (by decide +kernel) pc x
theorem hh_13 (pc x : Nat) : mHd 13 pc x = none := mHd_no (by decide +kernel) pc x
theorem hh_14 (pc x : Nat) : mHd 14 pc x = none := mHd_no (by decide +kernel) pc x
theorem hh_15 (pc x : Nat) : mHd 15 pc x = none := mHd_no (by decide +kernel) pc x
theorem hh_16 (pc x : Nat) : mHd 16 pc x = none := mHd_no (by decide +kernel) pc x
theorem hh_17 (pc x : Nat) : mHd 17 pc x = none := mHd_no (by decide +kernel) pc x
theorem hh_18 (pc x : Nat) : mHd 18 pc x = none := mHd_no (by decide +kernel) pc x
theorem hh_19 (pc x : Nat) : mHd 19 pc x = none := mHd_no (by decide +kernel) pc x
theorem hh_20 (pc x : Nat) : mHd 20 pc x = none := mHd_no (by decide +kernel) pc x
theorem hh_21 (pc x : Nat) : mHd 21 pc x = none := mHd_no (by decide +kernel) pc x
theorem hh_22 (pc x : Nat) : mHd 22 pc x = none := mHd_no (by decide +kernel) pc x
theorem hh_23 (pc x : Nat) : mHd 23 pc x = none := mHd_no (by decide +kernel) pc x
theorem hh_24 (pc x : Nat) : mHd 24 pc x = none := mHd_no (by decide +kernel) pc x
theorem hh_25 (pc x : Nat) : mHd 25 pc x = none := mHd_no (by decide +kernel) pc x
theorem hh_26 (pc x : Nat) : mHd 26 pc x = none := mHd_no (by decide +kernel) pc x
theorem hh_27 (pc x : Nat) : mHd 27 pc x = none := mHd_no (by decide +kernel) pc x
theorem hh_28 (pc x : Nat) : mHd 28 pc x = none := mHd_no (by decide +kernel) pc x
theorem hh_29 (pc x : Nat) : mHd 29 pc x = none := mHd_no (by decide +kernel) pc x
theorem hh_30 (pc x : Nat) : mHd 30 pc x = none := mHd_no (by decide +kernel) pc x
theorem hh_31 (pc x : Nat) : mHd 31 pc x = none := mHd_no (by decide +kernel) pc x
theorem hh_32 (pc x : Nat) : mHd 32 pc x = none := mHd_no (by decide +kernel) pc x
theorem hh_33 (pc x : Nat) : mHd 33 pc x = none := mHd_no (by decide +kernel) pc x
theorem hh_34 (pc x : Nat) : mHd 34 pc x = none := mHd_no (by decide +kernel) pc x
theorem hh_35 (pc x : Nat) : mHd 35 pc x = none := mHd_no (by decide +kernel) pc x
theorem hh_36 (pc x : Nat) : mHd 36 pc x = none := mHd_no (by decide +kernel) pc x
theorem hh_37 (pc x : Nat) : mHd 37 pc x = none := mHd_no (by decide +kernel) pc x
theorem hh_38 (pc x : Nat) : mHd 38 pc x = none := mHd_no (by decide +kernel) pc x
theorem hh_39 (pc x : Nat) : mHd 39 pc x = none := mHd_no (by decide +kernel) pc x
theorem hh_40 (pc x : Nat) : mHd 40 pc x = none := mHd_no (by decide +kernel) pc x
theorem hh_41 (pc x : Nat) : mHd 41 pc x = none := mHd_no (by decide +kernel) pc x
theorem hh_42 (pc x : Nat) : mHd 42 pc x = none := mHd_no (by decide +kernel) pc x
theorem hh_43 (pc x : Nat) : mHd 43 pc x = none := mHd_no (by decide +kernel) pc x
theorem hh_44 (pc x : Nat) : mHd 44 pc x = none := mHd_no (by decide +kernel) pc x
theorem hh_45 (pc x : Nat) : mHd 45 pc x = none := mHd_no (by decide +kernel) pc x
theorem hh_46 (pc x : Nat) : mHd 46 pc x = none := mHd_no (by decide +kernel) pc x
theorem hh_47 (pc x : Nat) : mHd 47 pc x = none := mHd_no (by decide +kernel) pc x
theorem hh_48 (pc x : Nat) : mHd 48 pc x = none := mHd_no (by decide +kernel) pc x
theorem hh_49 (pc x : Nat) : mHd 49 pc x = none := mHd_no (by decide +kernel) pc x
theorem hh_50 (pc x : Nat) : mHd 50 pc x = none := mHd_no (by decide +kernel) pc x
theorem hh_51 (pc x : Nat) : mHd 51 pc x = none := mHd_no (by decide +kernel) pc x
theorem hh_52 (pc x : Nat) : mHd 52 pc x = none := mHd_no (by decide +kernel) pc x
theorem hh_53 (pc x : Nat) : mHd 53 pc x = none := mHd_no (by decide +kernel) pc x
theorem hh_54 (pc x : Nat) : mHd 54 pc x = none := mHd_no (by decide +kernel) pc x
theorem hh_55 (pc x : Nat) : mHd 55 pc x = none := mHd_no (by decide +kernel) pc x
theorem hh_56 (pc x : Nat) : mHd 56 pc x = none := mHd_no (by decide +kernel) pc x
theorem hh_57 (pc x : Nat) : mHd 57 pc x = none := mHd_no (by decide +kernel) pc x
theorem hh_58 (pc x : Nat) : mHd 58 pc x = none := mHd_no (by decide +kernel) pc x
theorem hh_59 (pc x : Nat) : mHd 59 pc x = none := mHd_no (by decide +kernel) pc x
theorem hh_60 (pc x : Nat) : mHd 60 pc x = none := mHd_no (by decide +kernel) pc x
theorem hh_61 (pc x : Nat) : mHd 61 pc x = none := mHd_no (by decide +kernel) pc x
theorem hh_62 (pc x : Nat) : mHd 62 pc x = none := mHd_no (by decide +kernel) pc x
theorem hh_63 (pc x : Nat) : mHd 63 pc x = none := mHd_no (by decide +kernel) pc x
theorem hh_65 (pc x : Nat) : mHd 65 pc x = none := mHd_no (by decide +kernel) pc x
theorem hh_66 (pc x : Nat) : mHd 66 pc x = none := mHd_no (by decide +kernel) pc x
theorem hh_67 (pc x : Nat) : mHd 67 pc x = none := mHd_no (by decide +kernel) pc x
theorem hh_68 (pc x : Nat) : mHd 68 pc x = none := mHd_no (by decide +kernel) pc x
theorem hh_69 (pc x : Nat) : mHd 69 pc x = none := mHd_no (by decide +kernel) pc x
theorem hh_70 (pc x : Nat) : mHd 70 pc x = none := mHd_no (by decide +kernel) pc x
theorem hh_71 (pc x : Nat) : mHd 71 pc x = none := mHd_no (by decide +kernel) pc x
theorem hh_72 (pc x : Nat) : mHd 72 pc x = none := mHd_no (by decide +kernel) pc x
theorem hh_73 (pc x : Nat) : mHd 73 pc x = none := mHd_no (by decide +kernel) pc x
theorem hh_74 (pc x : Nat) : mHd 74 pc x = none := mHd_no (by decide +kernel) pc x
theorem hh_75 (pc x : Nat) : mHd 75 pc x = none := mHd_no (by decide +kernel) pc x
theorem hh_76 (pc x : Nat) : mHd 76 pc x = none := mHd_no (by decide +kernel) pc x
theorem hh_77 (pc x : Nat) : mHd 77 pc x = none := mHd_no (by decide +kernel) pc x
theorem hh_78 (pc x : Nat) : mHd 78 pc x = none := mHd_no (by decide +kernel) pc x
theorem hh_79 (pc x : Nat) : mHd 79 pc x = none := mHd_no (by decide +kernel) pc x
theorem hh_80 (pc x : Nat) : mHd 80 pc x = none := mHd_no (by decide +kernel) pc x
theorem hh_81 (pc x : Nat) : mHd 81 pc x = none := mHd_no (by decide +kernel) pc x
theorem hh_82 (pc x : Nat) : mHd 82 pc x = none := mHd_no (by decide +kernel) pc x
theorem hh_83 (pc x : Nat) : mHd 83 pc x = none := mHd_no (by decide +kernel) pc x
theorem hh_84 (pc x : Nat) : mHd 84 pc x = none := mHd_no (by decide +kernel) pc x
theorem hh_85 (pc x : Nat) : mHd 85 pc x = none := mHd_no (by decide +kernel) pc x
theorem hh_86 (pc x : Nat) : mHd 86 pc x = none := mHd_no (by decide +kernel) pc x
theorem hh_87 (pc x : Nat) : mHd 87 pc x = none := mHd_no (by decide +kernel) pc x
theorem hh_88 (pc x : Nat) : mHd 88 pc x = none := mHd_no (by decide +kernel) pc x
theorem hh_89 (pc x : Nat) : mHd 89 pc x = none := mHd_no (by decide +kernel) pc x
theorem hh_90 (pc x : Nat) : mHd 90 pc x = none := mHd_no (by decide +kernel) pc x
theorem hh_91 (pc x : Nat) : mHd 91 pc x = none := mHd_no (by decide +kernel) pc x
theorem hh_92 (pc x : Nat) : mHd 92 pc x = none := mHd_no (by decide +kernel) pc x
theorem hh_93 (pc x : Nat) : mHd 93 pc x = none := mHd_no (by decide +kernel) pc x
theorem hh_94 (pc x : Nat) : mHd 94 pc x = none := mHd_no (by decide +kernel) pc x
theorem hh_95 (pc x : Nat) : mHd 95 pc x = none := mHd_no (by decide +kernel) pc x
theorem hh_96 (pc x : Nat) : mHd 96 pc x = none := mHd_no (by decide +kernel) pc x
theorem hh_97 (pc x : Nat) : mHd 97 pc x = none := mHd_no (by decide +kernel) pc x
theorem hh_98 (pc x : Nat) : mHd 98 pc x = none := mHd_no (by decide +kernel) pc x
theorem hh_99 (pc x : Nat) : mHd 99 pc x = none := mHd_no (by decide +kernel) pc x
theorem hh_100 (pc x : Nat) : mHd 100 pc x = none := mHd_no (by decide +kernel) pc x
theorem hh_102 (pc x : Nat) : mHd 102 pc x = none := mHd_no (by decide +kernel) pc x
theorem hh_103 (pc x : Nat) : mHd 103 pc x = none := mHd_no (by decide +kernel) pc x
theorem hh_105 (pc x : Nat) : mHd 105 pc x = none := mHd_no (by decide +kernel) pc x
theorem hh_106 (pc x : Nat) : mHd 106 pc x = none := mHd_no (by decide +kernel) pc x
theorem hh_107 (pc x : Nat) : mHd 107 pc x = none := mHd_no (by decide +kernel) pc x
theorem hh_109 (pc x : Nat) : mHd 109 pc x = none := mHd_no (by decide +kernel) pc x
theorem hh_111 (pc x : Nat) : mHd 111 pc x = none := mHd_no (by decide +kernel) pc x
theorem hh_113 (pc x : Nat) : mHd 113 pc x = none := mHd_no (by decide +kernel) pc x
theorem hh_114 (pc x : Nat) : mHd 114 pc x = none := mHd_no (by decide +kernel) pc x
theorem hh_115 (pc x : Nat) : mHd 115 pc x = none := mHd_no (by decide +kernel) pc x
theorem hh_117 (pc x : Nat) : mHd 117 pc x = none := mHd_no (by decide +kernel) pc x
theorem hh_119 (pc x : Nat) : mHd 119 pc x = none := mHd_no (by decide +kernel) pc x
theorem hh_120 (pc x : Nat) : mHd 120 pc x = none := mHd_no (by decide +kernel) pc x
theorem hh_121 (pc x : Nat) : mHd 121 pc x = none := mHd_no (by decide +kernel) pc x
theorem hh_123 (pc x : Nat) : mHd 123 pc x = none := mHd_no (by decide +kernel) pc x
theorem hh_125 (pc x : Nat) : mHd 125 pc x = none := mHd_no (by decide +kernel) pc x
theorem hh_127 (pc x : Nat) : mHd 127 pc x = none := mHd_no (by decide +kernel) pc x
theorem hh_128 (pc x : Nat) : mHd 128 pc x = none := mHd_no (by decide +kernel) pc x
theorem hh_130 (pc x : Nat) : mHd 130 pc x = none := mHd_no (by decide +kernel) pc x
theorem hh_131 (pc x : Nat) : mHd 131 pc x = none := mHd_no (by decide +kernel) pc x
theorem hh_132 (pc x : Nat) : mHd 132 pc x = none := mHd_no (by decide +kernel) pc x
theorem hh_134 (pc x : Nat) : mHd 134 pc x = none := mHd_no (by decide +kernel) pc x
theorem hh_136 (pc x : Nat) : mHd 136 pc x = none := mHd_no (by decide +kernel) pc x
theorem hh_137 (pc x : Nat) : mHd 137 pc x = none := mHd_no (by decide +kernel) pc x
theorem hh_138 (pc x : Nat) : mHd 138 pc x = none := mHd_no (by decide +kernel) pc x
theorem hh_139 (pc x : Nat) : mHd 139 pc x = none := mHd_no (by decide +kernel) pc x
theorem hh_140 (pc x : Nat) : mHd 140 pc x = none := mHd_no (by decide +kernel) pc x
theorem hh_141 (pc x : Nat) : mHd 141 pc x = none := mHd_no (by decide +kernel) pc x
theorem hh_142 (pc x : Nat) : mHd 142 pc x = none := mHd_no (by decide +kernel) pc x
theorem hh_144 (pc x : Nat) : mHd 144 pc x = none := mHd_no (by decide +kernel) pc x
theorem hh_146 (pc x : Nat) : mHd 146 pc x = none := mHd_no (by decide +kernel) pc x
theorem hh_147 (pc x : Nat) : mHd 147 pc x = none := mHd_no (by decide +kernel) pc x
theorem hh_148 (pc x : Nat) : mHd 148 pc x = none := mHd_no (by decide +kernel) pc x
theorem hh_149 (pc x : Nat) : mHd 149 pc x = none := mHd_no (by decide +kernel) pc x
theorem hh_150 (pc x : Nat) : mHd 150 pc x = none := mHd_no (by decide +kernel) pc x
theorem hh_152 (pc x : Nat) : mHd 152 pc x = none := mHd_no (by decide +kernel) pc x
theorem hh_153 (pc x : Nat) : mHd 153 pc x = none := mHd_no (by decide +kernel) pc x
theorem hh_155 (pc x : Nat) : mHd 155 pc x = none := mHd_no (by decide +kernel) pc x
theorem hh_156 (pc x : Nat) : mHd 156 pc x = none := mHd_no (by decide +kernel) pc x
theorem hh_157 (pc x : Nat) : mHd 157 pc x = none := mHd_no (by decide +kernel) pc x
theorem hh_159 (pc x : Nat) : mHd 159 pc x = none := mHd_no (by decide +kernel) pc x
theorem hh_161 (pc x : Nat) : mHd 161 pc x = none := mHd_no (by decide +kernel) pc x
theorem hh_163 (pc x : Nat) : mHd 163 pc x = none := mHd_no (by decide +kernel) pc x
theorem hh_164 (pc x : Nat) : mHd 164 pc x = none := mHd_no (by decide +kernel) pc x
theorem hh_165 (pc x : Nat) : mHd 165 pc x = none := mHd_no (by decide +kernel) pc x
theorem hh_167 (pc x : Nat) : mHd 167 pc x = none := mHd_no (by decide +kernel) pc x
theorem hh_168 (pc x : Nat) : mHd 168 pc x = none := mHd_no (by decide +kernel) pc x
theorem hh_169 (pc x : Nat) : mHd 169 pc x = none := mHd_no (by decide +kernel) pc x
theorem hh_171 (pc x : Nat) : mHd 171 pc x = none := mHd_no (by decide +kernel) pc x
theorem hh_172 (pc x : Nat) : mHd 172 pc x = none := mHd_no (by decide +kernel) pc x
theorem hh_174 (pc x : Nat) : mHd 174 pc x = none := mHd_no (by decide +kernel) pc x
theorem hh_175 (pc x : Nat) : mHd 175 pc x = none := mHd_no (by decide +kernel) pc x
theorem hh_177 (pc x : Nat) : mHd 177 pc x = none := mHd_no (by decide +kernel) pc x
theorem hh_178 (pc x : Nat) : mHd 178 pc x = none := mHd_no (by decide +kernel) pc x
theorem hh_180 (pc x : Nat) : mHd 180 pc x = none := mHd_no (by decide +kernel) pc x
theorem hh_181 (pc x : Nat) : mHd 181 pc x = none := mHd_no (by decide +kernel) pc x
theorem hh_182 (pc x : Nat) : mHd 182 pc x = none := mHd_no (by decide +kernel) pc x
theorem hh_183 (pc x : Nat) : mHd 183 pc x = none := mHd_no (by decide +kernel) pc x
theorem hh_184 (pc x : Nat) : mHd 184 pc x = none := mHd_no (by decide +kernel) pc x
theorem hh_186 (pc x : Nat) : mHd 186 pc x = none := mHd_no (by decide +kernel) pc x
theorem hh_187 (pc x : Nat) : mHd 187 pc x = none := mHd_no (by decide +kernel) pc x
theorem hh_188 (pc x : Nat) : mHd 188 pc x = none := mHd_no (by decide +kernel) pc x
theorem hh_189 (pc x : Nat) : mHd 189 pc x = none := mHd_no (by decide +kernel) pc x
theorem hh_191 (pc x : Nat) : mHd 191 pc x = none := mHd_no (by decide +kernel) pc x
theorem hh_193 (pc x : Nat) : mHd 193 pc x = none := mHd_no (by decide +kernel) pc x
theorem hh_194 (pc x : Nat) : mHd 194 pc x = none := mHd_no (by decide +kernel) pc x
theorem hh_195 (pc x : Nat) : mHd 195 pc x = none := mHd_no (by decide +kernel) pc x
theorem hh_197 (pc x : Nat) : mHd 197 pc x = none := mHd_no (by decide +kernel) pc x
theorem hh_198 (pc x : Nat) : mHd 198 pc x = none := mHd_no (by decide +kernel) pc x
theorem hh_200 (pc x : Nat) : mHd 200 pc x = none := mHd_no (by decide +kernel) pc x
theorem hh_202 (pc x : Nat) : mHd 202 pc x = none := mHd_no (by decide +kernel) pc x
theorem hh_204 (pc x : Nat) : mHd 204 pc x = none := mHd_no (by decide +kernel) pc x
theorem hh_205 (pc x : Nat) : mHd 205 pc x = none := mHd_no (by decide +kernel) pc x
theorem hh_207 (pc x : Nat) : mHd 207 pc x = none := mHd_no (by decide +kernel) pc x
theorem hh_209 (pc x : Nat) : mHd 209 pc x = none := mHd_no (by decide +kernel) pc x
theorem hh_210 (pc x : Nat) : mHd 210 pc x = none := mHd_no (by decide +kernel) pc x
theorem hh_211 (pc x : Nat) : mHd 211 pc x = none := mHd_no (by decide +kernel) pc x
theorem hh_213 (pc x : Nat) : mHd 213 pc x = none := mHd_no (by decide +kernel) pc x
theorem hh_214 (pc x : Nat) : mHd 214 pc x = none := mHd_no (by decide +kernel) pc x
theorem hh_215 (pc x : Nat) : mHd 215 pc x = none := mHd_no (by decide +kernel) pc x
theorem hh_216 (pc x : Nat) : mHd 216 pc x = none := mHd_no (by decide +kernel) pc x
theorem hh_217 (pc x : Nat) : mHd 217 pc x = none := mHd_no (by decide +kernel) pc x
theorem hh_218 (pc x : Nat) : mHd 218 pc x = none := mHd_no (by decide +kernel) pc x
theorem hh_219 (pc x : Nat) : mHd 219 pc x = none := mHd_no (by decide +kernel) pc x
theorem hh_220 (pc x : Nat) : mHd 220 pc x = none := mHd_no (by decide +kernel) pc x
theorem hh_221 (pc x : Nat) : mHd 221 pc x = none := mHd_no (by decide +kernel) pc x
theorem hh_222 (pc x : Nat) : mHd 222 pc x = none := mHd_no (by decide +kernel) pc x
theorem hh_223 (pc x : Nat) : mHd 223 pc x = none := mHd_no (by decide +kernel) pc x
theorem hh_224 (pc x : Nat) : mHd 224 pc x = none := mHd_no (by decide +kernel) pc x
theorem hh_225 (pc x : Nat) : mHd 225 pc x = none := mHd_no (by decide +kernel) pc x
theorem hh_226 (pc x : Nat) : mHd 226 pc x = none := mHd_no (by decide +kernel) pc x
theorem hh_227 (pc x : Nat) : mHd 227 pc x = none := mHd_no (by decide +kernel) pc x
theorem hh_228 (pc x : Nat) : mHd 228 pc x = none := mHd_no (by decide +kernel) pc x
theorem hh_229 (pc x : Nat) : mHd 229 pc x = none := mHd_no (by decide +kernel) pc x
theorem hh_230 (pc x : Nat) : mHd 230 pc x = none := mHd_no (by decide +kernel) pc x
theorem hh_231 (pc x : Nat) : mHd 231 pc x = none := mHd_no (by decide +kernel) pc x
theorem hh_232 (pc x : Nat) : mHd 232 pc x = none := mHd_no (by decide +kernel) pc x
theorem hh_233 (pc x : Nat) : mHd 233 pc x = none := mHd_no (by decide +kernel) pc x
theorem hh_234 (pc x : Nat) : mHd 234 pc x = none := mHd_no (by decide +kernel) pc x
theorem hh_235 (pc x : Nat) : mHd 235 pc x = none := mHd_no (by decide +kernel) pc x
theorem hh_236 (pc x : Nat) : mHd 236 pc x = none := mHd_no (by decide +kernel) pc x
theorem hh_237 (pc x : Nat) : mHd 237 pc x = none := mHd_no (by decide +kernel) pc x
theorem hh_238 (pc x : Nat) : mHd 238 pc x = none := mHd_no (by decide +kernel) pc x
theorem hh_239 (pc x : Nat) : mHd 239 pc x = none := mHd_no (by decide +kernel) pc x
theorem hh_240 (pc x : Nat) : mHd 240 pc x = none := mHd_no (by decide +kernel) pc x
theorem hh_241 (pc x : Nat) : mHd 241 pc x = none := mHd_no (by decide +kernel) pc x
theorem hh_242 (pc x : Nat) : mHd 242 pc x = none := mHd_no (by decide +kernel) pc x
theorem hh_243 (pc x : Nat) : mHd 243 pc x = none := mHd_no (by decide +kernel) pc x
theorem hh_244 (pc x : Nat) : mHd 244 pc x = none := mHd_no (by decide +kernel) pc x
theorem hh_245 (pc x : Nat) : mHd 245 pc x = none := mHd_no (by decide +kernel) pc x
theorem hh_246 (pc x : Nat) : mHd 246 pc x = none := mHd_no (by decide +kernel) pc x
theorem hh_247 (pc x : Nat) : mHd 247 pc x = none := mHd_no (by decide +kernel) pc x
theorem hh_248 (pc x : Nat) : mHd 248 pc x = none := mHd_no (by decide +kernel) pc x
theorem hh_249 (pc x : Nat) : mHd 249 pc x = none := mHd_no (by decide +kernel) pc x
theorem hh_250 (pc x : Nat) : mHd 250 pc x = none := mHd_no (by decide +kernel) pc x
theorem hh_251 (pc x : Nat) : mHd 251 pc x = none := mHd_no (by decide +kernel) pc x
theorem hh_252 (pc x : Nat) : mHd 252 pc x = none := mHd_no (by decide +kernel) pc x
theorem hh_253 (pc x : Nat) : mHd 253 pc x = none := mHd_no (by decide +kernel) pc x
theorem hh_254 (pc x : Nat) : mHd 254 pc x = none := mHd_no (by decide +kernel) pc x
theorem hh_255 (pc x : Nat) : mHd 255 pc x = none := mHd_no (by decide +kernel) pc x
theorem hh_256 (pc x : Nat) : mHd 256 pc x = none := mHd_no (by decide +kernel) pc x
theorem hh_257 (pc x : Nat) : mHd 257 pc x = none := mHd_no (by decide +kernel) pc x
theorem hh_258 (pc x : Nat) : mHd 258 pc x = none := mHd_no (by decide +kernel) pc x
theorem hh_259 (pc x : Nat) : mHd 259 pc x = none := mHd_no (by decide +kernel) pc x
theorem hh_260 (pc x : Nat) : mHd 260 pc x = none := mHd_no (by decide +kernel) pc x
theorem hh_261 (pc x : Nat) : mHd 261 pc x = none := mHd_no (by decide +kernel) pc x
theorem hh_262 (pc x : Nat) : mHd 262 pc x = none := mHd_no (by decide +kernel) pc x
theorem hh_263 (pc x : Nat) : mHd 263 pc x = none := mHd_no (by decide +kernel) pc x
theorem hh_264 (pc x : Nat) : mHd 264 pc x = none := mHd_no (by decide +kernel) pc x
theorem hh_265 (pc x : Nat) : mHd 265 pc x = none := mHd_no (by decide +kernel) pc x
theorem hh_266 (pc x : Nat) : mHd 266 pc x = none := mHd_no (by decide +kernel) pc x
theorem hh_267 (pc x : Nat) : mHd 267 pc x = none := mHd_no (by decide +kernel) pc x
theorem hh_268 (pc x : Nat) : mHd 268 pc x = none := mHd_no (by decide +kernel) pc x
theorem hh_269 (pc x : Nat) : mHd 269 pc x = none := mHd_no (by decide +kernel) pc x
theorem hh_270 (pc x : Nat) : mHd 270 pc x = none := mHd_no (by decide +kernel) pc x
theorem hh_271 (pc x : Nat) : mHd 271 pc x = none := mHd_no (by decide +kernel) pc x
theorem hh_272 (pc x : Nat) : mHd 272 pc x = none := mHd_no (by decide +kernel) pc x
theorem hh_273 (pc x : Nat) : mHd 273 pc x = none := mHd_no (by decide +kernel) pc x
theorem hh_274 (pc x : Nat) : mHd 274 pc x = none := mHd_no (by decide +kernel) pc x
theorem hh_275 (pc x : Nat) : mHd 275 pc x = none := mHd_no (by decide +kernel) pc x
theorem hh_276 (pc x : Nat) : mHd 276 pc x = none := mHd_no (by decide +kernel) pc x
theorem hh_277 (pc x : Nat) : mHd 277 pc x = none := mHd_no (by decide +kernel) pc x
theorem hh_278 (pc x : Nat) : mHd 278 pc x = none := mHd_no (by decide +kernel) pc x
theorem hh_279 (pc x : Nat) : mHd 279 pc x = none := mHd_no (by decide +kernel) pc x
theorem hh_280 (pc x : Nat) : mHd 280 pc x = none := mHd_no (by decide +kernel) pc x
theorem hh_281 (pc x : Nat) : mHd 281 pc x = none := mHd_no (by decide +kernel) pc x
theorem hh_282 (pc x : Nat) : mHd 282 pc x = none := mHd_no (by decide +kernel) pc x
theorem hh_283 (pc x : Nat) : mHd 283 pc x = none := mHd_no (by decide +kernel) pc x
theorem hh_284 (pc x : Nat) : mHd 284 pc x = none := mHd_no (by decide +kernel) pc x
theorem hh_285 (pc x : Nat) : mHd 285 pc x = none := mHd_no (by decide +kernel) pc x
theorem hh_286 (pc x : Nat) : mHd 286 pc x = none := mHd_no (by decide +kernel) pc x
theorem hh_287 (pc x : Nat) : mHd 287 pc x = none := mHd_no (by decide +kernel) pc x
theorem hh_288 (pc x : Nat) : mHd 288 pc x = none := mHd_no (by decide +kernel) pc x
theorem hh_289 (pc x : Nat) : mHd 289 pc x = none := mHd_no (by decide +kernel) pc x
theorem hh_290 (pc x : Nat) : mHd 290 pc x = none := mHd_no (by decide +kernel) pc x
theorem hh_291 (pc x : Nat) : mHd 291 pc x = none := mHd_no (by decide +kernel) pc x
theorem hh_292 (pc x : Nat) : mHd 292 pc x = none := mHd_no (by decide +kernel) pc x
theorem hh_293 (pc x : Nat) : mHd 293 pc x = none := mHd_no (by decide +kernel) pc x
theorem hh_294 (pc x : Nat) : mHd 294 pc x = none := mHd_no (by decide +kernel) pc x
theorem hh_295 (pc x : Nat) : mHd 295 pc x = none := mHd_no (by decide +kernel) pc x
theorem hh_296 (pc x : Nat) : mHd 296 pc x = none := mHd_no (by decide +kernel) pc x
theorem hh_297 (pc x : Nat) : mHd 297 pc x = none := mHd_no (by decide +kernel) pc x
theorem hh_298 (pc x : Nat) : mHd 298 pc x = none := mHd_no (by decide +kernel) pc x
theorem hh_299 (pc x : Nat) : mHd 299 pc x = none := mHd_no (by decide +kernel) pc x
theorem hh_300 (pc x : Nat) : mHd 300 pc x = none := mHd_no (by decide +kernel) pc x
theorem hh_301 (pc x : Nat) : mHd 301 pc x = none := mHd_no (by decide +kernel) pc x
theorem hh_302 (pc x : Nat) : mHd 302 pc x = none := mHd_no (by decide +kernel) pc x
theorem hh_303 (pc x : Nat) : mHd 303 pc x = none := mHd_no (by decide +kernel) pc x
theorem hh_304 (pc x : Nat) : mHd 304 pc x = none := mHd_no (by decide +kernel) pc x
theorem hh_305 (pc x : Nat) : mHd 305 pc x = none := mHd_no (by decide +kernel) pc x
theorem hh_306 (pc x : Nat) : mHd 306 pc x = none := mHd_no (by decide +kernel) pc x
theorem hh_307 (pc x : Nat) : mHd 307 pc x = none := mHd_no (by decide +kernel) pc x
theorem hh_308 (pc x : Nat) : mHd 308 pc x = none := mHd_no (by decide +kernel) pc x
theorem hh_309 (pc x : Nat) : mHd 309 pc x = none := mHd_no (by decide +kernel) pc x
theorem hh_310 (pc x : Nat) : mHd 310 pc x = none := mHd_no (by decide +kernel) pc x
theorem hh_311 (pc x : Nat) : mHd 311 pc x = none := mHd_no (by decide +kernel) pc x
theorem hh_312 (pc x : Nat) : mHd 312 pc x = none := mHd_no (by decide +kernel) pc x
theorem hh_313 (pc x : Nat) : mHd 313 pc x = none := mHd_no (by decide +kernel) pc x
theorem hh_314 (pc x : Nat) : mHd 314 pc x = none := mHd_no (by decide +kernel) pc x
theorem hh_315 (pc x : Nat) : mHd 315 pc x = none := mHd_no (by decide +kernel) pc x
theorem hh_316 (pc x : Nat) : mHd 316 pc x = none := mHd_no (by decide +kernel) pc x
theorem hh_317 (pc x : Nat) : mHd 317 pc x = none := mHd_no (by decide +kernel) pc x
theorem hh_318 (pc x : Nat) : mHd 318 pc x = none := mHd_no (by decide +kernel) pc x
theorem hh_319 (pc x : Nat) : mHd 319 pc x = none := mHd_no (by decide +kernel) pc x
theorem hh_320 (pc x : Nat) : mHd 320 pc x = none := mHd_no (by decide +kernel) pc x
theorem hh_321 (pc x : Nat) : mHd 321 pc x = none := mHd_no (by decide +kernel) pc x
theorem hh_322 (pc x : Nat) : mHd 322 pc x = none := mHd_no (by decide +kernel) pc x
theorem hh_323 (pc x : Nat) : mHd 323 pc x = none := mHd_no (by decide +kernel) pc x
theorem hh_324 (pc x : Nat) : mHd 324 pc x = none := mHd_no (by decide +kernel) pc x
theorem hh_325 (pc x : Nat) : mHd 325 pc x = none := mHd_no (by decide +kernel) pc x
theorem hh_326 (pc x : Nat) : mHd 326 pc x = none := mHd_no (by decide +kernel) pc x
theorem hh_327 (pc x : Nat) : mHd 327 pc x = none := mHd_no (by decide +kernel) pc x
theorem hh_328 (pc x : Nat) : mHd 328 pc x = none := mHd_no (by decide +kernel) pc x
theorem hh_329 (pc x : Nat) : mHd 329 pc x = none := mHd_no (by decide +kernel) pc x
theorem hh_330 (pc x : Nat) : mHd 330 pc x = none := mHd_no (by decide +kernel) pc x
theorem hh_331 (pc x : Nat) : mHd 331 pc x = none := mHd_no (by decide +kernel) pc x
theorem hh_332 (pc x : Nat) : mHd 332 pc x = none := mHd_no (by decide +kernel) pc x
theorem hh_333 (pc x : Nat) : mHd 333 pc x = none := mHd_no (by decide +kernel) pc x
theorem hh_334 (pc x : Nat) : mHd 334 pc x = none := mHd_no (by decide +kernel) pc x
theorem hh_335 (pc x : Nat) : mHd 335 pc x = none := mHd_no (by decide +kernel) pc x
theorem hh_336 (pc x : Nat) : mHd 336 pc x = none := mHd_no (by decide +kernel) pc x
theorem hh_337 (pc x : Nat) : mHd 337 pc x = none := mHd_no (by decide +kernel) pc x
theorem hh_338 (pc x : Nat) : mHd 338 pc x = none := mHd_no (by decide +kernel) pc x
theorem hh_339 (pc x : Nat) : mHd 339 pc x = none := mHd_no (by decide +kernel) pc x
theorem hh_340 (pc x : Nat) : mHd 340 pc x = none := mHd_no (by decide +kernel) pc x
theorem hh_341 (pc x : Nat) : mHd 341 pc x = none := mHd_no (by decide +kernel) pc x
theorem hh_342 (pc x : Nat) : mHd 342 pc x = none := mHd_no (by decide +kernel) pc x
theorem hh_343 (pc x : Nat) : mHd 343 pc x = none := mHd_no (by decide +kernel) pc x
theorem hh_344 (pc x : Nat) : mHd 344 pc x = none := mHd_no (by decide +kernel) pc x
theorem hh_345 (pc x : Nat) : mHd 345 pc x = none := mHd_no (by decide +kernel) pc x
/-- where the halls, the laws, the logs, the rows lie -/
def isHall (a : Nat) : Prop := a = 3 ∨ a = 129 ∨ a = 145 ∨ a = 154 ∨ a = 21 ∨ a = 30 ∨ a = 39 ∨ a = 48 ∨ a = 57 ∨ a = 66 ∨ a = 75 ∨ a = 84 ∨ a = 93 ∨ a = 102 ∨ a = 111 ∨ a = 120
def isLaw (a : Nat) : Prop := a = 12 ∨ a = 138 ∨ a = 163
def isLog (b : Nat) : Prop := ∃ a, isHall a ∧ b = a + 5
def isRow (a : Nat) : Prop := a = 176 ∨ a = 177 ∨ a = 178 ∨ a = 179 ∨ a = 180
theorem isHall_0 {a : Nat} (h : isHall a) : mS (a) = .inr (.inr (2, [none, some (a + 1), some (a + 2), none, some (a + 3), some (a + 4), none, none, none, none, some (a + 5)])) := by
  rcases h with rfl | rfl | rfl | rfl | rfl | rfl | rfl | rfl | rfl | rfl | rfl | rfl | rfl | rfl | rfl | rfl <;> rfl
theorem isHall_1 {a : Nat} (h : isHall a) : mS (a + 1) = .inl (0, 32) := by
  rcases h with rfl | rfl | rfl | rfl | rfl | rfl | rfl | rfl | rfl | rfl | rfl | rfl | rfl | rfl | rfl | rfl <;> rfl
theorem isHall_2 {a : Nat} (h : isHall a) : mS (a + 2) = .inl (0, 8) := by
  rcases h with rfl | rfl | rfl | rfl | rfl | rfl | rfl | rfl | rfl | rfl | rfl | rfl | rfl | rfl | rfl | rfl <;> rfl
theorem isHall_3 {a : Nat} (h : isHall a) : mS (a + 3) = .inl (0, 4) := by
  rcases h with rfl | rfl | rfl | rfl | rfl | rfl | rfl | rfl | rfl | rfl | rfl | rfl | rfl | rfl | rfl | rfl <;> rfl
theorem isHall_4 {a : Nat} (h : isHall a) : mS (a + 4) = .inl (0, 4) := by
  rcases h with rfl | rfl | rfl | rfl | rfl | rfl | rfl | rfl | rfl | rfl | rfl | rfl | rfl | rfl | rfl | rfl <;> rfl
theorem isHall_5 {a : Nat} (h : isHall a) : mS (a + 5) = .inr (.inr (7, [none, none, some (a + 6), some (a + 7), some (a + 8)])) := by
  rcases h with rfl | rfl | rfl | rfl | rfl | rfl | rfl | rfl | rfl | rfl | rfl | rfl | rfl | rfl | rfl | rfl <;> rfl
theorem isHall_6 {a : Nat} (h : isHall a) : mS (a + 6) = .inl (0, 60) := by
  rcases h with rfl | rfl | rfl | rfl | rfl | rfl | rfl | rfl | rfl | rfl | rfl | rfl | rfl | rfl | rfl | rfl <;> rfl
theorem isHall_7 {a : Nat} (h : isHall a) : mS (a + 7) = .inl (0, 60) := by
  rcases h with rfl | rfl | rfl | rfl | rfl | rfl | rfl | rfl | rfl | rfl | rfl | rfl | rfl | rfl | rfl | rfl <;> rfl
theorem isHall_8 {a : Nat} (h : isHall a) : mS (a + 8) = .inl (0, 60) := by
  rcases h with rfl | rfl | rfl | rfl | rfl | rfl | rfl | rfl | rfl | rfl | rfl | rfl | rfl | rfl | rfl | rfl <;> rfl
theorem isHall_log {a : Nat} (h : isHall a) : isLog (a + 5) := ⟨a, h, rfl⟩
theorem isLaw_0 {a : Nat} (h : isLaw a) : mS (a) = .inr (.inr (4, [none, none, none, some (a + 1), some (a + 2), some (a + 3), some (a + 4), some (a + 5), some (a + 6)])) := by
  rcases h with rfl | rfl | rfl <;> rfl
theorem isLaw_1 {a : Nat} (h : isLaw a) : mS (a + 1) = .inl (0, 12) := by
  rcases h with rfl | rfl | rfl <;> rfl
theorem isLaw_2 {a : Nat} (h : isLaw a) : mS (a + 2) = .inl (0, 12) := by
  rcases h with rfl | rfl | rfl <;> rfl
theorem isLaw_3 {a : Nat} (h : isLaw a) : mS (a + 3) = .inl (0, 12) := by
  rcases h with rfl | rfl | rfl <;> rfl
theorem isLaw_4 {a : Nat} (h : isLaw a) : mS (a + 4) = .inl (0, 400) := by
  rcases h with rfl | rfl | rfl <;> rfl
theorem isLaw_5 {a : Nat} (h : isLaw a) : mS (a + 5) = .inl (0, 8) := by
  rcases h with rfl | rfl | rfl <;> rfl
theorem isLaw_6 {a : Nat} (h : isLaw a) : mS (a + 6) = .inl (0, 32) := by
  rcases h with rfl | rfl | rfl <;> rfl
theorem isLog_0 {b : Nat} (h : isLog b) : mS (b) = .inr (.inr (7, [none, none, some (b + 1), some (b + 2), some (b + 3)])) := by
  obtain ⟨a, h, rfl⟩ := h
  rcases h with rfl | rfl | rfl | rfl | rfl | rfl | rfl | rfl | rfl | rfl | rfl | rfl | rfl | rfl | rfl | rfl <;> rfl
theorem isLog_1 {b : Nat} (h : isLog b) : mS (b + 1) = .inl (0, 60) := by
  obtain ⟨a, h, rfl⟩ := h
  rcases h with rfl | rfl | rfl | rfl | rfl | rfl | rfl | rfl | rfl | rfl | rfl | rfl | rfl | rfl | rfl | rfl <;> rfl
theorem isLog_2 {b : Nat} (h : isLog b) : mS (b + 2) = .inl (0, 60) := by
  obtain ⟨a, h, rfl⟩ := h
  rcases h with rfl | rfl | rfl | rfl | rfl | rfl | rfl | rfl | rfl | rfl | rfl | rfl | rfl | rfl | rfl | rfl <;> rfl
theorem isLog_3 {b : Nat} (h : isLog b) : mS (b + 3) = .inl (0, 60) := by
  obtain ⟨a, h, rfl⟩ := h
  rcases h with rfl | rfl | rfl | rfl | rfl | rfl | rfl | rfl | rfl | rfl | rfl | rfl | rfl | rfl | rfl | rfl <;> rfl
theorem isRow_0 {a : Nat} (h : isRow a) : mS a = .inl (0, 9) := by
  rcases h with rfl | rfl | rfl | rfl | rfl <;> rfl
section RULES2
variable {ar : Nat → Nat × (Nat → Int32)} {d M pc len : Nat} {l st : List Value} {K : Nat → Nat → Option Nat} {D : Nat → Nat → Int32} {O : Nat → Int64} {t a : Nat} {w : mW} {i : Instr}
theorem mC_if {v n c M' : Nat} {fs : List (Option Nat)} (hs : mS a = .inr (.inr (c, fs))) (hst : st[n]? = some (.ref a)) (hv : mV v c = some M') (hn : mNa M' = n + 1) : mCal (.invokeinterface v n) st (mWd K D O t) = some (M', n + 1) := by
  have h1 : (mWd K D O t).1 a = .inr (c, mFs (D a) 0 fs) := by show mCe (K a) (mS a) (D a) O = _; rw [hs]; rfl
  simp only [mCal]
  rw [hst]
  dsimp only
  rw [h1]
  dsimp only
  rw [hv]
  dsimp only
  rw [if_pos hn]
def mB1n (r : Option (mEnd × mW)) (k : Int32 → mW → Option (mEnd × mW)) : Option (mEnd × mW) := match r with
  | some (.inl (some (.int y)), w1) => k y w1
  | _ => none
def mB0n (r : Option (mEnd × mW)) (k : mW → Option (mEnd × mW)) : Option (mEnd × mW) := match r with
  | some (.inl none, w1) => k w1
  | _ => none
theorem mG_nt {M' k x : Nat} {w1 : mW} (hf : mF M pc = some (i, len)) (hc : mCal i st w = some (M', k)) (hk : mOk k st = true) (hg : mGd ar d M' 0 (mLoc M' (mArgs k st)) [] w = some (.inr x, w1)) (ht : mTk i = false) : mGd ar (d + 1) M pc l st w = none := by
  obtain ⟨n0, h0⟩ := mGd_iff.mp hg
  cases h : mGd ar (d + 1) M pc l st w with
  | none => rfl
  | some r =>
    obtain ⟨n, hn⟩ := mGd_iff.mp h
    have h2 := mGo_more hn (Nat.le_trans (Nat.le_max_left n n0) (Nat.le_succ _))
    rw [mI_ca hf hc hk, mGo_more h0 (Nat.le_max_right n n0)] at h2
    unfold mBk at h2
    dsimp only at h2
    rw [if_neg (by rw [ht]; decide)] at h2
    cases h2
theorem mC_1n {M' k : Nat} {ty : FieldType} {r : Option (mEnd × mW)} {la : List Value} (hf : mF M pc = some (i, len)) (hc : mCal i st w = some (M', k)) (hk : mOk k st = true) (hR : mRt M' = some ty) (ht : mTk i = false) (hl : mLoc M' (mArgs k st) = la) (hr : mGd ar d M' 0 la [] w = r) :
    mGd ar (d + 1) M pc l st w = mB1n r (fun y w1 => mGd ar (d + 1) M (pc + len) l (.int y :: st.drop k) w1) := by
  subst hl
  cases r with
  | none => exact mG_none hf hc hk hr
  | some q =>
    obtain ⟨E, w1⟩ := q
    cases E with
    | inr x => exact mG_nt hf hc hk hr ht
    | inl v =>
      obtain ⟨n, hn⟩ := mGd_iff.mp hr
      rcases mGo_ri hn with ⟨h1, -⟩ | ⟨y, rfl, -⟩
      · rw [hR] at h1; cases h1
      · exact mG_ok hf hc hk hr
theorem mC_0n {M' k : Nat} {r : Option (mEnd × mW)} {la : List Value} (hf : mF M pc = some (i, len)) (hc : mCal i st w = some (M', k)) (hk : mOk k st = true) (hR : mRt M' = none) (ht : mTk i = false) (hl : mLoc M' (mArgs k st) = la) (hr : mGd ar d M' 0 la [] w = r) :
    mGd ar (d + 1) M pc l st w = mB0n r (fun w1 => mGd ar (d + 1) M (pc + len) l (st.drop k) w1) := by
  subst hl
  cases r with
  | none => exact mG_none hf hc hk hr
  | some q =>
    obtain ⟨E, w1⟩ := q
    cases E with
    | inr x => exact mG_nt hf hc hk hr ht
    | inl v =>
      obtain ⟨n, hn⟩ := mGd_iff.mp hr
      rcases mGo_ri hn with ⟨-, rfl⟩ | ⟨y, rfl, ty, h1⟩
      · exact mG_ok hf hc hk hr
      · rw [hR] at h1; cases h1
end RULES2
