/-! the law's code, and the words of its calls -/
abbrev lw_I : Type := Jvm.ClassFile.Instr × Nat
def lw_c : List (Nat × lw_I) := [(0, .new 7, 3), (3, .dup, 1), (4, .invokespecial 9, 3), (7, .astore_n 1, 1), (8, .new 10, 3), (11, .dup, 1), (12, .invokespecial 12, 3), (15, .astore_n 2, 1),
  (16, .iconst 0, 1), (17, .istore_n 3, 1), (18, .iload_n 3, 1), (19, .aload_n 0, 1), (20, .arraylength, 1), (21, .iconst 4, 1), (22, .isub, 1), (23, .if_icmp .gt 647, 3),
  (26, .aload_n 0, 1), (27, .iload_n 3, 1), (28, .iaload, 1), (29, .bipush 31, 2), (31, .iand, 1), (32, .tableswitch 632 0 17 #[88, 121, 164, 187, 210, 243, 276, 309, 352, 375, 408, 431, 454, 477, 500, 523, 566, 599], 88), (120, .aload_n 1, 1), (121, .aload_n 0, 1),
  (122, .iload_n 3, 1), (123, .iconst 1, 1), (124, .iadd, 1), (125, .iaload, 1), (126, .aload_n 0, 1), (127, .iload_n 3, 1), (128, .iconst 2, 1), (129, .iadd, 1),
  (130, .iaload, 1), (131, .invokevirtual 13, 3), (134, .aload_n 2, 1), (135, .aload_n 0, 1), (136, .iload_n 3, 1), (137, .iconst 1, 1), (138, .iadd, 1), (139, .iaload, 1),
  (140, .aload_n 0, 1), (141, .iload_n 3, 1), (142, .iconst 2, 1), (143, .iadd, 1), (144, .iaload, 1), (145, .invokevirtual 17, 3), (148, .if_icmp .eq 516, 3), (151, .iconst 0, 1),
  (152, .ireturn, 1), (153, .aload_n 1, 1), (154, .aload_n 0, 1), (155, .iload_n 3, 1), (156, .iconst 1, 1), (157, .iadd, 1), (158, .iaload, 1), (159, .aload_n 0, 1),
  (160, .iload_n 3, 1), (161, .iconst 2, 1), (162, .iadd, 1), (163, .iaload, 1), (164, .aload_n 0, 1), (165, .iload_n 3, 1), (166, .iconst 3, 1), (167, .iadd, 1),
  (168, .iaload, 1), (169, .invokevirtual 18, 3), (172, .aload_n 2, 1), (173, .aload_n 0, 1), (174, .iload_n 3, 1), (175, .iconst 1, 1), (176, .iadd, 1), (177, .iaload, 1),
  (178, .aload_n 0, 1), (179, .iload_n 3, 1), (180, .iconst 2, 1), (181, .iadd, 1), (182, .iaload, 1), (183, .aload_n 0, 1), (184, .iload_n 3, 1), (185, .iconst 3, 1),
  (186, .iadd, 1), (187, .iaload, 1), (188, .invokevirtual 22, 3), (191, .if_icmp .eq 473, 3), (194, .iconst 0, 1), (195, .ireturn, 1), (196, .aload_n 1, 1), (197, .aload_n 0, 1),
  (198, .iload_n 3, 1), (199, .iconst 1, 1), (200, .iadd, 1), (201, .iaload, 1), (202, .invokevirtual 23, 3), (205, .aload_n 2, 1), (206, .aload_n 0, 1), (207, .iload_n 3, 1),
  (208, .iconst 1, 1), (209, .iadd, 1), (210, .iaload, 1), (211, .invokevirtual 27, 3), (214, .if_icmp .eq 450, 3), (217, .iconst 0, 1), (218, .ireturn, 1), (219, .aload_n 1, 1),
  (220, .aload_n 0, 1), (221, .iload_n 3, 1), (222, .iconst 1, 1), (223, .iadd, 1), (224, .iaload, 1), (225, .invokevirtual 28, 3), (228, .aload_n 2, 1), (229, .aload_n 0, 1),
  (230, .iload_n 3, 1), (231, .iconst 1, 1), (232, .iadd, 1), (233, .iaload, 1), (234, .invokevirtual 31, 3), (237, .if_icmp .eq 427, 3), (240, .iconst 0, 1), (241, .ireturn, 1),
  (242, .aload_n 1, 1), (243, .aload_n 0, 1), (244, .iload_n 3, 1), (245, .iconst 1, 1), (246, .iadd, 1), (247, .iaload, 1), (248, .aload_n 0, 1), (249, .iload_n 3, 1),
  (250, .iconst 2, 1), (251, .iadd, 1), (252, .iaload, 1), (253, .invokevirtual 32, 3), (256, .aload_n 2, 1), (257, .aload_n 0, 1), (258, .iload_n 3, 1), (259, .iconst 1, 1),
  (260, .iadd, 1), (261, .iaload, 1), (262, .aload_n 0, 1), (263, .iload_n 3, 1), (264, .iconst 2, 1), (265, .iadd, 1), (266, .iaload, 1), (267, .invokevirtual 35, 3),
  (270, .if_icmp .eq 394, 3), (273, .iconst 0, 1), (274, .ireturn, 1), (275, .aload_n 1, 1), (276, .aload_n 0, 1), (277, .iload_n 3, 1), (278, .iconst 1, 1), (279, .iadd, 1),
  (280, .iaload, 1), (281, .aload_n 0, 1), (282, .iload_n 3, 1), (283, .iconst 2, 1), (284, .iadd, 1), (285, .iaload, 1), (286, .invokevirtual 36, 3), (289, .aload_n 2, 1),
  (290, .aload_n 0, 1), (291, .iload_n 3, 1), (292, .iconst 1, 1), (293, .iadd, 1), (294, .iaload, 1), (295, .aload_n 0, 1), (296, .iload_n 3, 1), (297, .iconst 2, 1),
  (298, .iadd, 1), (299, .iaload, 1), (300, .invokevirtual 39, 3), (303, .if_icmp .eq 361, 3), (306, .iconst 0, 1), (307, .ireturn, 1), (308, .aload_n 1, 1), (309, .aload_n 0, 1),
  (310, .iload_n 3, 1), (311, .iconst 1, 1), (312, .iadd, 1), (313, .iaload, 1), (314, .aload_n 0, 1), (315, .iload_n 3, 1), (316, .iconst 2, 1), (317, .iadd, 1),
  (318, .iaload, 1), (319, .invokevirtual 40, 3), (322, .aload_n 2, 1), (323, .aload_n 0, 1), (324, .iload_n 3, 1), (325, .iconst 1, 1), (326, .iadd, 1), (327, .iaload, 1),
  (328, .aload_n 0, 1), (329, .iload_n 3, 1), (330, .iconst 2, 1), (331, .iadd, 1), (332, .iaload, 1), (333, .invokevirtual 44, 3), (336, .if_icmp .eq 328, 3), (339, .iconst 0, 1),
  (340, .ireturn, 1), (341, .aload_n 1, 1), (342, .aload_n 0, 1), (343, .iload_n 3, 1), (344, .iconst 1, 1), (345, .iadd, 1), (346, .iaload, 1), (347, .aload_n 0, 1),
  (348, .iload_n 3, 1), (349, .iconst 2, 1), (350, .iadd, 1), (351, .iaload, 1), (352, .aload_n 0, 1), (353, .iload_n 3, 1), (354, .iconst 3, 1), (355, .iadd, 1),
  (356, .iaload, 1), (357, .invokevirtual 45, 3), (360, .aload_n 2, 1), (361, .aload_n 0, 1), (362, .iload_n 3, 1), (363, .iconst 1, 1), (364, .iadd, 1), (365, .iaload, 1),
  (366, .aload_n 0, 1), (367, .iload_n 3, 1), (368, .iconst 2, 1), (369, .iadd, 1), (370, .iaload, 1), (371, .aload_n 0, 1), (372, .iload_n 3, 1), (373, .iconst 3, 1),
  (374, .iadd, 1), (375, .iaload, 1), (376, .invokevirtual 49, 3), (379, .if_icmp .eq 285, 3), (382, .iconst 0, 1), (383, .ireturn, 1), (384, .aload_n 1, 1), (385, .aload_n 0, 1),
  (386, .iload_n 3, 1), (387, .iconst 1, 1), (388, .iadd, 1), (389, .iaload, 1), (390, .invokevirtual 50, 3), (393, .aload_n 2, 1), (394, .aload_n 0, 1), (395, .iload_n 3, 1),
  (396, .iconst 1, 1), (397, .iadd, 1), (398, .iaload, 1), (399, .invokevirtual 53, 3), (402, .if_icmp .eq 262, 3), (405, .iconst 0, 1), (406, .ireturn, 1), (407, .aload_n 1, 1),
  (408, .aload_n 0, 1), (409, .iload_n 3, 1), (410, .iconst 1, 1), (411, .iadd, 1), (412, .iaload, 1), (413, .aload_n 0, 1), (414, .iload_n 3, 1), (415, .iconst 2, 1),
  (416, .iadd, 1), (417, .iaload, 1), (418, .invokevirtual 54, 3), (421, .aload_n 2, 1), (422, .aload_n 0, 1), (423, .iload_n 3, 1), (424, .iconst 1, 1), (425, .iadd, 1),
  (426, .iaload, 1), (427, .aload_n 0, 1), (428, .iload_n 3, 1), (429, .iconst 2, 1), (430, .iadd, 1), (431, .iaload, 1), (432, .invokevirtual 57, 3), (435, .if_icmp .eq 229, 3),
  (438, .iconst 0, 1), (439, .ireturn, 1), (440, .aload_n 1, 1), (441, .aload_n 0, 1), (442, .iload_n 3, 1), (443, .iconst 1, 1), (444, .iadd, 1), (445, .iaload, 1),
  (446, .invokevirtual 58, 3), (449, .aload_n 2, 1), (450, .aload_n 0, 1), (451, .iload_n 3, 1), (452, .iconst 1, 1), (453, .iadd, 1), (454, .iaload, 1), (455, .invokevirtual 62, 3),
  (458, .if_icmp .eq 206, 3), (461, .iconst 0, 1), (462, .ireturn, 1), (463, .aload_n 1, 1), (464, .aload_n 0, 1), (465, .iload_n 3, 1), (466, .iconst 1, 1), (467, .iadd, 1),
  (468, .iaload, 1), (469, .invokevirtual 63, 3), (472, .aload_n 2, 1), (473, .aload_n 0, 1), (474, .iload_n 3, 1), (475, .iconst 1, 1), (476, .iadd, 1), (477, .iaload, 1),
  (478, .invokevirtual 66, 3), (481, .if_icmp .eq 183, 3), (484, .iconst 0, 1), (485, .ireturn, 1), (486, .aload_n 1, 1), (487, .aload_n 0, 1), (488, .iload_n 3, 1), (489, .iconst 1, 1),
  (490, .iadd, 1), (491, .iaload, 1), (492, .invokevirtual 67, 3), (495, .aload_n 2, 1), (496, .aload_n 0, 1), (497, .iload_n 3, 1), (498, .iconst 1, 1), (499, .iadd, 1),
  (500, .iaload, 1), (501, .invokevirtual 70, 3), (504, .if_icmp .eq 160, 3), (507, .iconst 0, 1), (508, .ireturn, 1), (509, .aload_n 1, 1), (510, .aload_n 0, 1), (511, .iload_n 3, 1),
  (512, .iconst 1, 1), (513, .iadd, 1), (514, .iaload, 1), (515, .invokevirtual 71, 3), (518, .aload_n 2, 1), (519, .aload_n 0, 1), (520, .iload_n 3, 1), (521, .iconst 1, 1),
  (522, .iadd, 1), (523, .iaload, 1), (524, .invokevirtual 74, 3), (527, .if_icmp .eq 137, 3), (530, .iconst 0, 1), (531, .ireturn, 1), (532, .aload_n 1, 1), (533, .aload_n 0, 1),
  (534, .iload_n 3, 1), (535, .iconst 1, 1), (536, .iadd, 1), (537, .iaload, 1), (538, .invokevirtual 75, 3), (541, .aload_n 2, 1), (542, .aload_n 0, 1), (543, .iload_n 3, 1),
  (544, .iconst 1, 1), (545, .iadd, 1), (546, .iaload, 1), (547, .invokevirtual 78, 3), (550, .if_icmp .eq 114, 3), (553, .iconst 0, 1), (554, .ireturn, 1), (555, .aload_n 1, 1),
  (556, .aload_n 0, 1), (557, .iload_n 3, 1), (558, .iconst 1, 1), (559, .iadd, 1), (560, .iaload, 1), (561, .aload_n 0, 1), (562, .iload_n 3, 1), (563, .iconst 2, 1),
  (564, .iadd, 1), (565, .iaload, 1), (566, .aload_n 0, 1), (567, .iload_n 3, 1), (568, .iconst 3, 1), (569, .iadd, 1), (570, .iaload, 1), (571, .invokevirtual 79, 3),
  (574, .aload_n 2, 1), (575, .aload_n 0, 1), (576, .iload_n 3, 1), (577, .iconst 1, 1), (578, .iadd, 1), (579, .iaload, 1), (580, .aload_n 0, 1), (581, .iload_n 3, 1),
  (582, .iconst 2, 1), (583, .iadd, 1), (584, .iaload, 1), (585, .aload_n 0, 1), (586, .iload_n 3, 1), (587, .iconst 3, 1), (588, .iadd, 1), (589, .iaload, 1),
  (590, .invokevirtual 82, 3), (593, .if_icmp .eq 71, 3), (596, .iconst 0, 1), (597, .ireturn, 1), (598, .aload_n 1, 1), (599, .aload_n 0, 1), (600, .iload_n 3, 1), (601, .iconst 1, 1),
  (602, .iadd, 1), (603, .iaload, 1), (604, .aload_n 0, 1), (605, .iload_n 3, 1), (606, .iconst 2, 1), (607, .iadd, 1), (608, .iaload, 1), (609, .invokevirtual 83, 3),
  (612, .aload_n 2, 1), (613, .aload_n 0, 1), (614, .iload_n 3, 1), (615, .iconst 1, 1), (616, .iadd, 1), (617, .iaload, 1), (618, .aload_n 0, 1), (619, .iload_n 3, 1),
  (620, .iconst 2, 1), (621, .iadd, 1), (622, .iaload, 1), (623, .invokevirtual 86, 3), (626, .if_icmp .eq 38, 3), (629, .iconst 0, 1), (630, .ireturn, 1), (631, .aload_n 1, 1),
  (632, .aload_n 0, 1), (633, .iload_n 3, 1), (634, .iconst 1, 1), (635, .iadd, 1), (636, .iaload, 1), (637, .aload_n 0, 1), (638, .iload_n 3, 1), (639, .iconst 2, 1),
  (640, .iadd, 1), (641, .iaload, 1), (642, .invokevirtual 87, 3), (645, .aload_n 2, 1), (646, .aload_n 0, 1), (647, .iload_n 3, 1), (648, .iconst 1, 1), (649, .iadd, 1),
  (650, .iaload, 1), (651, .aload_n 0, 1), (652, .iload_n 3, 1), (653, .iconst 2, 1), (654, .iadd, 1), (655, .iaload, 1), (656, .invokevirtual 90, 3), (659, .if_icmp .eq 5, 3),
  (662, .iconst 0, 1), (663, .ireturn, 1), (664, .iinc 3 4, 3), (667, .goto (-649), 3), (670, .iconst 1, 1), (671, .ireturn, 1)]
def lw_look (pc : Nat) : List (Nat × lw_I) → Option lw_I
  | [] => none
  | q :: r => match Nat.beq q.1 pc with
    | true => some q.2
    | false => lw_look pc r
theorem lw_look_mem {pc : Nat} {q : lw_I} : ∀ {L : List (Nat × lw_I)}, lw_look pc L = some q → (pc, q) ∈ L
  | [], h => by cases h
  | x :: r, h => by
    unfold lw_look at h
    split at h
    · rename_i hx
      have e := Nat.eq_of_beq_eq_true hx
      cases h
      rw [← e]
      exact List.mem_cons_self
    · exact List.mem_cons_of_mem _ (lw_look_mem h)
set_option maxRecDepth 1000000 in
theorem lw_ck : lw_c.all (fun q => decide (decode code q.1 = .ok q.2)) = true := by decide +kernel
theorem lw_d {pc : Nat} {q : lw_I} (h : lw_look pc lw_c = some q) : decode code pc = .ok q := of_decide_eq_true (List.all_eq_true.mp lw_ck (pc, q) (lw_look_mem h))
set_option maxRecDepth 1000000 in
theorem lw_m1 : Cond.methodLink R_law 13 (rb_y 1) ∈ lw_tbl := List.mem_of_getElem? (i := 350) rfl
set_option maxRecDepth 1000000 in
theorem lw_n1 : Cond.instanceMethod (rb_y 1) ∈ lw_tbl := List.mem_of_getElem? (i := 351) rfl
set_option maxRecDepth 1000000 in
theorem lw_s1 : Cond.selects "RingBridges" (rb_y 1) (rb_y 1) ∈ lw_tbl := List.mem_of_getElem? (i := 352) rfl
set_option maxRecDepth 1000000 in
theorem lw_m69 : Cond.methodLink R_law 17 (rb_y 69) ∈ lw_tbl := List.mem_of_getElem? (i := 935) rfl
set_option maxRecDepth 1000000 in
theorem lw_n69 : Cond.instanceMethod (rb_y 69) ∈ lw_tbl := List.mem_of_getElem? (i := 936) rfl
set_option maxRecDepth 1000000 in
theorem lw_s69 : Cond.selects "RingBridgesModel" (rb_y 69) (rb_y 69) ∈ lw_tbl := List.mem_of_getElem? (i := 937) rfl
set_option maxRecDepth 1000000 in
theorem lw_m2 : Cond.methodLink R_law 18 (rb_y 2) ∈ lw_tbl := List.mem_of_getElem? (i := 382) rfl
set_option maxRecDepth 1000000 in
theorem lw_n2 : Cond.instanceMethod (rb_y 2) ∈ lw_tbl := List.mem_of_getElem? (i := 383) rfl
set_option maxRecDepth 1000000 in
theorem lw_s2 : Cond.selects "RingBridges" (rb_y 2) (rb_y 2) ∈ lw_tbl := List.mem_of_getElem? (i := 384) rfl
set_option maxRecDepth 1000000 in
theorem lw_m70 : Cond.methodLink R_law 22 (rb_y 70) ∈ lw_tbl := List.mem_of_getElem? (i := 953) rfl
set_option maxRecDepth 1000000 in
theorem lw_n70 : Cond.instanceMethod (rb_y 70) ∈ lw_tbl := List.mem_of_getElem? (i := 954) rfl
set_option maxRecDepth 1000000 in
theorem lw_s70 : Cond.selects "RingBridgesModel" (rb_y 70) (rb_y 70) ∈ lw_tbl := List.mem_of_getElem? (i := 955) rfl
set_option maxRecDepth 1000000 in
theorem lw_m3 : Cond.methodLink R_law 23 (rb_y 3) ∈ lw_tbl := List.mem_of_getElem? (i := 386) rfl
set_option maxRecDepth 1000000 in
theorem lw_n3 : Cond.instanceMethod (rb_y 3) ∈ lw_tbl := List.mem_of_getElem? (i := 387) rfl
set_option maxRecDepth 1000000 in
theorem lw_s3 : Cond.selects "RingBridges" (rb_y 3) (rb_y 3) ∈ lw_tbl := List.mem_of_getElem? (i := 388) rfl
set_option maxRecDepth 1000000 in
theorem lw_m72 : Cond.methodLink R_law 27 (rb_y 72) ∈ lw_tbl := List.mem_of_getElem? (i := 957) rfl
set_option maxRecDepth 1000000 in
theorem lw_n72 : Cond.instanceMethod (rb_y 72) ∈ lw_tbl := List.mem_of_getElem? (i := 958) rfl
set_option maxRecDepth 1000000 in
theorem lw_s72 : Cond.selects "RingBridgesModel" (rb_y 72) (rb_y 72) ∈ lw_tbl := List.mem_of_getElem? (i := 959) rfl
set_option maxRecDepth 1000000 in
theorem lw_m4 : Cond.methodLink R_law 28 (rb_y 4) ∈ lw_tbl := List.mem_of_getElem? (i := 410) rfl
set_option maxRecDepth 1000000 in
theorem lw_n4 : Cond.instanceMethod (rb_y 4) ∈ lw_tbl := List.mem_of_getElem? (i := 411) rfl
set_option maxRecDepth 1000000 in
theorem lw_s4 : Cond.selects "RingBridges" (rb_y 4) (rb_y 4) ∈ lw_tbl := List.mem_of_getElem? (i := 412) rfl
set_option maxRecDepth 1000000 in
theorem lw_m73 : Cond.methodLink R_law 31 (rb_y 73) ∈ lw_tbl := List.mem_of_getElem? (i := 965) rfl
set_option maxRecDepth 1000000 in
theorem lw_n73 : Cond.instanceMethod (rb_y 73) ∈ lw_tbl := List.mem_of_getElem? (i := 966) rfl
set_option maxRecDepth 1000000 in
theorem lw_s73 : Cond.selects "RingBridgesModel" (rb_y 73) (rb_y 73) ∈ lw_tbl := List.mem_of_getElem? (i := 967) rfl
set_option maxRecDepth 1000000 in
theorem lw_m5 : Cond.methodLink R_law 32 (rb_y 5) ∈ lw_tbl := List.mem_of_getElem? (i := 415) rfl
set_option maxRecDepth 1000000 in
theorem lw_n5 : Cond.instanceMethod (rb_y 5) ∈ lw_tbl := List.mem_of_getElem? (i := 416) rfl
set_option maxRecDepth 1000000 in
theorem lw_s5 : Cond.selects "RingBridges" (rb_y 5) (rb_y 5) ∈ lw_tbl := List.mem_of_getElem? (i := 417) rfl
set_option maxRecDepth 1000000 in
theorem lw_m74 : Cond.methodLink R_law 35 (rb_y 74) ∈ lw_tbl := List.mem_of_getElem? (i := 969) rfl
set_option maxRecDepth 1000000 in
theorem lw_n74 : Cond.instanceMethod (rb_y 74) ∈ lw_tbl := List.mem_of_getElem? (i := 970) rfl
set_option maxRecDepth 1000000 in
theorem lw_s74 : Cond.selects "RingBridgesModel" (rb_y 74) (rb_y 74) ∈ lw_tbl := List.mem_of_getElem? (i := 971) rfl
set_option maxRecDepth 1000000 in
theorem lw_m6 : Cond.methodLink R_law 36 (rb_y 6) ∈ lw_tbl := List.mem_of_getElem? (i := 432) rfl
set_option maxRecDepth 1000000 in
theorem lw_n6 : Cond.instanceMethod (rb_y 6) ∈ lw_tbl := List.mem_of_getElem? (i := 433) rfl
set_option maxRecDepth 1000000 in
theorem lw_s6 : Cond.selects "RingBridges" (rb_y 6) (rb_y 6) ∈ lw_tbl := List.mem_of_getElem? (i := 434) rfl
set_option maxRecDepth 1000000 in
theorem lw_m75 : Cond.methodLink R_law 39 (rb_y 75) ∈ lw_tbl := List.mem_of_getElem? (i := 973) rfl
set_option maxRecDepth 1000000 in
theorem lw_n75 : Cond.instanceMethod (rb_y 75) ∈ lw_tbl := List.mem_of_getElem? (i := 974) rfl
set_option maxRecDepth 1000000 in
theorem lw_s75 : Cond.selects "RingBridgesModel" (rb_y 75) (rb_y 75) ∈ lw_tbl := List.mem_of_getElem? (i := 975) rfl
set_option maxRecDepth 1000000 in
theorem lw_m7 : Cond.methodLink R_law 40 (rb_y 7) ∈ lw_tbl := List.mem_of_getElem? (i := 440) rfl
set_option maxRecDepth 1000000 in
theorem lw_n7 : Cond.instanceMethod (rb_y 7) ∈ lw_tbl := List.mem_of_getElem? (i := 441) rfl
set_option maxRecDepth 1000000 in
theorem lw_s7 : Cond.selects "RingBridges" (rb_y 7) (rb_y 7) ∈ lw_tbl := List.mem_of_getElem? (i := 442) rfl
set_option maxRecDepth 1000000 in
theorem lw_m76 : Cond.methodLink R_law 44 (rb_y 76) ∈ lw_tbl := List.mem_of_getElem? (i := 977) rfl
set_option maxRecDepth 1000000 in
theorem lw_n76 : Cond.instanceMethod (rb_y 76) ∈ lw_tbl := List.mem_of_getElem? (i := 978) rfl
set_option maxRecDepth 1000000 in
theorem lw_s76 : Cond.selects "RingBridgesModel" (rb_y 76) (rb_y 76) ∈ lw_tbl := List.mem_of_getElem? (i := 979) rfl
set_option maxRecDepth 1000000 in
theorem lw_m8 : Cond.methodLink R_law 45 (rb_y 8) ∈ lw_tbl := List.mem_of_getElem? (i := 444) rfl
set_option maxRecDepth 1000000 in
theorem lw_n8 : Cond.instanceMethod (rb_y 8) ∈ lw_tbl := List.mem_of_getElem? (i := 445) rfl
set_option maxRecDepth 1000000 in
theorem lw_s8 : Cond.selects "RingBridges" (rb_y 8) (rb_y 8) ∈ lw_tbl := List.mem_of_getElem? (i := 446) rfl
set_option maxRecDepth 1000000 in
theorem lw_m77 : Cond.methodLink R_law 49 (rb_y 77) ∈ lw_tbl := List.mem_of_getElem? (i := 981) rfl
set_option maxRecDepth 1000000 in
theorem lw_n77 : Cond.instanceMethod (rb_y 77) ∈ lw_tbl := List.mem_of_getElem? (i := 982) rfl
set_option maxRecDepth 1000000 in
theorem lw_s77 : Cond.selects "RingBridgesModel" (rb_y 77) (rb_y 77) ∈ lw_tbl := List.mem_of_getElem? (i := 983) rfl
set_option maxRecDepth 1000000 in
theorem lw_m9 : Cond.methodLink R_law 50 (rb_y 9) ∈ lw_tbl := List.mem_of_getElem? (i := 456) rfl
set_option maxRecDepth 1000000 in
theorem lw_n9 : Cond.instanceMethod (rb_y 9) ∈ lw_tbl := List.mem_of_getElem? (i := 457) rfl
set_option maxRecDepth 1000000 in
theorem lw_s9 : Cond.selects "RingBridges" (rb_y 9) (rb_y 9) ∈ lw_tbl := List.mem_of_getElem? (i := 458) rfl
set_option maxRecDepth 1000000 in
theorem lw_m79 : Cond.methodLink R_law 53 (rb_y 79) ∈ lw_tbl := List.mem_of_getElem? (i := 985) rfl
set_option maxRecDepth 1000000 in
theorem lw_n79 : Cond.instanceMethod (rb_y 79) ∈ lw_tbl := List.mem_of_getElem? (i := 986) rfl
set_option maxRecDepth 1000000 in
theorem lw_s79 : Cond.selects "RingBridgesModel" (rb_y 79) (rb_y 79) ∈ lw_tbl := List.mem_of_getElem? (i := 987) rfl
set_option maxRecDepth 1000000 in
theorem lw_m10 : Cond.methodLink R_law 54 (rb_y 10) ∈ lw_tbl := List.mem_of_getElem? (i := 464) rfl
set_option maxRecDepth 1000000 in
theorem lw_n10 : Cond.instanceMethod (rb_y 10) ∈ lw_tbl := List.mem_of_getElem? (i := 465) rfl
set_option maxRecDepth 1000000 in
theorem lw_s10 : Cond.selects "RingBridges" (rb_y 10) (rb_y 10) ∈ lw_tbl := List.mem_of_getElem? (i := 466) rfl
set_option maxRecDepth 1000000 in
theorem lw_m80 : Cond.methodLink R_law 57 (rb_y 80) ∈ lw_tbl := List.mem_of_getElem? (i := 992) rfl
set_option maxRecDepth 1000000 in
theorem lw_n80 : Cond.instanceMethod (rb_y 80) ∈ lw_tbl := List.mem_of_getElem? (i := 993) rfl
set_option maxRecDepth 1000000 in
theorem lw_s80 : Cond.selects "RingBridgesModel" (rb_y 80) (rb_y 80) ∈ lw_tbl := List.mem_of_getElem? (i := 994) rfl
set_option maxRecDepth 1000000 in
theorem lw_m11 : Cond.methodLink R_law 58 (rb_y 11) ∈ lw_tbl := List.mem_of_getElem? (i := 477) rfl
set_option maxRecDepth 1000000 in
theorem lw_n11 : Cond.instanceMethod (rb_y 11) ∈ lw_tbl := List.mem_of_getElem? (i := 478) rfl
set_option maxRecDepth 1000000 in
theorem lw_s11 : Cond.selects "RingBridges" (rb_y 11) (rb_y 11) ∈ lw_tbl := List.mem_of_getElem? (i := 479) rfl
set_option maxRecDepth 1000000 in
theorem lw_m81 : Cond.methodLink R_law 62 (rb_y 81) ∈ lw_tbl := List.mem_of_getElem? (i := 996) rfl
set_option maxRecDepth 1000000 in
theorem lw_n81 : Cond.instanceMethod (rb_y 81) ∈ lw_tbl := List.mem_of_getElem? (i := 997) rfl
set_option maxRecDepth 1000000 in
theorem lw_s81 : Cond.selects "RingBridgesModel" (rb_y 81) (rb_y 81) ∈ lw_tbl := List.mem_of_getElem? (i := 998) rfl
set_option maxRecDepth 1000000 in
theorem lw_m12 : Cond.methodLink R_law 63 (rb_y 12) ∈ lw_tbl := List.mem_of_getElem? (i := 509) rfl
set_option maxRecDepth 1000000 in
theorem lw_n12 : Cond.instanceMethod (rb_y 12) ∈ lw_tbl := List.mem_of_getElem? (i := 510) rfl
set_option maxRecDepth 1000000 in
theorem lw_s12 : Cond.selects "RingBridges" (rb_y 12) (rb_y 12) ∈ lw_tbl := List.mem_of_getElem? (i := 511) rfl
set_option maxRecDepth 1000000 in
theorem lw_m68 : Cond.methodLink R_law 66 (rb_y 68) ∈ lw_tbl := List.mem_of_getElem? (i := 853) rfl
set_option maxRecDepth 1000000 in
theorem lw_n68 : Cond.instanceMethod (rb_y 68) ∈ lw_tbl := List.mem_of_getElem? (i := 854) rfl
set_option maxRecDepth 1000000 in
theorem lw_s68 : Cond.selects "RingBridgesModel" (rb_y 68) (rb_y 68) ∈ lw_tbl := List.mem_of_getElem? (i := 855) rfl
set_option maxRecDepth 1000000 in
theorem lw_m13 : Cond.methodLink R_law 67 (rb_y 13) ∈ lw_tbl := List.mem_of_getElem? (i := 652) rfl
set_option maxRecDepth 1000000 in
theorem lw_n13 : Cond.instanceMethod (rb_y 13) ∈ lw_tbl := List.mem_of_getElem? (i := 653) rfl
set_option maxRecDepth 1000000 in
theorem lw_s13 : Cond.selects "RingBridges" (rb_y 13) (rb_y 13) ∈ lw_tbl := List.mem_of_getElem? (i := 654) rfl
set_option maxRecDepth 1000000 in
theorem lw_m82 : Cond.methodLink R_law 70 (rb_y 82) ∈ lw_tbl := List.mem_of_getElem? (i := 1000) rfl
set_option maxRecDepth 1000000 in
theorem lw_n82 : Cond.instanceMethod (rb_y 82) ∈ lw_tbl := List.mem_of_getElem? (i := 1001) rfl
set_option maxRecDepth 1000000 in
theorem lw_s82 : Cond.selects "RingBridgesModel" (rb_y 82) (rb_y 82) ∈ lw_tbl := List.mem_of_getElem? (i := 1002) rfl
set_option maxRecDepth 1000000 in
theorem lw_m14 : Cond.methodLink R_law 71 (rb_y 14) ∈ lw_tbl := List.mem_of_getElem? (i := 660) rfl
set_option maxRecDepth 1000000 in
theorem lw_n14 : Cond.instanceMethod (rb_y 14) ∈ lw_tbl := List.mem_of_getElem? (i := 661) rfl
set_option maxRecDepth 1000000 in
theorem lw_s14 : Cond.selects "RingBridges" (rb_y 14) (rb_y 14) ∈ lw_tbl := List.mem_of_getElem? (i := 662) rfl
set_option maxRecDepth 1000000 in
theorem lw_m83 : Cond.methodLink R_law 74 (rb_y 83) ∈ lw_tbl := List.mem_of_getElem? (i := 1004) rfl
set_option maxRecDepth 1000000 in
theorem lw_n83 : Cond.instanceMethod (rb_y 83) ∈ lw_tbl := List.mem_of_getElem? (i := 1005) rfl
set_option maxRecDepth 1000000 in
theorem lw_s83 : Cond.selects "RingBridgesModel" (rb_y 83) (rb_y 83) ∈ lw_tbl := List.mem_of_getElem? (i := 1006) rfl
set_option maxRecDepth 1000000 in
theorem lw_m15 : Cond.methodLink R_law 75 (rb_y 15) ∈ lw_tbl := List.mem_of_getElem? (i := 664) rfl
set_option maxRecDepth 1000000 in
theorem lw_n15 : Cond.instanceMethod (rb_y 15) ∈ lw_tbl := List.mem_of_getElem? (i := 665) rfl
set_option maxRecDepth 1000000 in
theorem lw_s15 : Cond.selects "RingBridges" (rb_y 15) (rb_y 15) ∈ lw_tbl := List.mem_of_getElem? (i := 666) rfl
set_option maxRecDepth 1000000 in
theorem lw_m84 : Cond.methodLink R_law 78 (rb_y 84) ∈ lw_tbl := List.mem_of_getElem? (i := 1008) rfl
set_option maxRecDepth 1000000 in
theorem lw_n84 : Cond.instanceMethod (rb_y 84) ∈ lw_tbl := List.mem_of_getElem? (i := 1009) rfl
set_option maxRecDepth 1000000 in
theorem lw_s84 : Cond.selects "RingBridgesModel" (rb_y 84) (rb_y 84) ∈ lw_tbl := List.mem_of_getElem? (i := 1010) rfl
set_option maxRecDepth 1000000 in
theorem lw_m16 : Cond.methodLink R_law 79 (rb_y 16) ∈ lw_tbl := List.mem_of_getElem? (i := 668) rfl
set_option maxRecDepth 1000000 in
theorem lw_n16 : Cond.instanceMethod (rb_y 16) ∈ lw_tbl := List.mem_of_getElem? (i := 669) rfl
set_option maxRecDepth 1000000 in
theorem lw_s16 : Cond.selects "RingBridges" (rb_y 16) (rb_y 16) ∈ lw_tbl := List.mem_of_getElem? (i := 670) rfl
set_option maxRecDepth 1000000 in
theorem lw_m85 : Cond.methodLink R_law 82 (rb_y 85) ∈ lw_tbl := List.mem_of_getElem? (i := 1012) rfl
set_option maxRecDepth 1000000 in
theorem lw_n85 : Cond.instanceMethod (rb_y 85) ∈ lw_tbl := List.mem_of_getElem? (i := 1013) rfl
set_option maxRecDepth 1000000 in
theorem lw_s85 : Cond.selects "RingBridgesModel" (rb_y 85) (rb_y 85) ∈ lw_tbl := List.mem_of_getElem? (i := 1014) rfl
set_option maxRecDepth 1000000 in
theorem lw_m17 : Cond.methodLink R_law 83 (rb_y 17) ∈ lw_tbl := List.mem_of_getElem? (i := 672) rfl
set_option maxRecDepth 1000000 in
theorem lw_n17 : Cond.instanceMethod (rb_y 17) ∈ lw_tbl := List.mem_of_getElem? (i := 673) rfl
set_option maxRecDepth 1000000 in
theorem lw_s17 : Cond.selects "RingBridges" (rb_y 17) (rb_y 17) ∈ lw_tbl := List.mem_of_getElem? (i := 674) rfl
set_option maxRecDepth 1000000 in
theorem lw_m86 : Cond.methodLink R_law 86 (rb_y 86) ∈ lw_tbl := List.mem_of_getElem? (i := 1016) rfl
set_option maxRecDepth 1000000 in
theorem lw_n86 : Cond.instanceMethod (rb_y 86) ∈ lw_tbl := List.mem_of_getElem? (i := 1017) rfl
set_option maxRecDepth 1000000 in
theorem lw_s86 : Cond.selects "RingBridgesModel" (rb_y 86) (rb_y 86) ∈ lw_tbl := List.mem_of_getElem? (i := 1018) rfl
set_option maxRecDepth 1000000 in
theorem lw_m18 : Cond.methodLink R_law 87 (rb_y 18) ∈ lw_tbl := List.mem_of_getElem? (i := 676) rfl
set_option maxRecDepth 1000000 in
theorem lw_n18 : Cond.instanceMethod (rb_y 18) ∈ lw_tbl := List.mem_of_getElem? (i := 677) rfl
set_option maxRecDepth 1000000 in
theorem lw_s18 : Cond.selects "RingBridges" (rb_y 18) (rb_y 18) ∈ lw_tbl := List.mem_of_getElem? (i := 678) rfl
set_option maxRecDepth 1000000 in
theorem lw_m87 : Cond.methodLink R_law 90 (rb_y 87) ∈ lw_tbl := List.mem_of_getElem? (i := 1020) rfl
set_option maxRecDepth 1000000 in
theorem lw_n87 : Cond.instanceMethod (rb_y 87) ∈ lw_tbl := List.mem_of_getElem? (i := 1021) rfl
set_option maxRecDepth 1000000 in
theorem lw_s87 : Cond.selects "RingBridgesModel" (rb_y 87) (rb_y 87) ∈ lw_tbl := List.mem_of_getElem? (i := 1022) rfl
set_option maxRecDepth 1000000 in
theorem lw_iC : Cond.initialized "RingBridges" ∈ lw_tbl := List.mem_of_getElem? (i := 39) rfl
set_option maxRecDepth 1000000 in
theorem lw_iR : Cond.initialized "RingBridgesModel" ∈ lw_tbl := List.mem_of_getElem? (i := 46) rfl
