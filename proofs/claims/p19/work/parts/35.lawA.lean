/-! THE CLAIM OUT OF ONE WALK OF THE LAW'S BODY. Your part is whole_start (and what it stands on); all else here is the same for every law, but numbers. -/
def R_law : String := "SupperTalesLaw"
def lw_P (b : Addr) (xs : List Int32) (args : Array Value) (s : State) : Prop := args = #[.ref b] ∧ s.IntsAt b xs ∧ xs.length ≤ 320 ∧ (Jvm.Cond.and given_1 narrow_1).before args s = true
def lw_Q (_ : Array Value) (s : State) (o : Outcome) (t : State) : Prop := o = .returned (some (.int 1)) ∧ Framed s o t [] 600000 7302250
def lw_Z (below : List Frame) (a : Array Value) (s : State) : State → Prop := fun t => ∃ o, t.status = .running ∧ Ended t below o ∧ lw_Q a s o t
/-- the law's own end, with 1 on the stack, nothing written that was there before, its room as the claim has it -/
theorem lw_ret {p : Program} {l : Launch} {e : Env} {s : State} {m : MethodId} {below : List Frame} {meth : Method} {c : Code} {b : Nat} (hx : p.tables.exec = Jvm.exec) (hb : c.code = code) (hr : meth.sig.returnType = ret) (hlocks : meth.locks = false) {pc : Nat} {H : Heap} {ls : Array Slot} (hdg : decode code pc = .ok (.ireturn, 1)) : W p l e room_1 s m #[Value.ref b] below meth c H [] 600000 7302250 (lw_Z below #[Value.ref b] s) (F0 m pc ls [.int 1]) := by
  intro T hT X
  obtain ⟨fs, hret, hrun, hended, hW, hframe⟩ := X.leave (v := some (.int 1)) (hlocks := hlocks) (fun h => by rw [hr] at h; cases h)
  have hmeth' : T.vm.method? m = some meth := X.method'
  refine ⟨T.setFrames fs, ?_, .returned (some (.int 1)), hrun, hended, rfl, ⟨_, rfl⟩, hW, hframe⟩
  jvm_step X.here [X.here.top, hx, hb, hdg, hmeth', hr, ret, narrow_b1]
  (try refine ⟨rfl, ?_⟩); (try refine ⟨rfl, ?_⟩)
  first | (intro acts; rw [hret _ acts rfl rfl rfl]) | rw [hret _ _ rfl rfl rfl]
  exact Steps.refl _
/-- what holds at the law's entry: the machine, the code, the tables' words (any of lw_tbl by 'hts w (by decide +kernel)'), the script of L ints xs at the cell b, what the Statement gives of the start (any of its parts by flat_of_before) -/
def lw_At (p : Program) (s : State) (m : MethodId) (meth : Method) (c : Code) (b L : Nat) (xs : Nat → Int32) : Prop :=
  p.tables.exec = Jvm.exec ∧ c.code = code ∧ meth.sig.returnType = ret ∧ c.maxLocals = 4 ∧ s.vm.findClass R_law = some m.cls ∧ (∀ w ∈ lw_tbl, w.before #[Value.ref b] s = true) ∧ va_X b L xs s s.heap ∧ b < s.heap.size ∧ meth.locks = false ∧ (Jvm.Cond.and given_1 narrow_1).before #[Value.ref b] s = true
def lawT : List (Nat × Instr × Nat) := [(0, .new 7, 3),
  (3, .dup, 1),
  (4, .invokespecial 9, 3),
  (7, .astore_n 1, 1),
  (8, .new 10, 3),
  (11, .dup, 1),
  (12, .invokespecial 12, 3),
  (15, .astore_n 2, 1),
  (16, .iconst 0, 1),
  (17, .istore_n 3, 1),
  (18, .iload_n 3, 1),
  (19, .aload_n 0, 1),
  (20, .arraylength, 1),
  (21, .iconst 5, 1),
  (22, .isub, 1),
  (23, .if_icmp .gt 1157, 3),
  (26, .aload_n 0, 1),
  (27, .iload_n 3, 1),
  (28, .iaload, 1),
  (29, .bipush 63, 2),
  (31, .iand, 1),
  (32, .tableswitch 1142 0 33 #[152, 175, 188, 201, 214, 247, 270, 293, 326, 349, 372, 405, 418, 451, 484, 527, 580, 603, 652, 675, 698, 741, 774, 797, 840, 889, 922, 935, 948, 997, 1050, 1073, 1096, 1119], 152),
  (184, .aload_n 1, 1),
  (185, .aload_n 0, 1),
  (186, .iload_n 3, 1),
  (187, .iconst 1, 1),
  (188, .iadd, 1),
  (189, .iaload, 1),
  (190, .invokevirtual 13, 3),
  (193, .pop, 1),
  (194, .aload_n 2, 1),
  (195, .aload_n 0, 1),
  (196, .iload_n 3, 1),
  (197, .iconst 1, 1),
  (198, .iadd, 1),
  (199, .iaload, 1),
  (200, .invokevirtual 17, 3),
  (203, .pop, 1),
  (204, .goto 970, 3),
  (207, .aload_n 1, 1),
  (208, .invokevirtual 18, 3),
  (211, .pop, 1),
  (212, .aload_n 2, 1),
  (213, .invokevirtual 22, 3),
  (216, .pop, 1),
  (217, .goto 957, 3),
  (220, .aload_n 1, 1),
  (221, .invokevirtual 23, 3),
  (224, .pop, 1),
  (225, .aload_n 2, 1),
  (226, .invokevirtual 26, 3),
  (229, .pop, 1),
  (230, .goto 944, 3),
  (233, .aload_n 1, 1),
  (234, .invokevirtual 27, 3),
  (237, .pop, 1),
  (238, .aload_n 2, 1),
  (239, .invokevirtual 30, 3),
  (242, .pop, 1),
  (243, .goto 931, 3),
  (246, .aload_n 1, 1),
  (247, .aload_n 0, 1),
  (248, .iload_n 3, 1),
  (249, .iconst 1, 1),
  (250, .iadd, 1),
  (251, .iaload, 1),
  (252, .aload_n 0, 1),
  (253, .iload_n 3, 1),
  (254, .iconst 2, 1),
  (255, .iadd, 1),
  (256, .iaload, 1),
  (257, .invokevirtual 31, 3),
  (260, .pop, 1),
  (261, .aload_n 2, 1),
  (262, .aload_n 0, 1),
  (263, .iload_n 3, 1),
  (264, .iconst 1, 1),
  (265, .iadd, 1),
  (266, .iaload, 1),
  (267, .aload_n 0, 1),
  (268, .iload_n 3, 1),
  (269, .iconst 2, 1),
  (270, .iadd, 1),
  (271, .iaload, 1),
  (272, .invokevirtual 35, 3),
  (275, .pop, 1),
  (276, .goto 898, 3),
  (279, .aload_n 1, 1),
  (280, .aload_n 0, 1),
  (281, .iload_n 3, 1),
  (282, .iconst 1, 1),
  (283, .iadd, 1),
  (284, .iaload, 1),
  (285, .invokevirtual 36, 3),
  (288, .pop, 1),
  (289, .aload_n 2, 1),
  (290, .aload_n 0, 1),
  (291, .iload_n 3, 1),
  (292, .iconst 1, 1),
  (293, .iadd, 1),
  (294, .iaload, 1),
  (295, .invokevirtual 39, 3),
  (298, .pop, 1),
  (299, .goto 875, 3),
  (302, .aload_n 1, 1),
  (303, .aload_n 0, 1),
  (304, .iload_n 3, 1),
  (305, .iconst 1, 1),
  (306, .iadd, 1),
  (307, .iaload, 1),
  (308, .invokevirtual 40, 3),
  (311, .pop, 1),
  (312, .aload_n 2, 1),
  (313, .aload_n 0, 1),
  (314, .iload_n 3, 1),
  (315, .iconst 1, 1),
  (316, .iadd, 1),
  (317, .iaload, 1),
  (318, .invokevirtual 43, 3),
  (321, .pop, 1),
  (322, .goto 852, 3),
  (325, .aload_n 1, 1),
  (326, .aload_n 0, 1),
  (327, .iload_n 3, 1),
  (328, .iconst 1, 1),
  (329, .iadd, 1),
  (330, .iaload, 1),
  (331, .aload_n 0, 1),
  (332, .iload_n 3, 1),
  (333, .iconst 2, 1),
  (334, .iadd, 1),
  (335, .iaload, 1),
  (336, .invokevirtual 44, 3),
  (339, .pop, 1),
  (340, .aload_n 2, 1),
  (341, .aload_n 0, 1),
  (342, .iload_n 3, 1),
  (343, .iconst 1, 1),
  (344, .iadd, 1),
  (345, .iaload, 1),
  (346, .aload_n 0, 1),
  (347, .iload_n 3, 1),
  (348, .iconst 2, 1),
  (349, .iadd, 1),
  (350, .iaload, 1),
  (351, .invokevirtual 47, 3),
  (354, .pop, 1),
  (355, .goto 819, 3),
  (358, .aload_n 1, 1),
  (359, .aload_n 0, 1),
  (360, .iload_n 3, 1),
  (361, .iconst 1, 1),
  (362, .iadd, 1),
  (363, .iaload, 1),
  (364, .invokevirtual 48, 3),
  (367, .pop, 1),
  (368, .aload_n 2, 1),
  (369, .aload_n 0, 1),
  (370, .iload_n 3, 1),
  (371, .iconst 1, 1),
  (372, .iadd, 1),
  (373, .iaload, 1),
  (374, .invokevirtual 51, 3),
  (377, .pop, 1),
  (378, .goto 796, 3),
  (381, .aload_n 1, 1),
  (382, .aload_n 0, 1),
  (383, .iload_n 3, 1),
  (384, .iconst 1, 1),
  (385, .iadd, 1),
  (386, .iaload, 1),
  (387, .invokevirtual 52, 3),
  (390, .pop, 1),
  (391, .aload_n 2, 1),
  (392, .aload_n 0, 1),
  (393, .iload_n 3, 1),
  (394, .iconst 1, 1),
  (395, .iadd, 1),
  (396, .iaload, 1),
  (397, .invokevirtual 55, 3),
  (400, .pop, 1),
  (401, .goto 773, 3),
  (404, .aload_n 1, 1),
  (405, .aload_n 0, 1),
  (406, .iload_n 3, 1),
  (407, .iconst 1, 1),
  (408, .iadd, 1),
  (409, .iaload, 1),
  (410, .aload_n 0, 1),
  (411, .iload_n 3, 1),
  (412, .iconst 2, 1),
  (413, .iadd, 1),
  (414, .iaload, 1),
  (415, .invokevirtual 56, 3),
  (418, .pop, 1),
  (419, .aload_n 2, 1),
  (420, .aload_n 0, 1),
  (421, .iload_n 3, 1),
  (422, .iconst 1, 1),
  (423, .iadd, 1),
  (424, .iaload, 1),
  (425, .aload_n 0, 1),
  (426, .iload_n 3, 1),
  (427, .iconst 2, 1),
  (428, .iadd, 1),
  (429, .iaload, 1),
  (430, .invokevirtual 59, 3),
  (433, .pop, 1),
  (434, .goto 740, 3),
  (437, .aload_n 1, 1),
  (438, .invokevirtual 60, 3),
  (441, .pop, 1),
  (442, .aload_n 2, 1),
  (443, .invokevirtual 63, 3),
  (446, .pop, 1),
  (447, .goto 727, 3),
  (450, .aload_n 1, 1),
  (451, .aload_n 0, 1),
  (452, .iload_n 3, 1),
  (453, .iconst 1, 1),
  (454, .iadd, 1),
  (455, .iaload, 1),
  (456, .aload_n 0, 1),
  (457, .iload_n 3, 1),
  (458, .iconst 2, 1),
  (459, .iadd, 1),
  (460, .iaload, 1),
  (461, .invokevirtual 64, 3),
  (464, .pop, 1),
  (465, .aload_n 2, 1),
  (466, .aload_n 0, 1),
  (467, .iload_n 3, 1),
  (468, .iconst 1, 1),
  (469, .iadd, 1),
  (470, .iaload, 1),
  (471, .aload_n 0, 1),
  (472, .iload_n 3, 1),
  (473, .iconst 2, 1),
  (474, .iadd, 1),
  (475, .iaload, 1),
  (476, .invokevirtual 67, 3),
  (479, .pop, 1),
  (480, .goto 694, 3),
  (483, .aload_n 1, 1),
  (484, .aload_n 0, 1),
  (485, .iload_n 3, 1),
  (486, .iconst 1, 1),
  (487, .iadd, 1),
  (488, .iaload, 1),
  (489, .aload_n 0, 1),
  (490, .iload_n 3, 1),
  (491, .iconst 2, 1),
  (492, .iadd, 1),
  (493, .iaload, 1),
  (494, .invokevirtual 68, 3),
  (497, .pop, 1),
  (498, .aload_n 2, 1),
  (499, .aload_n 0, 1),
  (500, .iload_n 3, 1),
  (501, .iconst 1, 1),
  (502, .iadd, 1),
  (503, .iaload, 1),
  (504, .aload_n 0, 1),
  (505, .iload_n 3, 1),
  (506, .iconst 2, 1),
  (507, .iadd, 1),
  (508, .iaload, 1),
  (509, .invokevirtual 71, 3),
  (512, .pop, 1),
  (513, .goto 661, 3),
  (516, .aload_n 1, 1),
  (517, .aload_n 0, 1),
  (518, .iload_n 3, 1),
  (519, .iconst 1, 1),
  (520, .iadd, 1),
  (521, .iaload, 1),
  (522, .aload_n 0, 1),
  (523, .iload_n 3, 1),
  (524, .iconst 2, 1),
  (525, .iadd, 1),
  (526, .iaload, 1),
  (527, .aload_n 0, 1),
  (528, .iload_n 3, 1),
  (529, .iconst 3, 1),
  (530, .iadd, 1),
  (531, .iaload, 1),
  (532, .invokevirtual 72, 3),
  (535, .pop, 1),
  (536, .aload_n 2, 1),
  (537, .aload_n 0, 1),
  (538, .iload_n 3, 1),
  (539, .iconst 1, 1),
  (540, .iadd, 1),
  (541, .iaload, 1),
  (542, .aload_n 0, 1),
  (543, .iload_n 3, 1),
  (544, .iconst 2, 1),
  (545, .iadd, 1),
  (546, .iaload, 1),
  (547, .aload_n 0, 1),
  (548, .iload_n 3, 1),
  (549, .iconst 3, 1),
  (550, .iadd, 1),
  (551, .iaload, 1),
  (552, .invokevirtual 76, 3),
  (555, .pop, 1),
  (556, .goto 618, 3),
  (559, .aload_n 1, 1),
  (560, .aload_n 0, 1),
  (561, .iload_n 3, 1),
  (562, .iconst 1, 1),
  (563, .iadd, 1),
  (564, .iaload, 1),
  (565, .aload_n 0, 1),
  (566, .iload_n 3, 1),
  (567, .iconst 2, 1),
  (568, .iadd, 1),
  (569, .iaload, 1),
  (570, .aload_n 0, 1),
  (571, .iload_n 3, 1),
  (572, .iconst 3, 1),
  (573, .iadd, 1),
  (574, .iaload, 1),
  (575, .aload_n 0, 1),
  (576, .iload_n 3, 1),
  (577, .iconst 4, 1),
  (578, .iadd, 1),
  (579, .iaload, 1),
  (580, .invokevirtual 77, 3),
  (583, .pop, 1),
  (584, .aload_n 2, 1),
  (585, .aload_n 0, 1),
  (586, .iload_n 3, 1),
  (587, .iconst 1, 1),
  (588, .iadd, 1),
  (589, .iaload, 1),
  (590, .aload_n 0, 1),
  (591, .iload_n 3, 1),
  (592, .iconst 2, 1),
  (593, .iadd, 1),
  (594, .iaload, 1),
  (595, .aload_n 0, 1),
  (596, .iload_n 3, 1),
  (597, .iconst 3, 1),
  (598, .iadd, 1),
  (599, .iaload, 1),
  (600, .aload_n 0, 1),
  (601, .iload_n 3, 1),
  (602, .iconst 4, 1),
  (603, .iadd, 1),
  (604, .iaload, 1),
  (605, .invokevirtual 81, 3),
  (608, .pop, 1),
  (609, .goto 565, 3),
  (612, .aload_n 1, 1),
  (613, .aload_n 0, 1),
  (614, .iload_n 3, 1),
  (615, .iconst 1, 1),
  (616, .iadd, 1),
  (617, .iaload, 1),
  (618, .invokevirtual 82, 3),
  (621, .pop, 1),
  (622, .aload_n 2, 1),
  (623, .aload_n 0, 1),
  (624, .iload_n 3, 1),
  (625, .iconst 1, 1),
  (626, .iadd, 1),
  (627, .iaload, 1),
  (628, .invokevirtual 85, 3),
  (631, .pop, 1),
  (632, .goto 542, 3),
  (635, .aload_n 1, 1),
  (636, .aload_n 0, 1),
  (637, .iload_n 3, 1),
  (638, .iconst 1, 1),
  (639, .iadd, 1),
  (640, .iaload, 1),
  (641, .aload_n 0, 1),
  (642, .iload_n 3, 1),
  (643, .iconst 2, 1),
  (644, .iadd, 1),
  (645, .iaload, 1),
  (646, .ifCond .eq 7, 3),
  (649, .iconst 1, 1),
  (650, .goto 4, 3),
  (653, .iconst 0, 1),
  (654, .invokevirtual 86, 3),
  (657, .aload_n 2, 1),
  (658, .aload_n 0, 1),
  (659, .iload_n 3, 1),
  (660, .iconst 1, 1),
  (661, .iadd, 1),
  (662, .iaload, 1),
  (663, .aload_n 0, 1),
  (664, .iload_n 3, 1),
  (665, .iconst 2, 1),
  (666, .iadd, 1),
  (667, .iaload, 1),
  (668, .ifCond .eq 7, 3),
  (671, .iconst 1, 1),
  (672, .goto 4, 3),
  (675, .iconst 0, 1),
  (676, .invokevirtual 90, 3),
  (679, .if_icmp .eq 495, 3),
  (682, .iconst 0, 1),
  (683, .ireturn, 1),
  (684, .aload_n 1, 1),
  (685, .aload_n 0, 1),
  (686, .iload_n 3, 1),
  (687, .iconst 1, 1),
  (688, .iadd, 1),
  (689, .iaload, 1),
  (690, .invokevirtual 91, 3),
  (693, .pop, 1),
  (694, .aload_n 2, 1),
  (695, .aload_n 0, 1),
  (696, .iload_n 3, 1),
  (697, .iconst 1, 1),
  (698, .iadd, 1),
  (699, .iaload, 1),
  (700, .invokevirtual 94, 3),
  (703, .pop, 1),
  (704, .goto 470, 3),
  (707, .aload_n 1, 1),
  (708, .aload_n 0, 1),
  (709, .iload_n 3, 1),
  (710, .iconst 1, 1),
  (711, .iadd, 1),
  (712, .iaload, 1),
  (713, .invokevirtual 95, 3),
  (716, .pop, 1),
  (717, .aload_n 2, 1),
  (718, .aload_n 0, 1),
  (719, .iload_n 3, 1),
  (720, .iconst 1, 1),
  (721, .iadd, 1),
  (722, .iaload, 1),
  (723, .invokevirtual 98, 3),
  (726, .pop, 1),
  (727, .goto 447, 3),
  (730, .aload_n 1, 1),
  (731, .aload_n 0, 1),
  (732, .iload_n 3, 1),
  (733, .iconst 1, 1),
  (734, .iadd, 1),
  (735, .iaload, 1),
  (736, .aload_n 0, 1),
  (737, .iload_n 3, 1),
  (738, .iconst 2, 1),
  (739, .iadd, 1),
  (740, .iaload, 1),
  (741, .aload_n 0, 1),
  (742, .iload_n 3, 1),
  (743, .iconst 3, 1),
  (744, .iadd, 1),
  (745, .iaload, 1),
  (746, .invokevirtual 99, 3),
  (749, .pop, 1),
  (750, .aload_n 2, 1),
  (751, .aload_n 0, 1),
  (752, .iload_n 3, 1),
  (753, .iconst 1, 1),
  (754, .iadd, 1),
  (755, .iaload, 1),
  (756, .aload_n 0, 1),
  (757, .iload_n 3, 1),
  (758, .iconst 2, 1),
  (759, .iadd, 1),
  (760, .iaload, 1),
  (761, .aload_n 0, 1),
  (762, .iload_n 3, 1),
  (763, .iconst 3, 1),
  (764, .iadd, 1),
  (765, .iaload, 1),
  (766, .invokevirtual 102, 3),
  (769, .pop, 1),
  (770, .goto 404, 3),
  (773, .aload_n 1, 1),
  (774, .aload_n 0, 1),
  (775, .iload_n 3, 1),
  (776, .iconst 1, 1),
  (777, .iadd, 1),
  (778, .iaload, 1),
  (779, .aload_n 0, 1),
  (780, .iload_n 3, 1),
  (781, .iconst 2, 1),
  (782, .iadd, 1),
  (783, .iaload, 1),
  (784, .invokevirtual 103, 3),
  (787, .pop, 1),
  (788, .aload_n 2, 1),
  (789, .aload_n 0, 1),
  (790, .iload_n 3, 1),
  (791, .iconst 1, 1),
  (792, .iadd, 1),
  (793, .iaload, 1),
  (794, .aload_n 0, 1),
  (795, .iload_n 3, 1),
  (796, .iconst 2, 1),
  (797, .iadd, 1),
  (798, .iaload, 1),
  (799, .invokevirtual 106, 3),
  (802, .pop, 1),
  (803, .goto 371, 3),
  (806, .aload_n 1, 1),
  (807, .aload_n 0, 1),
  (808, .iload_n 3, 1),
  (809, .iconst 1, 1),
  (810, .iadd, 1),
  (811, .iaload, 1),
  (812, .invokevirtual 107, 3),
  (815, .pop, 1),
  (816, .aload_n 2, 1),
  (817, .aload_n 0, 1),
  (818, .iload_n 3, 1),
  (819, .iconst 1, 1),
  (820, .iadd, 1),
  (821, .iaload, 1),
  (822, .invokevirtual 110, 3),
  (825, .pop, 1),
  (826, .goto 348, 3),
  (829, .aload_n 1, 1),
  (830, .aload_n 0, 1),
  (831, .iload_n 3, 1),
  (832, .iconst 1, 1),
  (833, .iadd, 1),
  (834, .iaload, 1),
  (835, .aload_n 0, 1),
  (836, .iload_n 3, 1),
  (837, .iconst 2, 1),
  (838, .iadd, 1),
  (839, .iaload, 1),
  (840, .aload_n 0, 1),
  (841, .iload_n 3, 1),
  (842, .iconst 3, 1),
  (843, .iadd, 1),
  (844, .iaload, 1),
  (845, .invokevirtual 111, 3),
  (848, .pop, 1),
  (849, .aload_n 2, 1),
  (850, .aload_n 0, 1),
  (851, .iload_n 3, 1),
  (852, .iconst 1, 1),
  (853, .iadd, 1),
  (854, .iaload, 1),
  (855, .aload_n 0, 1),
  (856, .iload_n 3, 1),
  (857, .iconst 2, 1),
  (858, .iadd, 1),
  (859, .iaload, 1),
  (860, .aload_n 0, 1),
  (861, .iload_n 3, 1),
  (862, .iconst 3, 1),
  (863, .iadd, 1),
  (864, .iaload, 1),
  (865, .invokevirtual 114, 3),
  (868, .pop, 1),
  (869, .goto 305, 3),
  (872, .aload_n 1, 1),
  (873, .aload_n 0, 1),
  (874, .iload_n 3, 1),
  (875, .iconst 1, 1),
  (876, .iadd, 1),
  (877, .iaload, 1),
  (878, .aload_n 0, 1),
  (879, .iload_n 3, 1),
  (880, .iconst 2, 1),
  (881, .iadd, 1),
  (882, .iaload, 1),
  (883, .ifCond .eq 7, 3),
  (886, .iconst 1, 1),
  (887, .goto 4, 3),
  (890, .iconst 0, 1),
  (891, .invokevirtual 115, 3),
  (894, .pop, 1),
  (895, .aload_n 2, 1),
  (896, .aload_n 0, 1),
  (897, .iload_n 3, 1),
  (898, .iconst 1, 1),
  (899, .iadd, 1),
  (900, .iaload, 1),
  (901, .aload_n 0, 1),
  (902, .iload_n 3, 1),
  (903, .iconst 2, 1),
  (904, .iadd, 1),
  (905, .iaload, 1),
  (906, .ifCond .eq 7, 3),
  (909, .iconst 1, 1),
  (910, .goto 4, 3),
  (913, .iconst 0, 1),
  (914, .invokevirtual 118, 3),
  (917, .pop, 1),
  (918, .goto 256, 3),
  (921, .aload_n 1, 1),
  (922, .aload_n 0, 1),
  (923, .iload_n 3, 1),
  (924, .iconst 1, 1),
  (925, .iadd, 1),
  (926, .iaload, 1),
  (927, .aload_n 0, 1),
  (928, .iload_n 3, 1),
  (929, .iconst 2, 1),
  (930, .iadd, 1),
  (931, .iaload, 1),
  (932, .invokevirtual 119, 3),
  (935, .pop, 1),
  (936, .aload_n 2, 1),
  (937, .aload_n 0, 1),
  (938, .iload_n 3, 1),
  (939, .iconst 1, 1),
  (940, .iadd, 1),
  (941, .iaload, 1),
  (942, .aload_n 0, 1),
  (943, .iload_n 3, 1),
  (944, .iconst 2, 1),
  (945, .iadd, 1),
  (946, .iaload, 1),
  (947, .invokevirtual 122, 3),
  (950, .pop, 1),
  (951, .goto 223, 3),
  (954, .aload_n 1, 1),
  (955, .invokevirtual 123, 3),
  (958, .pop, 1),
  (959, .aload_n 2, 1),
  (960, .invokevirtual 126, 3),
  (963, .pop, 1),
  (964, .goto 210, 3),
  (967, .aload_n 1, 1),
  (968, .invokevirtual 127, 3),
  (971, .pop, 1),
  (972, .aload_n 2, 1),
  (973, .invokevirtual 130, 3),
  (976, .pop, 1),
  (977, .goto 197, 3),
  (980, .aload_n 1, 1),
  (981, .aload_n 0, 1),
  (982, .iload_n 3, 1),
  (983, .iconst 1, 1),
  (984, .iadd, 1),
  (985, .iaload, 1),
  (986, .aload_n 0, 1),
  (987, .iload_n 3, 1),
  (988, .iconst 2, 1),
  (989, .iadd, 1),
  (990, .iaload, 1),
  (991, .ifCond .eq 7, 3),
  (994, .iconst 1, 1),
  (995, .goto 4, 3),
  (998, .iconst 0, 1),
  (999, .invokevirtual 131, 3),
  (1002, .pop, 1),
  (1003, .aload_n 2, 1),
  (1004, .aload_n 0, 1),
  (1005, .iload_n 3, 1),
  (1006, .iconst 1, 1),
  (1007, .iadd, 1),
  (1008, .iaload, 1),
  (1009, .aload_n 0, 1),
  (1010, .iload_n 3, 1),
  (1011, .iconst 2, 1),
  (1012, .iadd, 1),
  (1013, .iaload, 1),
  (1014, .ifCond .eq 7, 3),
  (1017, .iconst 1, 1),
  (1018, .goto 4, 3),
  (1021, .iconst 0, 1),
  (1022, .invokevirtual 134, 3),
  (1025, .pop, 1),
  (1026, .goto 148, 3),
  (1029, .aload_n 1, 1),
  (1030, .aload_n 0, 1),
  (1031, .iload_n 3, 1),
  (1032, .iconst 1, 1),
  (1033, .iadd, 1),
  (1034, .iaload, 1),
  (1035, .i2l, 1),
  (1036, .bipush 32, 2),
  (1038, .lshl, 1),
  (1039, .aload_n 0, 1),
  (1040, .iload_n 3, 1),
  (1041, .iconst 2, 1),
  (1042, .iadd, 1),
  (1043, .iaload, 1),
  (1044, .i2l, 1),
  (1045, .ldc2_w 135, 3),
  (1048, .land, 1),
  (1049, .lor, 1),
  (1050, .invokevirtual 137, 3),
  (1053, .pop2, 1),
  (1054, .aload_n 2, 1),
  (1055, .aload_n 0, 1),
  (1056, .iload_n 3, 1),
  (1057, .iconst 1, 1),
  (1058, .iadd, 1),
  (1059, .iaload, 1),
  (1060, .i2l, 1),
  (1061, .bipush 32, 2),
  (1063, .lshl, 1),
  (1064, .aload_n 0, 1),
  (1065, .iload_n 3, 1),
  (1066, .iconst 2, 1),
  (1067, .iadd, 1),
  (1068, .iaload, 1),
  (1069, .i2l, 1),
  (1070, .ldc2_w 135, 3),
  (1073, .land, 1),
  (1074, .lor, 1),
  (1075, .invokevirtual 141, 3),
  (1078, .pop2, 1),
  (1079, .goto 95, 3),
  (1082, .aload_n 1, 1),
  (1083, .aload_n 0, 1),
  (1084, .iload_n 3, 1),
  (1085, .iconst 1, 1),
  (1086, .iadd, 1),
  (1087, .iaload, 1),
  (1088, .invokevirtual 142, 3),
  (1091, .pop, 1),
  (1092, .aload_n 2, 1),
  (1093, .aload_n 0, 1),
  (1094, .iload_n 3, 1),
  (1095, .iconst 1, 1),
  (1096, .iadd, 1),
  (1097, .iaload, 1),
  (1098, .invokevirtual 145, 3),
  (1101, .pop, 1),
  (1102, .goto 72, 3),
  (1105, .aload_n 1, 1),
  (1106, .aload_n 0, 1),
  (1107, .iload_n 3, 1),
  (1108, .iconst 1, 1),
  (1109, .iadd, 1),
  (1110, .iaload, 1),
  (1111, .invokevirtual 146, 3),
  (1114, .pop, 1),
  (1115, .aload_n 2, 1),
  (1116, .aload_n 0, 1),
  (1117, .iload_n 3, 1),
  (1118, .iconst 1, 1),
  (1119, .iadd, 1),
  (1120, .iaload, 1),
  (1121, .invokevirtual 149, 3),
  (1124, .pop, 1),
  (1125, .goto 49, 3),
  (1128, .aload_n 1, 1),
  (1129, .aload_n 0, 1),
  (1130, .iload_n 3, 1),
  (1131, .iconst 1, 1),
  (1132, .iadd, 1),
  (1133, .iaload, 1),
  (1134, .invokevirtual 150, 3),
  (1137, .pop, 1),
  (1138, .aload_n 2, 1),
  (1139, .aload_n 0, 1),
  (1140, .iload_n 3, 1),
  (1141, .iconst 1, 1),
  (1142, .iadd, 1),
  (1143, .iaload, 1),
  (1144, .invokevirtual 153, 3),
  (1147, .pop, 1),
  (1148, .goto 26, 3),
  (1151, .aload_n 1, 1),
  (1152, .aload_n 0, 1),
  (1153, .iload_n 3, 1),
  (1154, .iconst 1, 1),
  (1155, .iadd, 1),
  (1156, .iaload, 1),
  (1157, .invokevirtual 154, 3),
  (1160, .pop, 1),
  (1161, .aload_n 2, 1),
  (1162, .aload_n 0, 1),
  (1163, .iload_n 3, 1),
  (1164, .iconst 1, 1),
  (1165, .iadd, 1),
  (1166, .iaload, 1),
  (1167, .invokevirtual 157, 3),
  (1170, .pop, 1),
  (1171, .goto 3, 3),
  (1174, .iinc 3 5, 3),
  (1177, .goto (-1159), 3),
  (1180, .iconst 1, 1),
  (1181, .ireturn, 1)]
/-! THE LAW'S FRAME: its code by a table, its walk over the memory -/
theorem law_f : fgo code lawT code.data.toList 0 = true := by decide +kernel
theorem lawT_ok : ∀ q ∈ lawT, chkI code q = true := fun q hq => fgo_ok lawT _ 0 (by rw [List.drop_zero]) law_f q hq
def lins (pc : Nat) : Option (Instr × Nat) := (lawT.find? (fun q => q.1 == pc)).map (fun q => q.2)
theorem l_dec {pc : Nat} {q : Instr × Nat} (h : lins pc = some q) : decode code pc = .ok q ∧ (isSw q.1 = true ∨ q.2 = stdLen q.1) := by
  unfold lins at h
  obtain ⟨r, h1, rfl⟩ := Option.map_eq_some_iff.mp h
  have h2 := lawT_ok _ (List.mem_of_find?_eq_some h1)
  have h3 : r.1 = pc := by simpa using List.find?_some h1
  simp only [chkI, Bool.and_eq_true, Bool.or_eq_true, decide_eq_true_eq, beq_iff_eq] at h2
  rw [h3] at h2
  exact ⟨h2.1, h2.2.imp id (fun z => z.symm)⟩
def lJ (pc : Nat) (i : Instr) (pc' : Nat) : Bool := decide (lins pc = some (i, stdLen i)) && decide (pc' = pc + stdLen i)
theorem lJ_spec {pc pc' : Nat} {i : Instr} (h : lJ pc i pc' = true) : decode code pc = .ok (i, stdLen i) ∧ pc' = pc + stdLen i := by
  simp only [lJ, Bool.and_eq_true, decide_eq_true_eq] at h
  exact ⟨(l_dec h.1).1, h.2⟩
def Lx : Type := Program × Launch × Env × State × MethodId × List Frame × Method × Code × Nat × Nat × (Nat → Int32) × va_G × CS
abbrev Lx.p (X : Lx) : Program := X.1
abbrev Lx.l (X : Lx) : Launch := X.2.1
abbrev Lx.e (X : Lx) : Env := X.2.2.1
abbrev Lx.s (X : Lx) : State := X.2.2.2.1
abbrev Lx.m (X : Lx) : MethodId := X.2.2.2.2.1
abbrev Lx.below (X : Lx) : List Frame := X.2.2.2.2.2.1
abbrev Lx.meth (X : Lx) : Method := X.2.2.2.2.2.2.1
abbrev Lx.c (X : Lx) : Code := X.2.2.2.2.2.2.2.1
abbrev Lx.bS (X : Lx) : Nat := X.2.2.2.2.2.2.2.2.1
abbrev Lx.n (X : Lx) : Nat := X.2.2.2.2.2.2.2.2.2.1
abbrev Lx.xs (X : Lx) : (Nat → Int32) := X.2.2.2.2.2.2.2.2.2.2.1
abbrev Lx.D (X : Lx) : va_G := X.2.2.2.2.2.2.2.2.2.2.2.1
abbrev Lx.cs (X : Lx) : CS := X.2.2.2.2.2.2.2.2.2.2.2.2
def Lx.ok (X : Lx) : Prop := Cx X.p X.m X.c X.s #[Value.ref X.bS] code 4 RL X.D X.cs ∧ X.meth.sig.returnType = ret ∧ X.meth.locks = false ∧ va_X X.bS X.n X.xs X.s X.s.heap ∧ X.bS < X.s.heap.size ∧ X.n ≤ 320
def Lx.lv (X : Lx) (k : Nat) : List (Nat × Value) := [(0, .ref X.bS), (1, .ref (X.s.heap.size + 0)), (2, .ref (X.s.heap.size + 76)), (3, .int (nI k))]
/-- the law's walk from pc on, with its counter at k, that stack, that world -/
def LW (X : Lx) (pc k : Nat) (st : List Value) (w : Wd) : Prop := ∀ (H : Heap) (locs : List Loc) (A : Array Slot), lv_has A 4 (X.lv k) → va_P X.D vwCl (trW X.s.heap.size X.cs w) H → va_S (fun q => X.s.heap.size ≤ q) X.s.heap H locs → W X.p X.l X.e room_1 X.s X.m #[Value.ref X.bS] X.below X.meth X.c H locs w.length (wsz w) (lw_Z X.below #[Value.ref X.bS] X.s) (F0 X.m pc A (st.map (tr X.s.heap.size)))
section LawR
variable {X : Lx} {pc pc' k : Nat} {st : List Value} {w : Wd}
theorem L_pure {st' : List Value} (hX : X.ok) (i : Instr) (pc' : Nat) (h : lJ pc i pc' = true) (hp : pureOp 11 i st = some st') (kk : LW X pc' k st' w) : LW X pc k st w := by
  intro H locs A hA hP hS
  obtain ⟨hd, rfl⟩ := lJ_spec h
  obtain ⟨⟨⟨hx, hb, -, hown, hts⟩, -⟩, -⟩ := hX
  exact sim_pure (ow := 11) hx hb hown hts hp hd (kk H locs A hA hP hS)
theorem L_x (hX : X.ok) (pc' : Nat) (h : lJ pc (.aload_n 1) pc' = true) (kk : LW X pc' k (.ref 0 :: st) w) : LW X pc k st w := by
  intro H locs A hA hP hS
  obtain ⟨hd, rfl⟩ := lJ_spec h
  obtain ⟨⟨⟨hx, hb, -, hown, hts⟩, -⟩, -⟩ := hX
  exact lv_aload_n hx hb hd rfl (lv_at hA 1 rfl) (kk H locs A hA hP hS)
theorem L_m (hX : X.ok) (pc' : Nat) (h : lJ pc (.aload_n 2) pc' = true) (kk : LW X pc' k (.ref 76 :: st) w) : LW X pc k st w := by
  intro H locs A hA hP hS
  obtain ⟨hd, rfl⟩ := lJ_spec h
  obtain ⟨⟨⟨hx, hb, -, hown, hts⟩, -⟩, -⟩ := hX
  exact lv_aload_n hx hb hd rfl (lv_at hA 2 rfl) (kk H locs A hA hP hS)
/-- script[i] -/
theorem L_scr0 (hX : X.ok) (pc' : Nat) (h : (lJ pc (.aload_n 0) (pc + 1) && lJ (pc + 1) (.iload_n 3) (pc + 2) && lJ (pc + 2) .iaload pc') = true) (hk : k < X.n) (kk : LW X pc' k (.int (X.xs k) :: st) w) : LW X pc k st w := by
  intro H locs A hA hP hS
  simp only [Bool.and_eq_true] at h
  obtain ⟨⟨h1, h2⟩, h3⟩ := h
  obtain ⟨d1, -⟩ := lJ_spec h1
  obtain ⟨d2, -⟩ := lJ_spec h2
  obtain ⟨d3, rfl⟩ := lJ_spec h3
  obtain ⟨⟨⟨hx, hb, -, hown, hts⟩, -⟩, -, -, hXa, hbl, hn⟩ := hX
  refine lv_aload_n hx hb d1 rfl (lv_at hA 0 rfl) ?_
  refine lv_iload_n hx hb d2 rfl (lv_at hA 3 rfl) ?_
  refine va_sld hx hb hXa hbl (fun z => absurd hbl (Nat.not_lt.mpr z)) hS (vp_in_nI hk (by omega)) d3 ?_
  rw [nI_clamp (by omega)]
  exact kk H locs A hA hP hS
/-- script[i + c] -/
theorem L_scr (hX : X.ok) (c pc' : Nat) (h : (lJ pc (.aload_n 0) (pc + 1) && lJ (pc + 1) (.iload_n 3) (pc + 2) && lJ (pc + 2) (.iconst (c : Int)) (pc + 3) && lJ (pc + 3) .iadd (pc + 4) && lJ (pc + 4) .iaload pc') = true) (hk : k + c < X.n) (hc : Int32.ofInt (c : Int) = nI c) (kk : LW X pc' k (.int (X.xs (k + c)) :: st) w) : LW X pc k st w := by
  intro H locs A hA hP hS
  simp only [Bool.and_eq_true] at h
  obtain ⟨⟨⟨⟨h1, h2⟩, h3⟩, h4⟩, h5⟩ := h
  obtain ⟨d1, -⟩ := lJ_spec h1
  obtain ⟨d2, -⟩ := lJ_spec h2
  obtain ⟨d3, -⟩ := lJ_spec h3
  obtain ⟨d4, -⟩ := lJ_spec h4
  obtain ⟨d5, rfl⟩ := lJ_spec h5
  obtain ⟨⟨⟨hx, hb, -, hown, hts⟩, -⟩, -, -, hXa, hbl, hn⟩ := hX
  refine lv_aload_n hx hb d1 rfl (lv_at hA 0 rfl) ?_
  refine lv_iload_n hx hb d2 rfl (lv_at hA 3 rfl) ?_
  refine lv_iconst hx hb d3 hc ?_
  refine lv_iadd hx hb d4 ?_
  rw [nI_add]
  refine va_sld hx hb hXa hbl (fun z => absurd hbl (Nat.not_lt.mpr z)) hS (vp_in_nI hk (by omega)) d5 ?_
  rw [nI_clamp (by omega)]
  exact kk H locs A hA hP hS
def lBr (pc : Nat) (i : Int → Instr) (t f : Nat) : Bool := match lins pc with
  | some (.goto off, 3) => decide (i off = .goto off) && decide ((pc : Int) + off = t) && decide (f = pc + 3)
  | some (.ifCond c off, 3) => decide (i off = .ifCond c off) && decide ((pc : Int) + off = t) && decide (f = pc + 3)
  | some (.if_icmp c off, 3) => decide (i off = .if_icmp c off) && decide ((pc : Int) + off = t) && decide (f = pc + 3)
  | _ => false
theorem lBr_spec {i : Int → Instr} {t f : Nat} (h : lBr pc i t f = true) : ∃ off, decode code pc = .ok (i off, 3) ∧ (pc : Int) + off = (t : Int) ∧ f = pc + 3 := by
  unfold lBr at h
  split at h
  · rename_i off hl
    simp only [Bool.and_eq_true, decide_eq_true_eq] at h
    exact ⟨off, by rw [h.1.1]; exact (l_dec hl).1, h.1.2, h.2⟩
  · rename_i c off hl
    simp only [Bool.and_eq_true, decide_eq_true_eq] at h
    exact ⟨off, by rw [h.1.1]; exact (l_dec hl).1, h.1.2, h.2⟩
  · rename_i c off hl
    simp only [Bool.and_eq_true, decide_eq_true_eq] at h
    exact ⟨off, by rw [h.1.1]; exact (l_dec hl).1, h.1.2, h.2⟩
  · cases h
theorem L_goto (hX : X.ok) (t : Nat) (h : lBr pc .goto t (pc + 3) = true) (kk : LW X t k st w) : LW X pc k st w := by
  intro H locs A hA hP hS
  obtain ⟨off, hd, ht, -⟩ := lBr_spec h
  obtain ⟨⟨⟨hx, hb, -, hown, hts⟩, -⟩, -⟩ := hX
  exact lv_goto hx hb hd ht (kk H locs A hA hP hS)
theorem L_ieq {x : Int32} (hX : X.ok) (t f : Nat) (h : lBr pc (.ifCond .eq) t f = true) (k1 : x = 0 → LW X t k st w) (k2 : ¬ x = 0 → LW X f k st w) : LW X pc k (.int x :: st) w := by
  intro H locs A hA hP hS
  obtain ⟨off, hd, ht, rfl⟩ := lBr_spec h
  obtain ⟨⟨⟨hx, hb, -, hown, hts⟩, -⟩, -⟩ := hX
  exact lv_if_eq hx hb hd ht (fun z => k1 z H locs A hA hP hS) (fun z => k2 z H locs A hA hP hS)
theorem L_ine {x : Int32} (hX : X.ok) (t f : Nat) (h : lBr pc (.ifCond .ne) t f = true) (k1 : ¬ x = 0 → LW X t k st w) (k2 : x = 0 → LW X f k st w) : LW X pc k (.int x :: st) w := by
  intro H locs A hA hP hS
  obtain ⟨off, hd, ht, rfl⟩ := lBr_spec h
  obtain ⟨⟨⟨hx, hb, -, hown, hts⟩, -⟩, -⟩ := hX
  exact lv_if_ne hx hb hd ht (fun z => k1 z H locs A hA hP hS) (fun z => k2 (by simpa using z) H locs A hA hP hS)
theorem L_ceq {x y : Int32} (hX : X.ok) (t f : Nat) (h : lBr pc (.if_icmp .eq) t f = true) (k1 : x = y → LW X t k st w) (k2 : ¬ x = y → LW X f k st w) : LW X pc k (.int y :: .int x :: st) w := by
  intro H locs A hA hP hS
  obtain ⟨off, hd, ht, rfl⟩ := lBr_spec h
  obtain ⟨⟨⟨hx, hb, -, hown, hts⟩, -⟩, -⟩ := hX
  exact lv_icmp_eq hx hb hd ht (fun z => k1 z H locs A hA hP hS) (fun z => k2 z H locs A hA hP hS)
theorem L_tab {dd lo hi : Int} {offs : Array Int} {x : Int32} {len : Nat} (hX : X.ok) (h : lins pc = some (.tableswitch dd lo hi offs, len)) (hout : (x.toInt < lo ∨ hi < x.toInt) → ∃ t, tgt pc dd = some t ∧ LW X t k st w) (hin : ∀ n : Nat, x.toInt = lo + n → lo + n ≤ hi → ∃ off t, offs[n]? = some off ∧ tgt pc off = some t ∧ LW X t k st w) : LW X pc k (.int x :: st) w := by
  intro H locs A hA hP hS
  obtain ⟨hd, hl⟩ := l_dec h
  obtain ⟨⟨⟨hx, hb, -, hown, hts⟩, -⟩, -⟩ := hX
  by_cases hc : x.toInt < lo ∨ hi < x.toInt
  · obtain ⟨t, h1, kk⟩ := hout hc
    exact sim_br (q := (t, st)) hx hb (by simp only [brOp, if_pos hc, h1, Option.map_some]) hd hl (kk H locs A hA hP hS)
  · obtain ⟨off, t, h0, h1, kk⟩ := hin (x.toInt - lo).toNat (by omega) (by omega)
    exact sim_br (q := (t, st)) hx hb (by simp only [brOp, if_neg hc, h0, h1, Option.map_some, Option.bind_some]) hd hl (kk H locs A hA hP hS)
theorem L_lshl {x : Int64} {y : Int32} (hX : X.ok) (pc' : Nat) (h : lJ pc .lshl pc' = true) (kk : ∀ v : Int64, v = x <<< (y.toInt64 &&& 63) → LW X pc' k (.long v :: st) w) : LW X pc k (.int y :: .long x :: st) w := by
  intro H locs A hA hP hS
  obtain ⟨hd, rfl⟩ := lJ_spec h
  obtain ⟨⟨⟨hx, hb, -, hown, hts⟩, -⟩, -⟩ := hX
  exact lv_lshl hx hb hd rfl (kk _ rfl H locs A hA hP hS)
theorem L_land {x y : Int64} (hX : X.ok) (pc' : Nat) (h : lJ pc .land pc' = true) (kk : LW X pc' k (.long (x &&& y) :: st) w) : LW X pc k (.long y :: .long x :: st) w := by
  intro H locs A hA hP hS
  obtain ⟨hd, rfl⟩ := lJ_spec h
  obtain ⟨⟨⟨hx, hb, -, hown, hts⟩, -⟩, -⟩ := hX
  exact lv_land hx hb hd (kk H locs A hA hP hS)
theorem L_lor {x y : Int64} (hX : X.ok) (pc' : Nat) (h : lJ pc .lor pc' = true) (kk : LW X pc' k (.long (x ||| y) :: st) w) : LW X pc k (.long y :: .long x :: st) w := by
  intro H locs A hA hP hS
  obtain ⟨hd, rfl⟩ := lJ_spec h
  obtain ⟨⟨⟨hx, hb, -, hown, hts⟩, -⟩, -⟩ := hX
  exact lv_lor hx hb hd (kk H locs A hA hP hS)
theorem L_pop2 {v : Int64} (hX : X.ok) (pc' : Nat) (h : lJ pc .pop2 pc' = true) (kk : LW X pc' k st w) : LW X pc k (.long v :: st) w := by
  intro H locs A hA hP hS
  obtain ⟨hd, rfl⟩ := lJ_spec h
  obtain ⟨⟨⟨hx, hb, -, hown, hts⟩, -⟩, -⟩ := hX
  exact lv_pop2_2 hx hb hd rfl (kk H locs A hA hP hS)
theorem owc_law : owc 1000 = 11 := by decide +kernel
theorem wOf_sz {M M' : Mt} {L L' : Lt} : wsz (wOf M L) = wsz (wOf M' L') := by
  have h : ∀ (M : Mt) (L : Lt) (n : Nat) (l : List (Nat × List Nat)), wsz (mpx (fun i q => (q.1, cellV M L i q.2)) n l) = (l.map (fun q => q.2.length)).sum := by
    intro M L n l
    induction l generalizing n with
    | nil => rfl
    | cons a l ih =>
      have e : wsz ((a.1, cellV M L n a.2) :: mpx (fun i q => (q.1, cellV M L i q.2)) (n + 1) l) = (cellV M L n a.2).length + wsz (mpx (fun i q => (q.1, cellV M L i q.2)) (n + 1) l) := rfl
      show wsz ((a.1, cellV M L n a.2) :: mpx (fun i q => (q.1, cellV M L i q.2)) (n + 1) l) = _
      rw [e, ih, cellV_len]
      rfl
  unfold wOf
  rw [h, h]
theorem shp_len : shp.length = 90 := by decide +kernel
theorem wOf_wsz : wsz (wOf M0 L0) ≤ 7000 := by decide +kernel
theorem L_call {i : Instr} {j' d : Nat} {As rest ls' : List Value} {M : Mt} {L : Lt} (hX : X.ok) (pc' : Nat) (h : lJ pc i pc' = true) (hk : stdLen i = 3) (hc : callOp 1000 i st (wOf M L) = some (j', As, rest)) (hent : entL j' As = ls') (hla : (layA As).length ≤ mxj j') (hd : d ≤ 100)
    (kk : Wp d j' 0 ls' [] M L (fun rv M' L' => LW X pc' k (rv.toList ++ rest) (wOf M' L'))) : LW X pc k st (wOf M L) := by
  intro H locs A hA hP hS
  obtain ⟨hdc, rfl⟩ := lJ_spec h
  obtain ⟨C, -⟩ := hX
  obtain ⟨n, rv, M', L', hev, k2⟩ := kk
  subst hent
  rw [hk] at hdc k2
  obtain ⟨i0, hi0⟩ := ev_ins hev
  obtain ⟨q, hq⟩ := mt_of hi0
  have e1 : (wOf M' L').length - (wOf M L).length = 0 := by rw [wOf_len, wOf_len, Nat.sub_self]
  have e2 : wsz (wOf M' L') - wsz (wOf M L) = 0 := by rw [wOf_sz (M := M') (L := L') (M' := M) (L' := L), Nat.sub_self]
  have e3 : (wOf M' L').length = (wOf M L).length := by rw [wOf_len, wOf_len]
  have e4 : wsz (wOf M' L') = wsz (wOf M L) := wOf_sz
  have hm := met_of (sim X.l n) hev hla X.s.heap.size X.D X.cs
  rw [e1, e2] at hm
  have hl90 : (wOf M L).length = 90 := by rw [wOf_len, shp_len]
  have hs7 : wsz (wOf M L) ≤ 7000 := by rw [wOf_sz (M' := M0) (L' := L0)]; exact wOf_wsz
  refine sim_call (j := 1000) (d := d) (by rw [owc_law]; exact C) hA.1 hP hS (Nat.le_refl _) rfl hc hdc ?_ ?_ hq hm ?_ ?_ (fun H1 locs1 p1 s1 => ?_)
  · show d + 2 ≤ 2048; omega
  · show 60 * (d + 2) ≤ 84000; omega
  · rw [hl90]; show 90 + 0 ≤ 600000; omega
  · show wsz (wOf M L) + 0 ≤ 7302250; omega
  · rw [Nat.add_zero, Nat.add_zero, ← e3, ← e4]
    exact k2 H1 locs1 A hA p1 s1
def lvB (pc j' n t mx pc' : Nat) : Bool := match lins pc with
  | some (.invokevirtual idx, 3) => decide (calT 11 idx = some (j', 0)) && decide (narg j' = n) && decide (owc j' = t) && decide (mxj j' = mx) && decide (pc' = pc + 3)
  | _ => false
theorem L_callV {r : Nat} {dl : List Nat} {ls' : List Value} {M : Mt} {L : Lt} (hX : X.ok) (j' : Nat) (As rest : List Value) (t mx pc' : Nat) (h : lvB pc j' As.length t mx pc' = true) (hst : st = As.reverse ++ .ref r :: rest) (hs : shp[r]? = some (t, dl)) (hcat : catS rest ≤ 8) (hent : layA (.ref r :: As) ++ List.replicate (mx - (layA (.ref r :: As)).length) .null = ls') (hla : (layA (.ref r :: As)).length ≤ mx)
    (kk : Wp 100 j' 0 ls' [] M L (fun rv M' L' => LW X pc' k (rv.toList ++ rest) (wOf M' L'))) : LW X pc k st (wOf M L) := by
  unfold lvB at h
  split at h
  · rename_i idx hi
    simp only [Bool.and_eq_true, decide_eq_true_eq] at h
    obtain ⟨⟨⟨⟨h1, h2⟩, rfl⟩, rfl⟩, rfl⟩ := h
    subst hst
    refine L_call (i := .invokevirtual idx) hX (pc + 3) ?_ rfl ?_ hent hla (Nat.le_refl _) kk
    · simp [lJ, hi, stdLen]
    · simp only [callOp, owc_law, h1]
      have e1 : (As.reverse ++ Value.ref r :: rest).getD (narg j') .null = .ref r := by rw [h2]; simp [List.getD_eq_getElem?_getD]
      have e2 : (As.reverse ++ Value.ref r :: rest).drop (narg j' + 1) = rest := by rw [h2]; exact dropA
      have e3 : ((As.reverse ++ Value.ref r :: rest).take (narg j' + 1)).reverse = .ref r :: As := by rw [h2]; exact takeA
      rw [e1, e2, e3, if_pos]
      refine ⟨?_, by rw [h2]; simp, hcat⟩
      simp [rcvOk, wOf_get hs]
  · cases h
theorem L_callV0 {r : Nat} {dl : List Nat} {rest : List Value} {M : Mt} {L : Lt} (hX : X.ok) (j' t mx pc' : Nat) (h : lvB pc j' 0 t mx pc' = true) (hs : shp[r]? = some (t, dl)) (hcat : catS rest ≤ 8) (hm : 1 ≤ mx) (kk : Wp 100 j' 0 (.ref r :: List.replicate (mx - 1) .null) [] M L (fun rv M' L' => LW X pc' k (rv.toList ++ rest) (wOf M' L'))) : LW X pc k (.ref r :: rest) (wOf M L) := L_callV hX j' [] rest t mx pc' h rfl hs hcat rfl hm kk
theorem L_callV1 {r : Nat} {dl : List Nat} {rest : List Value} {M : Mt} {L : Lt} {a : Int32} (hX : X.ok) (j' t mx pc' : Nat) (h : lvB pc j' 1 t mx pc' = true) (hs : shp[r]? = some (t, dl)) (hcat : catS rest ≤ 8) (hm : 2 ≤ mx) (kk : Wp 100 j' 0 (.ref r :: .int a :: List.replicate (mx - 2) .null) [] M L (fun rv M' L' => LW X pc' k (rv.toList ++ rest) (wOf M' L'))) : LW X pc k (.int a :: .ref r :: rest) (wOf M L) := L_callV hX j' [.int a] rest t mx pc' h rfl hs hcat rfl hm kk
theorem L_callV2 {r : Nat} {dl : List Nat} {rest : List Value} {M : Mt} {L : Lt} {a b : Int32} (hX : X.ok) (j' t mx pc' : Nat) (h : lvB pc j' 2 t mx pc' = true) (hs : shp[r]? = some (t, dl)) (hcat : catS rest ≤ 8) (hm : 3 ≤ mx) (kk : Wp 100 j' 0 (.ref r :: .int a :: .int b :: List.replicate (mx - 3) .null) [] M L (fun rv M' L' => LW X pc' k (rv.toList ++ rest) (wOf M' L'))) : LW X pc k (.int b :: .int a :: .ref r :: rest) (wOf M L) := L_callV hX j' [.int a, .int b] rest t mx pc' h rfl hs hcat rfl hm kk
theorem L_callV3 {r : Nat} {dl : List Nat} {rest : List Value} {M : Mt} {L : Lt} {a b c : Int32} (hX : X.ok) (j' t mx pc' : Nat) (h : lvB pc j' 3 t mx pc' = true) (hs : shp[r]? = some (t, dl)) (hcat : catS rest ≤ 8) (hm : 4 ≤ mx) (kk : Wp 100 j' 0 (.ref r :: .int a :: .int b :: .int c :: List.replicate (mx - 4) .null) [] M L (fun rv M' L' => LW X pc' k (rv.toList ++ rest) (wOf M' L'))) : LW X pc k (.int c :: .int b :: .int a :: .ref r :: rest) (wOf M L) := L_callV hX j' [.int a, .int b, .int c] rest t mx pc' h rfl hs hcat rfl hm kk
theorem L_callV4 {r : Nat} {dl : List Nat} {rest : List Value} {M : Mt} {L : Lt} {a b c e : Int32} (hX : X.ok) (j' t mx pc' : Nat) (h : lvB pc j' 4 t mx pc' = true) (hs : shp[r]? = some (t, dl)) (hcat : catS rest ≤ 8) (hm : 5 ≤ mx) (kk : Wp 100 j' 0 (.ref r :: .int a :: .int b :: .int c :: .int e :: List.replicate (mx - 5) .null) [] M L (fun rv M' L' => LW X pc' k (rv.toList ++ rest) (wOf M' L'))) : LW X pc k (.int e :: .int c :: .int b :: .int a :: .ref r :: rest) (wOf M L) := L_callV hX j' [.int a, .int b, .int c, .int e] rest t mx pc' h rfl hs hcat rfl hm kk
theorem L_callVL {r : Nat} {dl : List Nat} {rest : List Value} {M : Mt} {L : Lt} {v : Int64} (hX : X.ok) (j' t mx pc' : Nat) (h : lvB pc j' 1 t mx pc' = true) (hs : shp[r]? = some (t, dl)) (hcat : catS rest ≤ 8) (hm : 3 ≤ mx) (kk : Wp 100 j' 0 (.ref r :: .long v :: .null :: List.replicate (mx - 3) .null) [] M L (fun rv M' L' => LW X pc' k (rv.toList ++ rest) (wOf M' L'))) : LW X pc k (.long v :: .ref r :: rest) (wOf M L) := L_callV hX j' [.long v] rest t mx pc' h rfl hs hcat rfl hm kk
/-- the end: 1 -/
theorem L_end {M : Mt} {L : Lt} (hX : X.ok) (h : (lJ pc (.iconst 1) (pc + 1) && lJ (pc + 1) .ireturn (pc + 2)) = true) : LW X pc k [] (wOf M L) := by
  intro H locs A hA hP hS
  simp only [Bool.and_eq_true] at h
  obtain ⟨d1, -⟩ := lJ_spec h.1
  obtain ⟨d2, -⟩ := lJ_spec h.2
  obtain ⟨⟨⟨hx, hb, -, hown, hts⟩, -⟩, hr, hlk, -⟩ := hX
  refine lv_iconst hx hb d1 (v := 1) (by decide) ?_
  refine va_forget hS.2.2 ?_
  have hl90 : (wOf M L).length = 90 := by rw [wOf_len, shp_len]
  have hs7 : wsz (wOf M L) ≤ 7000 := by rw [wOf_sz (M' := M0) (L' := L0)]; exact wOf_wsz
  refine W.widen (k := 600000) (n := 7302250) (by omega) (by omega) ?_
  exact lw_ret hx hb hr hlk d2
/-- the head of the loop -/
theorem L_head (hX : X.ok) (t f : Nat) (h : (lJ pc (.iload_n 3) (pc + 1) && lJ (pc + 1) (.aload_n 0) (pc + 2) && lJ (pc + 2) .arraylength (pc + 3) && lJ (pc + 3) (.iconst 5) (pc + 4) && lJ (pc + 4) .isub (pc + 5) && lBr (pc + 5) (.if_icmp .gt) t f) = true) (hk : k < 2 ^ 20) (k1 : LW X t k [] w) (k2 : k + 5 ≤ X.n → LW X f k [] w) : LW X pc k [] w := by
  intro H locs A hA hP hS
  simp only [Bool.and_eq_true] at h
  obtain ⟨⟨⟨⟨⟨h1, h2⟩, h3⟩, h4⟩, h5⟩, h6⟩ := h
  obtain ⟨d1, -⟩ := lJ_spec h1
  obtain ⟨d2, -⟩ := lJ_spec h2
  obtain ⟨d3, -⟩ := lJ_spec h3
  obtain ⟨d4, -⟩ := lJ_spec h4
  obtain ⟨d5, -⟩ := lJ_spec h5
  obtain ⟨off, d6, ht, rfl⟩ := lBr_spec h6
  obtain ⟨⟨⟨hx, hb, -, hown, hts⟩, -⟩, -, -, hXa, hbl, hn⟩ := hX
  refine lv_iload_n hx hb d1 rfl (lv_at hA 3 rfl) ?_
  refine lv_aload_n hx hb d2 rfl (lv_at hA 0 rfl) ?_
  refine va_slen hx hb hXa hbl (fun z => absurd hbl (Nat.not_lt.mpr z)) hS d3 ?_
  refine lv_iconst hx hb d4 (v := nI 5) (by decide) ?_
  refine lv_isub hx hb d5 ?_
  refine lv_icmp_gt hx hb d6 ht (fun _ => k1 H locs A hA hP hS) (fun hz => k2 ?_ H locs A hA hP hS)
  have h7 := Int32.le_iff_toInt_le.mp (Int32.not_lt.mp hz)
  have e1 : Int32.ofNat X.n = nI X.n := rfl
  rw [e1, nI_toInt (by omega), pk_sub_toInt (by omega) (by omega)] at h7
  omega
/-- the counter's step -/
theorem L_inc (hX : X.ok) (pc' : Nat) (h : lJ pc (.iinc 3 5) pc' = true) (kk : LW X pc' (k + 5) st w) : LW X pc k st w := by
  intro H locs A hA hP hS
  obtain ⟨hd, rfl⟩ := lJ_spec h
  obtain ⟨⟨⟨hx, hb, -, hown, hts⟩, -⟩, -⟩ := hX
  refine lv_iinc (k := 3) (v := nI (k + 5)) (lv' := [(3, .int (nI (k + 5))), (0, .ref X.bS), (1, .ref (X.s.heap.size + 0)), (2, .ref (X.s.heap.size + 76))]) hx hb hd hA rfl ?_ (by decide) rfl (fun A' hA' => kk H locs A' (lv_sub hA' [1, 2, 3, 0] rfl) hP hS)
  have e : Int32.ofInt 5 = nI 5 := by decide
  rw [e, nI_add]
end LawR
