/-! THE LAW: its code in pieces; its cells, its calls -/
def runT (K : aK) (sb tb : List (Nat × aI)) (Q : aR) (S : List Nat) : Nat → aP
  | 0 => wp K tb Q
  | n + 1 => fun pc lo st h c s => match sb.lookup pc with
    | some i => i K (fun pc lo st h c s => match S.contains pc with
      | true => wp K tb Q pc lo st h c s
      | false => runT K sb tb Q S n pc lo st h c s) Q pc lo st h c s
    | none => False
theorem runT_wp {K : aK} {sb tb : List (Nat × aI)} {Q : aR} {S : List Nat} (hs : ∀ pc i, sb.lookup pc = some i → tb.lookup pc = some i) (hm : ∀ e ∈ tb, Mono e.2) (hC : MonoC K.2.2) : ∀ (n : Nat) (pc : Nat) (lo : List (Option Value)) (st : List Value) (h : List aC) (c s : Nat), runT K sb tb Q S n pc lo st h c s → wp K tb Q pc lo st h c s
  | 0, _, _, _, _, _, _, w => w
  | n + 1, pc, lo, st, h, c, s, w => by
    unfold runT at w
    cases e : sb.lookup pc with
    | none => rw [e] at w; exact w.elim
    | some i =>
      rw [e] at w
      have e2 := hs pc i e
      refine wp_step hm hC e2 (hm _ (lookup_mem e2) K _ _ Q Q hC (fun pc lo st h c s z => ?_) (fun _ _ _ _ q => q) _ _ _ _ _ _ w)
      split at z
      · exact z
      · exact runT_wp hs hm hC n _ _ _ _ _ _ z
theorem lk_skip : ∀ {a b : List (Nat × aI)} {pc m : Nat}, (∀ k ∈ a.map (fun q => q.1), k < m) → m ≤ pc → (a ++ b).lookup pc = b.lookup pc
  | [], _, _, _, _, _ => rfl
  | q :: a, b, pc, m, h, hm => by
    obtain ⟨j, i⟩ := q
    have hj : j < m := h j List.mem_cons_self
    rw [List.cons_append, List.lookup_cons]
    have e : (pc == j) = false := by
      have : pc ≠ j := by omega
      simpa using this
    rw [e]
    exact lk_skip (fun k hk => h k (List.mem_cons_of_mem _ hk)) hm
theorem lk_here : ∀ {a b : List (Nat × aI)} {pc : Nat} {i : aI}, a.lookup pc = some i → (a ++ b).lookup pc = some i
  | [], _, _, _, h => by cases h
  | q :: a, b, pc, i, h => by
    obtain ⟨j, i0⟩ := q
    rw [List.cons_append, List.lookup_cons] at *
    by_cases e : (pc == j) = true
    · rw [e] at h ⊢
      exact h
    · have e : (pc == j) = false := by simpa using e
      rw [e] at h ⊢
      exact lk_here h
theorem lk_key {a : List (Nat × aI)} {pc : Nat} {i : aI} (h : a.lookup pc = some i) : pc ∈ a.map (fun q => q.1) := List.mem_map.mpr ⟨(pc, i), lookup_mem h, rfl⟩
def kp_0 (L : Nat) (xs : Nat → Int32) : List (Nat × aI) := [
  (0, i_new 6 8 [.null, .null, .null, .null, .null, .null, .null, .null]),
  (3, i_dup),
  (4, i_init79),
  (7, i_astore 1 1),
  (8, i_new 7 28 [.int 0, .int 0, .null, .int 0, .null, .null, .null, .int 0, .null, .null, .null, .null, .int 0, .int 0, .int 0, .int 0, .null, .null, .null, .null, .null, .null, .int 0, .null, .null, .null, .null, .int 0]),
  (11, i_dup),
  (12, i_callI 120 1),
  (15, i_astore 2 1),
  (16, i_push (.int 0) 1),
  (17, i_istore 3 1),
  (18, i_iload 3 1),
  (19, i_aload 0 1),
  (20, (i_slenL L)),
  (21, i_push (.int 6) 2),
  (23, i_bin (fun x y => x - y)),
  (24, i_icmp (fun x y => y < x) 1031 27),
  (27, i_aload 0 1),
  (28, i_iload 3 1),
  (29, (i_sld L xs)),
  (30, i_push (.int 31) 2),
  (32, i_bin (fun x y => x &&& y)),
  (33, i_tsw 0 30 [172, 195, 208, 221, 234, 267, 300, 323, 346, 389, 412, 435, 458, 491, 504, 547, 580, 593, 616, 649, 682, 715, 768, 781, 804, 827, 870, 933, 976, 989, 1002] 1025)]
def kp_1 (L : Nat) (xs : Nat → Int32) : List (Nat × aI) := [
  (172, i_aload 1 1),
  (173, i_aload 0 1),
  (174, i_iload 3 1),
  (175, i_push (.int 1) 1),
  (176, i_bin (fun x y => x + y)),
  (177, (i_sld L xs)),
  (178, i_callV 80 2 6),
  (181, i_aload 2 1),
  (182, i_aload 0 1),
  (183, i_iload 3 1),
  (184, i_push (.int 1) 1),
  (185, i_bin (fun x y => x + y)),
  (186, (i_sld L xs)),
  (187, i_callV 124 2 7),
  (190, i_icmp (fun x y => x = y) 1025 193),
  (193, i_push (.int 0) 1),
  (194, i_zret)]
def kp_2 (L : Nat) (xs : Nat → Int32) : List (Nat × aI) := [
  (195, i_aload 1 1),
  (196, i_callV 81 1 6),
  (199, i_aload 2 1),
  (200, i_callV 125 1 7),
  (203, i_icmp (fun x y => x = y) 1025 206),
  (206, i_push (.int 0) 1),
  (207, i_zret)]
def kp_3 (L : Nat) (xs : Nat → Int32) : List (Nat × aI) := [
  (208, i_aload 1 1),
  (209, i_callV 82 1 6),
  (212, i_aload 2 1),
  (213, i_callV 133 1 7),
  (216, i_icmp (fun x y => x = y) 1025 219),
  (219, i_push (.int 0) 1),
  (220, i_zret)]
def kp_4 (L : Nat) (xs : Nat → Int32) : List (Nat × aI) := [
  (221, i_aload 1 1),
  (222, i_callV 83 1 6),
  (225, i_aload 2 1),
  (226, i_callV 134 1 7),
  (229, i_icmp (fun x y => x = y) 1025 232),
  (232, i_push (.int 0) 1),
  (233, i_zret)]
def kp_5 (L : Nat) (xs : Nat → Int32) : List (Nat × aI) := [
  (234, i_aload 1 1),
  (235, i_aload 0 1),
  (236, i_iload 3 1),
  (237, i_push (.int 1) 1),
  (238, i_bin (fun x y => x + y)),
  (239, (i_sld L xs)),
  (240, i_aload 0 1),
  (241, i_iload 3 1),
  (242, i_push (.int 2) 1),
  (243, i_bin (fun x y => x + y)),
  (244, (i_sld L xs)),
  (245, i_callV 84 3 6),
  (248, i_aload 2 1),
  (249, i_aload 0 1),
  (250, i_iload 3 1),
  (251, i_push (.int 1) 1),
  (252, i_bin (fun x y => x + y)),
  (253, (i_sld L xs)),
  (254, i_aload 0 1),
  (255, i_iload 3 1),
  (256, i_push (.int 2) 1),
  (257, i_bin (fun x y => x + y)),
  (258, (i_sld L xs)),
  (259, i_callV 135 3 7),
  (262, i_icmp (fun x y => x = y) 1025 265),
  (265, i_push (.int 0) 1),
  (266, i_zret)]
def kp_6 (L : Nat) (xs : Nat → Int32) : List (Nat × aI) := [
  (267, i_aload 1 1),
  (268, i_aload 0 1),
  (269, i_iload 3 1),
  (270, i_push (.int 1) 1),
  (271, i_bin (fun x y => x + y)),
  (272, (i_sld L xs)),
  (273, i_aload 0 1),
  (274, i_iload 3 1),
  (275, i_push (.int 2) 1),
  (276, i_bin (fun x y => x + y)),
  (277, (i_sld L xs)),
  (278, i_callV 85 3 6),
  (281, i_aload 2 1),
  (282, i_aload 0 1),
  (283, i_iload 3 1),
  (284, i_push (.int 1) 1),
  (285, i_bin (fun x y => x + y)),
  (286, (i_sld L xs)),
  (287, i_aload 0 1),
  (288, i_iload 3 1),
  (289, i_push (.int 2) 1),
  (290, i_bin (fun x y => x + y)),
  (291, (i_sld L xs)),
  (292, i_callV 136 3 7),
  (295, i_icmp (fun x y => x = y) 1025 298),
  (298, i_push (.int 0) 1),
  (299, i_zret)]
def kp_7 (L : Nat) (xs : Nat → Int32) : List (Nat × aI) := [
  (300, i_aload 1 1),
  (301, i_aload 0 1),
  (302, i_iload 3 1),
  (303, i_push (.int 1) 1),
  (304, i_bin (fun x y => x + y)),
  (305, (i_sld L xs)),
  (306, i_callV 86 2 6),
  (309, i_aload 2 1),
  (310, i_aload 0 1),
  (311, i_iload 3 1),
  (312, i_push (.int 1) 1),
  (313, i_bin (fun x y => x + y)),
  (314, (i_sld L xs)),
  (315, i_callV 137 2 7),
  (318, i_icmp (fun x y => x = y) 1025 321),
  (321, i_push (.int 0) 1),
  (322, i_zret)]
def kp_8 (L : Nat) (xs : Nat → Int32) : List (Nat × aI) := [
  (323, i_aload 1 1),
  (324, i_aload 0 1),
  (325, i_iload 3 1),
  (326, i_push (.int 1) 1),
  (327, i_bin (fun x y => x + y)),
  (328, (i_sld L xs)),
  (329, i_callV 87 2 6),
  (332, i_aload 2 1),
  (333, i_aload 0 1),
  (334, i_iload 3 1),
  (335, i_push (.int 1) 1),
  (336, i_bin (fun x y => x + y)),
  (337, (i_sld L xs)),
  (338, i_callV 147 2 7),
  (341, i_icmp (fun x y => x = y) 1025 344),
  (344, i_push (.int 0) 1),
  (345, i_zret)]
def kp_9 (L : Nat) (xs : Nat → Int32) : List (Nat × aI) := [
  (346, i_aload 1 1),
  (347, i_aload 0 1),
  (348, i_iload 3 1),
  (349, i_push (.int 1) 1),
  (350, i_bin (fun x y => x + y)),
  (351, (i_sld L xs)),
  (352, i_aload 0 1),
  (353, i_iload 3 1),
  (354, i_push (.int 2) 1),
  (355, i_bin (fun x y => x + y)),
  (356, (i_sld L xs)),
  (357, i_aload 0 1),
  (358, i_iload 3 1),
  (359, i_push (.int 3) 1),
  (360, i_bin (fun x y => x + y)),
  (361, (i_sld L xs)),
  (362, i_callV 88 4 6),
  (365, i_aload 2 1),
  (366, i_aload 0 1),
  (367, i_iload 3 1),
  (368, i_push (.int 1) 1),
  (369, i_bin (fun x y => x + y)),
  (370, (i_sld L xs)),
  (371, i_aload 0 1),
  (372, i_iload 3 1),
  (373, i_push (.int 2) 1),
  (374, i_bin (fun x y => x + y)),
  (375, (i_sld L xs)),
  (376, i_aload 0 1),
  (377, i_iload 3 1),
  (378, i_push (.int 3) 1),
  (379, i_bin (fun x y => x + y)),
  (380, (i_sld L xs)),
  (381, i_callV 148 4 7),
  (384, i_icmp (fun x y => x = y) 1025 387),
  (387, i_push (.int 0) 1),
  (388, i_zret)]
def kp_10 (L : Nat) (xs : Nat → Int32) : List (Nat × aI) := [
  (389, i_aload 1 1),
  (390, i_aload 0 1),
  (391, i_iload 3 1),
  (392, i_push (.int 1) 1),
  (393, i_bin (fun x y => x + y)),
  (394, (i_sld L xs)),
  (395, i_callV 89 2 6),
  (398, i_aload 2 1),
  (399, i_aload 0 1),
  (400, i_iload 3 1),
  (401, i_push (.int 1) 1),
  (402, i_bin (fun x y => x + y)),
  (403, (i_sld L xs)),
  (404, i_callV 150 2 7),
  (407, i_icmp (fun x y => x = y) 1025 410),
  (410, i_push (.int 0) 1),
  (411, i_zret)]
def kp_11 (L : Nat) (xs : Nat → Int32) : List (Nat × aI) := [
  (412, i_aload 1 1),
  (413, i_aload 0 1),
  (414, i_iload 3 1),
  (415, i_push (.int 1) 1),
  (416, i_bin (fun x y => x + y)),
  (417, (i_sld L xs)),
  (418, i_callV 90 2 6),
  (421, i_aload 2 1),
  (422, i_aload 0 1),
  (423, i_iload 3 1),
  (424, i_push (.int 1) 1),
  (425, i_bin (fun x y => x + y)),
  (426, (i_sld L xs)),
  (427, i_callV 152 2 7),
  (430, i_icmp (fun x y => x = y) 1025 433),
  (433, i_push (.int 0) 1),
  (434, i_zret)]
def kp_12 (L : Nat) (xs : Nat → Int32) : List (Nat × aI) := [
  (435, i_aload 1 1),
  (436, i_aload 0 1),
  (437, i_iload 3 1),
  (438, i_push (.int 1) 1),
  (439, i_bin (fun x y => x + y)),
  (440, (i_sld L xs)),
  (441, i_callV 91 2 6),
  (444, i_aload 2 1),
  (445, i_aload 0 1),
  (446, i_iload 3 1),
  (447, i_push (.int 1) 1),
  (448, i_bin (fun x y => x + y)),
  (449, (i_sld L xs)),
  (450, i_callV 153 2 7),
  (453, i_icmp (fun x y => x = y) 1025 456),
  (456, i_push (.int 0) 1),
  (457, i_zret)]
def kp_13 (L : Nat) (xs : Nat → Int32) : List (Nat × aI) := [
  (458, i_aload 1 1),
  (459, i_aload 0 1),
  (460, i_iload 3 1),
  (461, i_push (.int 1) 1),
  (462, i_bin (fun x y => x + y)),
  (463, (i_sld L xs)),
  (464, i_aload 0 1),
  (465, i_iload 3 1),
  (466, i_push (.int 2) 1),
  (467, i_bin (fun x y => x + y)),
  (468, (i_sld L xs)),
  (469, i_callV 92 3 6),
  (472, i_aload 2 1),
  (473, i_aload 0 1),
  (474, i_iload 3 1),
  (475, i_push (.int 1) 1),
  (476, i_bin (fun x y => x + y)),
  (477, (i_sld L xs)),
  (478, i_aload 0 1),
  (479, i_iload 3 1),
  (480, i_push (.int 2) 1),
  (481, i_bin (fun x y => x + y)),
  (482, (i_sld L xs)),
  (483, i_callV 154 3 7),
  (486, i_icmp (fun x y => x = y) 1025 489),
  (489, i_push (.int 0) 1),
  (490, i_zret)]
def kp_14 (L : Nat) (xs : Nat → Int32) : List (Nat × aI) := [
  (491, i_aload 1 1),
  (492, i_callV 93 1 6),
  (495, i_aload 2 1),
  (496, i_callV 155 1 7),
  (499, i_icmp (fun x y => x = y) 1025 502),
  (502, i_push (.int 0) 1),
  (503, i_zret)]
def kp_15 (L : Nat) (xs : Nat → Int32) : List (Nat × aI) := [
  (504, i_aload 1 1),
  (505, i_aload 0 1),
  (506, i_iload 3 1),
  (507, i_push (.int 1) 1),
  (508, i_bin (fun x y => x + y)),
  (509, (i_sld L xs)),
  (510, i_aload 0 1),
  (511, i_iload 3 1),
  (512, i_push (.int 2) 1),
  (513, i_bin (fun x y => x + y)),
  (514, (i_sld L xs)),
  (515, i_aload 0 1),
  (516, i_iload 3 1),
  (517, i_push (.int 3) 1),
  (518, i_bin (fun x y => x + y)),
  (519, (i_sld L xs)),
  (520, i_callV 94 4 6),
  (523, i_aload 2 1),
  (524, i_aload 0 1),
  (525, i_iload 3 1),
  (526, i_push (.int 1) 1),
  (527, i_bin (fun x y => x + y)),
  (528, (i_sld L xs)),
  (529, i_aload 0 1),
  (530, i_iload 3 1),
  (531, i_push (.int 2) 1),
  (532, i_bin (fun x y => x + y)),
  (533, (i_sld L xs)),
  (534, i_aload 0 1),
  (535, i_iload 3 1),
  (536, i_push (.int 3) 1),
  (537, i_bin (fun x y => x + y)),
  (538, (i_sld L xs)),
  (539, i_callV 158 4 7),
  (542, i_icmp (fun x y => x = y) 1025 545),
  (545, i_push (.int 0) 1),
  (546, i_zret)]
def kp_16 (L : Nat) (xs : Nat → Int32) : List (Nat × aI) := [
  (547, i_aload 1 1),
  (548, i_aload 0 1),
  (549, i_iload 3 1),
  (550, i_push (.int 1) 1),
  (551, i_bin (fun x y => x + y)),
  (552, (i_sld L xs)),
  (553, i_aload 0 1),
  (554, i_iload 3 1),
  (555, i_push (.int 2) 1),
  (556, i_bin (fun x y => x + y)),
  (557, (i_sld L xs)),
  (558, i_callV 95 3 6),
  (561, i_aload 2 1),
  (562, i_aload 0 1),
  (563, i_iload 3 1),
  (564, i_push (.int 1) 1),
  (565, i_bin (fun x y => x + y)),
  (566, (i_sld L xs)),
  (567, i_aload 0 1),
  (568, i_iload 3 1),
  (569, i_push (.int 2) 1),
  (570, i_bin (fun x y => x + y)),
  (571, (i_sld L xs)),
  (572, i_callV 159 3 7),
  (575, i_icmp (fun x y => x = y) 1025 578),
  (578, i_push (.int 0) 1),
  (579, i_zret)]
def kp_17 (L : Nat) (xs : Nat → Int32) : List (Nat × aI) := [
  (580, i_aload 1 1),
  (581, i_callV 96 1 6),
  (584, i_aload 2 1),
  (585, i_callV 160 1 7),
  (588, i_icmp (fun x y => x = y) 1025 591),
  (591, i_push (.int 0) 1),
  (592, i_zret)]
def kp_18 (L : Nat) (xs : Nat → Int32) : List (Nat × aI) := [
  (593, i_aload 1 1),
  (594, i_aload 0 1),
  (595, i_iload 3 1),
  (596, i_push (.int 1) 1),
  (597, i_bin (fun x y => x + y)),
  (598, (i_sld L xs)),
  (599, i_callV 97 2 6),
  (602, i_aload 2 1),
  (603, i_aload 0 1),
  (604, i_iload 3 1),
  (605, i_push (.int 1) 1),
  (606, i_bin (fun x y => x + y)),
  (607, (i_sld L xs)),
  (608, i_callV 162 2 7),
  (611, i_icmp (fun x y => x = y) 1025 614),
  (614, i_push (.int 0) 1),
  (615, i_zret)]
def kp_19 (L : Nat) (xs : Nat → Int32) : List (Nat × aI) := [
  (616, i_aload 1 1),
  (617, i_aload 0 1),
  (618, i_iload 3 1),
  (619, i_push (.int 1) 1),
  (620, i_bin (fun x y => x + y)),
  (621, (i_sld L xs)),
  (622, i_aload 0 1),
  (623, i_iload 3 1),
  (624, i_push (.int 2) 1),
  (625, i_bin (fun x y => x + y)),
  (626, (i_sld L xs)),
  (627, i_callV 98 3 6),
  (630, i_aload 2 1),
  (631, i_aload 0 1),
  (632, i_iload 3 1),
  (633, i_push (.int 1) 1),
  (634, i_bin (fun x y => x + y)),
  (635, (i_sld L xs)),
  (636, i_aload 0 1),
  (637, i_iload 3 1),
  (638, i_push (.int 2) 1),
  (639, i_bin (fun x y => x + y)),
  (640, (i_sld L xs)),
  (641, i_callV 164 3 7),
  (644, i_icmp (fun x y => x = y) 1025 647),
  (647, i_push (.int 0) 1),
  (648, i_zret)]
def kp_20 (L : Nat) (xs : Nat → Int32) : List (Nat × aI) := [
  (649, i_aload 1 1),
  (650, i_aload 0 1),
  (651, i_iload 3 1),
  (652, i_push (.int 1) 1),
  (653, i_bin (fun x y => x + y)),
  (654, (i_sld L xs)),
  (655, i_aload 0 1),
  (656, i_iload 3 1),
  (657, i_push (.int 2) 1),
  (658, i_bin (fun x y => x + y)),
  (659, (i_sld L xs)),
  (660, i_callV 99 3 6),
  (663, i_aload 2 1),
  (664, i_aload 0 1),
  (665, i_iload 3 1),
  (666, i_push (.int 1) 1),
  (667, i_bin (fun x y => x + y)),
  (668, (i_sld L xs)),
  (669, i_aload 0 1),
  (670, i_iload 3 1),
  (671, i_push (.int 2) 1),
  (672, i_bin (fun x y => x + y)),
  (673, (i_sld L xs)),
  (674, i_callV 165 3 7),
  (677, i_icmp (fun x y => x = y) 1025 680),
  (680, i_push (.int 0) 1),
  (681, i_zret)]
def kp_21 (L : Nat) (xs : Nat → Int32) : List (Nat × aI) := [
  (682, i_aload 1 1),
  (683, i_aload 0 1),
  (684, i_iload 3 1),
  (685, i_push (.int 1) 1),
  (686, i_bin (fun x y => x + y)),
  (687, (i_sld L xs)),
  (688, i_aload 0 1),
  (689, i_iload 3 1),
  (690, i_push (.int 2) 1),
  (691, i_bin (fun x y => x + y)),
  (692, (i_sld L xs)),
  (693, i_callV 100 3 6),
  (696, i_aload 2 1),
  (697, i_aload 0 1),
  (698, i_iload 3 1),
  (699, i_push (.int 1) 1),
  (700, i_bin (fun x y => x + y)),
  (701, (i_sld L xs)),
  (702, i_aload 0 1),
  (703, i_iload 3 1),
  (704, i_push (.int 2) 1),
  (705, i_bin (fun x y => x + y)),
  (706, (i_sld L xs)),
  (707, i_callV 166 3 7),
  (710, i_icmp (fun x y => x = y) 1025 713),
  (713, i_push (.int 0) 1),
  (714, i_zret)]
def kp_22 (L : Nat) (xs : Nat → Int32) : List (Nat × aI) := [
  (715, i_aload 1 1),
  (716, i_aload 0 1),
  (717, i_iload 3 1),
  (718, i_push (.int 1) 1),
  (719, i_bin (fun x y => x + y)),
  (720, (i_sld L xs)),
  (721, i_aload 0 1),
  (722, i_iload 3 1),
  (723, i_push (.int 2) 1),
  (724, i_bin (fun x y => x + y)),
  (725, (i_sld L xs)),
  (726, i_aload 0 1),
  (727, i_iload 3 1),
  (728, i_push (.int 3) 1),
  (729, i_bin (fun x y => x + y)),
  (730, (i_sld L xs)),
  (731, i_aload 0 1),
  (732, i_iload 3 1),
  (733, i_push (.int 4) 1),
  (734, i_bin (fun x y => x + y)),
  (735, (i_sld L xs)),
  (736, i_callV 101 5 6),
  (739, i_aload 2 1),
  (740, i_aload 0 1),
  (741, i_iload 3 1),
  (742, i_push (.int 1) 1),
  (743, i_bin (fun x y => x + y)),
  (744, (i_sld L xs)),
  (745, i_aload 0 1),
  (746, i_iload 3 1),
  (747, i_push (.int 2) 1),
  (748, i_bin (fun x y => x + y)),
  (749, (i_sld L xs)),
  (750, i_aload 0 1),
  (751, i_iload 3 1),
  (752, i_push (.int 3) 1),
  (753, i_bin (fun x y => x + y)),
  (754, (i_sld L xs)),
  (755, i_aload 0 1),
  (756, i_iload 3 1),
  (757, i_push (.int 4) 1),
  (758, i_bin (fun x y => x + y)),
  (759, (i_sld L xs)),
  (760, i_callV 167 5 7),
  (763, i_icmp (fun x y => x = y) 1025 766),
  (766, i_push (.int 0) 1),
  (767, i_zret)]
def kp_23 (L : Nat) (xs : Nat → Int32) : List (Nat × aI) := [
  (768, i_aload 1 1),
  (769, i_callV 102 1 6),
  (772, i_aload 2 1),
  (773, i_callV 168 1 7),
  (776, i_icmp (fun x y => x = y) 1025 779),
  (779, i_push (.int 0) 1),
  (780, i_zret)]
def kp_24 (L : Nat) (xs : Nat → Int32) : List (Nat × aI) := [
  (781, i_aload 1 1),
  (782, i_aload 0 1),
  (783, i_iload 3 1),
  (784, i_push (.int 1) 1),
  (785, i_bin (fun x y => x + y)),
  (786, (i_sld L xs)),
  (787, i_callV 103 2 6),
  (790, i_aload 2 1),
  (791, i_aload 0 1),
  (792, i_iload 3 1),
  (793, i_push (.int 1) 1),
  (794, i_bin (fun x y => x + y)),
  (795, (i_sld L xs)),
  (796, i_callV 170 2 7),
  (799, i_icmp (fun x y => x = y) 1025 802),
  (802, i_push (.int 0) 1),
  (803, i_zret)]
def kp_25 (L : Nat) (xs : Nat → Int32) : List (Nat × aI) := [
  (804, i_aload 1 1),
  (805, i_aload 0 1),
  (806, i_iload 3 1),
  (807, i_push (.int 1) 1),
  (808, i_bin (fun x y => x + y)),
  (809, (i_sld L xs)),
  (810, i_callV 104 2 6),
  (813, i_aload 2 1),
  (814, i_aload 0 1),
  (815, i_iload 3 1),
  (816, i_push (.int 1) 1),
  (817, i_bin (fun x y => x + y)),
  (818, (i_sld L xs)),
  (819, i_callV 171 2 7),
  (822, i_icmp (fun x y => x = y) 1025 825),
  (825, i_push (.int 0) 1),
  (826, i_zret)]
def kp_26 (L : Nat) (xs : Nat → Int32) : List (Nat × aI) := [
  (827, i_aload 1 1),
  (828, i_aload 0 1),
  (829, i_iload 3 1),
  (830, i_push (.int 1) 1),
  (831, i_bin (fun x y => x + y)),
  (832, (i_sld L xs)),
  (833, i_aload 0 1),
  (834, i_iload 3 1),
  (835, i_push (.int 2) 1),
  (836, i_bin (fun x y => x + y)),
  (837, (i_sld L xs)),
  (838, i_aload 0 1),
  (839, i_iload 3 1),
  (840, i_push (.int 3) 1),
  (841, i_bin (fun x y => x + y)),
  (842, (i_sld L xs)),
  (843, i_callV 105 4 6),
  (846, i_aload 2 1),
  (847, i_aload 0 1),
  (848, i_iload 3 1),
  (849, i_push (.int 1) 1),
  (850, i_bin (fun x y => x + y)),
  (851, (i_sld L xs)),
  (852, i_aload 0 1),
  (853, i_iload 3 1),
  (854, i_push (.int 2) 1),
  (855, i_bin (fun x y => x + y)),
  (856, (i_sld L xs)),
  (857, i_aload 0 1),
  (858, i_iload 3 1),
  (859, i_push (.int 3) 1),
  (860, i_bin (fun x y => x + y)),
  (861, (i_sld L xs)),
  (862, i_callV 174 4 7),
  (865, i_icmp (fun x y => x = y) 1025 868),
  (868, i_push (.int 0) 1),
  (869, i_zret)]
def kp_27 (L : Nat) (xs : Nat → Int32) : List (Nat × aI) := [
  (870, i_aload 1 1),
  (871, i_aload 0 1),
  (872, i_iload 3 1),
  (873, i_push (.int 1) 1),
  (874, i_bin (fun x y => x + y)),
  (875, (i_sld L xs)),
  (876, i_aload 0 1),
  (877, i_iload 3 1),
  (878, i_push (.int 2) 1),
  (879, i_bin (fun x y => x + y)),
  (880, (i_sld L xs)),
  (881, i_aload 0 1),
  (882, i_iload 3 1),
  (883, i_push (.int 3) 1),
  (884, i_bin (fun x y => x + y)),
  (885, (i_sld L xs)),
  (886, i_aload 0 1),
  (887, i_iload 3 1),
  (888, i_push (.int 4) 1),
  (889, i_bin (fun x y => x + y)),
  (890, (i_sld L xs)),
  (891, i_aload 0 1),
  (892, i_iload 3 1),
  (893, i_push (.int 5) 1),
  (894, i_bin (fun x y => x + y)),
  (895, (i_sld L xs)),
  (896, i_callV 106 6 6),
  (899, i_aload 2 1),
  (900, i_aload 0 1),
  (901, i_iload 3 1),
  (902, i_push (.int 1) 1),
  (903, i_bin (fun x y => x + y)),
  (904, (i_sld L xs)),
  (905, i_aload 0 1),
  (906, i_iload 3 1),
  (907, i_push (.int 2) 1),
  (908, i_bin (fun x y => x + y)),
  (909, (i_sld L xs)),
  (910, i_aload 0 1),
  (911, i_iload 3 1),
  (912, i_push (.int 3) 1),
  (913, i_bin (fun x y => x + y)),
  (914, (i_sld L xs)),
  (915, i_aload 0 1),
  (916, i_iload 3 1),
  (917, i_push (.int 4) 1),
  (918, i_bin (fun x y => x + y)),
  (919, (i_sld L xs)),
  (920, i_aload 0 1),
  (921, i_iload 3 1),
  (922, i_push (.int 5) 1),
  (923, i_bin (fun x y => x + y)),
  (924, (i_sld L xs)),
  (925, i_callV 176 6 7),
  (928, i_icmp (fun x y => x = y) 1025 931),
  (931, i_push (.int 0) 1),
  (932, i_zret)]
def kp_28 (L : Nat) (xs : Nat → Int32) : List (Nat × aI) := [
  (933, i_aload 1 1),
  (934, i_aload 0 1),
  (935, i_iload 3 1),
  (936, i_push (.int 1) 1),
  (937, i_bin (fun x y => x + y)),
  (938, (i_sld L xs)),
  (939, i_aload 0 1),
  (940, i_iload 3 1),
  (941, i_push (.int 2) 1),
  (942, i_bin (fun x y => x + y)),
  (943, (i_sld L xs)),
  (944, i_aload 0 1),
  (945, i_iload 3 1),
  (946, i_push (.int 3) 1),
  (947, i_bin (fun x y => x + y)),
  (948, (i_sld L xs)),
  (949, i_callV 107 4 6),
  (952, i_aload 2 1),
  (953, i_aload 0 1),
  (954, i_iload 3 1),
  (955, i_push (.int 1) 1),
  (956, i_bin (fun x y => x + y)),
  (957, (i_sld L xs)),
  (958, i_aload 0 1),
  (959, i_iload 3 1),
  (960, i_push (.int 2) 1),
  (961, i_bin (fun x y => x + y)),
  (962, (i_sld L xs)),
  (963, i_aload 0 1),
  (964, i_iload 3 1),
  (965, i_push (.int 3) 1),
  (966, i_bin (fun x y => x + y)),
  (967, (i_sld L xs)),
  (968, i_callV 177 4 7),
  (971, i_icmp (fun x y => x = y) 1025 974),
  (974, i_push (.int 0) 1),
  (975, i_zret)]
def kp_29 (L : Nat) (xs : Nat → Int32) : List (Nat × aI) := [
  (976, i_aload 1 1),
  (977, i_callV 108 1 6),
  (980, i_aload 2 1),
  (981, i_callV 178 1 7),
  (984, i_icmp (fun x y => x = y) 1025 987),
  (987, i_push (.int 0) 1),
  (988, i_zret)]
def kp_30 (L : Nat) (xs : Nat → Int32) : List (Nat × aI) := [
  (989, i_aload 1 1),
  (990, i_callV 109 1 6),
  (993, i_aload 2 1),
  (994, i_callV 179 1 7),
  (997, i_icmp (fun x y => x = y) 1025 1000),
  (1000, i_push (.int 0) 1),
  (1001, i_zret)]
def kp_31 (L : Nat) (xs : Nat → Int32) : List (Nat × aI) := [
  (1002, i_aload 1 1),
  (1003, i_aload 0 1),
  (1004, i_iload 3 1),
  (1005, i_push (.int 1) 1),
  (1006, i_bin (fun x y => x + y)),
  (1007, (i_sld L xs)),
  (1008, i_callV 110 2 6),
  (1011, i_aload 2 1),
  (1012, i_aload 0 1),
  (1013, i_iload 3 1),
  (1014, i_push (.int 1) 1),
  (1015, i_bin (fun x y => x + y)),
  (1016, (i_sld L xs)),
  (1017, i_callV 180 2 7),
  (1020, i_icmp (fun x y => x = y) 1025 1023),
  (1023, i_push (.int 0) 1),
  (1024, i_zret)]
def kp_32 (L : Nat) (xs : Nat → Int32) : List (Nat × aI) := [
  (1025, i_iinc 3 6),
  (1028, i_goto 18),
  (1031, i_push (.int 1) 1),
  (1032, i_zret)]
theorem ka_0 (L : Nat) (xs : Nat → Int32) : (∀ k ∈ (kp_0 L xs).map (fun q => q.1), 0 ≤ k) ∧ ∀ k ∈ (kp_0 L xs).map (fun q => q.1), k < 172 := by
  show (∀ k ∈ ([0, 3, 4, 7, 8, 11, 12, 15, 16, 17, 18, 19, 20, 21, 23, 24, 27, 28, 29, 30, 32, 33] : List Nat), 0 ≤ k) ∧ ∀ k ∈ ([0, 3, 4, 7, 8, 11, 12, 15, 16, 17, 18, 19, 20, 21, 23, 24, 27, 28, 29, 30, 32, 33] : List Nat), k < 172
  decide
theorem ka_1 (L : Nat) (xs : Nat → Int32) : (∀ k ∈ (kp_1 L xs).map (fun q => q.1), 172 ≤ k) ∧ ∀ k ∈ (kp_1 L xs).map (fun q => q.1), k < 195 := by
  show (∀ k ∈ ([172, 173, 174, 175, 176, 177, 178, 181, 182, 183, 184, 185, 186, 187, 190, 193, 194] : List Nat), 172 ≤ k) ∧ ∀ k ∈ ([172, 173, 174, 175, 176, 177, 178, 181, 182, 183, 184, 185, 186, 187, 190, 193, 194] : List Nat), k < 195
  decide
theorem ka_2 (L : Nat) (xs : Nat → Int32) : (∀ k ∈ (kp_2 L xs).map (fun q => q.1), 195 ≤ k) ∧ ∀ k ∈ (kp_2 L xs).map (fun q => q.1), k < 208 := by
  show (∀ k ∈ ([195, 196, 199, 200, 203, 206, 207] : List Nat), 195 ≤ k) ∧ ∀ k ∈ ([195, 196, 199, 200, 203, 206, 207] : List Nat), k < 208
  decide
theorem ka_3 (L : Nat) (xs : Nat → Int32) : (∀ k ∈ (kp_3 L xs).map (fun q => q.1), 208 ≤ k) ∧ ∀ k ∈ (kp_3 L xs).map (fun q => q.1), k < 221 := by
  show (∀ k ∈ ([208, 209, 212, 213, 216, 219, 220] : List Nat), 208 ≤ k) ∧ ∀ k ∈ ([208, 209, 212, 213, 216, 219, 220] : List Nat), k < 221
  decide
theorem ka_4 (L : Nat) (xs : Nat → Int32) : (∀ k ∈ (kp_4 L xs).map (fun q => q.1), 221 ≤ k) ∧ ∀ k ∈ (kp_4 L xs).map (fun q => q.1), k < 234 := by
  show (∀ k ∈ ([221, 222, 225, 226, 229, 232, 233] : List Nat), 221 ≤ k) ∧ ∀ k ∈ ([221, 222, 225, 226, 229, 232, 233] : List Nat), k < 234
  decide
theorem ka_5 (L : Nat) (xs : Nat → Int32) : (∀ k ∈ (kp_5 L xs).map (fun q => q.1), 234 ≤ k) ∧ ∀ k ∈ (kp_5 L xs).map (fun q => q.1), k < 267 := by
  show (∀ k ∈ ([234, 235, 236, 237, 238, 239, 240, 241, 242, 243, 244, 245, 248, 249, 250, 251, 252, 253, 254, 255, 256, 257, 258, 259, 262, 265, 266] : List Nat), 234 ≤ k) ∧ ∀ k ∈ ([234, 235, 236, 237, 238, 239, 240, 241, 242, 243, 244, 245, 248, 249, 250, 251, 252, 253, 254, 255, 256, 257, 258, 259, 262, 265, 266] : List Nat), k < 267
  decide
theorem ka_6 (L : Nat) (xs : Nat → Int32) : (∀ k ∈ (kp_6 L xs).map (fun q => q.1), 267 ≤ k) ∧ ∀ k ∈ (kp_6 L xs).map (fun q => q.1), k < 300 := by
  show (∀ k ∈ ([267, 268, 269, 270, 271, 272, 273, 274, 275, 276, 277, 278, 281, 282, 283, 284, 285, 286, 287, 288, 289, 290, 291, 292, 295, 298, 299] : List Nat), 267 ≤ k) ∧ ∀ k ∈ ([267, 268, 269, 270, 271, 272, 273, 274, 275, 276, 277, 278, 281, 282, 283, 284, 285, 286, 287, 288, 289, 290, 291, 292, 295, 298, 299] : List Nat), k < 300
  decide
theorem ka_7 (L : Nat) (xs : Nat → Int32) : (∀ k ∈ (kp_7 L xs).map (fun q => q.1), 300 ≤ k) ∧ ∀ k ∈ (kp_7 L xs).map (fun q => q.1), k < 323 := by
  show (∀ k ∈ ([300, 301, 302, 303, 304, 305, 306, 309, 310, 311, 312, 313, 314, 315, 318, 321, 322] : List Nat), 300 ≤ k) ∧ ∀ k ∈ ([300, 301, 302, 303, 304, 305, 306, 309, 310, 311, 312, 313, 314, 315, 318, 321, 322] : List Nat), k < 323
  decide
theorem ka_8 (L : Nat) (xs : Nat → Int32) : (∀ k ∈ (kp_8 L xs).map (fun q => q.1), 323 ≤ k) ∧ ∀ k ∈ (kp_8 L xs).map (fun q => q.1), k < 346 := by
  show (∀ k ∈ ([323, 324, 325, 326, 327, 328, 329, 332, 333, 334, 335, 336, 337, 338, 341, 344, 345] : List Nat), 323 ≤ k) ∧ ∀ k ∈ ([323, 324, 325, 326, 327, 328, 329, 332, 333, 334, 335, 336, 337, 338, 341, 344, 345] : List Nat), k < 346
  decide
theorem ka_9 (L : Nat) (xs : Nat → Int32) : (∀ k ∈ (kp_9 L xs).map (fun q => q.1), 346 ≤ k) ∧ ∀ k ∈ (kp_9 L xs).map (fun q => q.1), k < 389 := by
  show (∀ k ∈ ([346, 347, 348, 349, 350, 351, 352, 353, 354, 355, 356, 357, 358, 359, 360, 361, 362, 365, 366, 367, 368, 369, 370, 371, 372, 373, 374, 375, 376, 377, 378, 379, 380, 381, 384, 387, 388] : List Nat), 346 ≤ k) ∧ ∀ k ∈ ([346, 347, 348, 349, 350, 351, 352, 353, 354, 355, 356, 357, 358, 359, 360, 361, 362, 365, 366, 367, 368, 369, 370, 371, 372, 373, 374, 375, 376, 377, 378, 379, 380, 381, 384, 387, 388] : List Nat), k < 389
  decide
theorem ka_10 (L : Nat) (xs : Nat → Int32) : (∀ k ∈ (kp_10 L xs).map (fun q => q.1), 389 ≤ k) ∧ ∀ k ∈ (kp_10 L xs).map (fun q => q.1), k < 412 := by
  show (∀ k ∈ ([389, 390, 391, 392, 393, 394, 395, 398, 399, 400, 401, 402, 403, 404, 407, 410, 411] : List Nat), 389 ≤ k) ∧ ∀ k ∈ ([389, 390, 391, 392, 393, 394, 395, 398, 399, 400, 401, 402, 403, 404, 407, 410, 411] : List Nat), k < 412
  decide
theorem ka_11 (L : Nat) (xs : Nat → Int32) : (∀ k ∈ (kp_11 L xs).map (fun q => q.1), 412 ≤ k) ∧ ∀ k ∈ (kp_11 L xs).map (fun q => q.1), k < 435 := by
  show (∀ k ∈ ([412, 413, 414, 415, 416, 417, 418, 421, 422, 423, 424, 425, 426, 427, 430, 433, 434] : List Nat), 412 ≤ k) ∧ ∀ k ∈ ([412, 413, 414, 415, 416, 417, 418, 421, 422, 423, 424, 425, 426, 427, 430, 433, 434] : List Nat), k < 435
  decide
theorem ka_12 (L : Nat) (xs : Nat → Int32) : (∀ k ∈ (kp_12 L xs).map (fun q => q.1), 435 ≤ k) ∧ ∀ k ∈ (kp_12 L xs).map (fun q => q.1), k < 458 := by
  show (∀ k ∈ ([435, 436, 437, 438, 439, 440, 441, 444, 445, 446, 447, 448, 449, 450, 453, 456, 457] : List Nat), 435 ≤ k) ∧ ∀ k ∈ ([435, 436, 437, 438, 439, 440, 441, 444, 445, 446, 447, 448, 449, 450, 453, 456, 457] : List Nat), k < 458
  decide
theorem ka_13 (L : Nat) (xs : Nat → Int32) : (∀ k ∈ (kp_13 L xs).map (fun q => q.1), 458 ≤ k) ∧ ∀ k ∈ (kp_13 L xs).map (fun q => q.1), k < 491 := by
  show (∀ k ∈ ([458, 459, 460, 461, 462, 463, 464, 465, 466, 467, 468, 469, 472, 473, 474, 475, 476, 477, 478, 479, 480, 481, 482, 483, 486, 489, 490] : List Nat), 458 ≤ k) ∧ ∀ k ∈ ([458, 459, 460, 461, 462, 463, 464, 465, 466, 467, 468, 469, 472, 473, 474, 475, 476, 477, 478, 479, 480, 481, 482, 483, 486, 489, 490] : List Nat), k < 491
  decide
theorem ka_14 (L : Nat) (xs : Nat → Int32) : (∀ k ∈ (kp_14 L xs).map (fun q => q.1), 491 ≤ k) ∧ ∀ k ∈ (kp_14 L xs).map (fun q => q.1), k < 504 := by
  show (∀ k ∈ ([491, 492, 495, 496, 499, 502, 503] : List Nat), 491 ≤ k) ∧ ∀ k ∈ ([491, 492, 495, 496, 499, 502, 503] : List Nat), k < 504
  decide
theorem ka_15 (L : Nat) (xs : Nat → Int32) : (∀ k ∈ (kp_15 L xs).map (fun q => q.1), 504 ≤ k) ∧ ∀ k ∈ (kp_15 L xs).map (fun q => q.1), k < 547 := by
  show (∀ k ∈ ([504, 505, 506, 507, 508, 509, 510, 511, 512, 513, 514, 515, 516, 517, 518, 519, 520, 523, 524, 525, 526, 527, 528, 529, 530, 531, 532, 533, 534, 535, 536, 537, 538, 539, 542, 545, 546] : List Nat), 504 ≤ k) ∧ ∀ k ∈ ([504, 505, 506, 507, 508, 509, 510, 511, 512, 513, 514, 515, 516, 517, 518, 519, 520, 523, 524, 525, 526, 527, 528, 529, 530, 531, 532, 533, 534, 535, 536, 537, 538, 539, 542, 545, 546] : List Nat), k < 547
  decide
theorem ka_16 (L : Nat) (xs : Nat → Int32) : (∀ k ∈ (kp_16 L xs).map (fun q => q.1), 547 ≤ k) ∧ ∀ k ∈ (kp_16 L xs).map (fun q => q.1), k < 580 := by
  show (∀ k ∈ ([547, 548, 549, 550, 551, 552, 553, 554, 555, 556, 557, 558, 561, 562, 563, 564, 565, 566, 567, 568, 569, 570, 571, 572, 575, 578, 579] : List Nat), 547 ≤ k) ∧ ∀ k ∈ ([547, 548, 549, 550, 551, 552, 553, 554, 555, 556, 557, 558, 561, 562, 563, 564, 565, 566, 567, 568, 569, 570, 571, 572, 575, 578, 579] : List Nat), k < 580
  decide
theorem ka_17 (L : Nat) (xs : Nat → Int32) : (∀ k ∈ (kp_17 L xs).map (fun q => q.1), 580 ≤ k) ∧ ∀ k ∈ (kp_17 L xs).map (fun q => q.1), k < 593 := by
  show (∀ k ∈ ([580, 581, 584, 585, 588, 591, 592] : List Nat), 580 ≤ k) ∧ ∀ k ∈ ([580, 581, 584, 585, 588, 591, 592] : List Nat), k < 593
  decide
theorem ka_18 (L : Nat) (xs : Nat → Int32) : (∀ k ∈ (kp_18 L xs).map (fun q => q.1), 593 ≤ k) ∧ ∀ k ∈ (kp_18 L xs).map (fun q => q.1), k < 616 := by
  show (∀ k ∈ ([593, 594, 595, 596, 597, 598, 599, 602, 603, 604, 605, 606, 607, 608, 611, 614, 615] : List Nat), 593 ≤ k) ∧ ∀ k ∈ ([593, 594, 595, 596, 597, 598, 599, 602, 603, 604, 605, 606, 607, 608, 611, 614, 615] : List Nat), k < 616
  decide
theorem ka_19 (L : Nat) (xs : Nat → Int32) : (∀ k ∈ (kp_19 L xs).map (fun q => q.1), 616 ≤ k) ∧ ∀ k ∈ (kp_19 L xs).map (fun q => q.1), k < 649 := by
  show (∀ k ∈ ([616, 617, 618, 619, 620, 621, 622, 623, 624, 625, 626, 627, 630, 631, 632, 633, 634, 635, 636, 637, 638, 639, 640, 641, 644, 647, 648] : List Nat), 616 ≤ k) ∧ ∀ k ∈ ([616, 617, 618, 619, 620, 621, 622, 623, 624, 625, 626, 627, 630, 631, 632, 633, 634, 635, 636, 637, 638, 639, 640, 641, 644, 647, 648] : List Nat), k < 649
  decide
theorem ka_20 (L : Nat) (xs : Nat → Int32) : (∀ k ∈ (kp_20 L xs).map (fun q => q.1), 649 ≤ k) ∧ ∀ k ∈ (kp_20 L xs).map (fun q => q.1), k < 682 := by
  show (∀ k ∈ ([649, 650, 651, 652, 653, 654, 655, 656, 657, 658, 659, 660, 663, 664, 665, 666, 667, 668, 669, 670, 671, 672, 673, 674, 677, 680, 681] : List Nat), 649 ≤ k) ∧ ∀ k ∈ ([649, 650, 651, 652, 653, 654, 655, 656, 657, 658, 659, 660, 663, 664, 665, 666, 667, 668, 669, 670, 671, 672, 673, 674, 677, 680, 681] : List Nat), k < 682
  decide
theorem ka_21 (L : Nat) (xs : Nat → Int32) : (∀ k ∈ (kp_21 L xs).map (fun q => q.1), 682 ≤ k) ∧ ∀ k ∈ (kp_21 L xs).map (fun q => q.1), k < 715 := by
  show (∀ k ∈ ([682, 683, 684, 685, 686, 687, 688, 689, 690, 691, 692, 693, 696, 697, 698, 699, 700, 701, 702, 703, 704, 705, 706, 707, 710, 713, 714] : List Nat), 682 ≤ k) ∧ ∀ k ∈ ([682, 683, 684, 685, 686, 687, 688, 689, 690, 691, 692, 693, 696, 697, 698, 699, 700, 701, 702, 703, 704, 705, 706, 707, 710, 713, 714] : List Nat), k < 715
  decide
theorem ka_22 (L : Nat) (xs : Nat → Int32) : (∀ k ∈ (kp_22 L xs).map (fun q => q.1), 715 ≤ k) ∧ ∀ k ∈ (kp_22 L xs).map (fun q => q.1), k < 768 := by
  show (∀ k ∈ ([715, 716, 717, 718, 719, 720, 721, 722, 723, 724, 725, 726, 727, 728, 729, 730, 731, 732, 733, 734, 735, 736, 739, 740, 741, 742, 743, 744, 745, 746, 747, 748, 749, 750, 751, 752, 753, 754, 755, 756, 757, 758, 759, 760, 763, 766, 767] : List Nat), 715 ≤ k) ∧ ∀ k ∈ ([715, 716, 717, 718, 719, 720, 721, 722, 723, 724, 725, 726, 727, 728, 729, 730, 731, 732, 733, 734, 735, 736, 739, 740, 741, 742, 743, 744, 745, 746, 747, 748, 749, 750, 751, 752, 753, 754, 755, 756, 757, 758, 759, 760, 763, 766, 767] : List Nat), k < 768
  decide
theorem ka_23 (L : Nat) (xs : Nat → Int32) : (∀ k ∈ (kp_23 L xs).map (fun q => q.1), 768 ≤ k) ∧ ∀ k ∈ (kp_23 L xs).map (fun q => q.1), k < 781 := by
  show (∀ k ∈ ([768, 769, 772, 773, 776, 779, 780] : List Nat), 768 ≤ k) ∧ ∀ k ∈ ([768, 769, 772, 773, 776, 779, 780] : List Nat), k < 781
  decide
theorem ka_24 (L : Nat) (xs : Nat → Int32) : (∀ k ∈ (kp_24 L xs).map (fun q => q.1), 781 ≤ k) ∧ ∀ k ∈ (kp_24 L xs).map (fun q => q.1), k < 804 := by
  show (∀ k ∈ ([781, 782, 783, 784, 785, 786, 787, 790, 791, 792, 793, 794, 795, 796, 799, 802, 803] : List Nat), 781 ≤ k) ∧ ∀ k ∈ ([781, 782, 783, 784, 785, 786, 787, 790, 791, 792, 793, 794, 795, 796, 799, 802, 803] : List Nat), k < 804
  decide
theorem ka_25 (L : Nat) (xs : Nat → Int32) : (∀ k ∈ (kp_25 L xs).map (fun q => q.1), 804 ≤ k) ∧ ∀ k ∈ (kp_25 L xs).map (fun q => q.1), k < 827 := by
  show (∀ k ∈ ([804, 805, 806, 807, 808, 809, 810, 813, 814, 815, 816, 817, 818, 819, 822, 825, 826] : List Nat), 804 ≤ k) ∧ ∀ k ∈ ([804, 805, 806, 807, 808, 809, 810, 813, 814, 815, 816, 817, 818, 819, 822, 825, 826] : List Nat), k < 827
  decide
theorem ka_26 (L : Nat) (xs : Nat → Int32) : (∀ k ∈ (kp_26 L xs).map (fun q => q.1), 827 ≤ k) ∧ ∀ k ∈ (kp_26 L xs).map (fun q => q.1), k < 870 := by
  show (∀ k ∈ ([827, 828, 829, 830, 831, 832, 833, 834, 835, 836, 837, 838, 839, 840, 841, 842, 843, 846, 847, 848, 849, 850, 851, 852, 853, 854, 855, 856, 857, 858, 859, 860, 861, 862, 865, 868, 869] : List Nat), 827 ≤ k) ∧ ∀ k ∈ ([827, 828, 829, 830, 831, 832, 833, 834, 835, 836, 837, 838, 839, 840, 841, 842, 843, 846, 847, 848, 849, 850, 851, 852, 853, 854, 855, 856, 857, 858, 859, 860, 861, 862, 865, 868, 869] : List Nat), k < 870
  decide
theorem ka_27 (L : Nat) (xs : Nat → Int32) : (∀ k ∈ (kp_27 L xs).map (fun q => q.1), 870 ≤ k) ∧ ∀ k ∈ (kp_27 L xs).map (fun q => q.1), k < 933 := by
  show (∀ k ∈ ([870, 871, 872, 873, 874, 875, 876, 877, 878, 879, 880, 881, 882, 883, 884, 885, 886, 887, 888, 889, 890, 891, 892, 893, 894, 895, 896, 899, 900, 901, 902, 903, 904, 905, 906, 907, 908, 909, 910, 911, 912, 913, 914, 915, 916, 917, 918, 919, 920, 921, 922, 923, 924, 925, 928, 931, 932] : List Nat), 870 ≤ k) ∧ ∀ k ∈ ([870, 871, 872, 873, 874, 875, 876, 877, 878, 879, 880, 881, 882, 883, 884, 885, 886, 887, 888, 889, 890, 891, 892, 893, 894, 895, 896, 899, 900, 901, 902, 903, 904, 905, 906, 907, 908, 909, 910, 911, 912, 913, 914, 915, 916, 917, 918, 919, 920, 921, 922, 923, 924, 925, 928, 931, 932] : List Nat), k < 933
  decide
theorem ka_28 (L : Nat) (xs : Nat → Int32) : (∀ k ∈ (kp_28 L xs).map (fun q => q.1), 933 ≤ k) ∧ ∀ k ∈ (kp_28 L xs).map (fun q => q.1), k < 976 := by
  show (∀ k ∈ ([933, 934, 935, 936, 937, 938, 939, 940, 941, 942, 943, 944, 945, 946, 947, 948, 949, 952, 953, 954, 955, 956, 957, 958, 959, 960, 961, 962, 963, 964, 965, 966, 967, 968, 971, 974, 975] : List Nat), 933 ≤ k) ∧ ∀ k ∈ ([933, 934, 935, 936, 937, 938, 939, 940, 941, 942, 943, 944, 945, 946, 947, 948, 949, 952, 953, 954, 955, 956, 957, 958, 959, 960, 961, 962, 963, 964, 965, 966, 967, 968, 971, 974, 975] : List Nat), k < 976
  decide
theorem ka_29 (L : Nat) (xs : Nat → Int32) : (∀ k ∈ (kp_29 L xs).map (fun q => q.1), 976 ≤ k) ∧ ∀ k ∈ (kp_29 L xs).map (fun q => q.1), k < 989 := by
  show (∀ k ∈ ([976, 977, 980, 981, 984, 987, 988] : List Nat), 976 ≤ k) ∧ ∀ k ∈ ([976, 977, 980, 981, 984, 987, 988] : List Nat), k < 989
  decide
theorem ka_30 (L : Nat) (xs : Nat → Int32) : (∀ k ∈ (kp_30 L xs).map (fun q => q.1), 989 ≤ k) ∧ ∀ k ∈ (kp_30 L xs).map (fun q => q.1), k < 1002 := by
  show (∀ k ∈ ([989, 990, 993, 994, 997, 1000, 1001] : List Nat), 989 ≤ k) ∧ ∀ k ∈ ([989, 990, 993, 994, 997, 1000, 1001] : List Nat), k < 1002
  decide
theorem ka_31 (L : Nat) (xs : Nat → Int32) : (∀ k ∈ (kp_31 L xs).map (fun q => q.1), 1002 ≤ k) ∧ ∀ k ∈ (kp_31 L xs).map (fun q => q.1), k < 1025 := by
  show (∀ k ∈ ([1002, 1003, 1004, 1005, 1006, 1007, 1008, 1011, 1012, 1013, 1014, 1015, 1016, 1017, 1020, 1023, 1024] : List Nat), 1002 ≤ k) ∧ ∀ k ∈ ([1002, 1003, 1004, 1005, 1006, 1007, 1008, 1011, 1012, 1013, 1014, 1015, 1016, 1017, 1020, 1023, 1024] : List Nat), k < 1025
  decide
theorem ka_32 (L : Nat) (xs : Nat → Int32) : (∀ k ∈ (kp_32 L xs).map (fun q => q.1), 1025 ≤ k) ∧ ∀ k ∈ (kp_32 L xs).map (fun q => q.1), k < 2000 := by
  show (∀ k ∈ ([1025, 1028, 1031, 1032] : List Nat), 1025 ≤ k) ∧ ∀ k ∈ ([1025, 1028, 1031, 1032] : List Nat), k < 2000
  decide
def kt_32 (L : Nat) (xs : Nat → Int32) : List (Nat × aI) := kp_32 L xs ++ []
def kt_31 (L : Nat) (xs : Nat → Int32) : List (Nat × aI) := kp_31 L xs ++ kt_32 L xs
def kt_30 (L : Nat) (xs : Nat → Int32) : List (Nat × aI) := kp_30 L xs ++ kt_31 L xs
def kt_29 (L : Nat) (xs : Nat → Int32) : List (Nat × aI) := kp_29 L xs ++ kt_30 L xs
def kt_28 (L : Nat) (xs : Nat → Int32) : List (Nat × aI) := kp_28 L xs ++ kt_29 L xs
def kt_27 (L : Nat) (xs : Nat → Int32) : List (Nat × aI) := kp_27 L xs ++ kt_28 L xs
def kt_26 (L : Nat) (xs : Nat → Int32) : List (Nat × aI) := kp_26 L xs ++ kt_27 L xs
def kt_25 (L : Nat) (xs : Nat → Int32) : List (Nat × aI) := kp_25 L xs ++ kt_26 L xs
def kt_24 (L : Nat) (xs : Nat → Int32) : List (Nat × aI) := kp_24 L xs ++ kt_25 L xs
def kt_23 (L : Nat) (xs : Nat → Int32) : List (Nat × aI) := kp_23 L xs ++ kt_24 L xs
def kt_22 (L : Nat) (xs : Nat → Int32) : List (Nat × aI) := kp_22 L xs ++ kt_23 L xs
def kt_21 (L : Nat) (xs : Nat → Int32) : List (Nat × aI) := kp_21 L xs ++ kt_22 L xs
def kt_20 (L : Nat) (xs : Nat → Int32) : List (Nat × aI) := kp_20 L xs ++ kt_21 L xs
def kt_19 (L : Nat) (xs : Nat → Int32) : List (Nat × aI) := kp_19 L xs ++ kt_20 L xs
def kt_18 (L : Nat) (xs : Nat → Int32) : List (Nat × aI) := kp_18 L xs ++ kt_19 L xs
def kt_17 (L : Nat) (xs : Nat → Int32) : List (Nat × aI) := kp_17 L xs ++ kt_18 L xs
def kt_16 (L : Nat) (xs : Nat → Int32) : List (Nat × aI) := kp_16 L xs ++ kt_17 L xs
def kt_15 (L : Nat) (xs : Nat → Int32) : List (Nat × aI) := kp_15 L xs ++ kt_16 L xs
def kt_14 (L : Nat) (xs : Nat → Int32) : List (Nat × aI) := kp_14 L xs ++ kt_15 L xs
def kt_13 (L : Nat) (xs : Nat → Int32) : List (Nat × aI) := kp_13 L xs ++ kt_14 L xs
def kt_12 (L : Nat) (xs : Nat → Int32) : List (Nat × aI) := kp_12 L xs ++ kt_13 L xs
def kt_11 (L : Nat) (xs : Nat → Int32) : List (Nat × aI) := kp_11 L xs ++ kt_12 L xs
def kt_10 (L : Nat) (xs : Nat → Int32) : List (Nat × aI) := kp_10 L xs ++ kt_11 L xs
def kt_9 (L : Nat) (xs : Nat → Int32) : List (Nat × aI) := kp_9 L xs ++ kt_10 L xs
def kt_8 (L : Nat) (xs : Nat → Int32) : List (Nat × aI) := kp_8 L xs ++ kt_9 L xs
def kt_7 (L : Nat) (xs : Nat → Int32) : List (Nat × aI) := kp_7 L xs ++ kt_8 L xs
def kt_6 (L : Nat) (xs : Nat → Int32) : List (Nat × aI) := kp_6 L xs ++ kt_7 L xs
def kt_5 (L : Nat) (xs : Nat → Int32) : List (Nat × aI) := kp_5 L xs ++ kt_6 L xs
def kt_4 (L : Nat) (xs : Nat → Int32) : List (Nat × aI) := kp_4 L xs ++ kt_5 L xs
def kt_3 (L : Nat) (xs : Nat → Int32) : List (Nat × aI) := kp_3 L xs ++ kt_4 L xs
def kt_2 (L : Nat) (xs : Nat → Int32) : List (Nat × aI) := kp_2 L xs ++ kt_3 L xs
def kt_1 (L : Nat) (xs : Nat → Int32) : List (Nat × aI) := kp_1 L xs ++ kt_2 L xs
def kt_0 (L : Nat) (xs : Nat → Int32) : List (Nat × aI) := kp_0 L xs ++ kt_1 L xs
set_option maxRecDepth 100000 in
theorem kl_eq (L : Nat) (xs : Nat → Int32) : k_law L xs = kt_0 L xs := rfl
theorem kT_0 {L : Nat} {xs : Nat → Int32} {pc : Nat} {i : aI} (_ : 0 ≤ pc) (h : (kt_0 L xs).lookup pc = some i) : (k_law L xs).lookup pc = some i := by rw [kl_eq]; exact h
theorem kS_0 {L : Nat} {xs : Nat → Int32} : ∀ pc i, (kp_0 L xs).lookup pc = some i → (k_law L xs).lookup pc = some i := fun pc i h => kT_0 ((ka_0 L xs).1 pc (lk_key h)) (lk_here h)
theorem gl_0 {L : Nat} {xs : Nat → Int32} {mc ms d : Nat} {Q : aR} (S : List Nat) {pc : Nat} {lo : List (Option Value)} {st : List Value} {h : List aC} {c s : Nat} (w : runT (mc, ms, callok d) (kp_0 L xs) (k_law L xs) Q S 60 pc lo st h c s) : wp (mc, ms, callok d) (k_law L xs) Q pc lo st h c s := runT_wp kS_0 (m_law L xs) (monoC d) 60 pc lo st h c s w
theorem kT_1 {L : Nat} {xs : Nat → Int32} {pc : Nat} {i : aI} (hm : 172 ≤ pc) (h : (kt_1 L xs).lookup pc = some i) : (k_law L xs).lookup pc = some i := kT_0 (by omega) ((lk_skip (ka_0 L xs).2 hm).trans h)
theorem kS_1 {L : Nat} {xs : Nat → Int32} : ∀ pc i, (kp_1 L xs).lookup pc = some i → (k_law L xs).lookup pc = some i := fun pc i h => kT_1 ((ka_1 L xs).1 pc (lk_key h)) (lk_here h)
theorem gl_1 {L : Nat} {xs : Nat → Int32} {mc ms d : Nat} {Q : aR} (S : List Nat) {pc : Nat} {lo : List (Option Value)} {st : List Value} {h : List aC} {c s : Nat} (w : runT (mc, ms, callok d) (kp_1 L xs) (k_law L xs) Q S 60 pc lo st h c s) : wp (mc, ms, callok d) (k_law L xs) Q pc lo st h c s := runT_wp kS_1 (m_law L xs) (monoC d) 60 pc lo st h c s w
theorem kT_2 {L : Nat} {xs : Nat → Int32} {pc : Nat} {i : aI} (hm : 195 ≤ pc) (h : (kt_2 L xs).lookup pc = some i) : (k_law L xs).lookup pc = some i := kT_1 (by omega) ((lk_skip (ka_1 L xs).2 hm).trans h)
theorem kS_2 {L : Nat} {xs : Nat → Int32} : ∀ pc i, (kp_2 L xs).lookup pc = some i → (k_law L xs).lookup pc = some i := fun pc i h => kT_2 ((ka_2 L xs).1 pc (lk_key h)) (lk_here h)
theorem gl_2 {L : Nat} {xs : Nat → Int32} {mc ms d : Nat} {Q : aR} (S : List Nat) {pc : Nat} {lo : List (Option Value)} {st : List Value} {h : List aC} {c s : Nat} (w : runT (mc, ms, callok d) (kp_2 L xs) (k_law L xs) Q S 60 pc lo st h c s) : wp (mc, ms, callok d) (k_law L xs) Q pc lo st h c s := runT_wp kS_2 (m_law L xs) (monoC d) 60 pc lo st h c s w
theorem kT_3 {L : Nat} {xs : Nat → Int32} {pc : Nat} {i : aI} (hm : 208 ≤ pc) (h : (kt_3 L xs).lookup pc = some i) : (k_law L xs).lookup pc = some i := kT_2 (by omega) ((lk_skip (ka_2 L xs).2 hm).trans h)
theorem kS_3 {L : Nat} {xs : Nat → Int32} : ∀ pc i, (kp_3 L xs).lookup pc = some i → (k_law L xs).lookup pc = some i := fun pc i h => kT_3 ((ka_3 L xs).1 pc (lk_key h)) (lk_here h)
theorem gl_3 {L : Nat} {xs : Nat → Int32} {mc ms d : Nat} {Q : aR} (S : List Nat) {pc : Nat} {lo : List (Option Value)} {st : List Value} {h : List aC} {c s : Nat} (w : runT (mc, ms, callok d) (kp_3 L xs) (k_law L xs) Q S 60 pc lo st h c s) : wp (mc, ms, callok d) (k_law L xs) Q pc lo st h c s := runT_wp kS_3 (m_law L xs) (monoC d) 60 pc lo st h c s w
theorem kT_4 {L : Nat} {xs : Nat → Int32} {pc : Nat} {i : aI} (hm : 221 ≤ pc) (h : (kt_4 L xs).lookup pc = some i) : (k_law L xs).lookup pc = some i := kT_3 (by omega) ((lk_skip (ka_3 L xs).2 hm).trans h)
theorem kS_4 {L : Nat} {xs : Nat → Int32} : ∀ pc i, (kp_4 L xs).lookup pc = some i → (k_law L xs).lookup pc = some i := fun pc i h => kT_4 ((ka_4 L xs).1 pc (lk_key h)) (lk_here h)
theorem gl_4 {L : Nat} {xs : Nat → Int32} {mc ms d : Nat} {Q : aR} (S : List Nat) {pc : Nat} {lo : List (Option Value)} {st : List Value} {h : List aC} {c s : Nat} (w : runT (mc, ms, callok d) (kp_4 L xs) (k_law L xs) Q S 60 pc lo st h c s) : wp (mc, ms, callok d) (k_law L xs) Q pc lo st h c s := runT_wp kS_4 (m_law L xs) (monoC d) 60 pc lo st h c s w
theorem kT_5 {L : Nat} {xs : Nat → Int32} {pc : Nat} {i : aI} (hm : 234 ≤ pc) (h : (kt_5 L xs).lookup pc = some i) : (k_law L xs).lookup pc = some i := kT_4 (by omega) ((lk_skip (ka_4 L xs).2 hm).trans h)
theorem kS_5 {L : Nat} {xs : Nat → Int32} : ∀ pc i, (kp_5 L xs).lookup pc = some i → (k_law L xs).lookup pc = some i := fun pc i h => kT_5 ((ka_5 L xs).1 pc (lk_key h)) (lk_here h)
theorem gl_5 {L : Nat} {xs : Nat → Int32} {mc ms d : Nat} {Q : aR} (S : List Nat) {pc : Nat} {lo : List (Option Value)} {st : List Value} {h : List aC} {c s : Nat} (w : runT (mc, ms, callok d) (kp_5 L xs) (k_law L xs) Q S 60 pc lo st h c s) : wp (mc, ms, callok d) (k_law L xs) Q pc lo st h c s := runT_wp kS_5 (m_law L xs) (monoC d) 60 pc lo st h c s w
theorem kT_6 {L : Nat} {xs : Nat → Int32} {pc : Nat} {i : aI} (hm : 267 ≤ pc) (h : (kt_6 L xs).lookup pc = some i) : (k_law L xs).lookup pc = some i := kT_5 (by omega) ((lk_skip (ka_5 L xs).2 hm).trans h)
theorem kS_6 {L : Nat} {xs : Nat → Int32} : ∀ pc i, (kp_6 L xs).lookup pc = some i → (k_law L xs).lookup pc = some i := fun pc i h => kT_6 ((ka_6 L xs).1 pc (lk_key h)) (lk_here h)
theorem gl_6 {L : Nat} {xs : Nat → Int32} {mc ms d : Nat} {Q : aR} (S : List Nat) {pc : Nat} {lo : List (Option Value)} {st : List Value} {h : List aC} {c s : Nat} (w : runT (mc, ms, callok d) (kp_6 L xs) (k_law L xs) Q S 60 pc lo st h c s) : wp (mc, ms, callok d) (k_law L xs) Q pc lo st h c s := runT_wp kS_6 (m_law L xs) (monoC d) 60 pc lo st h c s w
theorem kT_7 {L : Nat} {xs : Nat → Int32} {pc : Nat} {i : aI} (hm : 300 ≤ pc) (h : (kt_7 L xs).lookup pc = some i) : (k_law L xs).lookup pc = some i := kT_6 (by omega) ((lk_skip (ka_6 L xs).2 hm).trans h)
theorem kS_7 {L : Nat} {xs : Nat → Int32} : ∀ pc i, (kp_7 L xs).lookup pc = some i → (k_law L xs).lookup pc = some i := fun pc i h => kT_7 ((ka_7 L xs).1 pc (lk_key h)) (lk_here h)
theorem gl_7 {L : Nat} {xs : Nat → Int32} {mc ms d : Nat} {Q : aR} (S : List Nat) {pc : Nat} {lo : List (Option Value)} {st : List Value} {h : List aC} {c s : Nat} (w : runT (mc, ms, callok d) (kp_7 L xs) (k_law L xs) Q S 60 pc lo st h c s) : wp (mc, ms, callok d) (k_law L xs) Q pc lo st h c s := runT_wp kS_7 (m_law L xs) (monoC d) 60 pc lo st h c s w
theorem kT_8 {L : Nat} {xs : Nat → Int32} {pc : Nat} {i : aI} (hm : 323 ≤ pc) (h : (kt_8 L xs).lookup pc = some i) : (k_law L xs).lookup pc = some i := kT_7 (by omega) ((lk_skip (ka_7 L xs).2 hm).trans h)
theorem kS_8 {L : Nat} {xs : Nat → Int32} : ∀ pc i, (kp_8 L xs).lookup pc = some i → (k_law L xs).lookup pc = some i := fun pc i h => kT_8 ((ka_8 L xs).1 pc (lk_key h)) (lk_here h)
theorem gl_8 {L : Nat} {xs : Nat → Int32} {mc ms d : Nat} {Q : aR} (S : List Nat) {pc : Nat} {lo : List (Option Value)} {st : List Value} {h : List aC} {c s : Nat} (w : runT (mc, ms, callok d) (kp_8 L xs) (k_law L xs) Q S 60 pc lo st h c s) : wp (mc, ms, callok d) (k_law L xs) Q pc lo st h c s := runT_wp kS_8 (m_law L xs) (monoC d) 60 pc lo st h c s w
theorem kT_9 {L : Nat} {xs : Nat → Int32} {pc : Nat} {i : aI} (hm : 346 ≤ pc) (h : (kt_9 L xs).lookup pc = some i) : (k_law L xs).lookup pc = some i := kT_8 (by omega) ((lk_skip (ka_8 L xs).2 hm).trans h)
theorem kS_9 {L : Nat} {xs : Nat → Int32} : ∀ pc i, (kp_9 L xs).lookup pc = some i → (k_law L xs).lookup pc = some i := fun pc i h => kT_9 ((ka_9 L xs).1 pc (lk_key h)) (lk_here h)
theorem gl_9 {L : Nat} {xs : Nat → Int32} {mc ms d : Nat} {Q : aR} (S : List Nat) {pc : Nat} {lo : List (Option Value)} {st : List Value} {h : List aC} {c s : Nat} (w : runT (mc, ms, callok d) (kp_9 L xs) (k_law L xs) Q S 60 pc lo st h c s) : wp (mc, ms, callok d) (k_law L xs) Q pc lo st h c s := runT_wp kS_9 (m_law L xs) (monoC d) 60 pc lo st h c s w
theorem kT_10 {L : Nat} {xs : Nat → Int32} {pc : Nat} {i : aI} (hm : 389 ≤ pc) (h : (kt_10 L xs).lookup pc = some i) : (k_law L xs).lookup pc = some i := kT_9 (by omega) ((lk_skip (ka_9 L xs).2 hm).trans h)
theorem kS_10 {L : Nat} {xs : Nat → Int32} : ∀ pc i, (kp_10 L xs).lookup pc = some i → (k_law L xs).lookup pc = some i := fun pc i h => kT_10 ((ka_10 L xs).1 pc (lk_key h)) (lk_here h)
theorem gl_10 {L : Nat} {xs : Nat → Int32} {mc ms d : Nat} {Q : aR} (S : List Nat) {pc : Nat} {lo : List (Option Value)} {st : List Value} {h : List aC} {c s : Nat} (w : runT (mc, ms, callok d) (kp_10 L xs) (k_law L xs) Q S 60 pc lo st h c s) : wp (mc, ms, callok d) (k_law L xs) Q pc lo st h c s := runT_wp kS_10 (m_law L xs) (monoC d) 60 pc lo st h c s w
theorem kT_11 {L : Nat} {xs : Nat → Int32} {pc : Nat} {i : aI} (hm : 412 ≤ pc) (h : (kt_11 L xs).lookup pc = some i) : (k_law L xs).lookup pc = some i := kT_10 (by omega) ((lk_skip (ka_10 L xs).2 hm).trans h)
theorem kS_11 {L : Nat} {xs : Nat → Int32} : ∀ pc i, (kp_11 L xs).lookup pc = some i → (k_law L xs).lookup pc = some i := fun pc i h => kT_11 ((ka_11 L xs).1 pc (lk_key h)) (lk_here h)
theorem gl_11 {L : Nat} {xs : Nat → Int32} {mc ms d : Nat} {Q : aR} (S : List Nat) {pc : Nat} {lo : List (Option Value)} {st : List Value} {h : List aC} {c s : Nat} (w : runT (mc, ms, callok d) (kp_11 L xs) (k_law L xs) Q S 60 pc lo st h c s) : wp (mc, ms, callok d) (k_law L xs) Q pc lo st h c s := runT_wp kS_11 (m_law L xs) (monoC d) 60 pc lo st h c s w
theorem kT_12 {L : Nat} {xs : Nat → Int32} {pc : Nat} {i : aI} (hm : 435 ≤ pc) (h : (kt_12 L xs).lookup pc = some i) : (k_law L xs).lookup pc = some i := kT_11 (by omega) ((lk_skip (ka_11 L xs).2 hm).trans h)
theorem kS_12 {L : Nat} {xs : Nat → Int32} : ∀ pc i, (kp_12 L xs).lookup pc = some i → (k_law L xs).lookup pc = some i := fun pc i h => kT_12 ((ka_12 L xs).1 pc (lk_key h)) (lk_here h)
theorem gl_12 {L : Nat} {xs : Nat → Int32} {mc ms d : Nat} {Q : aR} (S : List Nat) {pc : Nat} {lo : List (Option Value)} {st : List Value} {h : List aC} {c s : Nat} (w : runT (mc, ms, callok d) (kp_12 L xs) (k_law L xs) Q S 60 pc lo st h c s) : wp (mc, ms, callok d) (k_law L xs) Q pc lo st h c s := runT_wp kS_12 (m_law L xs) (monoC d) 60 pc lo st h c s w
theorem kT_13 {L : Nat} {xs : Nat → Int32} {pc : Nat} {i : aI} (hm : 458 ≤ pc) (h : (kt_13 L xs).lookup pc = some i) : (k_law L xs).lookup pc = some i := kT_12 (by omega) ((lk_skip (ka_12 L xs).2 hm).trans h)
theorem kS_13 {L : Nat} {xs : Nat → Int32} : ∀ pc i, (kp_13 L xs).lookup pc = some i → (k_law L xs).lookup pc = some i := fun pc i h => kT_13 ((ka_13 L xs).1 pc (lk_key h)) (lk_here h)
theorem gl_13 {L : Nat} {xs : Nat → Int32} {mc ms d : Nat} {Q : aR} (S : List Nat) {pc : Nat} {lo : List (Option Value)} {st : List Value} {h : List aC} {c s : Nat} (w : runT (mc, ms, callok d) (kp_13 L xs) (k_law L xs) Q S 60 pc lo st h c s) : wp (mc, ms, callok d) (k_law L xs) Q pc lo st h c s := runT_wp kS_13 (m_law L xs) (monoC d) 60 pc lo st h c s w
theorem kT_14 {L : Nat} {xs : Nat → Int32} {pc : Nat} {i : aI} (hm : 491 ≤ pc) (h : (kt_14 L xs).lookup pc = some i) : (k_law L xs).lookup pc = some i := kT_13 (by omega) ((lk_skip (ka_13 L xs).2 hm).trans h)
theorem kS_14 {L : Nat} {xs : Nat → Int32} : ∀ pc i, (kp_14 L xs).lookup pc = some i → (k_law L xs).lookup pc = some i := fun pc i h => kT_14 ((ka_14 L xs).1 pc (lk_key h)) (lk_here h)
theorem gl_14 {L : Nat} {xs : Nat → Int32} {mc ms d : Nat} {Q : aR} (S : List Nat) {pc : Nat} {lo : List (Option Value)} {st : List Value} {h : List aC} {c s : Nat} (w : runT (mc, ms, callok d) (kp_14 L xs) (k_law L xs) Q S 60 pc lo st h c s) : wp (mc, ms, callok d) (k_law L xs) Q pc lo st h c s := runT_wp kS_14 (m_law L xs) (monoC d) 60 pc lo st h c s w
theorem kT_15 {L : Nat} {xs : Nat → Int32} {pc : Nat} {i : aI} (hm : 504 ≤ pc) (h : (kt_15 L xs).lookup pc = some i) : (k_law L xs).lookup pc = some i := kT_14 (by omega) ((lk_skip (ka_14 L xs).2 hm).trans h)
theorem kS_15 {L : Nat} {xs : Nat → Int32} : ∀ pc i, (kp_15 L xs).lookup pc = some i → (k_law L xs).lookup pc = some i := fun pc i h => kT_15 ((ka_15 L xs).1 pc (lk_key h)) (lk_here h)
theorem gl_15 {L : Nat} {xs : Nat → Int32} {mc ms d : Nat} {Q : aR} (S : List Nat) {pc : Nat} {lo : List (Option Value)} {st : List Value} {h : List aC} {c s : Nat} (w : runT (mc, ms, callok d) (kp_15 L xs) (k_law L xs) Q S 60 pc lo st h c s) : wp (mc, ms, callok d) (k_law L xs) Q pc lo st h c s := runT_wp kS_15 (m_law L xs) (monoC d) 60 pc lo st h c s w
theorem kT_16 {L : Nat} {xs : Nat → Int32} {pc : Nat} {i : aI} (hm : 547 ≤ pc) (h : (kt_16 L xs).lookup pc = some i) : (k_law L xs).lookup pc = some i := kT_15 (by omega) ((lk_skip (ka_15 L xs).2 hm).trans h)
theorem kS_16 {L : Nat} {xs : Nat → Int32} : ∀ pc i, (kp_16 L xs).lookup pc = some i → (k_law L xs).lookup pc = some i := fun pc i h => kT_16 ((ka_16 L xs).1 pc (lk_key h)) (lk_here h)
theorem gl_16 {L : Nat} {xs : Nat → Int32} {mc ms d : Nat} {Q : aR} (S : List Nat) {pc : Nat} {lo : List (Option Value)} {st : List Value} {h : List aC} {c s : Nat} (w : runT (mc, ms, callok d) (kp_16 L xs) (k_law L xs) Q S 60 pc lo st h c s) : wp (mc, ms, callok d) (k_law L xs) Q pc lo st h c s := runT_wp kS_16 (m_law L xs) (monoC d) 60 pc lo st h c s w
theorem kT_17 {L : Nat} {xs : Nat → Int32} {pc : Nat} {i : aI} (hm : 580 ≤ pc) (h : (kt_17 L xs).lookup pc = some i) : (k_law L xs).lookup pc = some i := kT_16 (by omega) ((lk_skip (ka_16 L xs).2 hm).trans h)
theorem kS_17 {L : Nat} {xs : Nat → Int32} : ∀ pc i, (kp_17 L xs).lookup pc = some i → (k_law L xs).lookup pc = some i := fun pc i h => kT_17 ((ka_17 L xs).1 pc (lk_key h)) (lk_here h)
theorem gl_17 {L : Nat} {xs : Nat → Int32} {mc ms d : Nat} {Q : aR} (S : List Nat) {pc : Nat} {lo : List (Option Value)} {st : List Value} {h : List aC} {c s : Nat} (w : runT (mc, ms, callok d) (kp_17 L xs) (k_law L xs) Q S 60 pc lo st h c s) : wp (mc, ms, callok d) (k_law L xs) Q pc lo st h c s := runT_wp kS_17 (m_law L xs) (monoC d) 60 pc lo st h c s w
theorem kT_18 {L : Nat} {xs : Nat → Int32} {pc : Nat} {i : aI} (hm : 593 ≤ pc) (h : (kt_18 L xs).lookup pc = some i) : (k_law L xs).lookup pc = some i := kT_17 (by omega) ((lk_skip (ka_17 L xs).2 hm).trans h)
theorem kS_18 {L : Nat} {xs : Nat → Int32} : ∀ pc i, (kp_18 L xs).lookup pc = some i → (k_law L xs).lookup pc = some i := fun pc i h => kT_18 ((ka_18 L xs).1 pc (lk_key h)) (lk_here h)
theorem gl_18 {L : Nat} {xs : Nat → Int32} {mc ms d : Nat} {Q : aR} (S : List Nat) {pc : Nat} {lo : List (Option Value)} {st : List Value} {h : List aC} {c s : Nat} (w : runT (mc, ms, callok d) (kp_18 L xs) (k_law L xs) Q S 60 pc lo st h c s) : wp (mc, ms, callok d) (k_law L xs) Q pc lo st h c s := runT_wp kS_18 (m_law L xs) (monoC d) 60 pc lo st h c s w
theorem kT_19 {L : Nat} {xs : Nat → Int32} {pc : Nat} {i : aI} (hm : 616 ≤ pc) (h : (kt_19 L xs).lookup pc = some i) : (k_law L xs).lookup pc = some i := kT_18 (by omega) ((lk_skip (ka_18 L xs).2 hm).trans h)
theorem kS_19 {L : Nat} {xs : Nat → Int32} : ∀ pc i, (kp_19 L xs).lookup pc = some i → (k_law L xs).lookup pc = some i := fun pc i h => kT_19 ((ka_19 L xs).1 pc (lk_key h)) (lk_here h)
theorem gl_19 {L : Nat} {xs : Nat → Int32} {mc ms d : Nat} {Q : aR} (S : List Nat) {pc : Nat} {lo : List (Option Value)} {st : List Value} {h : List aC} {c s : Nat} (w : runT (mc, ms, callok d) (kp_19 L xs) (k_law L xs) Q S 60 pc lo st h c s) : wp (mc, ms, callok d) (k_law L xs) Q pc lo st h c s := runT_wp kS_19 (m_law L xs) (monoC d) 60 pc lo st h c s w
theorem kT_20 {L : Nat} {xs : Nat → Int32} {pc : Nat} {i : aI} (hm : 649 ≤ pc) (h : (kt_20 L xs).lookup pc = some i) : (k_law L xs).lookup pc = some i := kT_19 (by omega) ((lk_skip (ka_19 L xs).2 hm).trans h)
theorem kS_20 {L : Nat} {xs : Nat → Int32} : ∀ pc i, (kp_20 L xs).lookup pc = some i → (k_law L xs).lookup pc = some i := fun pc i h => kT_20 ((ka_20 L xs).1 pc (lk_key h)) (lk_here h)
theorem gl_20 {L : Nat} {xs : Nat → Int32} {mc ms d : Nat} {Q : aR} (S : List Nat) {pc : Nat} {lo : List (Option Value)} {st : List Value} {h : List aC} {c s : Nat} (w : runT (mc, ms, callok d) (kp_20 L xs) (k_law L xs) Q S 60 pc lo st h c s) : wp (mc, ms, callok d) (k_law L xs) Q pc lo st h c s := runT_wp kS_20 (m_law L xs) (monoC d) 60 pc lo st h c s w
theorem kT_21 {L : Nat} {xs : Nat → Int32} {pc : Nat} {i : aI} (hm : 682 ≤ pc) (h : (kt_21 L xs).lookup pc = some i) : (k_law L xs).lookup pc = some i := kT_20 (by omega) ((lk_skip (ka_20 L xs).2 hm).trans h)
theorem kS_21 {L : Nat} {xs : Nat → Int32} : ∀ pc i, (kp_21 L xs).lookup pc = some i → (k_law L xs).lookup pc = some i := fun pc i h => kT_21 ((ka_21 L xs).1 pc (lk_key h)) (lk_here h)
theorem gl_21 {L : Nat} {xs : Nat → Int32} {mc ms d : Nat} {Q : aR} (S : List Nat) {pc : Nat} {lo : List (Option Value)} {st : List Value} {h : List aC} {c s : Nat} (w : runT (mc, ms, callok d) (kp_21 L xs) (k_law L xs) Q S 60 pc lo st h c s) : wp (mc, ms, callok d) (k_law L xs) Q pc lo st h c s := runT_wp kS_21 (m_law L xs) (monoC d) 60 pc lo st h c s w
theorem kT_22 {L : Nat} {xs : Nat → Int32} {pc : Nat} {i : aI} (hm : 715 ≤ pc) (h : (kt_22 L xs).lookup pc = some i) : (k_law L xs).lookup pc = some i := kT_21 (by omega) ((lk_skip (ka_21 L xs).2 hm).trans h)
theorem kS_22 {L : Nat} {xs : Nat → Int32} : ∀ pc i, (kp_22 L xs).lookup pc = some i → (k_law L xs).lookup pc = some i := fun pc i h => kT_22 ((ka_22 L xs).1 pc (lk_key h)) (lk_here h)
theorem gl_22 {L : Nat} {xs : Nat → Int32} {mc ms d : Nat} {Q : aR} (S : List Nat) {pc : Nat} {lo : List (Option Value)} {st : List Value} {h : List aC} {c s : Nat} (w : runT (mc, ms, callok d) (kp_22 L xs) (k_law L xs) Q S 60 pc lo st h c s) : wp (mc, ms, callok d) (k_law L xs) Q pc lo st h c s := runT_wp kS_22 (m_law L xs) (monoC d) 60 pc lo st h c s w
theorem kT_23 {L : Nat} {xs : Nat → Int32} {pc : Nat} {i : aI} (hm : 768 ≤ pc) (h : (kt_23 L xs).lookup pc = some i) : (k_law L xs).lookup pc = some i := kT_22 (by omega) ((lk_skip (ka_22 L xs).2 hm).trans h)
theorem kS_23 {L : Nat} {xs : Nat → Int32} : ∀ pc i, (kp_23 L xs).lookup pc = some i → (k_law L xs).lookup pc = some i := fun pc i h => kT_23 ((ka_23 L xs).1 pc (lk_key h)) (lk_here h)
theorem gl_23 {L : Nat} {xs : Nat → Int32} {mc ms d : Nat} {Q : aR} (S : List Nat) {pc : Nat} {lo : List (Option Value)} {st : List Value} {h : List aC} {c s : Nat} (w : runT (mc, ms, callok d) (kp_23 L xs) (k_law L xs) Q S 60 pc lo st h c s) : wp (mc, ms, callok d) (k_law L xs) Q pc lo st h c s := runT_wp kS_23 (m_law L xs) (monoC d) 60 pc lo st h c s w
theorem kT_24 {L : Nat} {xs : Nat → Int32} {pc : Nat} {i : aI} (hm : 781 ≤ pc) (h : (kt_24 L xs).lookup pc = some i) : (k_law L xs).lookup pc = some i := kT_23 (by omega) ((lk_skip (ka_23 L xs).2 hm).trans h)
theorem kS_24 {L : Nat} {xs : Nat → Int32} : ∀ pc i, (kp_24 L xs).lookup pc = some i → (k_law L xs).lookup pc = some i := fun pc i h => kT_24 ((ka_24 L xs).1 pc (lk_key h)) (lk_here h)
theorem gl_24 {L : Nat} {xs : Nat → Int32} {mc ms d : Nat} {Q : aR} (S : List Nat) {pc : Nat} {lo : List (Option Value)} {st : List Value} {h : List aC} {c s : Nat} (w : runT (mc, ms, callok d) (kp_24 L xs) (k_law L xs) Q S 60 pc lo st h c s) : wp (mc, ms, callok d) (k_law L xs) Q pc lo st h c s := runT_wp kS_24 (m_law L xs) (monoC d) 60 pc lo st h c s w
theorem kT_25 {L : Nat} {xs : Nat → Int32} {pc : Nat} {i : aI} (hm : 804 ≤ pc) (h : (kt_25 L xs).lookup pc = some i) : (k_law L xs).lookup pc = some i := kT_24 (by omega) ((lk_skip (ka_24 L xs).2 hm).trans h)
theorem kS_25 {L : Nat} {xs : Nat → Int32} : ∀ pc i, (kp_25 L xs).lookup pc = some i → (k_law L xs).lookup pc = some i := fun pc i h => kT_25 ((ka_25 L xs).1 pc (lk_key h)) (lk_here h)
theorem gl_25 {L : Nat} {xs : Nat → Int32} {mc ms d : Nat} {Q : aR} (S : List Nat) {pc : Nat} {lo : List (Option Value)} {st : List Value} {h : List aC} {c s : Nat} (w : runT (mc, ms, callok d) (kp_25 L xs) (k_law L xs) Q S 60 pc lo st h c s) : wp (mc, ms, callok d) (k_law L xs) Q pc lo st h c s := runT_wp kS_25 (m_law L xs) (monoC d) 60 pc lo st h c s w
theorem kT_26 {L : Nat} {xs : Nat → Int32} {pc : Nat} {i : aI} (hm : 827 ≤ pc) (h : (kt_26 L xs).lookup pc = some i) : (k_law L xs).lookup pc = some i := kT_25 (by omega) ((lk_skip (ka_25 L xs).2 hm).trans h)
theorem kS_26 {L : Nat} {xs : Nat → Int32} : ∀ pc i, (kp_26 L xs).lookup pc = some i → (k_law L xs).lookup pc = some i := fun pc i h => kT_26 ((ka_26 L xs).1 pc (lk_key h)) (lk_here h)
theorem gl_26 {L : Nat} {xs : Nat → Int32} {mc ms d : Nat} {Q : aR} (S : List Nat) {pc : Nat} {lo : List (Option Value)} {st : List Value} {h : List aC} {c s : Nat} (w : runT (mc, ms, callok d) (kp_26 L xs) (k_law L xs) Q S 60 pc lo st h c s) : wp (mc, ms, callok d) (k_law L xs) Q pc lo st h c s := runT_wp kS_26 (m_law L xs) (monoC d) 60 pc lo st h c s w
theorem kT_27 {L : Nat} {xs : Nat → Int32} {pc : Nat} {i : aI} (hm : 870 ≤ pc) (h : (kt_27 L xs).lookup pc = some i) : (k_law L xs).lookup pc = some i := kT_26 (by omega) ((lk_skip (ka_26 L xs).2 hm).trans h)
theorem kS_27 {L : Nat} {xs : Nat → Int32} : ∀ pc i, (kp_27 L xs).lookup pc = some i → (k_law L xs).lookup pc = some i := fun pc i h => kT_27 ((ka_27 L xs).1 pc (lk_key h)) (lk_here h)
theorem gl_27 {L : Nat} {xs : Nat → Int32} {mc ms d : Nat} {Q : aR} (S : List Nat) {pc : Nat} {lo : List (Option Value)} {st : List Value} {h : List aC} {c s : Nat} (w : runT (mc, ms, callok d) (kp_27 L xs) (k_law L xs) Q S 60 pc lo st h c s) : wp (mc, ms, callok d) (k_law L xs) Q pc lo st h c s := runT_wp kS_27 (m_law L xs) (monoC d) 60 pc lo st h c s w
theorem kT_28 {L : Nat} {xs : Nat → Int32} {pc : Nat} {i : aI} (hm : 933 ≤ pc) (h : (kt_28 L xs).lookup pc = some i) : (k_law L xs).lookup pc = some i := kT_27 (by omega) ((lk_skip (ka_27 L xs).2 hm).trans h)
theorem kS_28 {L : Nat} {xs : Nat → Int32} : ∀ pc i, (kp_28 L xs).lookup pc = some i → (k_law L xs).lookup pc = some i := fun pc i h => kT_28 ((ka_28 L xs).1 pc (lk_key h)) (lk_here h)
theorem gl_28 {L : Nat} {xs : Nat → Int32} {mc ms d : Nat} {Q : aR} (S : List Nat) {pc : Nat} {lo : List (Option Value)} {st : List Value} {h : List aC} {c s : Nat} (w : runT (mc, ms, callok d) (kp_28 L xs) (k_law L xs) Q S 60 pc lo st h c s) : wp (mc, ms, callok d) (k_law L xs) Q pc lo st h c s := runT_wp kS_28 (m_law L xs) (monoC d) 60 pc lo st h c s w
theorem kT_29 {L : Nat} {xs : Nat → Int32} {pc : Nat} {i : aI} (hm : 976 ≤ pc) (h : (kt_29 L xs).lookup pc = some i) : (k_law L xs).lookup pc = some i := kT_28 (by omega) ((lk_skip (ka_28 L xs).2 hm).trans h)
theorem kS_29 {L : Nat} {xs : Nat → Int32} : ∀ pc i, (kp_29 L xs).lookup pc = some i → (k_law L xs).lookup pc = some i := fun pc i h => kT_29 ((ka_29 L xs).1 pc (lk_key h)) (lk_here h)
theorem gl_29 {L : Nat} {xs : Nat → Int32} {mc ms d : Nat} {Q : aR} (S : List Nat) {pc : Nat} {lo : List (Option Value)} {st : List Value} {h : List aC} {c s : Nat} (w : runT (mc, ms, callok d) (kp_29 L xs) (k_law L xs) Q S 60 pc lo st h c s) : wp (mc, ms, callok d) (k_law L xs) Q pc lo st h c s := runT_wp kS_29 (m_law L xs) (monoC d) 60 pc lo st h c s w
theorem kT_30 {L : Nat} {xs : Nat → Int32} {pc : Nat} {i : aI} (hm : 989 ≤ pc) (h : (kt_30 L xs).lookup pc = some i) : (k_law L xs).lookup pc = some i := kT_29 (by omega) ((lk_skip (ka_29 L xs).2 hm).trans h)
theorem kS_30 {L : Nat} {xs : Nat → Int32} : ∀ pc i, (kp_30 L xs).lookup pc = some i → (k_law L xs).lookup pc = some i := fun pc i h => kT_30 ((ka_30 L xs).1 pc (lk_key h)) (lk_here h)
theorem gl_30 {L : Nat} {xs : Nat → Int32} {mc ms d : Nat} {Q : aR} (S : List Nat) {pc : Nat} {lo : List (Option Value)} {st : List Value} {h : List aC} {c s : Nat} (w : runT (mc, ms, callok d) (kp_30 L xs) (k_law L xs) Q S 60 pc lo st h c s) : wp (mc, ms, callok d) (k_law L xs) Q pc lo st h c s := runT_wp kS_30 (m_law L xs) (monoC d) 60 pc lo st h c s w
theorem kT_31 {L : Nat} {xs : Nat → Int32} {pc : Nat} {i : aI} (hm : 1002 ≤ pc) (h : (kt_31 L xs).lookup pc = some i) : (k_law L xs).lookup pc = some i := kT_30 (by omega) ((lk_skip (ka_30 L xs).2 hm).trans h)
theorem kS_31 {L : Nat} {xs : Nat → Int32} : ∀ pc i, (kp_31 L xs).lookup pc = some i → (k_law L xs).lookup pc = some i := fun pc i h => kT_31 ((ka_31 L xs).1 pc (lk_key h)) (lk_here h)
theorem gl_31 {L : Nat} {xs : Nat → Int32} {mc ms d : Nat} {Q : aR} (S : List Nat) {pc : Nat} {lo : List (Option Value)} {st : List Value} {h : List aC} {c s : Nat} (w : runT (mc, ms, callok d) (kp_31 L xs) (k_law L xs) Q S 60 pc lo st h c s) : wp (mc, ms, callok d) (k_law L xs) Q pc lo st h c s := runT_wp kS_31 (m_law L xs) (monoC d) 60 pc lo st h c s w
theorem kT_32 {L : Nat} {xs : Nat → Int32} {pc : Nat} {i : aI} (hm : 1025 ≤ pc) (h : (kt_32 L xs).lookup pc = some i) : (k_law L xs).lookup pc = some i := kT_31 (by omega) ((lk_skip (ka_31 L xs).2 hm).trans h)
theorem kS_32 {L : Nat} {xs : Nat → Int32} : ∀ pc i, (kp_32 L xs).lookup pc = some i → (k_law L xs).lookup pc = some i := fun pc i h => kT_32 ((ka_32 L xs).1 pc (lk_key h)) (lk_here h)
theorem gl_32 {L : Nat} {xs : Nat → Int32} {mc ms d : Nat} {Q : aR} (S : List Nat) {pc : Nat} {lo : List (Option Value)} {st : List Value} {h : List aC} {c s : Nat} (w : runT (mc, ms, callok d) (kp_32 L xs) (k_law L xs) Q S 60 pc lo st h c s) : wp (mc, ms, callok d) (k_law L xs) Q pc lo st h c s := runT_wp kS_32 (m_law L xs) (monoC d) 60 pc lo st h c s w
theorem lx_len {h hm : List aC} (hx : XC h) (hl : hm.length = 19) : (h ++ shW 72 hm).length = 91 := by rw [List.length_append, hx.1, List.length_map, hl]
theorem lx_put {h hm h' : List aC} (hx : XC h) (hl : hm.length = 19) (hx' : XC h') : put (h ++ shW 72 hm) [0, 1, 2, 3, 4, 5, 6, 7, 8, 9, 10, 11, 12, 13, 14, 15, 16, 17, 18, 19, 20, 21, 22, 23, 24, 25, 26, 27, 28, 29, 30, 31, 32, 33, 34, 35, 36, 37, 38, 39, 40, 41, 42, 43, 44, 45, 46, 47, 48, 49, 50, 51, 52, 53, 54, 55, 56, 57, 58, 59, 60, 61, 62, 63, 64, 65, 66, 67, 68, 69, 70, 71] (h'.map (rc (rho [0, 1, 2, 3, 4, 5, 6, 7, 8, 9, 10, 11, 12, 13, 14, 15, 16, 17, 18, 19, 20, 21, 22, 23, 24, 25, 26, 27, 28, 29, 30, 31, 32, 33, 34, 35, 36, 37, 38, 39, 40, 41, 42, 43, 44, 45, 46, 47, 48, 49, 50, 51, 52, 53, 54, 55, 56, 57, 58, 59, 60, 61, 62, 63, 64, 65, 66, 67, 68, 69, 70, 71] (h ++ shW 72 hm).length))) = h' ++ shW 72 hm := by
  rw [lx_len hx hl, hx'.2]
  have := put_seg (A := []) (S := h) (B := shW 72 hm) (S' := h') (a := 0) (n := 72) rfl hx.1 hx'.1
  exact this
theorem lx_all {h hm : List aC} (hx : XC h) (hl : hm.length = 19) : [0, 1, 2, 3, 4, 5, 6, 7, 8, 9, 10, 11, 12, 13, 14, 15, 16, 17, 18, 19, 20, 21, 22, 23, 24, 25, 26, 27, 28, 29, 30, 31, 32, 33, 34, 35, 36, 37, 38, 39, 40, 41, 42, 43, 44, 45, 46, 47, 48, 49, 50, 51, 52, 53, 54, 55, 56, 57, 58, 59, 60, 61, 62, 63, 64, 65, 66, 67, 68, 69, 70, 71].all (fun i => decide (i < (h ++ shW 72 hm).length)) = true := by
  rw [lx_len hx hl]
  decide
theorem lx_get {h hm : List aC} (hx : XC h) (hl : hm.length = 19) : [0, 1, 2, 3, 4, 5, 6, 7, 8, 9, 10, 11, 12, 13, 14, 15, 16, 17, 18, 19, 20, 21, 22, 23, 24, 25, 26, 27, 28, 29, 30, 31, 32, 33, 34, 35, 36, 37, 38, 39, 40, 41, 42, 43, 44, 45, 46, 47, 48, 49, 50, 51, 52, 53, 54, 55, 56, 57, 58, 59, 60, 61, 62, 63, 64, 65, 66, 67, 68, 69, 70, 71].map (fun i => (h ++ shW 72 hm)[i]?) = h.map (fun x => some (rc (rho [0, 1, 2, 3, 4, 5, 6, 7, 8, 9, 10, 11, 12, 13, 14, 15, 16, 17, 18, 19, 20, 21, 22, 23, 24, 25, 26, 27, 28, 29, 30, 31, 32, 33, 34, 35, 36, 37, 38, 39, 40, 41, 42, 43, 44, 45, 46, 47, 48, 49, 50, 51, 52, 53, 54, 55, 56, 57, 58, 59, 60, 61, 62, 63, 64, 65, 66, 67, 68, 69, 70, 71] (h ++ shW 72 hm).length) x)) := by
  have e := get_seg (A := []) (S := h) (B := shW 72 hm) (a := 0) (n := 72) rfl hx.1
  refine (show _ = _ from e).trans ?_
  rw [lx_len hx hl]
  have e2 : h.map (fun x => some (rc (rho [0, 1, 2, 3, 4, 5, 6, 7, 8, 9, 10, 11, 12, 13, 14, 15, 16, 17, 18, 19, 20, 21, 22, 23, 24, 25, 26, 27, 28, 29, 30, 31, 32, 33, 34, 35, 36, 37, 38, 39, 40, 41, 42, 43, 44, 45, 46, 47, 48, 49, 50, 51, 52, 53, 54, 55, 56, 57, 58, 59, 60, 61, 62, 63, 64, 65, 66, 67, 68, 69, 70, 71] 91) x)) = (h.map (rc (rho [0, 1, 2, 3, 4, 5, 6, 7, 8, 9, 10, 11, 12, 13, 14, 15, 16, 17, 18, 19, 20, 21, 22, 23, 24, 25, 26, 27, 28, 29, 30, 31, 32, 33, 34, 35, 36, 37, 38, 39, 40, 41, 42, 43, 44, 45, 46, 47, 48, 49, 50, 51, 52, 53, 54, 55, 56, 57, 58, 59, 60, 61, 62, 63, 64, 65, 66, 67, 68, 69, 70, 71] 91))).map some := by rw [List.map_map]; rfl
  rw [e2, hx.2]
theorem lm_all {h hm : List aC} (hx : XC h) (hl : hm.length = 19) : [72, 73, 74, 75, 76, 77, 78, 79, 80, 81, 82, 83, 84, 85, 86, 87, 88, 89, 90].all (fun i => decide (i < (h ++ shW 72 hm).length)) = true := by
  rw [lx_len hx hl]
  decide
theorem lm_get {h hm : List aC} (hx : XC h) (hl : hm.length = 19) (hy : hm.map (rc (rho [72, 73, 74, 75, 76, 77, 78, 79, 80, 81, 82, 83, 84, 85, 86, 87, 88, 89, 90] 91)) = shW 72 hm) : [72, 73, 74, 75, 76, 77, 78, 79, 80, 81, 82, 83, 84, 85, 86, 87, 88, 89, 90].map (fun i => (h ++ shW 72 hm)[i]?) = hm.map (fun x => some (rc (rho [72, 73, 74, 75, 76, 77, 78, 79, 80, 81, 82, 83, 84, 85, 86, 87, 88, 89, 90] (h ++ shW 72 hm).length) x)) := by
  have e := get_seg (A := h) (S := shW 72 hm) (B := []) (a := 72) (n := 19) hx.1 (by rw [List.length_map]; exact hl)
  rw [List.append_nil] at e
  refine (show _ = _ from e).trans ?_
  rw [lx_len hx hl]
  have e2 : hm.map (fun x => some (rc (rho [72, 73, 74, 75, 76, 77, 78, 79, 80, 81, 82, 83, 84, 85, 86, 87, 88, 89, 90] 91) x)) = (hm.map (rc (rho [72, 73, 74, 75, 76, 77, 78, 79, 80, 81, 82, 83, 84, 85, 86, 87, 88, 89, 90] 91))).map some := by rw [List.map_map]; rfl
  rw [e2, hy]
theorem lm_put {h hm hm' : List aC} (hx : XC h) (hl : hm.length = 19) (hl' : hm'.length = 19) (hy' : hm'.map (rc (rho [72, 73, 74, 75, 76, 77, 78, 79, 80, 81, 82, 83, 84, 85, 86, 87, 88, 89, 90] 91)) = shW 72 hm') : put (h ++ shW 72 hm) [72, 73, 74, 75, 76, 77, 78, 79, 80, 81, 82, 83, 84, 85, 86, 87, 88, 89, 90] (hm'.map (rc (rho [72, 73, 74, 75, 76, 77, 78, 79, 80, 81, 82, 83, 84, 85, 86, 87, 88, 89, 90] (h ++ shW 72 hm).length))) = h ++ shW 72 hm' := by
  rw [lx_len hx hl, hy']
  have := put_seg (A := h) (S := shW 72 hm) (B := []) (S' := shW 72 hm') (a := 72) (n := 19) hx.1 (by rw [List.length_map]; exact hl) (by rw [List.length_map]; exact hl')
  rw [List.append_nil, List.append_nil] at this
  exact this
theorem RW.h6 {h hm : List aC} (r : RW h hm) : ∃ fs, h[0]? = some (ao 6 fs) := by
  obtain ⟨_, _, _, _, _, _, _, _, _, _, _, _, _, _, _, _, _, _, _, _, _, _, _, _, _, _, _, _, _, _, _, _, _, _, _, _, _, _, _, _, _, _, _, rfl, -, cc⟩ := r
  exact ⟨_, rfl⟩
theorem RW.h7 {h hm : List aC} (r : RW h hm) : ∃ fs, hm[0]? = some (ao 7 fs) := by
  obtain ⟨_, _, _, _, _, _, _, _, _, _, _, _, _, _, _, _, _, _, _, _, _, _, _, _, _, _, _, _, _, _, _, _, _, _, _, _, _, _, _, _, _, _, _, -, rfl, cc⟩ := r
  exact ⟨_, rfl⟩
section LC
variable {L i : Nat} {xs : Nat → Int32} {h hm : List aC} {x y v w u : Int32}
theorem rs_0 (r : RW h hm) : SG h hm 80 124 [.int x] := by
  obtain ⟨_, _, _, _, _, _, _, _, _, _, _, _, _, _, _, _, _, _, _, _, _, _, _, _, _, _, _, _, _, _, _, _, _, _, _, _, _, _, _, _, _, _, _, rfl, rfl, cc⟩ := r
  exact sg_0 cc
theorem rs_1 (r : RW h hm) : SG h hm 81 125 [] := by
  obtain ⟨_, _, _, _, _, _, _, _, _, _, _, _, _, _, _, _, _, _, _, _, _, _, _, _, _, _, _, _, _, _, _, _, _, _, _, _, _, _, _, _, _, _, _, rfl, rfl, cc⟩ := r
  exact sg_1 cc
theorem rs_2 (r : RW h hm) : SG h hm 82 133 [] := by
  obtain ⟨_, _, _, _, _, _, _, _, _, _, _, _, _, _, _, _, _, _, _, _, _, _, _, _, _, _, _, _, _, _, _, _, _, _, _, _, _, _, _, _, _, _, _, rfl, rfl, cc⟩ := r
  exact sg_2 cc
theorem rs_3 (r : RW h hm) : SG h hm 83 134 [] := by
  obtain ⟨_, _, _, _, _, _, _, _, _, _, _, _, _, _, _, _, _, _, _, _, _, _, _, _, _, _, _, _, _, _, _, _, _, _, _, _, _, _, _, _, _, _, _, rfl, rfl, cc⟩ := r
  exact sg_3 cc
theorem rs_4 (r : RW h hm) : SG h hm 84 135 [.int x, .int y] := by
  obtain ⟨_, _, _, _, _, _, _, _, _, _, _, _, _, _, _, _, _, _, _, _, _, _, _, _, _, _, _, _, _, _, _, _, _, _, _, _, _, _, _, _, _, _, _, rfl, rfl, cc⟩ := r
  exact sg_4 cc
theorem rs_5 (r : RW h hm) : SG h hm 85 136 [.int x, .int y] := by
  obtain ⟨_, _, _, _, _, _, _, _, _, _, _, _, _, _, _, _, _, _, _, _, _, _, _, _, _, _, _, _, _, _, _, _, _, _, _, _, _, _, _, _, _, _, _, rfl, rfl, cc⟩ := r
  exact sg_5 cc
theorem rs_6 (r : RW h hm) : SG h hm 86 137 [.int x] := by
  obtain ⟨_, _, _, _, _, _, _, _, _, _, _, _, _, _, _, _, _, _, _, _, _, _, _, _, _, _, _, _, _, _, _, _, _, _, _, _, _, _, _, _, _, _, _, rfl, rfl, cc⟩ := r
  exact sg_6 cc
theorem rs_7 (r : RW h hm) : SG h hm 87 147 [.int x] := by
  obtain ⟨_, _, _, _, _, _, _, _, _, _, _, _, _, _, _, _, _, _, _, _, _, _, _, _, _, _, _, _, _, _, _, _, _, _, _, _, _, _, _, _, _, _, _, rfl, rfl, cc⟩ := r
  exact sg_7 cc
theorem rs_8 (r : RW h hm) : SG h hm 88 148 [.int x, .int y, .int v] := by
  obtain ⟨_, _, _, _, _, _, _, _, _, _, _, _, _, _, _, _, _, _, _, _, _, _, _, _, _, _, _, _, _, _, _, _, _, _, _, _, _, _, _, _, _, _, _, rfl, rfl, cc⟩ := r
  exact sg_8 cc
theorem rs_9 (r : RW h hm) : SG h hm 89 150 [.int x] := by
  obtain ⟨_, _, _, _, _, _, _, _, _, _, _, _, _, _, _, _, _, _, _, _, _, _, _, _, _, _, _, _, _, _, _, _, _, _, _, _, _, _, _, _, _, _, _, rfl, rfl, cc⟩ := r
  exact sg_9 cc
theorem rs_10 (r : RW h hm) : SG h hm 90 152 [.int x] := by
  obtain ⟨_, _, _, _, _, _, _, _, _, _, _, _, _, _, _, _, _, _, _, _, _, _, _, _, _, _, _, _, _, _, _, _, _, _, _, _, _, _, _, _, _, _, _, rfl, rfl, cc⟩ := r
  exact sg_10 cc
theorem rs_11 (r : RW h hm) : SG h hm 91 153 [.int x] := by
  obtain ⟨_, _, _, _, _, _, _, _, _, _, _, _, _, _, _, _, _, _, _, _, _, _, _, _, _, _, _, _, _, _, _, _, _, _, _, _, _, _, _, _, _, _, _, rfl, rfl, cc⟩ := r
  exact sg_11 cc
theorem rs_12 (r : RW h hm) : SG h hm 92 154 [.int x, .int y] := by
  obtain ⟨_, _, _, _, _, _, _, _, _, _, _, _, _, _, _, _, _, _, _, _, _, _, _, _, _, _, _, _, _, _, _, _, _, _, _, _, _, _, _, _, _, _, _, rfl, rfl, cc⟩ := r
  exact sg_12 cc
theorem rs_13 (r : RW h hm) : SG h hm 93 155 [] := by
  obtain ⟨_, _, _, _, _, _, _, _, _, _, _, _, _, _, _, _, _, _, _, _, _, _, _, _, _, _, _, _, _, _, _, _, _, _, _, _, _, _, _, _, _, _, _, rfl, rfl, cc⟩ := r
  exact sg_13 cc
theorem rs_14 (r : RW h hm) : SG h hm 94 158 [.int x, .int y, .int v] := by
  obtain ⟨_, _, _, _, _, _, _, _, _, _, _, _, _, _, _, _, _, _, _, _, _, _, _, _, _, _, _, _, _, _, _, _, _, _, _, _, _, _, _, _, _, _, _, rfl, rfl, cc⟩ := r
  exact sg_14 cc
theorem rs_15 (r : RW h hm) : SG h hm 95 159 [.int x, .int y] := by
  obtain ⟨_, _, _, _, _, _, _, _, _, _, _, _, _, _, _, _, _, _, _, _, _, _, _, _, _, _, _, _, _, _, _, _, _, _, _, _, _, _, _, _, _, _, _, rfl, rfl, cc⟩ := r
  exact sg_15 cc
theorem rs_16 (r : RW h hm) : SG h hm 96 160 [] := by
  obtain ⟨_, _, _, _, _, _, _, _, _, _, _, _, _, _, _, _, _, _, _, _, _, _, _, _, _, _, _, _, _, _, _, _, _, _, _, _, _, _, _, _, _, _, _, rfl, rfl, cc⟩ := r
  exact sg_16 cc
theorem rs_17 (r : RW h hm) : SG h hm 97 162 [.int x] := by
  obtain ⟨_, _, _, _, _, _, _, _, _, _, _, _, _, _, _, _, _, _, _, _, _, _, _, _, _, _, _, _, _, _, _, _, _, _, _, _, _, _, _, _, _, _, _, rfl, rfl, cc⟩ := r
  exact sg_17 cc
theorem rs_18 (r : RW h hm) : SG h hm 98 164 [.int x, .int y] := by
  obtain ⟨_, _, _, _, _, _, _, _, _, _, _, _, _, _, _, _, _, _, _, _, _, _, _, _, _, _, _, _, _, _, _, _, _, _, _, _, _, _, _, _, _, _, _, rfl, rfl, cc⟩ := r
  exact sg_18 cc
theorem rs_19 (r : RW h hm) : SG h hm 99 165 [.int x, .int y] := by
  obtain ⟨_, _, _, _, _, _, _, _, _, _, _, _, _, _, _, _, _, _, _, _, _, _, _, _, _, _, _, _, _, _, _, _, _, _, _, _, _, _, _, _, _, _, _, rfl, rfl, cc⟩ := r
  exact sg_19 cc
theorem rs_20 (r : RW h hm) : SG h hm 100 166 [.int x, .int y] := by
  obtain ⟨_, _, _, _, _, _, _, _, _, _, _, _, _, _, _, _, _, _, _, _, _, _, _, _, _, _, _, _, _, _, _, _, _, _, _, _, _, _, _, _, _, _, _, rfl, rfl, cc⟩ := r
  exact sg_20 cc
theorem rs_21 (r : RW h hm) : SG h hm 101 167 [.int x, .int y, .int v, .int w] := by
  obtain ⟨_, _, _, _, _, _, _, _, _, _, _, _, _, _, _, _, _, _, _, _, _, _, _, _, _, _, _, _, _, _, _, _, _, _, _, _, _, _, _, _, _, _, _, rfl, rfl, cc⟩ := r
  exact sg_21 cc
theorem rs_22 (r : RW h hm) : SG h hm 102 168 [] := by
  obtain ⟨_, _, _, _, _, _, _, _, _, _, _, _, _, _, _, _, _, _, _, _, _, _, _, _, _, _, _, _, _, _, _, _, _, _, _, _, _, _, _, _, _, _, _, rfl, rfl, cc⟩ := r
  exact sg_22 cc
theorem rs_23 (r : RW h hm) : SG h hm 103 170 [.int x] := by
  obtain ⟨_, _, _, _, _, _, _, _, _, _, _, _, _, _, _, _, _, _, _, _, _, _, _, _, _, _, _, _, _, _, _, _, _, _, _, _, _, _, _, _, _, _, _, rfl, rfl, cc⟩ := r
  exact sg_23 cc
theorem rs_24 (r : RW h hm) : SG h hm 104 171 [.int x] := by
  obtain ⟨_, _, _, _, _, _, _, _, _, _, _, _, _, _, _, _, _, _, _, _, _, _, _, _, _, _, _, _, _, _, _, _, _, _, _, _, _, _, _, _, _, _, _, rfl, rfl, cc⟩ := r
  exact sg_24 cc
theorem rs_25 (r : RW h hm) : SG h hm 105 174 [.int x, .int y, .int v] := by
  obtain ⟨_, _, _, _, _, _, _, _, _, _, _, _, _, _, _, _, _, _, _, _, _, _, _, _, _, _, _, _, _, _, _, _, _, _, _, _, _, _, _, _, _, _, _, rfl, rfl, cc⟩ := r
  exact sg_25 cc
theorem rs_26 (r : RW h hm) : SG h hm 106 176 [.int x, .int y, .int v, .int w, .int u] := by
  obtain ⟨_, _, _, _, _, _, _, _, _, _, _, _, _, _, _, _, _, _, _, _, _, _, _, _, _, _, _, _, _, _, _, _, _, _, _, _, _, _, _, _, _, _, _, rfl, rfl, cc⟩ := r
  exact sg_26 cc
theorem rs_27 (r : RW h hm) : SG h hm 107 177 [.int x, .int y, .int v] := by
  obtain ⟨_, _, _, _, _, _, _, _, _, _, _, _, _, _, _, _, _, _, _, _, _, _, _, _, _, _, _, _, _, _, _, _, _, _, _, _, _, _, _, _, _, _, _, rfl, rfl, cc⟩ := r
  exact sg_27 cc
theorem rs_28 (r : RW h hm) : SG h hm 108 178 [] := by
  obtain ⟨_, _, _, _, _, _, _, _, _, _, _, _, _, _, _, _, _, _, _, _, _, _, _, _, _, _, _, _, _, _, _, _, _, _, _, _, _, _, _, _, _, _, _, rfl, rfl, cc⟩ := r
  exact sg_28 cc
theorem rs_29 (r : RW h hm) : SG h hm 109 179 [] := by
  obtain ⟨_, _, _, _, _, _, _, _, _, _, _, _, _, _, _, _, _, _, _, _, _, _, _, _, _, _, _, _, _, _, _, _, _, _, _, _, _, _, _, _, _, _, _, rfl, rfl, cc⟩ := r
  exact sg_29 cc
theorem rs_30 (r : RW h hm) : SG h hm 110 180 [.int x] := by
  obtain ⟨_, _, _, _, _, _, _, _, _, _, _, _, _, _, _, _, _, _, _, _, _, _, _, _, _, _, _, _, _, _, _, _, _, _, _, _, _, _, _, _, _, _, _, rfl, rfl, cc⟩ := r
  exact sg_30 cc
end LC
