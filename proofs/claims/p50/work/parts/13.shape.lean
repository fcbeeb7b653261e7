/-! what the constructors make: cells, references, first ints (written by program out of the run) -/
def pz_hTa : List (Nat × Nat × Nat) := [(2, 10, 0)]
def pz_hNa : List (Nat × Nat × Nat) := []
def pz_hIa : List (Nat × Nat × Int) := []
def pz_hTb : List (Nat × Nat × Nat) := [(153, 20, 10), (152, 2, 0), (151, 7, 0), (150, 20, 10), (149, 20, 100), (148, 20, 100), (147, 5, 0), (146, 20, 30), (145, 20, 30), (144, 20, 100), (143, 20, 100), (142, 8, 0), (141, 20, 10), (140, 20, 100), (139, 20, 100), (138, 5, 0), (137, 20, 10), (136, 20, 10), (135, 20, 40), (134, 21, 40), (133, 20, 10), (132, 20, 100), (131, 20, 100), (130, 5, 0), (129, 4, 0), (128, 20, 10), (127, 2, 0), (126, 22, 5), (125, 20, 10), (124, 20, 10), (123, 20, 10), (122, 3, 0), (121, 20, 5), (120, 20, 5), (119, 20, 5), (118, 0, 0), (117, 20, 10), (116, 2, 0), (115, 20, 3), (114, 20, 3), (113, 20, 3), (112, 20, 3), (111, 9, 0), (110, 21, 40), (109, 20, 40), (108, 20, 40), (107, 20, 40), (106, 20, 40), (105, 1, 0), (104, 6, 0), (103, 20, 10), (102, 2, 0), (101, 22, 5), (100, 20, 10), (99, 20, 10), (98, 20, 10), (97, 3, 0), (96, 20, 5), (95, 20, 5), (94, 20, 5), (93, 0, 0), (92, 20, 10), (91, 2, 0), (90, 20, 3), (89, 20, 3), (88, 20, 3), (87, 20, 3), (86, 9, 0), (85, 21, 40), (84, 20, 40), (83, 20, 40), (82, 20, 40), (81, 20, 40), (80, 1, 0), (79, 6, 0), (78, 20, 10), (77, 2, 0), (76, 22, 5), (75, 20, 10), (74, 20, 10), (73, 20, 10), (72, 3, 0), (71, 20, 5), (70, 20, 5), (69, 20, 5), (68, 0, 0), (67, 20, 10), (66, 2, 0), (65, 20, 3), (64, 20, 3), (63, 20, 3), (62, 20, 3), (61, 9, 0), (60, 21, 40), (59, 20, 40), (58, 20, 40), (57, 20, 40), (56, 20, 40), (55, 1, 0), (54, 6, 0), (53, 20, 10), (52, 2, 0), (51, 22, 5), (50, 20, 10), (49, 20, 10), (48, 20, 10), (47, 3, 0), (46, 20, 5), (45, 20, 5), (44, 20, 5), (43, 0, 0), (42, 20, 10), (41, 2, 0), (40, 20, 3), (39, 20, 3), (38, 20, 3), (37, 20, 3), (36, 9, 0), (35, 21, 40), (34, 20, 40), (33, 20, 40), (32, 20, 40), (31, 20, 40), (30, 1, 0), (29, 6, 0), (28, 23, 4), (27, 20, 10), (26, 2, 0), (25, 22, 5), (24, 20, 10), (23, 20, 10), (22, 20, 10), (21, 3, 0), (20, 20, 5), (19, 20, 5), (18, 20, 5), (17, 0, 0), (16, 20, 10), (15, 2, 0), (14, 20, 3), (13, 20, 3), (12, 20, 3), (11, 20, 3), (10, 9, 0), (9, 21, 40), (8, 20, 40), (7, 20, 40), (6, 20, 40), (5, 20, 40), (4, 1, 0), (3, 6, 0), (2, 10, 0)]
def pz_hNb : List (Nat × Nat × Nat) := [(2, 6, 151), (151, 1, 142), (151, 0, 3), (151, 2, 152), (152, 1, 153), (2, 5, 142), (142, 0, 3), (142, 8, 147), (147, 4, 150), (147, 3, 149), (147, 2, 148), (142, 7, 146), (142, 6, 145), (142, 5, 144), (142, 4, 143), (2, 4, 138), (138, 4, 141), (138, 3, 140), (138, 2, 139), (2, 3, 129), (129, 0, 3), (129, 6, 137), (129, 5, 136), (129, 4, 135), (129, 2, 134), (129, 1, 130), (130, 4, 133), (130, 3, 132), (130, 2, 131), (28, 3, 104), (104, 8, 127), (127, 1, 128), (104, 6, 126), (104, 5, 122), (122, 2, 125), (122, 1, 124), (122, 0, 123), (104, 4, 118), (118, 4, 121), (118, 3, 120), (118, 2, 119), (104, 3, 116), (116, 1, 117), (104, 2, 111), (111, 4, 115), (111, 3, 114), (111, 2, 113), (111, 1, 112), (104, 1, 105), (105, 5, 110), (105, 4, 109), (105, 3, 108), (105, 2, 107), (105, 1, 106), (28, 2, 79), (79, 8, 102), (102, 1, 103), (79, 6, 101), (79, 5, 97), (97, 2, 100), (97, 1, 99), (97, 0, 98), (79, 4, 93), (93, 4, 96), (93, 3, 95), (93, 2, 94), (79, 3, 91), (91, 1, 92), (79, 2, 86), (86, 4, 90), (86, 3, 89), (86, 2, 88), (86, 1, 87), (79, 1, 80), (80, 5, 85), (80, 4, 84), (80, 3, 83), (80, 2, 82), (80, 1, 81), (28, 1, 54), (54, 8, 77), (77, 1, 78), (54, 6, 76), (54, 5, 72), (72, 2, 75), (72, 1, 74), (72, 0, 73), (54, 4, 68), (68, 4, 71), (68, 3, 70), (68, 2, 69), (54, 3, 66), (66, 1, 67), (54, 2, 61), (61, 4, 65), (61, 3, 64), (61, 2, 63), (61, 1, 62), (54, 1, 55), (55, 5, 60), (55, 4, 59), (55, 3, 58), (55, 2, 57), (55, 1, 56), (28, 0, 29), (29, 8, 52), (52, 1, 53), (29, 6, 51), (29, 5, 47), (47, 2, 50), (47, 1, 49), (47, 0, 48), (29, 4, 43), (43, 4, 46), (43, 3, 45), (43, 2, 44), (29, 3, 41), (41, 1, 42), (29, 2, 36), (36, 4, 40), (36, 3, 39), (36, 2, 38), (36, 1, 37), (29, 1, 30), (30, 5, 35), (30, 4, 34), (30, 3, 33), (30, 2, 32), (30, 1, 31), (2, 1, 28), (2, 0, 3), (3, 8, 26), (26, 1, 27), (3, 6, 25), (3, 5, 21), (21, 2, 24), (21, 1, 23), (21, 0, 22), (3, 4, 17), (17, 4, 20), (17, 3, 19), (17, 2, 18), (3, 3, 15), (15, 1, 16), (3, 2, 10), (10, 4, 14), (10, 3, 13), (10, 2, 12), (10, 1, 11), (3, 1, 4), (4, 5, 9), (4, 4, 8), (4, 3, 7), (4, 2, 6), (4, 1, 5)]
def pz_hIb : List (Nat × Nat × Int) := [(153, 0, 0), (153, 9, (-1)), (153, 8, (-1)), (153, 7, (-1)), (153, 6, (-1)), (153, 5, (-1)), (153, 4, (-1)), (153, 3, (-1)), (153, 2, (-1)), (153, 1, (-1)), (153, 0, (-1)), (152, 0, 0), (152, 0, 0), (147, 1, 1), (147, 0, 0), (142, 3, 0), (142, 2, 0), (142, 1, 0), (138, 1, 1), (138, 0, 0), (129, 3, 0), (130, 1, 1), (130, 0, 0), (126, 4, 111), (126, 3, 111), (126, 2, 111), (126, 1, 111), (126, 0, 111), (128, 0, 0), (128, 9, (-1)), (128, 8, (-1)), (128, 7, (-1)), (128, 6, (-1)), (128, 5, (-1)), (128, 4, (-1)), (128, 3, (-1)), (128, 2, (-1)), (128, 1, (-1)), (128, 0, (-1)), (127, 0, 0), (127, 0, 0), (104, 7, 0), (123, 9, (-1)), (123, 8, (-1)), (123, 7, (-1)), (123, 6, (-1)), (123, 5, (-1)), (123, 4, (-1)), (123, 3, (-1)), (123, 2, (-1)), (123, 1, (-1)), (123, 0, (-1)), (118, 1, 9), (118, 0, 0), (117, 0, 0), (117, 9, (-1)), (117, 8, (-1)), (117, 7, (-1)), (117, 6, (-1)), (117, 5, (-1)), (117, 4, (-1)), (117, 3, (-1)), (117, 2, (-1)), (117, 1, (-1)), (117, 0, (-1)), (116, 0, 0), (116, 0, 0), (111, 0, 0), (105, 0, 0), (104, 0, 1), (101, 4, 111), (101, 3, 111), (101, 2, 111), (101, 1, 111), (101, 0, 111), (103, 0, 0), (103, 9, (-1)), (103, 8, (-1)), (103, 7, (-1)), (103, 6, (-1)), (103, 5, (-1)), (103, 4, (-1)), (103, 3, (-1)), (103, 2, (-1)), (103, 1, (-1)), (103, 0, (-1)), (102, 0, 0), (102, 0, 0), (79, 7, 0), (98, 9, (-1)), (98, 8, (-1)), (98, 7, (-1)), (98, 6, (-1)), (98, 5, (-1)), (98, 4, (-1)), (98, 3, (-1)), (98, 2, (-1)), (98, 1, (-1)), (98, 0, (-1)), (93, 1, 9), (93, 0, 0), (92, 0, 0), (92, 9, (-1)), (92, 8, (-1)), (92, 7, (-1)), (92, 6, (-1)), (92, 5, (-1)), (92, 4, (-1)), (92, 3, (-1)), (92, 2, (-1)), (92, 1, (-1)), (92, 0, (-1)), (91, 0, 0), (91, 0, 0), (86, 0, 0), (80, 0, 0), (79, 0, 1), (76, 4, 111), (76, 3, 111), (76, 2, 111), (76, 1, 111), (76, 0, 111), (78, 0, 0), (78, 9, (-1)), (78, 8, (-1)), (78, 7, (-1)), (78, 6, (-1)), (78, 5, (-1)), (78, 4, (-1)), (78, 3, (-1)), (78, 2, (-1)), (78, 1, (-1)), (78, 0, (-1)), (77, 0, 0), (77, 0, 0), (54, 7, 0), (73, 9, (-1)), (73, 8, (-1)), (73, 7, (-1)), (73, 6, (-1)), (73, 5, (-1)), (73, 4, (-1)), (73, 3, (-1)), (73, 2, (-1)), (73, 1, (-1)), (73, 0, (-1)), (68, 1, 9), (68, 0, 0), (67, 0, 0), (67, 9, (-1)), (67, 8, (-1)), (67, 7, (-1)), (67, 6, (-1)), (67, 5, (-1)), (67, 4, (-1)), (67, 3, (-1)), (67, 2, (-1)), (67, 1, (-1)), (67, 0, (-1)), (66, 0, 0), (66, 0, 0), (61, 0, 0), (55, 0, 0), (54, 0, 1), (51, 4, 111), (51, 3, 111), (51, 2, 111), (51, 1, 111), (51, 0, 111), (53, 0, 0), (53, 9, (-1)), (53, 8, (-1)), (53, 7, (-1)), (53, 6, (-1)), (53, 5, (-1)), (53, 4, (-1)), (53, 3, (-1)), (53, 2, (-1)), (53, 1, (-1)), (53, 0, (-1)), (52, 0, 0), (52, 0, 0), (29, 7, 0), (48, 9, (-1)), (48, 8, (-1)), (48, 7, (-1)), (48, 6, (-1)), (48, 5, (-1)), (48, 4, (-1)), (48, 3, (-1)), (48, 2, (-1)), (48, 1, (-1)), (48, 0, (-1)), (43, 1, 9), (43, 0, 0), (42, 0, 0), (42, 9, (-1)), (42, 8, (-1)), (42, 7, (-1)), (42, 6, (-1)), (42, 5, (-1)), (42, 4, (-1)), (42, 3, (-1)), (42, 2, (-1)), (42, 1, (-1)), (42, 0, (-1)), (41, 0, 0), (41, 0, 0), (36, 0, 0), (30, 0, 0), (29, 0, 1), (25, 4, 111), (25, 3, 111), (25, 2, 111), (25, 1, 111), (25, 0, 111), (27, 0, 0), (27, 9, (-1)), (27, 8, (-1)), (27, 7, (-1)), (27, 6, (-1)), (27, 5, (-1)), (27, 4, (-1)), (27, 3, (-1)), (27, 2, (-1)), (27, 1, (-1)), (27, 0, (-1)), (26, 0, 0), (26, 0, 0), (3, 7, 0), (22, 9, (-1)), (22, 8, (-1)), (22, 7, (-1)), (22, 6, (-1)), (22, 5, (-1)), (22, 4, (-1)), (22, 3, (-1)), (22, 2, (-1)), (22, 1, (-1)), (22, 0, (-1)), (17, 1, 9), (17, 0, 0), (16, 0, 0), (16, 9, (-1)), (16, 8, (-1)), (16, 7, (-1)), (16, 6, (-1)), (16, 5, (-1)), (16, 4, (-1)), (16, 3, (-1)), (16, 2, (-1)), (16, 1, (-1)), (16, 0, (-1)), (15, 0, 0), (15, 0, 0), (10, 0, 0), (4, 0, 0), (3, 0, 1)]
def pz_q3 {α : Type} (f : α → α → Bool) : List (Nat × Nat × α) → List (Nat × Nat × α) → Bool
  | [], [] => true
  | (a, b, c) :: l, (a', b', c') :: l' => Nat.beq a a' && (Nat.beq b b' && (f c c' && pz_q3 f l l'))
  | _, _ => false
theorem pz_q3_ok {α : Type} {f : α → α → Bool} (hf : ∀ x y, f x y = true → x = y) : ∀ (l l' : List (Nat × Nat × α)), pz_q3 f l l' = true → l = l'
  | [], [], _ => rfl
  | (a, b, c) :: l, (a', b', c') :: l', h => by
    simp only [pz_q3, Bool.and_eq_true, Nat.beq_eq] at h
    obtain ⟨rfl, rfl, h3, h4⟩ := h
    rw [hf _ _ h3, pz_q3_ok hf l l' h4]
  | [], _ :: _, h => by cases h
  | _ :: _, [], h => by cases h
def pz_same (o : Option pz_aO) (h : pz_aH) : Bool := match o with
  | some (.inl none, h') => Nat.beq h'.1 h.1 && (pz_q3 Nat.beq h'.2.1 h.2.1 && (pz_q3 Nat.beq h'.2.2.1 h.2.2.1 && (pz_q3 (fun x y => decide (x = y)) h'.2.2.2.1 h.2.2.2.1 && (Nat.beq h'.2.2.2.2.1 h.2.2.2.2.1 && Nat.beq h'.2.2.2.2.2 h.2.2.2.2.2))))
  | _ => false
theorem pz_same_ok {o : Option pz_aO} {h : pz_aH} (q : pz_same o h = true) : o = some (.inl none, h) := by
  unfold pz_same at q
  split at q
  · rename_i h9
    obtain ⟨a1, a2, a3, a4, a5, a6⟩ := h9
    obtain ⟨b1, b2, b3, b4, b5, b6⟩ := h
    simp only [Bool.and_eq_true, Nat.beq_eq] at q
    obtain ⟨q1, q2, q3, q4, q5, q6⟩ := q
    rw [q1, q5, q6, pz_q3_ok (fun x y h => Nat.eq_of_beq_eq_true h) _ _ q2, pz_q3_ok (fun x y h => Nat.eq_of_beq_eq_true h) _ _ q3, pz_q3_ok (fun x y h => of_decide_eq_true h) _ _ q4]
  · cases q
theorem pz_bd1 : pz_same (pz_srun 400 122 0 (pz_en 122 [.inr (.inl 2)]) [] (1, pz_hTa, pz_hNa, pz_hIa, 1, 10)) (152, pz_hTb, pz_hNb, pz_hIb, 152, 2620) = true := by decide +kernel
def pz_hTe : List (Nat × Nat × Nat) := [(154, 20, 190), (153, 20, 10), (152, 2, 0), (151, 7, 0), (150, 20, 10), (149, 20, 100), (148, 20, 100), (147, 5, 0), (146, 20, 30), (145, 20, 30), (144, 20, 100), (143, 20, 100), (142, 8, 0), (141, 20, 10), (140, 20, 100), (139, 20, 100), (138, 5, 0), (137, 20, 10), (136, 20, 10), (135, 20, 40), (134, 21, 40), (133, 20, 10), (132, 20, 100), (131, 20, 100), (130, 5, 0), (129, 4, 0), (128, 20, 10), (127, 2, 0), (126, 22, 5), (125, 20, 10), (124, 20, 10), (123, 20, 10), (122, 3, 0), (121, 20, 5), (120, 20, 5), (119, 20, 5), (118, 0, 0), (117, 20, 10), (116, 2, 0), (115, 20, 3), (114, 20, 3), (113, 20, 3), (112, 20, 3), (111, 9, 0), (110, 21, 40), (109, 20, 40), (108, 20, 40), (107, 20, 40), (106, 20, 40), (105, 1, 0), (104, 6, 0), (103, 20, 10), (102, 2, 0), (101, 22, 5), (100, 20, 10), (99, 20, 10), (98, 20, 10), (97, 3, 0), (96, 20, 5), (95, 20, 5), (94, 20, 5), (93, 0, 0), (92, 20, 10), (91, 2, 0), (90, 20, 3), (89, 20, 3), (88, 20, 3), (87, 20, 3), (86, 9, 0), (85, 21, 40), (84, 20, 40), (83, 20, 40), (82, 20, 40), (81, 20, 40), (80, 1, 0), (79, 6, 0), (78, 20, 10), (77, 2, 0), (76, 22, 5), (75, 20, 10), (74, 20, 10), (73, 20, 10), (72, 3, 0), (71, 20, 5), (70, 20, 5), (69, 20, 5), (68, 0, 0), (67, 20, 10), (66, 2, 0), (65, 20, 3), (64, 20, 3), (63, 20, 3), (62, 20, 3), (61, 9, 0), (60, 21, 40), (59, 20, 40), (58, 20, 40), (57, 20, 40), (56, 20, 40), (55, 1, 0), (54, 6, 0), (53, 20, 10), (52, 2, 0), (51, 22, 5), (50, 20, 10), (49, 20, 10), (48, 20, 10), (47, 3, 0), (46, 20, 5), (45, 20, 5), (44, 20, 5), (43, 0, 0), (42, 20, 10), (41, 2, 0), (40, 20, 3), (39, 20, 3), (38, 20, 3), (37, 20, 3), (36, 9, 0), (35, 21, 40), (34, 20, 40), (33, 20, 40), (32, 20, 40), (31, 20, 40), (30, 1, 0), (29, 6, 0), (28, 23, 4), (27, 20, 10), (26, 2, 0), (25, 22, 5), (24, 20, 10), (23, 20, 10), (22, 20, 10), (21, 3, 0), (20, 20, 5), (19, 20, 5), (18, 20, 5), (17, 0, 0), (16, 20, 10), (15, 2, 0), (14, 20, 3), (13, 20, 3), (12, 20, 3), (11, 20, 3), (10, 9, 0), (9, 21, 40), (8, 20, 40), (7, 20, 40), (6, 20, 40), (5, 20, 40), (4, 1, 0), (3, 6, 0), (2, 10, 0)]
def pz_hNe : List (Nat × Nat × Nat) := [(2, 6, 151), (151, 1, 142), (151, 0, 3), (151, 2, 152), (152, 1, 153), (2, 5, 142), (142, 0, 3), (142, 8, 147), (147, 4, 150), (147, 3, 149), (147, 2, 148), (142, 7, 146), (142, 6, 145), (142, 5, 144), (142, 4, 143), (2, 4, 138), (138, 4, 141), (138, 3, 140), (138, 2, 139), (2, 3, 129), (129, 0, 3), (129, 6, 137), (129, 5, 136), (129, 4, 135), (129, 2, 134), (129, 1, 130), (130, 4, 133), (130, 3, 132), (130, 2, 131), (28, 3, 104), (104, 8, 127), (127, 1, 128), (104, 6, 126), (104, 5, 122), (122, 2, 125), (122, 1, 124), (122, 0, 123), (104, 4, 118), (118, 4, 121), (118, 3, 120), (118, 2, 119), (104, 3, 116), (116, 1, 117), (104, 2, 111), (111, 4, 115), (111, 3, 114), (111, 2, 113), (111, 1, 112), (104, 1, 105), (105, 5, 110), (105, 4, 109), (105, 3, 108), (105, 2, 107), (105, 1, 106), (28, 2, 79), (79, 8, 102), (102, 1, 103), (79, 6, 101), (79, 5, 97), (97, 2, 100), (97, 1, 99), (97, 0, 98), (79, 4, 93), (93, 4, 96), (93, 3, 95), (93, 2, 94), (79, 3, 91), (91, 1, 92), (79, 2, 86), (86, 4, 90), (86, 3, 89), (86, 2, 88), (86, 1, 87), (79, 1, 80), (80, 5, 85), (80, 4, 84), (80, 3, 83), (80, 2, 82), (80, 1, 81), (28, 1, 54), (54, 8, 77), (77, 1, 78), (54, 6, 76), (54, 5, 72), (72, 2, 75), (72, 1, 74), (72, 0, 73), (54, 4, 68), (68, 4, 71), (68, 3, 70), (68, 2, 69), (54, 3, 66), (66, 1, 67), (54, 2, 61), (61, 4, 65), (61, 3, 64), (61, 2, 63), (61, 1, 62), (54, 1, 55), (55, 5, 60), (55, 4, 59), (55, 3, 58), (55, 2, 57), (55, 1, 56), (28, 0, 29), (29, 8, 52), (52, 1, 53), (29, 6, 51), (29, 5, 47), (47, 2, 50), (47, 1, 49), (47, 0, 48), (29, 4, 43), (43, 4, 46), (43, 3, 45), (43, 2, 44), (29, 3, 41), (41, 1, 42), (29, 2, 36), (36, 4, 40), (36, 3, 39), (36, 2, 38), (36, 1, 37), (29, 1, 30), (30, 5, 35), (30, 4, 34), (30, 3, 33), (30, 2, 32), (30, 1, 31), (2, 1, 28), (2, 0, 3), (3, 8, 26), (26, 1, 27), (3, 6, 25), (3, 5, 21), (21, 2, 24), (21, 1, 23), (21, 0, 22), (3, 4, 17), (17, 4, 20), (17, 3, 19), (17, 2, 18), (3, 3, 15), (15, 1, 16), (3, 2, 10), (10, 4, 14), (10, 3, 13), (10, 2, 12), (10, 1, 11), (3, 1, 4), (4, 5, 9), (4, 4, 8), (4, 3, 7), (4, 2, 6), (4, 1, 5)]
def pz_hIe : List (Nat × Nat × Int) := [(153, 0, 0), (153, 9, (-1)), (153, 8, (-1)), (153, 7, (-1)), (153, 6, (-1)), (153, 5, (-1)), (153, 4, (-1)), (153, 3, (-1)), (153, 2, (-1)), (153, 1, (-1)), (153, 0, (-1)), (152, 0, 0), (152, 0, 0), (147, 1, 1), (147, 0, 0), (142, 3, 0), (142, 2, 0), (142, 1, 0), (138, 1, 1), (138, 0, 0), (129, 3, 0), (130, 1, 1), (130, 0, 0), (126, 4, 111), (126, 3, 111), (126, 2, 111), (126, 1, 111), (126, 0, 111), (128, 0, 0), (128, 9, (-1)), (128, 8, (-1)), (128, 7, (-1)), (128, 6, (-1)), (128, 5, (-1)), (128, 4, (-1)), (128, 3, (-1)), (128, 2, (-1)), (128, 1, (-1)), (128, 0, (-1)), (127, 0, 0), (127, 0, 0), (104, 7, 0), (123, 9, (-1)), (123, 8, (-1)), (123, 7, (-1)), (123, 6, (-1)), (123, 5, (-1)), (123, 4, (-1)), (123, 3, (-1)), (123, 2, (-1)), (123, 1, (-1)), (123, 0, (-1)), (118, 1, 9), (118, 0, 0), (117, 0, 0), (117, 9, (-1)), (117, 8, (-1)), (117, 7, (-1)), (117, 6, (-1)), (117, 5, (-1)), (117, 4, (-1)), (117, 3, (-1)), (117, 2, (-1)), (117, 1, (-1)), (117, 0, (-1)), (116, 0, 0), (116, 0, 0), (111, 0, 0), (105, 0, 0), (104, 0, 1), (101, 4, 111), (101, 3, 111), (101, 2, 111), (101, 1, 111), (101, 0, 111), (103, 0, 0), (103, 9, (-1)), (103, 8, (-1)), (103, 7, (-1)), (103, 6, (-1)), (103, 5, (-1)), (103, 4, (-1)), (103, 3, (-1)), (103, 2, (-1)), (103, 1, (-1)), (103, 0, (-1)), (102, 0, 0), (102, 0, 0), (79, 7, 0), (98, 9, (-1)), (98, 8, (-1)), (98, 7, (-1)), (98, 6, (-1)), (98, 5, (-1)), (98, 4, (-1)), (98, 3, (-1)), (98, 2, (-1)), (98, 1, (-1)), (98, 0, (-1)), (93, 1, 9), (93, 0, 0), (92, 0, 0), (92, 9, (-1)), (92, 8, (-1)), (92, 7, (-1)), (92, 6, (-1)), (92, 5, (-1)), (92, 4, (-1)), (92, 3, (-1)), (92, 2, (-1)), (92, 1, (-1)), (92, 0, (-1)), (91, 0, 0), (91, 0, 0), (86, 0, 0), (80, 0, 0), (79, 0, 1), (76, 4, 111), (76, 3, 111), (76, 2, 111), (76, 1, 111), (76, 0, 111), (78, 0, 0), (78, 9, (-1)), (78, 8, (-1)), (78, 7, (-1)), (78, 6, (-1)), (78, 5, (-1)), (78, 4, (-1)), (78, 3, (-1)), (78, 2, (-1)), (78, 1, (-1)), (78, 0, (-1)), (77, 0, 0), (77, 0, 0), (54, 7, 0), (73, 9, (-1)), (73, 8, (-1)), (73, 7, (-1)), (73, 6, (-1)), (73, 5, (-1)), (73, 4, (-1)), (73, 3, (-1)), (73, 2, (-1)), (73, 1, (-1)), (73, 0, (-1)), (68, 1, 9), (68, 0, 0), (67, 0, 0), (67, 9, (-1)), (67, 8, (-1)), (67, 7, (-1)), (67, 6, (-1)), (67, 5, (-1)), (67, 4, (-1)), (67, 3, (-1)), (67, 2, (-1)), (67, 1, (-1)), (67, 0, (-1)), (66, 0, 0), (66, 0, 0), (61, 0, 0), (55, 0, 0), (54, 0, 1), (51, 4, 111), (51, 3, 111), (51, 2, 111), (51, 1, 111), (51, 0, 111), (53, 0, 0), (53, 9, (-1)), (53, 8, (-1)), (53, 7, (-1)), (53, 6, (-1)), (53, 5, (-1)), (53, 4, (-1)), (53, 3, (-1)), (53, 2, (-1)), (53, 1, (-1)), (53, 0, (-1)), (52, 0, 0), (52, 0, 0), (29, 7, 0), (48, 9, (-1)), (48, 8, (-1)), (48, 7, (-1)), (48, 6, (-1)), (48, 5, (-1)), (48, 4, (-1)), (48, 3, (-1)), (48, 2, (-1)), (48, 1, (-1)), (48, 0, (-1)), (43, 1, 9), (43, 0, 0), (42, 0, 0), (42, 9, (-1)), (42, 8, (-1)), (42, 7, (-1)), (42, 6, (-1)), (42, 5, (-1)), (42, 4, (-1)), (42, 3, (-1)), (42, 2, (-1)), (42, 1, (-1)), (42, 0, (-1)), (41, 0, 0), (41, 0, 0), (36, 0, 0), (30, 0, 0), (29, 0, 1), (25, 4, 111), (25, 3, 111), (25, 2, 111), (25, 1, 111), (25, 0, 111), (27, 0, 0), (27, 9, (-1)), (27, 8, (-1)), (27, 7, (-1)), (27, 6, (-1)), (27, 5, (-1)), (27, 4, (-1)), (27, 3, (-1)), (27, 2, (-1)), (27, 1, (-1)), (27, 0, (-1)), (26, 0, 0), (26, 0, 0), (3, 7, 0), (22, 9, (-1)), (22, 8, (-1)), (22, 7, (-1)), (22, 6, (-1)), (22, 5, (-1)), (22, 4, (-1)), (22, 3, (-1)), (22, 2, (-1)), (22, 1, (-1)), (22, 0, (-1)), (17, 1, 9), (17, 0, 0), (16, 0, 0), (16, 9, (-1)), (16, 8, (-1)), (16, 7, (-1)), (16, 6, (-1)), (16, 5, (-1)), (16, 4, (-1)), (16, 3, (-1)), (16, 2, (-1)), (16, 1, (-1)), (16, 0, (-1)), (15, 0, 0), (15, 0, 0), (10, 0, 0), (4, 0, 0), (3, 0, 1)]
/-- the shape behind the constructors: a script of L ints at 1 -/
def pz_Sh (L : Nat) : pz_S := (153, pz_lk1 pz_hTe, fun r => if r = 1 then L else pz_ll1 pz_hTe r, pz_l1 pz_hNe)
set_option maxRecDepth 20000 in
theorem is_2 {L : Nat} : pz_is (pz_Sh L) 2 10 = true := rfl
set_option maxRecDepth 20000 in
theorem is_3 {L : Nat} : pz_is (pz_Sh L) 3 6 = true := rfl
set_option maxRecDepth 20000 in
theorem is_4 {L : Nat} : pz_is (pz_Sh L) 4 1 = true := rfl
set_option maxRecDepth 20000 in
theorem is_5 {L : Nat} : pz_is (pz_Sh L) 5 20 = true := rfl
set_option maxRecDepth 20000 in
theorem ln_5 {L : Nat} : (pz_Sh L).2.2.1 5 = 40 := rfl
set_option maxRecDepth 20000 in
theorem aa_5 {L : Nat} : pz_aa (pz_Sh L) 5 = true := rfl
set_option maxRecDepth 20000 in
theorem is_6 {L : Nat} : pz_is (pz_Sh L) 6 20 = true := rfl
set_option maxRecDepth 20000 in
theorem ln_6 {L : Nat} : (pz_Sh L).2.2.1 6 = 40 := rfl
set_option maxRecDepth 20000 in
theorem aa_6 {L : Nat} : pz_aa (pz_Sh L) 6 = true := rfl
set_option maxRecDepth 20000 in
theorem is_7 {L : Nat} : pz_is (pz_Sh L) 7 20 = true := rfl
set_option maxRecDepth 20000 in
theorem ln_7 {L : Nat} : (pz_Sh L).2.2.1 7 = 40 := rfl
set_option maxRecDepth 20000 in
theorem aa_7 {L : Nat} : pz_aa (pz_Sh L) 7 = true := rfl
set_option maxRecDepth 20000 in
theorem is_8 {L : Nat} : pz_is (pz_Sh L) 8 20 = true := rfl
set_option maxRecDepth 20000 in
theorem ln_8 {L : Nat} : (pz_Sh L).2.2.1 8 = 40 := rfl
set_option maxRecDepth 20000 in
theorem aa_8 {L : Nat} : pz_aa (pz_Sh L) 8 = true := rfl
set_option maxRecDepth 20000 in
theorem is_9 {L : Nat} : pz_is (pz_Sh L) 9 21 = true := rfl
set_option maxRecDepth 20000 in
theorem ln_9 {L : Nat} : (pz_Sh L).2.2.1 9 = 40 := rfl
set_option maxRecDepth 20000 in
theorem aa_9 {L : Nat} : pz_aa (pz_Sh L) 9 = true := rfl
set_option maxRecDepth 20000 in
theorem is_10 {L : Nat} : pz_is (pz_Sh L) 10 9 = true := rfl
set_option maxRecDepth 20000 in
theorem is_11 {L : Nat} : pz_is (pz_Sh L) 11 20 = true := rfl
set_option maxRecDepth 20000 in
theorem ln_11 {L : Nat} : (pz_Sh L).2.2.1 11 = 3 := rfl
set_option maxRecDepth 20000 in
theorem aa_11 {L : Nat} : pz_aa (pz_Sh L) 11 = true := rfl
set_option maxRecDepth 20000 in
theorem is_12 {L : Nat} : pz_is (pz_Sh L) 12 20 = true := rfl
set_option maxRecDepth 20000 in
theorem ln_12 {L : Nat} : (pz_Sh L).2.2.1 12 = 3 := rfl
set_option maxRecDepth 20000 in
theorem aa_12 {L : Nat} : pz_aa (pz_Sh L) 12 = true := rfl
set_option maxRecDepth 20000 in
theorem is_13 {L : Nat} : pz_is (pz_Sh L) 13 20 = true := rfl
set_option maxRecDepth 20000 in
theorem ln_13 {L : Nat} : (pz_Sh L).2.2.1 13 = 3 := rfl
set_option maxRecDepth 20000 in
theorem aa_13 {L : Nat} : pz_aa (pz_Sh L) 13 = true := rfl
set_option maxRecDepth 20000 in
theorem is_14 {L : Nat} : pz_is (pz_Sh L) 14 20 = true := rfl
set_option maxRecDepth 20000 in
theorem ln_14 {L : Nat} : (pz_Sh L).2.2.1 14 = 3 := rfl
set_option maxRecDepth 20000 in
theorem aa_14 {L : Nat} : pz_aa (pz_Sh L) 14 = true := rfl
set_option maxRecDepth 20000 in
theorem is_15 {L : Nat} : pz_is (pz_Sh L) 15 2 = true := rfl
set_option maxRecDepth 20000 in
theorem is_16 {L : Nat} : pz_is (pz_Sh L) 16 20 = true := rfl
set_option maxRecDepth 20000 in
theorem ln_16 {L : Nat} : (pz_Sh L).2.2.1 16 = 10 := rfl
set_option maxRecDepth 20000 in
theorem aa_16 {L : Nat} : pz_aa (pz_Sh L) 16 = true := rfl
set_option maxRecDepth 20000 in
theorem is_17 {L : Nat} : pz_is (pz_Sh L) 17 0 = true := rfl
set_option maxRecDepth 20000 in
theorem is_18 {L : Nat} : pz_is (pz_Sh L) 18 20 = true := rfl
set_option maxRecDepth 20000 in
theorem ln_18 {L : Nat} : (pz_Sh L).2.2.1 18 = 5 := rfl
set_option maxRecDepth 20000 in
theorem aa_18 {L : Nat} : pz_aa (pz_Sh L) 18 = true := rfl
set_option maxRecDepth 20000 in
theorem is_19 {L : Nat} : pz_is (pz_Sh L) 19 20 = true := rfl
set_option maxRecDepth 20000 in
theorem ln_19 {L : Nat} : (pz_Sh L).2.2.1 19 = 5 := rfl
set_option maxRecDepth 20000 in
theorem aa_19 {L : Nat} : pz_aa (pz_Sh L) 19 = true := rfl
set_option maxRecDepth 20000 in
theorem is_20 {L : Nat} : pz_is (pz_Sh L) 20 20 = true := rfl
set_option maxRecDepth 20000 in
theorem ln_20 {L : Nat} : (pz_Sh L).2.2.1 20 = 5 := rfl
set_option maxRecDepth 20000 in
theorem aa_20 {L : Nat} : pz_aa (pz_Sh L) 20 = true := rfl
set_option maxRecDepth 20000 in
theorem is_21 {L : Nat} : pz_is (pz_Sh L) 21 3 = true := rfl
set_option maxRecDepth 20000 in
theorem is_22 {L : Nat} : pz_is (pz_Sh L) 22 20 = true := rfl
set_option maxRecDepth 20000 in
theorem ln_22 {L : Nat} : (pz_Sh L).2.2.1 22 = 10 := rfl
set_option maxRecDepth 20000 in
theorem aa_22 {L : Nat} : pz_aa (pz_Sh L) 22 = true := rfl
set_option maxRecDepth 20000 in
theorem is_23 {L : Nat} : pz_is (pz_Sh L) 23 20 = true := rfl
set_option maxRecDepth 20000 in
theorem ln_23 {L : Nat} : (pz_Sh L).2.2.1 23 = 10 := rfl
set_option maxRecDepth 20000 in
theorem aa_23 {L : Nat} : pz_aa (pz_Sh L) 23 = true := rfl
set_option maxRecDepth 20000 in
theorem is_24 {L : Nat} : pz_is (pz_Sh L) 24 20 = true := rfl
set_option maxRecDepth 20000 in
theorem ln_24 {L : Nat} : (pz_Sh L).2.2.1 24 = 10 := rfl
set_option maxRecDepth 20000 in
theorem aa_24 {L : Nat} : pz_aa (pz_Sh L) 24 = true := rfl
set_option maxRecDepth 20000 in
theorem is_25 {L : Nat} : pz_is (pz_Sh L) 25 22 = true := rfl
set_option maxRecDepth 20000 in
theorem ln_25 {L : Nat} : (pz_Sh L).2.2.1 25 = 5 := rfl
set_option maxRecDepth 20000 in
theorem aa_25 {L : Nat} : pz_aa (pz_Sh L) 25 = true := rfl
set_option maxRecDepth 20000 in
theorem is_26 {L : Nat} : pz_is (pz_Sh L) 26 2 = true := rfl
set_option maxRecDepth 20000 in
theorem is_27 {L : Nat} : pz_is (pz_Sh L) 27 20 = true := rfl
set_option maxRecDepth 20000 in
theorem ln_27 {L : Nat} : (pz_Sh L).2.2.1 27 = 10 := rfl
set_option maxRecDepth 20000 in
theorem aa_27 {L : Nat} : pz_aa (pz_Sh L) 27 = true := rfl
set_option maxRecDepth 20000 in
theorem is_28 {L : Nat} : pz_is (pz_Sh L) 28 23 = true := rfl
set_option maxRecDepth 20000 in
theorem ln_28 {L : Nat} : (pz_Sh L).2.2.1 28 = 4 := rfl
set_option maxRecDepth 20000 in
theorem aa_28 {L : Nat} : pz_aa (pz_Sh L) 28 = true := rfl
set_option maxRecDepth 20000 in
theorem is_29 {L : Nat} : pz_is (pz_Sh L) 29 6 = true := rfl
set_option maxRecDepth 20000 in
theorem is_30 {L : Nat} : pz_is (pz_Sh L) 30 1 = true := rfl
set_option maxRecDepth 20000 in
theorem is_31 {L : Nat} : pz_is (pz_Sh L) 31 20 = true := rfl
set_option maxRecDepth 20000 in
theorem ln_31 {L : Nat} : (pz_Sh L).2.2.1 31 = 40 := rfl
set_option maxRecDepth 20000 in
theorem aa_31 {L : Nat} : pz_aa (pz_Sh L) 31 = true := rfl
set_option maxRecDepth 20000 in
theorem is_32 {L : Nat} : pz_is (pz_Sh L) 32 20 = true := rfl
set_option maxRecDepth 20000 in
theorem ln_32 {L : Nat} : (pz_Sh L).2.2.1 32 = 40 := rfl
set_option maxRecDepth 20000 in
theorem aa_32 {L : Nat} : pz_aa (pz_Sh L) 32 = true := rfl
set_option maxRecDepth 20000 in
theorem is_33 {L : Nat} : pz_is (pz_Sh L) 33 20 = true := rfl
set_option maxRecDepth 20000 in
theorem ln_33 {L : Nat} : (pz_Sh L).2.2.1 33 = 40 := rfl
set_option maxRecDepth 20000 in
theorem aa_33 {L : Nat} : pz_aa (pz_Sh L) 33 = true := rfl
set_option maxRecDepth 20000 in
theorem is_34 {L : Nat} : pz_is (pz_Sh L) 34 20 = true := rfl
set_option maxRecDepth 20000 in
theorem ln_34 {L : Nat} : (pz_Sh L).2.2.1 34 = 40 := rfl
set_option maxRecDepth 20000 in
theorem aa_34 {L : Nat} : pz_aa (pz_Sh L) 34 = true := rfl
set_option maxRecDepth 20000 in
theorem is_35 {L : Nat} : pz_is (pz_Sh L) 35 21 = true := rfl
set_option maxRecDepth 20000 in
theorem ln_35 {L : Nat} : (pz_Sh L).2.2.1 35 = 40 := rfl
set_option maxRecDepth 20000 in
theorem aa_35 {L : Nat} : pz_aa (pz_Sh L) 35 = true := rfl
set_option maxRecDepth 20000 in
theorem is_36 {L : Nat} : pz_is (pz_Sh L) 36 9 = true := rfl
set_option maxRecDepth 20000 in
theorem is_37 {L : Nat} : pz_is (pz_Sh L) 37 20 = true := rfl
set_option maxRecDepth 20000 in
theorem ln_37 {L : Nat} : (pz_Sh L).2.2.1 37 = 3 := rfl
set_option maxRecDepth 20000 in
theorem aa_37 {L : Nat} : pz_aa (pz_Sh L) 37 = true := rfl
set_option maxRecDepth 20000 in
theorem is_38 {L : Nat} : pz_is (pz_Sh L) 38 20 = true := rfl
set_option maxRecDepth 20000 in
theorem ln_38 {L : Nat} : (pz_Sh L).2.2.1 38 = 3 := rfl
set_option maxRecDepth 20000 in
theorem aa_38 {L : Nat} : pz_aa (pz_Sh L) 38 = true := rfl
set_option maxRecDepth 20000 in
theorem is_39 {L : Nat} : pz_is (pz_Sh L) 39 20 = true := rfl
set_option maxRecDepth 20000 in
theorem ln_39 {L : Nat} : (pz_Sh L).2.2.1 39 = 3 := rfl
set_option maxRecDepth 20000 in
theorem aa_39 {L : Nat} : pz_aa (pz_Sh L) 39 = true := rfl
set_option maxRecDepth 20000 in
theorem is_40 {L : Nat} : pz_is (pz_Sh L) 40 20 = true := rfl
set_option maxRecDepth 20000 in
theorem ln_40 {L : Nat} : (pz_Sh L).2.2.1 40 = 3 := rfl
set_option maxRecDepth 20000 in
theorem aa_40 {L : Nat} : pz_aa (pz_Sh L) 40 = true := rfl
set_option maxRecDepth 20000 in
theorem is_41 {L : Nat} : pz_is (pz_Sh L) 41 2 = true := rfl
set_option maxRecDepth 20000 in
theorem is_42 {L : Nat} : pz_is (pz_Sh L) 42 20 = true := rfl
set_option maxRecDepth 20000 in
theorem ln_42 {L : Nat} : (pz_Sh L).2.2.1 42 = 10 := rfl
set_option maxRecDepth 20000 in
theorem aa_42 {L : Nat} : pz_aa (pz_Sh L) 42 = true := rfl
set_option maxRecDepth 20000 in
theorem is_43 {L : Nat} : pz_is (pz_Sh L) 43 0 = true := rfl
set_option maxRecDepth 20000 in
theorem is_44 {L : Nat} : pz_is (pz_Sh L) 44 20 = true := rfl
set_option maxRecDepth 20000 in
theorem ln_44 {L : Nat} : (pz_Sh L).2.2.1 44 = 5 := rfl
set_option maxRecDepth 20000 in
theorem aa_44 {L : Nat} : pz_aa (pz_Sh L) 44 = true := rfl
set_option maxRecDepth 20000 in
theorem is_45 {L : Nat} : pz_is (pz_Sh L) 45 20 = true := rfl
set_option maxRecDepth 20000 in
theorem ln_45 {L : Nat} : (pz_Sh L).2.2.1 45 = 5 := rfl
set_option maxRecDepth 20000 in
theorem aa_45 {L : Nat} : pz_aa (pz_Sh L) 45 = true := rfl
set_option maxRecDepth 20000 in
theorem is_46 {L : Nat} : pz_is (pz_Sh L) 46 20 = true := rfl
set_option maxRecDepth 20000 in
theorem ln_46 {L : Nat} : (pz_Sh L).2.2.1 46 = 5 := rfl
set_option maxRecDepth 20000 in
theorem aa_46 {L : Nat} : pz_aa (pz_Sh L) 46 = true := rfl
set_option maxRecDepth 20000 in
theorem is_47 {L : Nat} : pz_is (pz_Sh L) 47 3 = true := rfl
set_option maxRecDepth 20000 in
theorem is_48 {L : Nat} : pz_is (pz_Sh L) 48 20 = true := rfl
set_option maxRecDepth 20000 in
theorem ln_48 {L : Nat} : (pz_Sh L).2.2.1 48 = 10 := rfl
set_option maxRecDepth 20000 in
theorem aa_48 {L : Nat} : pz_aa (pz_Sh L) 48 = true := rfl
set_option maxRecDepth 20000 in
theorem is_49 {L : Nat} : pz_is (pz_Sh L) 49 20 = true := rfl
set_option maxRecDepth 20000 in
theorem ln_49 {L : Nat} : (pz_Sh L).2.2.1 49 = 10 := rfl
set_option maxRecDepth 20000 in
theorem aa_49 {L : Nat} : pz_aa (pz_Sh L) 49 = true := rfl
set_option maxRecDepth 20000 in
theorem is_50 {L : Nat} : pz_is (pz_Sh L) 50 20 = true := rfl
set_option maxRecDepth 20000 in
theorem ln_50 {L : Nat} : (pz_Sh L).2.2.1 50 = 10 := rfl
set_option maxRecDepth 20000 in
theorem aa_50 {L : Nat} : pz_aa (pz_Sh L) 50 = true := rfl
set_option maxRecDepth 20000 in
theorem is_51 {L : Nat} : pz_is (pz_Sh L) 51 22 = true := rfl
set_option maxRecDepth 20000 in
theorem ln_51 {L : Nat} : (pz_Sh L).2.2.1 51 = 5 := rfl
set_option maxRecDepth 20000 in
theorem aa_51 {L : Nat} : pz_aa (pz_Sh L) 51 = true := rfl
set_option maxRecDepth 20000 in
theorem is_52 {L : Nat} : pz_is (pz_Sh L) 52 2 = true := rfl
set_option maxRecDepth 20000 in
theorem is_53 {L : Nat} : pz_is (pz_Sh L) 53 20 = true := rfl
set_option maxRecDepth 20000 in
theorem ln_53 {L : Nat} : (pz_Sh L).2.2.1 53 = 10 := rfl
set_option maxRecDepth 20000 in
theorem aa_53 {L : Nat} : pz_aa (pz_Sh L) 53 = true := rfl
set_option maxRecDepth 20000 in
theorem is_54 {L : Nat} : pz_is (pz_Sh L) 54 6 = true := rfl
set_option maxRecDepth 20000 in
theorem is_55 {L : Nat} : pz_is (pz_Sh L) 55 1 = true := rfl
set_option maxRecDepth 20000 in
theorem is_56 {L : Nat} : pz_is (pz_Sh L) 56 20 = true := rfl
set_option maxRecDepth 20000 in
theorem ln_56 {L : Nat} : (pz_Sh L).2.2.1 56 = 40 := rfl
set_option maxRecDepth 20000 in
theorem aa_56 {L : Nat} : pz_aa (pz_Sh L) 56 = true := rfl
set_option maxRecDepth 20000 in
theorem is_57 {L : Nat} : pz_is (pz_Sh L) 57 20 = true := rfl
set_option maxRecDepth 20000 in
theorem ln_57 {L : Nat} : (pz_Sh L).2.2.1 57 = 40 := rfl
set_option maxRecDepth 20000 in
theorem aa_57 {L : Nat} : pz_aa (pz_Sh L) 57 = true := rfl
set_option maxRecDepth 20000 in
theorem is_58 {L : Nat} : pz_is (pz_Sh L) 58 20 = true := rfl
set_option maxRecDepth 20000 in
theorem ln_58 {L : Nat} : (pz_Sh L).2.2.1 58 = 40 := rfl
set_option maxRecDepth 20000 in
theorem aa_58 {L : Nat} : pz_aa (pz_Sh L) 58 = true := rfl
set_option maxRecDepth 20000 in
theorem is_59 {L : Nat} : pz_is (pz_Sh L) 59 20 = true := rfl
set_option maxRecDepth 20000 in
theorem ln_59 {L : Nat} : (pz_Sh L).2.2.1 59 = 40 := rfl
set_option maxRecDepth 20000 in
theorem aa_59 {L : Nat} : pz_aa (pz_Sh L) 59 = true := rfl
set_option maxRecDepth 20000 in
theorem is_60 {L : Nat} : pz_is (pz_Sh L) 60 21 = true := rfl
set_option maxRecDepth 20000 in
theorem ln_60 {L : Nat} : (pz_Sh L).2.2.1 60 = 40 := rfl
set_option maxRecDepth 20000 in
theorem aa_60 {L : Nat} : pz_aa (pz_Sh L) 60 = true := rfl
set_option maxRecDepth 20000 in
theorem is_61 {L : Nat} : pz_is (pz_Sh L) 61 9 = true := rfl
set_option maxRecDepth 20000 in
theorem is_62 {L : Nat} : pz_is (pz_Sh L) 62 20 = true := rfl
set_option maxRecDepth 20000 in
theorem ln_62 {L : Nat} : (pz_Sh L).2.2.1 62 = 3 := rfl
set_option maxRecDepth 20000 in
theorem aa_62 {L : Nat} : pz_aa (pz_Sh L) 62 = true := rfl
set_option maxRecDepth 20000 in
theorem is_63 {L : Nat} : pz_is (pz_Sh L) 63 20 = true := rfl
set_option maxRecDepth 20000 in
theorem ln_63 {L : Nat} : (pz_Sh L).2.2.1 63 = 3 := rfl
set_option maxRecDepth 20000 in
theorem aa_63 {L : Nat} : pz_aa (pz_Sh L) 63 = true := rfl
set_option maxRecDepth 20000 in
theorem is_64 {L : Nat} : pz_is (pz_Sh L) 64 20 = true := rfl
set_option maxRecDepth 20000 in
theorem ln_64 {L : Nat} : (pz_Sh L).2.2.1 64 = 3 := rfl
set_option maxRecDepth 20000 in
theorem aa_64 {L : Nat} : pz_aa (pz_Sh L) 64 = true := rfl
set_option maxRecDepth 20000 in
theorem is_65 {L : Nat} : pz_is (pz_Sh L) 65 20 = true := rfl
set_option maxRecDepth 20000 in
theorem ln_65 {L : Nat} : (pz_Sh L).2.2.1 65 = 3 := rfl
set_option maxRecDepth 20000 in
theorem aa_65 {L : Nat} : pz_aa (pz_Sh L) 65 = true := rfl
set_option maxRecDepth 20000 in
theorem is_66 {L : Nat} : pz_is (pz_Sh L) 66 2 = true := rfl
set_option maxRecDepth 20000 in
theorem is_67 {L : Nat} : pz_is (pz_Sh L) 67 20 = true := rfl
set_option maxRecDepth 20000 in
theorem ln_67 {L : Nat} : (pz_Sh L).2.2.1 67 = 10 := rfl
set_option maxRecDepth 20000 in
theorem aa_67 {L : Nat} : pz_aa (pz_Sh L) 67 = true := rfl
set_option maxRecDepth 20000 in
theorem is_68 {L : Nat} : pz_is (pz_Sh L) 68 0 = true := rfl
set_option maxRecDepth 20000 in
theorem is_69 {L : Nat} : pz_is (pz_Sh L) 69 20 = true := rfl
set_option maxRecDepth 20000 in
theorem ln_69 {L : Nat} : (pz_Sh L).2.2.1 69 = 5 := rfl
set_option maxRecDepth 20000 in
theorem aa_69 {L : Nat} : pz_aa (pz_Sh L) 69 = true := rfl
set_option maxRecDepth 20000 in
theorem is_70 {L : Nat} : pz_is (pz_Sh L) 70 20 = true := rfl
set_option maxRecDepth 20000 in
theorem ln_70 {L : Nat} : (pz_Sh L).2.2.1 70 = 5 := rfl
set_option maxRecDepth 20000 in
theorem aa_70 {L : Nat} : pz_aa (pz_Sh L) 70 = true := rfl
set_option maxRecDepth 20000 in
theorem is_71 {L : Nat} : pz_is (pz_Sh L) 71 20 = true := rfl
set_option maxRecDepth 20000 in
theorem ln_71 {L : Nat} : (pz_Sh L).2.2.1 71 = 5 := rfl
set_option maxRecDepth 20000 in
theorem aa_71 {L : Nat} : pz_aa (pz_Sh L) 71 = true := rfl
set_option maxRecDepth 20000 in
theorem is_72 {L : Nat} : pz_is (pz_Sh L) 72 3 = true := rfl
set_option maxRecDepth 20000 in
theorem is_73 {L : Nat} : pz_is (pz_Sh L) 73 20 = true := rfl
set_option maxRecDepth 20000 in
theorem ln_73 {L : Nat} : (pz_Sh L).2.2.1 73 = 10 := rfl
set_option maxRecDepth 20000 in
theorem aa_73 {L : Nat} : pz_aa (pz_Sh L) 73 = true := rfl
set_option maxRecDepth 20000 in
theorem is_74 {L : Nat} : pz_is (pz_Sh L) 74 20 = true := rfl
set_option maxRecDepth 20000 in
theorem ln_74 {L : Nat} : (pz_Sh L).2.2.1 74 = 10 := rfl
set_option maxRecDepth 20000 in
theorem aa_74 {L : Nat} : pz_aa (pz_Sh L) 74 = true := rfl
set_option maxRecDepth 20000 in
theorem is_75 {L : Nat} : pz_is (pz_Sh L) 75 20 = true := rfl
set_option maxRecDepth 20000 in
theorem ln_75 {L : Nat} : (pz_Sh L).2.2.1 75 = 10 := rfl
set_option maxRecDepth 20000 in
theorem aa_75 {L : Nat} : pz_aa (pz_Sh L) 75 = true := rfl
set_option maxRecDepth 20000 in
theorem is_76 {L : Nat} : pz_is (pz_Sh L) 76 22 = true := rfl
set_option maxRecDepth 20000 in
theorem ln_76 {L : Nat} : (pz_Sh L).2.2.1 76 = 5 := rfl
set_option maxRecDepth 20000 in
theorem aa_76 {L : Nat} : pz_aa (pz_Sh L) 76 = true := rfl
set_option maxRecDepth 20000 in
theorem is_77 {L : Nat} : pz_is (pz_Sh L) 77 2 = true := rfl
set_option maxRecDepth 20000 in
theorem is_78 {L : Nat} : pz_is (pz_Sh L) 78 20 = true := rfl
set_option maxRecDepth 20000 in
theorem ln_78 {L : Nat} : (pz_Sh L).2.2.1 78 = 10 := rfl
set_option maxRecDepth 20000 in
theorem aa_78 {L : Nat} : pz_aa (pz_Sh L) 78 = true := rfl
set_option maxRecDepth 20000 in
theorem is_79 {L : Nat} : pz_is (pz_Sh L) 79 6 = true := rfl
set_option maxRecDepth 20000 in
theorem is_80 {L : Nat} : pz_is (pz_Sh L) 80 1 = true := rfl
set_option maxRecDepth 20000 in
theorem is_81 {L : Nat} : pz_is (pz_Sh L) 81 20 = true := rfl
set_option maxRecDepth 20000 in
theorem ln_81 {L : Nat} : (pz_Sh L).2.2.1 81 = 40 := rfl
set_option maxRecDepth 20000 in
theorem aa_81 {L : Nat} : pz_aa (pz_Sh L) 81 = true := rfl
set_option maxRecDepth 20000 in
theorem is_82 {L : Nat} : pz_is (pz_Sh L) 82 20 = true := rfl
set_option maxRecDepth 20000 in
theorem ln_82 {L : Nat} : (pz_Sh L).2.2.1 82 = 40 := rfl
set_option maxRecDepth 20000 in
theorem aa_82 {L : Nat} : pz_aa (pz_Sh L) 82 = true := rfl
set_option maxRecDepth 20000 in
theorem is_83 {L : Nat} : pz_is (pz_Sh L) 83 20 = true := rfl
set_option maxRecDepth 20000 in
theorem ln_83 {L : Nat} : (pz_Sh L).2.2.1 83 = 40 := rfl
set_option maxRecDepth 20000 in
theorem aa_83 {L : Nat} : pz_aa (pz_Sh L) 83 = true := rfl
set_option maxRecDepth 20000 in
theorem is_84 {L : Nat} : pz_is (pz_Sh L) 84 20 = true := rfl
set_option maxRecDepth 20000 in
theorem ln_84 {L : Nat} : (pz_Sh L).2.2.1 84 = 40 := rfl
set_option maxRecDepth 20000 in
theorem aa_84 {L : Nat} : pz_aa (pz_Sh L) 84 = true := rfl
set_option maxRecDepth 20000 in
theorem is_85 {L : Nat} : pz_is (pz_Sh L) 85 21 = true := rfl
set_option maxRecDepth 20000 in
theorem ln_85 {L : Nat} : (pz_Sh L).2.2.1 85 = 40 := rfl
set_option maxRecDepth 20000 in
theorem aa_85 {L : Nat} : pz_aa (pz_Sh L) 85 = true := rfl
set_option maxRecDepth 20000 in
theorem is_86 {L : Nat} : pz_is (pz_Sh L) 86 9 = true := rfl
set_option maxRecDepth 20000 in
theorem is_87 {L : Nat} : pz_is (pz_Sh L) 87 20 = true := rfl
set_option maxRecDepth 20000 in
theorem ln_87 {L : Nat} : (pz_Sh L).2.2.1 87 = 3 := rfl
set_option maxRecDepth 20000 in
theorem aa_87 {L : Nat} : pz_aa (pz_Sh L) 87 = true := rfl
set_option maxRecDepth 20000 in
theorem is_88 {L : Nat} : pz_is (pz_Sh L) 88 20 = true := rfl
set_option maxRecDepth 20000 in
theorem ln_88 {L : Nat} : (pz_Sh L).2.2.1 88 = 3 := rfl
set_option maxRecDepth 20000 in
theorem aa_88 {L : Nat} : pz_aa (pz_Sh L) 88 = true := rfl
set_option maxRecDepth 20000 in
theorem is_89 {L : Nat} : pz_is (pz_Sh L) 89 20 = true := rfl
set_option maxRecDepth 20000 in
theorem ln_89 {L : Nat} : (pz_Sh L).2.2.1 89 = 3 := rfl
set_option maxRecDepth 20000 in
theorem aa_89 {L : Nat} : pz_aa (pz_Sh L) 89 = true := rfl
set_option maxRecDepth 20000 in
theorem is_90 {L : Nat} : pz_is (pz_Sh L) 90 20 = true := rfl
set_option maxRecDepth 20000 in
theorem ln_90 {L : Nat} : (pz_Sh L).2.2.1 90 = 3 := rfl
set_option maxRecDepth 20000 in
theorem aa_90 {L : Nat} : pz_aa (pz_Sh L) 90 = true := rfl
set_option maxRecDepth 20000 in
theorem is_91 {L : Nat} : pz_is (pz_Sh L) 91 2 = true := rfl
set_option maxRecDepth 20000 in
theorem is_92 {L : Nat} : pz_is (pz_Sh L) 92 20 = true := rfl
set_option maxRecDepth 20000 in
theorem ln_92 {L : Nat} : (pz_Sh L).2.2.1 92 = 10 := rfl
set_option maxRecDepth 20000 in
theorem aa_92 {L : Nat} : pz_aa (pz_Sh L) 92 = true := rfl
set_option maxRecDepth 20000 in
theorem is_93 {L : Nat} : pz_is (pz_Sh L) 93 0 = true := rfl
set_option maxRecDepth 20000 in
theorem is_94 {L : Nat} : pz_is (pz_Sh L) 94 20 = true := rfl
set_option maxRecDepth 20000 in
theorem ln_94 {L : Nat} : (pz_Sh L).2.2.1 94 = 5 := rfl
set_option maxRecDepth 20000 in
theorem aa_94 {L : Nat} : pz_aa (pz_Sh L) 94 = true := rfl
set_option maxRecDepth 20000 in
theorem is_95 {L : Nat} : pz_is (pz_Sh L) 95 20 = true := rfl
set_option maxRecDepth 20000 in
theorem ln_95 {L : Nat} : (pz_Sh L).2.2.1 95 = 5 := rfl
set_option maxRecDepth 20000 in
theorem aa_95 {L : Nat} : pz_aa (pz_Sh L) 95 = true := rfl
set_option maxRecDepth 20000 in
theorem is_96 {L : Nat} : pz_is (pz_Sh L) 96 20 = true := rfl
set_option maxRecDepth 20000 in
theorem ln_96 {L : Nat} : (pz_Sh L).2.2.1 96 = 5 := rfl
set_option maxRecDepth 20000 in
theorem aa_96 {L : Nat} : pz_aa (pz_Sh L) 96 = true := rfl
set_option maxRecDepth 20000 in
theorem is_97 {L : Nat} : pz_is (pz_Sh L) 97 3 = true := rfl
set_option maxRecDepth 20000 in
theorem is_98 {L : Nat} : pz_is (pz_Sh L) 98 20 = true := rfl
set_option maxRecDepth 20000 in
theorem ln_98 {L : Nat} : (pz_Sh L).2.2.1 98 = 10 := rfl
set_option maxRecDepth 20000 in
theorem aa_98 {L : Nat} : pz_aa (pz_Sh L) 98 = true := rfl
set_option maxRecDepth 20000 in
theorem is_99 {L : Nat} : pz_is (pz_Sh L) 99 20 = true := rfl
set_option maxRecDepth 20000 in
theorem ln_99 {L : Nat} : (pz_Sh L).2.2.1 99 = 10 := rfl
set_option maxRecDepth 20000 in
theorem aa_99 {L : Nat} : pz_aa (pz_Sh L) 99 = true := rfl
set_option maxRecDepth 20000 in
theorem is_100 {L : Nat} : pz_is (pz_Sh L) 100 20 = true := rfl
set_option maxRecDepth 20000 in
theorem ln_100 {L : Nat} : (pz_Sh L).2.2.1 100 = 10 := rfl
set_option maxRecDepth 20000 in
theorem aa_100 {L : Nat} : pz_aa (pz_Sh L) 100 = true := rfl
set_option maxRecDepth 20000 in
theorem is_101 {L : Nat} : pz_is (pz_Sh L) 101 22 = true := rfl
set_option maxRecDepth 20000 in
theorem ln_101 {L : Nat} : (pz_Sh L).2.2.1 101 = 5 := rfl
set_option maxRecDepth 20000 in
theorem aa_101 {L : Nat} : pz_aa (pz_Sh L) 101 = true := rfl
set_option maxRecDepth 20000 in
theorem is_102 {L : Nat} : pz_is (pz_Sh L) 102 2 = true := rfl
set_option maxRecDepth 20000 in
theorem is_103 {L : Nat} : pz_is (pz_Sh L) 103 20 = true := rfl
set_option maxRecDepth 20000 in
theorem ln_103 {L : Nat} : (pz_Sh L).2.2.1 103 = 10 := rfl
set_option maxRecDepth 20000 in
theorem aa_103 {L : Nat} : pz_aa (pz_Sh L) 103 = true := rfl
set_option maxRecDepth 20000 in
theorem is_104 {L : Nat} : pz_is (pz_Sh L) 104 6 = true := rfl
set_option maxRecDepth 20000 in
theorem is_105 {L : Nat} : pz_is (pz_Sh L) 105 1 = true := rfl
set_option maxRecDepth 20000 in
theorem is_106 {L : Nat} : pz_is (pz_Sh L) 106 20 = true := rfl
set_option maxRecDepth 20000 in
theorem ln_106 {L : Nat} : (pz_Sh L).2.2.1 106 = 40 := rfl
set_option maxRecDepth 20000 in
theorem aa_106 {L : Nat} : pz_aa (pz_Sh L) 106 = true := rfl
set_option maxRecDepth 20000 in
theorem is_107 {L : Nat} : pz_is (pz_Sh L) 107 20 = true := rfl
set_option maxRecDepth 20000 in
theorem ln_107 {L : Nat} : (pz_Sh L).2.2.1 107 = 40 := rfl
set_option maxRecDepth 20000 in
theorem aa_107 {L : Nat} : pz_aa (pz_Sh L) 107 = true := rfl
set_option maxRecDepth 20000 in
theorem is_108 {L : Nat} : pz_is (pz_Sh L) 108 20 = true := rfl
set_option maxRecDepth 20000 in
theorem ln_108 {L : Nat} : (pz_Sh L).2.2.1 108 = 40 := rfl
set_option maxRecDepth 20000 in
theorem aa_108 {L : Nat} : pz_aa (pz_Sh L) 108 = true := rfl
set_option maxRecDepth 20000 in
theorem is_109 {L : Nat} : pz_is (pz_Sh L) 109 20 = true := rfl
set_option maxRecDepth 20000 in
theorem ln_109 {L : Nat} : (pz_Sh L).2.2.1 109 = 40 := rfl
set_option maxRecDepth 20000 in
theorem aa_109 {L : Nat} : pz_aa (pz_Sh L) 109 = true := rfl
set_option maxRecDepth 20000 in
theorem is_110 {L : Nat} : pz_is (pz_Sh L) 110 21 = true := rfl
set_option maxRecDepth 20000 in
theorem ln_110 {L : Nat} : (pz_Sh L).2.2.1 110 = 40 := rfl
set_option maxRecDepth 20000 in
theorem aa_110 {L : Nat} : pz_aa (pz_Sh L) 110 = true := rfl
set_option maxRecDepth 20000 in
theorem is_111 {L : Nat} : pz_is (pz_Sh L) 111 9 = true := rfl
set_option maxRecDepth 20000 in
theorem is_112 {L : Nat} : pz_is (pz_Sh L) 112 20 = true := rfl
set_option maxRecDepth 20000 in
theorem ln_112 {L : Nat} : (pz_Sh L).2.2.1 112 = 3 := rfl
set_option maxRecDepth 20000 in
theorem aa_112 {L : Nat} : pz_aa (pz_Sh L) 112 = true := rfl
set_option maxRecDepth 20000 in
theorem is_113 {L : Nat} : pz_is (pz_Sh L) 113 20 = true := rfl
set_option maxRecDepth 20000 in
theorem ln_113 {L : Nat} : (pz_Sh L).2.2.1 113 = 3 := rfl
set_option maxRecDepth 20000 in
theorem aa_113 {L : Nat} : pz_aa (pz_Sh L) 113 = true := rfl
set_option maxRecDepth 20000 in
theorem is_114 {L : Nat} : pz_is (pz_Sh L) 114 20 = true := rfl
set_option maxRecDepth 20000 in
theorem ln_114 {L : Nat} : (pz_Sh L).2.2.1 114 = 3 := rfl
set_option maxRecDepth 20000 in
theorem aa_114 {L : Nat} : pz_aa (pz_Sh L) 114 = true := rfl
set_option maxRecDepth 20000 in
theorem is_115 {L : Nat} : pz_is (pz_Sh L) 115 20 = true := rfl
set_option maxRecDepth 20000 in
theorem ln_115 {L : Nat} : (pz_Sh L).2.2.1 115 = 3 := rfl
set_option maxRecDepth 20000 in
theorem aa_115 {L : Nat} : pz_aa (pz_Sh L) 115 = true := rfl
set_option maxRecDepth 20000 in
theorem is_116 {L : Nat} : pz_is (pz_Sh L) 116 2 = true := rfl
set_option maxRecDepth 20000 in
theorem is_117 {L : Nat} : pz_is (pz_Sh L) 117 20 = true := rfl
set_option maxRecDepth 20000 in
theorem ln_117 {L : Nat} : (pz_Sh L).2.2.1 117 = 10 := rfl
set_option maxRecDepth 20000 in
theorem aa_117 {L : Nat} : pz_aa (pz_Sh L) 117 = true := rfl
set_option maxRecDepth 20000 in
theorem is_118 {L : Nat} : pz_is (pz_Sh L) 118 0 = true := rfl
set_option maxRecDepth 20000 in
theorem is_119 {L : Nat} : pz_is (pz_Sh L) 119 20 = true := rfl
set_option maxRecDepth 20000 in
theorem ln_119 {L : Nat} : (pz_Sh L).2.2.1 119 = 5 := rfl
set_option maxRecDepth 20000 in
theorem aa_119 {L : Nat} : pz_aa (pz_Sh L) 119 = true := rfl
set_option maxRecDepth 20000 in
theorem is_120 {L : Nat} : pz_is (pz_Sh L) 120 20 = true := rfl
set_option maxRecDepth 20000 in
theorem ln_120 {L : Nat} : (pz_Sh L).2.2.1 120 = 5 := rfl
set_option maxRecDepth 20000 in
theorem aa_120 {L : Nat} : pz_aa (pz_Sh L) 120 = true := rfl
set_option maxRecDepth 20000 in
theorem is_121 {L : Nat} : pz_is (pz_Sh L) 121 20 = true := rfl
set_option maxRecDepth 20000 in
theorem ln_121 {L : Nat} : (pz_Sh L).2.2.1 121 = 5 := rfl
set_option maxRecDepth 20000 in
theorem aa_121 {L : Nat} : pz_aa (pz_Sh L) 121 = true := rfl
set_option maxRecDepth 20000 in
theorem is_122 {L : Nat} : pz_is (pz_Sh L) 122 3 = true := rfl
set_option maxRecDepth 20000 in
theorem is_123 {L : Nat} : pz_is (pz_Sh L) 123 20 = true := rfl
set_option maxRecDepth 20000 in
theorem ln_123 {L : Nat} : (pz_Sh L).2.2.1 123 = 10 := rfl
set_option maxRecDepth 20000 in
theorem aa_123 {L : Nat} : pz_aa (pz_Sh L) 123 = true := rfl
set_option maxRecDepth 20000 in
theorem is_124 {L : Nat} : pz_is (pz_Sh L) 124 20 = true := rfl
set_option maxRecDepth 20000 in
theorem ln_124 {L : Nat} : (pz_Sh L).2.2.1 124 = 10 := rfl
set_option maxRecDepth 20000 in
theorem aa_124 {L : Nat} : pz_aa (pz_Sh L) 124 = true := rfl
set_option maxRecDepth 20000 in
theorem is_125 {L : Nat} : pz_is (pz_Sh L) 125 20 = true := rfl
set_option maxRecDepth 20000 in
theorem ln_125 {L : Nat} : (pz_Sh L).2.2.1 125 = 10 := rfl
set_option maxRecDepth 20000 in
theorem aa_125 {L : Nat} : pz_aa (pz_Sh L) 125 = true := rfl
set_option maxRecDepth 20000 in
theorem is_126 {L : Nat} : pz_is (pz_Sh L) 126 22 = true := rfl
set_option maxRecDepth 20000 in
theorem ln_126 {L : Nat} : (pz_Sh L).2.2.1 126 = 5 := rfl
set_option maxRecDepth 20000 in
theorem aa_126 {L : Nat} : pz_aa (pz_Sh L) 126 = true := rfl
set_option maxRecDepth 20000 in
theorem is_127 {L : Nat} : pz_is (pz_Sh L) 127 2 = true := rfl
set_option maxRecDepth 20000 in
theorem is_128 {L : Nat} : pz_is (pz_Sh L) 128 20 = true := rfl
set_option maxRecDepth 20000 in
theorem ln_128 {L : Nat} : (pz_Sh L).2.2.1 128 = 10 := rfl
set_option maxRecDepth 20000 in
theorem aa_128 {L : Nat} : pz_aa (pz_Sh L) 128 = true := rfl
set_option maxRecDepth 20000 in
theorem is_129 {L : Nat} : pz_is (pz_Sh L) 129 4 = true := rfl
set_option maxRecDepth 20000 in
theorem is_130 {L : Nat} : pz_is (pz_Sh L) 130 5 = true := rfl
set_option maxRecDepth 20000 in
theorem is_131 {L : Nat} : pz_is (pz_Sh L) 131 20 = true := rfl
set_option maxRecDepth 20000 in
theorem ln_131 {L : Nat} : (pz_Sh L).2.2.1 131 = 100 := rfl
set_option maxRecDepth 20000 in
theorem aa_131 {L : Nat} : pz_aa (pz_Sh L) 131 = true := rfl
set_option maxRecDepth 20000 in
theorem is_132 {L : Nat} : pz_is (pz_Sh L) 132 20 = true := rfl
set_option maxRecDepth 20000 in
theorem ln_132 {L : Nat} : (pz_Sh L).2.2.1 132 = 100 := rfl
set_option maxRecDepth 20000 in
theorem aa_132 {L : Nat} : pz_aa (pz_Sh L) 132 = true := rfl
set_option maxRecDepth 20000 in
theorem is_133 {L : Nat} : pz_is (pz_Sh L) 133 20 = true := rfl
set_option maxRecDepth 20000 in
theorem ln_133 {L : Nat} : (pz_Sh L).2.2.1 133 = 10 := rfl
set_option maxRecDepth 20000 in
theorem aa_133 {L : Nat} : pz_aa (pz_Sh L) 133 = true := rfl
set_option maxRecDepth 20000 in
theorem is_134 {L : Nat} : pz_is (pz_Sh L) 134 21 = true := rfl
set_option maxRecDepth 20000 in
theorem ln_134 {L : Nat} : (pz_Sh L).2.2.1 134 = 40 := rfl
set_option maxRecDepth 20000 in
theorem aa_134 {L : Nat} : pz_aa (pz_Sh L) 134 = true := rfl
set_option maxRecDepth 20000 in
theorem is_135 {L : Nat} : pz_is (pz_Sh L) 135 20 = true := rfl
set_option maxRecDepth 20000 in
theorem ln_135 {L : Nat} : (pz_Sh L).2.2.1 135 = 40 := rfl
set_option maxRecDepth 20000 in
theorem aa_135 {L : Nat} : pz_aa (pz_Sh L) 135 = true := rfl
set_option maxRecDepth 20000 in
theorem is_136 {L : Nat} : pz_is (pz_Sh L) 136 20 = true := rfl
set_option maxRecDepth 20000 in
theorem ln_136 {L : Nat} : (pz_Sh L).2.2.1 136 = 10 := rfl
set_option maxRecDepth 20000 in
theorem aa_136 {L : Nat} : pz_aa (pz_Sh L) 136 = true := rfl
set_option maxRecDepth 20000 in
theorem is_137 {L : Nat} : pz_is (pz_Sh L) 137 20 = true := rfl
set_option maxRecDepth 20000 in
theorem ln_137 {L : Nat} : (pz_Sh L).2.2.1 137 = 10 := rfl
set_option maxRecDepth 20000 in
theorem aa_137 {L : Nat} : pz_aa (pz_Sh L) 137 = true := rfl
set_option maxRecDepth 20000 in
theorem is_138 {L : Nat} : pz_is (pz_Sh L) 138 5 = true := rfl
set_option maxRecDepth 20000 in
theorem is_139 {L : Nat} : pz_is (pz_Sh L) 139 20 = true := rfl
set_option maxRecDepth 20000 in
theorem ln_139 {L : Nat} : (pz_Sh L).2.2.1 139 = 100 := rfl
set_option maxRecDepth 20000 in
theorem aa_139 {L : Nat} : pz_aa (pz_Sh L) 139 = true := rfl
set_option maxRecDepth 20000 in
theorem is_140 {L : Nat} : pz_is (pz_Sh L) 140 20 = true := rfl
set_option maxRecDepth 20000 in
theorem ln_140 {L : Nat} : (pz_Sh L).2.2.1 140 = 100 := rfl
set_option maxRecDepth 20000 in
theorem aa_140 {L : Nat} : pz_aa (pz_Sh L) 140 = true := rfl
set_option maxRecDepth 20000 in
theorem is_141 {L : Nat} : pz_is (pz_Sh L) 141 20 = true := rfl
set_option maxRecDepth 20000 in
theorem ln_141 {L : Nat} : (pz_Sh L).2.2.1 141 = 10 := rfl
set_option maxRecDepth 20000 in
theorem aa_141 {L : Nat} : pz_aa (pz_Sh L) 141 = true := rfl
set_option maxRecDepth 20000 in
theorem is_142 {L : Nat} : pz_is (pz_Sh L) 142 8 = true := rfl
set_option maxRecDepth 20000 in
theorem is_143 {L : Nat} : pz_is (pz_Sh L) 143 20 = true := rfl
set_option maxRecDepth 20000 in
theorem ln_143 {L : Nat} : (pz_Sh L).2.2.1 143 = 100 := rfl
set_option maxRecDepth 20000 in
theorem aa_143 {L : Nat} : pz_aa (pz_Sh L) 143 = true := rfl
set_option maxRecDepth 20000 in
theorem is_144 {L : Nat} : pz_is (pz_Sh L) 144 20 = true := rfl
set_option maxRecDepth 20000 in
theorem ln_144 {L : Nat} : (pz_Sh L).2.2.1 144 = 100 := rfl
set_option maxRecDepth 20000 in
theorem aa_144 {L : Nat} : pz_aa (pz_Sh L) 144 = true := rfl
set_option maxRecDepth 20000 in
theorem is_145 {L : Nat} : pz_is (pz_Sh L) 145 20 = true := rfl
set_option maxRecDepth 20000 in
theorem ln_145 {L : Nat} : (pz_Sh L).2.2.1 145 = 30 := rfl
set_option maxRecDepth 20000 in
theorem aa_145 {L : Nat} : pz_aa (pz_Sh L) 145 = true := rfl
set_option maxRecDepth 20000 in
theorem is_146 {L : Nat} : pz_is (pz_Sh L) 146 20 = true := rfl
set_option maxRecDepth 20000 in
theorem ln_146 {L : Nat} : (pz_Sh L).2.2.1 146 = 30 := rfl
set_option maxRecDepth 20000 in
theorem aa_146 {L : Nat} : pz_aa (pz_Sh L) 146 = true := rfl
set_option maxRecDepth 20000 in
theorem is_147 {L : Nat} : pz_is (pz_Sh L) 147 5 = true := rfl
set_option maxRecDepth 20000 in
theorem is_148 {L : Nat} : pz_is (pz_Sh L) 148 20 = true := rfl
set_option maxRecDepth 20000 in
theorem ln_148 {L : Nat} : (pz_Sh L).2.2.1 148 = 100 := rfl
set_option maxRecDepth 20000 in
theorem aa_148 {L : Nat} : pz_aa (pz_Sh L) 148 = true := rfl
set_option maxRecDepth 20000 in
theorem is_149 {L : Nat} : pz_is (pz_Sh L) 149 20 = true := rfl
set_option maxRecDepth 20000 in
theorem ln_149 {L : Nat} : (pz_Sh L).2.2.1 149 = 100 := rfl
set_option maxRecDepth 20000 in
theorem aa_149 {L : Nat} : pz_aa (pz_Sh L) 149 = true := rfl
set_option maxRecDepth 20000 in
theorem is_150 {L : Nat} : pz_is (pz_Sh L) 150 20 = true := rfl
set_option maxRecDepth 20000 in
theorem ln_150 {L : Nat} : (pz_Sh L).2.2.1 150 = 10 := rfl
set_option maxRecDepth 20000 in
theorem aa_150 {L : Nat} : pz_aa (pz_Sh L) 150 = true := rfl
set_option maxRecDepth 20000 in
theorem is_151 {L : Nat} : pz_is (pz_Sh L) 151 7 = true := rfl
set_option maxRecDepth 20000 in
theorem is_152 {L : Nat} : pz_is (pz_Sh L) 152 2 = true := rfl
set_option maxRecDepth 20000 in
theorem is_153 {L : Nat} : pz_is (pz_Sh L) 153 20 = true := rfl
set_option maxRecDepth 20000 in
theorem ln_153 {L : Nat} : (pz_Sh L).2.2.1 153 = 10 := rfl
set_option maxRecDepth 20000 in
theorem aa_153 {L : Nat} : pz_aa (pz_Sh L) 153 = true := rfl
set_option maxRecDepth 20000 in
theorem is_154 {L : Nat} : pz_is (pz_Sh L) 154 20 = true := rfl
set_option maxRecDepth 20000 in
theorem ln_154 {L : Nat} : (pz_Sh L).2.2.1 154 = 190 := rfl
set_option maxRecDepth 20000 in
theorem aa_154 {L : Nat} : pz_aa (pz_Sh L) 154 = true := rfl
set_option maxRecDepth 20000 in
theorem rf_2_0 {L : Nat} : (pz_Sh L).2.2.2 2 0 = 3 := rfl
set_option maxRecDepth 20000 in
theorem rf_2_1 {L : Nat} : (pz_Sh L).2.2.2 2 1 = 28 := rfl
set_option maxRecDepth 20000 in
theorem rf_2_3 {L : Nat} : (pz_Sh L).2.2.2 2 3 = 129 := rfl
set_option maxRecDepth 20000 in
theorem rf_2_4 {L : Nat} : (pz_Sh L).2.2.2 2 4 = 138 := rfl
set_option maxRecDepth 20000 in
theorem rf_2_5 {L : Nat} : (pz_Sh L).2.2.2 2 5 = 142 := rfl
set_option maxRecDepth 20000 in
theorem rf_2_6 {L : Nat} : (pz_Sh L).2.2.2 2 6 = 151 := rfl
set_option maxRecDepth 20000 in
theorem rf_3_1 {L : Nat} : (pz_Sh L).2.2.2 3 1 = 4 := rfl
set_option maxRecDepth 20000 in
theorem rf_3_2 {L : Nat} : (pz_Sh L).2.2.2 3 2 = 10 := rfl
set_option maxRecDepth 20000 in
theorem rf_3_3 {L : Nat} : (pz_Sh L).2.2.2 3 3 = 15 := rfl
set_option maxRecDepth 20000 in
theorem rf_3_4 {L : Nat} : (pz_Sh L).2.2.2 3 4 = 17 := rfl
set_option maxRecDepth 20000 in
theorem rf_3_5 {L : Nat} : (pz_Sh L).2.2.2 3 5 = 21 := rfl
set_option maxRecDepth 20000 in
theorem rf_3_6 {L : Nat} : (pz_Sh L).2.2.2 3 6 = 25 := rfl
set_option maxRecDepth 20000 in
theorem rf_3_8 {L : Nat} : (pz_Sh L).2.2.2 3 8 = 26 := rfl
set_option maxRecDepth 20000 in
theorem rf_4_1 {L : Nat} : (pz_Sh L).2.2.2 4 1 = 5 := rfl
set_option maxRecDepth 20000 in
theorem rf_4_2 {L : Nat} : (pz_Sh L).2.2.2 4 2 = 6 := rfl
set_option maxRecDepth 20000 in
theorem rf_4_3 {L : Nat} : (pz_Sh L).2.2.2 4 3 = 7 := rfl
set_option maxRecDepth 20000 in
theorem rf_4_4 {L : Nat} : (pz_Sh L).2.2.2 4 4 = 8 := rfl
set_option maxRecDepth 20000 in
theorem rf_4_5 {L : Nat} : (pz_Sh L).2.2.2 4 5 = 9 := rfl
set_option maxRecDepth 20000 in
theorem rf_10_1 {L : Nat} : (pz_Sh L).2.2.2 10 1 = 11 := rfl
set_option maxRecDepth 20000 in
theorem rf_10_2 {L : Nat} : (pz_Sh L).2.2.2 10 2 = 12 := rfl
set_option maxRecDepth 20000 in
theorem rf_10_3 {L : Nat} : (pz_Sh L).2.2.2 10 3 = 13 := rfl
set_option maxRecDepth 20000 in
theorem rf_10_4 {L : Nat} : (pz_Sh L).2.2.2 10 4 = 14 := rfl
set_option maxRecDepth 20000 in
theorem rf_15_1 {L : Nat} : (pz_Sh L).2.2.2 15 1 = 16 := rfl
set_option maxRecDepth 20000 in
theorem rf_17_2 {L : Nat} : (pz_Sh L).2.2.2 17 2 = 18 := rfl
set_option maxRecDepth 20000 in
theorem rf_17_3 {L : Nat} : (pz_Sh L).2.2.2 17 3 = 19 := rfl
set_option maxRecDepth 20000 in
theorem rf_17_4 {L : Nat} : (pz_Sh L).2.2.2 17 4 = 20 := rfl
set_option maxRecDepth 20000 in
theorem rf_21_0 {L : Nat} : (pz_Sh L).2.2.2 21 0 = 22 := rfl
set_option maxRecDepth 20000 in
theorem rf_21_1 {L : Nat} : (pz_Sh L).2.2.2 21 1 = 23 := rfl
set_option maxRecDepth 20000 in
theorem rf_21_2 {L : Nat} : (pz_Sh L).2.2.2 21 2 = 24 := rfl
set_option maxRecDepth 20000 in
theorem rf_26_1 {L : Nat} : (pz_Sh L).2.2.2 26 1 = 27 := rfl
set_option maxRecDepth 20000 in
theorem rf_28_0 {L : Nat} : (pz_Sh L).2.2.2 28 0 = 29 := rfl
set_option maxRecDepth 20000 in
theorem rf_28_1 {L : Nat} : (pz_Sh L).2.2.2 28 1 = 54 := rfl
set_option maxRecDepth 20000 in
theorem rf_28_2 {L : Nat} : (pz_Sh L).2.2.2 28 2 = 79 := rfl
set_option maxRecDepth 20000 in
theorem rf_28_3 {L : Nat} : (pz_Sh L).2.2.2 28 3 = 104 := rfl
set_option maxRecDepth 20000 in
theorem rf_29_1 {L : Nat} : (pz_Sh L).2.2.2 29 1 = 30 := rfl
set_option maxRecDepth 20000 in
theorem rf_29_2 {L : Nat} : (pz_Sh L).2.2.2 29 2 = 36 := rfl
set_option maxRecDepth 20000 in
theorem rf_29_3 {L : Nat} : (pz_Sh L).2.2.2 29 3 = 41 := rfl
set_option maxRecDepth 20000 in
theorem rf_29_4 {L : Nat} : (pz_Sh L).2.2.2 29 4 = 43 := rfl
set_option maxRecDepth 20000 in
theorem rf_29_5 {L : Nat} : (pz_Sh L).2.2.2 29 5 = 47 := rfl
set_option maxRecDepth 20000 in
theorem rf_29_6 {L : Nat} : (pz_Sh L).2.2.2 29 6 = 51 := rfl
set_option maxRecDepth 20000 in
theorem rf_29_8 {L : Nat} : (pz_Sh L).2.2.2 29 8 = 52 := rfl
set_option maxRecDepth 20000 in
theorem rf_30_1 {L : Nat} : (pz_Sh L).2.2.2 30 1 = 31 := rfl
set_option maxRecDepth 20000 in
theorem rf_30_2 {L : Nat} : (pz_Sh L).2.2.2 30 2 = 32 := rfl
set_option maxRecDepth 20000 in
theorem rf_30_3 {L : Nat} : (pz_Sh L).2.2.2 30 3 = 33 := rfl
set_option maxRecDepth 20000 in
theorem rf_30_4 {L : Nat} : (pz_Sh L).2.2.2 30 4 = 34 := rfl
set_option maxRecDepth 20000 in
theorem rf_30_5 {L : Nat} : (pz_Sh L).2.2.2 30 5 = 35 := rfl
set_option maxRecDepth 20000 in
theorem rf_36_1 {L : Nat} : (pz_Sh L).2.2.2 36 1 = 37 := rfl
set_option maxRecDepth 20000 in
theorem rf_36_2 {L : Nat} : (pz_Sh L).2.2.2 36 2 = 38 := rfl
set_option maxRecDepth 20000 in
theorem rf_36_3 {L : Nat} : (pz_Sh L).2.2.2 36 3 = 39 := rfl
set_option maxRecDepth 20000 in
theorem rf_36_4 {L : Nat} : (pz_Sh L).2.2.2 36 4 = 40 := rfl
set_option maxRecDepth 20000 in
theorem rf_41_1 {L : Nat} : (pz_Sh L).2.2.2 41 1 = 42 := rfl
set_option maxRecDepth 20000 in
theorem rf_43_2 {L : Nat} : (pz_Sh L).2.2.2 43 2 = 44 := rfl
set_option maxRecDepth 20000 in
theorem rf_43_3 {L : Nat} : (pz_Sh L).2.2.2 43 3 = 45 := rfl
set_option maxRecDepth 20000 in
theorem rf_43_4 {L : Nat} : (pz_Sh L).2.2.2 43 4 = 46 := rfl
set_option maxRecDepth 20000 in
theorem rf_47_0 {L : Nat} : (pz_Sh L).2.2.2 47 0 = 48 := rfl
set_option maxRecDepth 20000 in
theorem rf_47_1 {L : Nat} : (pz_Sh L).2.2.2 47 1 = 49 := rfl
set_option maxRecDepth 20000 in
theorem rf_47_2 {L : Nat} : (pz_Sh L).2.2.2 47 2 = 50 := rfl
set_option maxRecDepth 20000 in
theorem rf_52_1 {L : Nat} : (pz_Sh L).2.2.2 52 1 = 53 := rfl
set_option maxRecDepth 20000 in
theorem rf_54_1 {L : Nat} : (pz_Sh L).2.2.2 54 1 = 55 := rfl
set_option maxRecDepth 20000 in
theorem rf_54_2 {L : Nat} : (pz_Sh L).2.2.2 54 2 = 61 := rfl
set_option maxRecDepth 20000 in
theorem rf_54_3 {L : Nat} : (pz_Sh L).2.2.2 54 3 = 66 := rfl
set_option maxRecDepth 20000 in
theorem rf_54_4 {L : Nat} : (pz_Sh L).2.2.2 54 4 = 68 := rfl
set_option maxRecDepth 20000 in
theorem rf_54_5 {L : Nat} : (pz_Sh L).2.2.2 54 5 = 72 := rfl
set_option maxRecDepth 20000 in
theorem rf_54_6 {L : Nat} : (pz_Sh L).2.2.2 54 6 = 76 := rfl
set_option maxRecDepth 20000 in
theorem rf_54_8 {L : Nat} : (pz_Sh L).2.2.2 54 8 = 77 := rfl
set_option maxRecDepth 20000 in
theorem rf_55_1 {L : Nat} : (pz_Sh L).2.2.2 55 1 = 56 := rfl
set_option maxRecDepth 20000 in
theorem rf_55_2 {L : Nat} : (pz_Sh L).2.2.2 55 2 = 57 := rfl
set_option maxRecDepth 20000 in
theorem rf_55_3 {L : Nat} : (pz_Sh L).2.2.2 55 3 = 58 := rfl
set_option maxRecDepth 20000 in
theorem rf_55_4 {L : Nat} : (pz_Sh L).2.2.2 55 4 = 59 := rfl
set_option maxRecDepth 20000 in
theorem rf_55_5 {L : Nat} : (pz_Sh L).2.2.2 55 5 = 60 := rfl
set_option maxRecDepth 20000 in
theorem rf_61_1 {L : Nat} : (pz_Sh L).2.2.2 61 1 = 62 := rfl
set_option maxRecDepth 20000 in
theorem rf_61_2 {L : Nat} : (pz_Sh L).2.2.2 61 2 = 63 := rfl
set_option maxRecDepth 20000 in
theorem rf_61_3 {L : Nat} : (pz_Sh L).2.2.2 61 3 = 64 := rfl
set_option maxRecDepth 20000 in
theorem rf_61_4 {L : Nat} : (pz_Sh L).2.2.2 61 4 = 65 := rfl
set_option maxRecDepth 20000 in
theorem rf_66_1 {L : Nat} : (pz_Sh L).2.2.2 66 1 = 67 := rfl
set_option maxRecDepth 20000 in
theorem rf_68_2 {L : Nat} : (pz_Sh L).2.2.2 68 2 = 69 := rfl
set_option maxRecDepth 20000 in
theorem rf_68_3 {L : Nat} : (pz_Sh L).2.2.2 68 3 = 70 := rfl
set_option maxRecDepth 20000 in
theorem rf_68_4 {L : Nat} : (pz_Sh L).2.2.2 68 4 = 71 := rfl
set_option maxRecDepth 20000 in
theorem rf_72_0 {L : Nat} : (pz_Sh L).2.2.2 72 0 = 73 := rfl
set_option maxRecDepth 20000 in
theorem rf_72_1 {L : Nat} : (pz_Sh L).2.2.2 72 1 = 74 := rfl
set_option maxRecDepth 20000 in
theorem rf_72_2 {L : Nat} : (pz_Sh L).2.2.2 72 2 = 75 := rfl
set_option maxRecDepth 20000 in
theorem rf_77_1 {L : Nat} : (pz_Sh L).2.2.2 77 1 = 78 := rfl
set_option maxRecDepth 20000 in
theorem rf_79_1 {L : Nat} : (pz_Sh L).2.2.2 79 1 = 80 := rfl
set_option maxRecDepth 20000 in
theorem rf_79_2 {L : Nat} : (pz_Sh L).2.2.2 79 2 = 86 := rfl
set_option maxRecDepth 20000 in
theorem rf_79_3 {L : Nat} : (pz_Sh L).2.2.2 79 3 = 91 := rfl
set_option maxRecDepth 20000 in
theorem rf_79_4 {L : Nat} : (pz_Sh L).2.2.2 79 4 = 93 := rfl
set_option maxRecDepth 20000 in
theorem rf_79_5 {L : Nat} : (pz_Sh L).2.2.2 79 5 = 97 := rfl
set_option maxRecDepth 20000 in
theorem rf_79_6 {L : Nat} : (pz_Sh L).2.2.2 79 6 = 101 := rfl
set_option maxRecDepth 20000 in
theorem rf_79_8 {L : Nat} : (pz_Sh L).2.2.2 79 8 = 102 := rfl
set_option maxRecDepth 20000 in
theorem rf_80_1 {L : Nat} : (pz_Sh L).2.2.2 80 1 = 81 := rfl
set_option maxRecDepth 20000 in
theorem rf_80_2 {L : Nat} : (pz_Sh L).2.2.2 80 2 = 82 := rfl
set_option maxRecDepth 20000 in
theorem rf_80_3 {L : Nat} : (pz_Sh L).2.2.2 80 3 = 83 := rfl
set_option maxRecDepth 20000 in
theorem rf_80_4 {L : Nat} : (pz_Sh L).2.2.2 80 4 = 84 := rfl
set_option maxRecDepth 20000 in
theorem rf_80_5 {L : Nat} : (pz_Sh L).2.2.2 80 5 = 85 := rfl
set_option maxRecDepth 20000 in
theorem rf_86_1 {L : Nat} : (pz_Sh L).2.2.2 86 1 = 87 := rfl
set_option maxRecDepth 20000 in
theorem rf_86_2 {L : Nat} : (pz_Sh L).2.2.2 86 2 = 88 := rfl
set_option maxRecDepth 20000 in
theorem rf_86_3 {L : Nat} : (pz_Sh L).2.2.2 86 3 = 89 := rfl
set_option maxRecDepth 20000 in
theorem rf_86_4 {L : Nat} : (pz_Sh L).2.2.2 86 4 = 90 := rfl
set_option maxRecDepth 20000 in
theorem rf_91_1 {L : Nat} : (pz_Sh L).2.2.2 91 1 = 92 := rfl
set_option maxRecDepth 20000 in
theorem rf_93_2 {L : Nat} : (pz_Sh L).2.2.2 93 2 = 94 := rfl
set_option maxRecDepth 20000 in
theorem rf_93_3 {L : Nat} : (pz_Sh L).2.2.2 93 3 = 95 := rfl
set_option maxRecDepth 20000 in
theorem rf_93_4 {L : Nat} : (pz_Sh L).2.2.2 93 4 = 96 := rfl
set_option maxRecDepth 20000 in
theorem rf_97_0 {L : Nat} : (pz_Sh L).2.2.2 97 0 = 98 := rfl
set_option maxRecDepth 20000 in
theorem rf_97_1 {L : Nat} : (pz_Sh L).2.2.2 97 1 = 99 := rfl
set_option maxRecDepth 20000 in
theorem rf_97_2 {L : Nat} : (pz_Sh L).2.2.2 97 2 = 100 := rfl
set_option maxRecDepth 20000 in
theorem rf_102_1 {L : Nat} : (pz_Sh L).2.2.2 102 1 = 103 := rfl
set_option maxRecDepth 20000 in
theorem rf_104_1 {L : Nat} : (pz_Sh L).2.2.2 104 1 = 105 := rfl
set_option maxRecDepth 20000 in
theorem rf_104_2 {L : Nat} : (pz_Sh L).2.2.2 104 2 = 111 := rfl
set_option maxRecDepth 20000 in
theorem rf_104_3 {L : Nat} : (pz_Sh L).2.2.2 104 3 = 116 := rfl
set_option maxRecDepth 20000 in
theorem rf_104_4 {L : Nat} : (pz_Sh L).2.2.2 104 4 = 118 := rfl
set_option maxRecDepth 20000 in
theorem rf_104_5 {L : Nat} : (pz_Sh L).2.2.2 104 5 = 122 := rfl
set_option maxRecDepth 20000 in
theorem rf_104_6 {L : Nat} : (pz_Sh L).2.2.2 104 6 = 126 := rfl
set_option maxRecDepth 20000 in
theorem rf_104_8 {L : Nat} : (pz_Sh L).2.2.2 104 8 = 127 := rfl
set_option maxRecDepth 20000 in
theorem rf_105_1 {L : Nat} : (pz_Sh L).2.2.2 105 1 = 106 := rfl
set_option maxRecDepth 20000 in
theorem rf_105_2 {L : Nat} : (pz_Sh L).2.2.2 105 2 = 107 := rfl
set_option maxRecDepth 20000 in
theorem rf_105_3 {L : Nat} : (pz_Sh L).2.2.2 105 3 = 108 := rfl
set_option maxRecDepth 20000 in
theorem rf_105_4 {L : Nat} : (pz_Sh L).2.2.2 105 4 = 109 := rfl
set_option maxRecDepth 20000 in
theorem rf_105_5 {L : Nat} : (pz_Sh L).2.2.2 105 5 = 110 := rfl
set_option maxRecDepth 20000 in
theorem rf_111_1 {L : Nat} : (pz_Sh L).2.2.2 111 1 = 112 := rfl
set_option maxRecDepth 20000 in
theorem rf_111_2 {L : Nat} : (pz_Sh L).2.2.2 111 2 = 113 := rfl
set_option maxRecDepth 20000 in
theorem rf_111_3 {L : Nat} : (pz_Sh L).2.2.2 111 3 = 114 := rfl
set_option maxRecDepth 20000 in
theorem rf_111_4 {L : Nat} : (pz_Sh L).2.2.2 111 4 = 115 := rfl
set_option maxRecDepth 20000 in
theorem rf_116_1 {L : Nat} : (pz_Sh L).2.2.2 116 1 = 117 := rfl
set_option maxRecDepth 20000 in
theorem rf_118_2 {L : Nat} : (pz_Sh L).2.2.2 118 2 = 119 := rfl
set_option maxRecDepth 20000 in
theorem rf_118_3 {L : Nat} : (pz_Sh L).2.2.2 118 3 = 120 := rfl
set_option maxRecDepth 20000 in
theorem rf_118_4 {L : Nat} : (pz_Sh L).2.2.2 118 4 = 121 := rfl
set_option maxRecDepth 20000 in
theorem rf_122_0 {L : Nat} : (pz_Sh L).2.2.2 122 0 = 123 := rfl
set_option maxRecDepth 20000 in
theorem rf_122_1 {L : Nat} : (pz_Sh L).2.2.2 122 1 = 124 := rfl
set_option maxRecDepth 20000 in
theorem rf_122_2 {L : Nat} : (pz_Sh L).2.2.2 122 2 = 125 := rfl
set_option maxRecDepth 20000 in
theorem rf_127_1 {L : Nat} : (pz_Sh L).2.2.2 127 1 = 128 := rfl
set_option maxRecDepth 20000 in
theorem rf_129_0 {L : Nat} : (pz_Sh L).2.2.2 129 0 = 3 := rfl
set_option maxRecDepth 20000 in
theorem rf_129_1 {L : Nat} : (pz_Sh L).2.2.2 129 1 = 130 := rfl
set_option maxRecDepth 20000 in
theorem rf_129_2 {L : Nat} : (pz_Sh L).2.2.2 129 2 = 134 := rfl
set_option maxRecDepth 20000 in
theorem rf_129_4 {L : Nat} : (pz_Sh L).2.2.2 129 4 = 135 := rfl
set_option maxRecDepth 20000 in
theorem rf_129_5 {L : Nat} : (pz_Sh L).2.2.2 129 5 = 136 := rfl
set_option maxRecDepth 20000 in
theorem rf_129_6 {L : Nat} : (pz_Sh L).2.2.2 129 6 = 137 := rfl
set_option maxRecDepth 20000 in
theorem rf_130_2 {L : Nat} : (pz_Sh L).2.2.2 130 2 = 131 := rfl
set_option maxRecDepth 20000 in
theorem rf_130_3 {L : Nat} : (pz_Sh L).2.2.2 130 3 = 132 := rfl
set_option maxRecDepth 20000 in
theorem rf_130_4 {L : Nat} : (pz_Sh L).2.2.2 130 4 = 133 := rfl
set_option maxRecDepth 20000 in
theorem rf_138_2 {L : Nat} : (pz_Sh L).2.2.2 138 2 = 139 := rfl
set_option maxRecDepth 20000 in
theorem rf_138_3 {L : Nat} : (pz_Sh L).2.2.2 138 3 = 140 := rfl
set_option maxRecDepth 20000 in
theorem rf_138_4 {L : Nat} : (pz_Sh L).2.2.2 138 4 = 141 := rfl
set_option maxRecDepth 20000 in
theorem rf_142_0 {L : Nat} : (pz_Sh L).2.2.2 142 0 = 3 := rfl
set_option maxRecDepth 20000 in
theorem rf_142_4 {L : Nat} : (pz_Sh L).2.2.2 142 4 = 143 := rfl
set_option maxRecDepth 20000 in
theorem rf_142_5 {L : Nat} : (pz_Sh L).2.2.2 142 5 = 144 := rfl
set_option maxRecDepth 20000 in
theorem rf_142_6 {L : Nat} : (pz_Sh L).2.2.2 142 6 = 145 := rfl
set_option maxRecDepth 20000 in
theorem rf_142_7 {L : Nat} : (pz_Sh L).2.2.2 142 7 = 146 := rfl
set_option maxRecDepth 20000 in
theorem rf_142_8 {L : Nat} : (pz_Sh L).2.2.2 142 8 = 147 := rfl
set_option maxRecDepth 20000 in
theorem rf_147_2 {L : Nat} : (pz_Sh L).2.2.2 147 2 = 148 := rfl
set_option maxRecDepth 20000 in
theorem rf_147_3 {L : Nat} : (pz_Sh L).2.2.2 147 3 = 149 := rfl
set_option maxRecDepth 20000 in
theorem rf_147_4 {L : Nat} : (pz_Sh L).2.2.2 147 4 = 150 := rfl
set_option maxRecDepth 20000 in
theorem rf_151_0 {L : Nat} : (pz_Sh L).2.2.2 151 0 = 3 := rfl
set_option maxRecDepth 20000 in
theorem rf_151_1 {L : Nat} : (pz_Sh L).2.2.2 151 1 = 142 := rfl
set_option maxRecDepth 20000 in
theorem rf_151_2 {L : Nat} : (pz_Sh L).2.2.2 151 2 = 152 := rfl
set_option maxRecDepth 20000 in
theorem rf_152_1 {L : Nat} : (pz_Sh L).2.2.2 152 1 = 153 := rfl
theorem ln_1 {L : Nat} : (pz_Sh L).2.2.1 1 = L := rfl
def pz_cok0 (b : Nat) (as rest : List pz_V) : Bool := decide (as.length = b) && (decide (rest.length ≤ 4) && as.all (fun v => pz_cat v == 1))
theorem pz_cokI {S : pz_S} {b c r : Nat} {as rest : List pz_V} (h : pz_is S r c = true) (h2 : pz_cok0 b (.inr (.inl r) :: as) rest = true) : pz_cok S b c (.inr (.inl r) :: as) rest = true := by
  unfold pz_cok0 at h2
  unfold pz_cok
  simp only [Bool.and_eq_true] at h2 ⊢
  exact ⟨h2.1, h2.2.1, h2.2.2, by rw [Bool.or_eq_true]; exact Or.inr h⟩
