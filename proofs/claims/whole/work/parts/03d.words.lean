/-! the tables' words, by their places -/
/-- words that a warmer machine keeps, whatever its heap -/
def xg_g (w : Cond) : Bool := goodWord w || (match w with
  | .methodLinkNest .. => true
  | .castable .. => true
  | _ => false)
def xt : List Cond := lw_tbl.filter xg_g
theorem xt_m {w : Cond} (i : Nat) (h : tables_1[i]? = some w) (hg : xg_g w = true := by rfl) : w ∈ xt := List.mem_filter.mpr ⟨List.mem_append_right _ (List.mem_of_getElem? h), hg⟩
theorem xt_s {w : Cond} (i : Nat) (h : (k2_sels lw_privs)[i]? = some w) (hg : xg_g w = true := by rfl) : w ∈ xt := List.mem_filter.mpr ⟨List.mem_append_left _ (List.mem_of_getElem? h), hg⟩
theorem xt_in {ws : List Cond} (ps : List Nat) (h : ws.map some = ps.map (fun i => tables_1[i]?)) (hg : ws.all xg_g = true) : ∀ w ∈ ws, w ∈ xt := by
  intro w hw
  have h1 : some w ∈ ws.map some := List.mem_map.mpr ⟨w, hw, rfl⟩
  rw [h] at h1
  obtain ⟨i, -, hi⟩ := List.mem_map.mp h1
  exact xt_m i hi (List.all_eq_true.mp hg w hw)
theorem xg_mv {A A' : Array Value} {s U : State} {w : Cond} (hg : xg_g w = true) (hW : s.WarmedH U.vm) (h : w.before A s = true) : w.before A' U = true := by
  unfold xg_g at hg
  rw [Bool.or_eq_true] at hg
  rcases hg with hg | hg
  · exact word_at hW (good_of_word hg) h
  · split at hg
    · exact va_tabs rfl (rfl : (s.setVm U.vm).vm = U.vm) (Cond.methodLinkNest_warmed hW h)
    · exact va_tabs rfl (rfl : (s.setVm U.vm).vm = U.vm) (Cond.before_warmed hW _ trivial h)
    · cases hg
theorem xt_mv {A A' : Array Value} {s U : State} (hW : s.WarmedH U.vm) (h : ∀ w ∈ xt, w.before A s = true) : ∀ w ∈ xt, w.before A' U = true := fun w hw => xg_mv (List.mem_filter.mp hw).2 hW (h w hw)
theorem xt_lk {α : Type} {l : List (Nat × α)} {k : Nat} {v : α} (h : l.lookup k = some v) : (k, v) ∈ l := by
  induction l with
  | nil => cases h
  | cons a t ih =>
    obtain ⟨a1, a2⟩ := a
    rw [List.lookup_cons] at h
    split at h
    · rename_i hb
      cases h
      rw [eq_of_beq hb]
      exact List.mem_cons_self
    · exact List.mem_cons_of_mem _ (ih h)
theorem xm_cls : ∀ M, M < 217 → (xm_y M).cls = xz_cn (xm_k M) := by decide +kernel
def xz_gl0 : List (Nat × (Nat × Nat × Nat)) := []
def xz_gl1 : List (Nat × (Nat × Nat × Nat)) := [(10, (0, 0, 1)), (19, (0, 1, 1)), (26, (0, 2, 1)), (33, (0, 3, 1)), (40, (0, 4, 1)), (47, (0, 5, 1)), (54, (0, 6, 1)), (61, (0, 7, 1)), (65, (0, 8, 0)), (179, (6, 0, 1)), (194, (9, 1, 1)), (202, (8, 7, 0)), (228, (11, 1, 0)), (255, (2, 0, 1)), (262, (3, 1, 1)), (265, (3, 0, 1)), (272, (4, 3, 0)), (275, (4, 0, 1)), (279, (4, 1, 1)), (282, (4, 2, 1)), (296, (9, 0, 1)), (305, (5, 0, 1)), (308, (5, 1, 1)), (311, (5, 2, 1)), (317, (2, 1, 1)), (320, (2, 2, 1))]
def xz_gl2 : List (Nat × (Nat × Nat × Nat)) := [(9, (1, 0, 1))]
def xz_gl3 : List (Nat × (Nat × Nat × Nat)) := [(9, (2, 0, 1)), (15, (2, 1, 1)), (18, (2, 2, 1))]
def xz_gl4 : List (Nat × (Nat × Nat × Nat)) := [(9, (3, 0, 1)), (15, (3, 1, 1)), (18, (3, 2, 1))]
def xz_gl5 : List (Nat × (Nat × Nat × Nat)) := [(11, (4, 0, 1)), (15, (4, 1, 1)), (19, (4, 2, 1)), (22, (4, 3, 0))]
def xz_gl6 : List (Nat × (Nat × Nat × Nat)) := [(9, (5, 0, 1)), (15, (5, 1, 1)), (18, (5, 2, 1)), (22, (5, 3, 1))]
def xz_gl7 : List (Nat × (Nat × Nat × Nat)) := [(12, (6, 0, 1)), (21, (6, 1, 1)), (25, (6, 2, 0)), (29, (6, 3, 0)), (32, (6, 4, 0)), (47, (7, 1, 0)), (50, (7, 0, 1)), (58, (8, 0, 1)), (84, (8, 6, 1)), (87, (8, 11, 0)), (93, (8, 2, 1)), (96, (8, 3, 1)), (118, (8, 5, 1))]
def xz_gl8 : List (Nat × (Nat × Nat × Nat)) := [(9, (7, 0, 1)), (13, (7, 1, 0))]
def xz_gl9 : List (Nat × (Nat × Nat × Nat)) := [(11, (8, 0, 1)), (15, (8, 1, 1)), (18, (8, 2, 1)), (21, (8, 3, 1)), (24, (8, 4, 1)), (27, (8, 5, 1)), (30, (8, 6, 1)), (33, (8, 7, 0)), (39, (8, 8, 1)), (42, (8, 9, 1)), (45, (8, 10, 1)), (48, (8, 11, 0))]
def xz_gl10 : List (Nat × (Nat × Nat × Nat)) := [(12, (9, 0, 1)), (21, (9, 1, 1)), (25, (9, 2, 1)), (29, (9, 3, 1)), (32, (9, 4, 1)), (37, (9, 5, 1)), (40, (8, 7, 0)), (48, (8, 0, 1)), (62, (8, 4, 1)), (65, (8, 5, 1)), (68, (8, 8, 1)), (83, (8, 9, 1)), (86, (8, 10, 1)), (93, (8, 6, 1)), (127, (8, 1, 1))]
def xz_gl11 : List (Nat × (Nat × Nat × Nat)) := [(9, (10, 0, 0)), (15, (10, 1, 0)), (18, (10, 2, 0)), (21, (10, 3, 0)), (24, (10, 4, 2)), (28, (10, 5, 0)), (31, (10, 6, 0)), (34, (10, 7, 2)), (37, (10, 8, 0))]
def xz_gl12 : List (Nat × (Nat × Nat × Nat)) := [(9, (11, 0, 1)), (13, (11, 1, 0)), (18, (11, 2, 0)), (21, (11, 3, 0))]
def xz_gl13 : List (Nat × (Nat × Nat × Nat)) := [(7, (12, 0, 1)), (13, (12, 1, 1)), (16, (12, 2, 1)), (19, (12, 3, 1)), (23, (12, 4, 1)), (26, (12, 5, 1)), (29, (12, 6, 1)), (32, (12, 7, 1)), (35, (12, 9, 1)), (38, (12, 10, 1)), (41, (12, 11, 1)), (44, (12, 12, 1)), (47, (12, 13, 1)), (50, (12, 14, 1)), (53, (12, 15, 1)), (56, (12, 16, 1)), (59, (12, 20, 0)), (63, (12, 22, 1)), (66, (12, 23, 1)), (69, (12, 24, 1)), (72, (12, 25, 1)), (75, (12, 26, 1)), (78, (12, 27, 1)), (81, (12, 28, 1)), (84, (12, 29, 1)), (87, (12, 30, 1)), (90, (12, 33, 1)), (93, (12, 34, 1)), (96, (12, 35, 1)), (99, (12, 36, 1)), (102, (12, 37, 1)), (105, (12, 38, 1)), (108, (12, 39, 1)), (111, (12, 41, 1)), (114, (12, 46, 1)), (117, (12, 47, 1)), (120, (12, 48, 1)), (123, (12, 49, 1)), (126, (12, 50, 1)), (130, (12, 52, 0)), (133, (12, 21, 0)), (143, (12, 8, 0)), (164, (12, 17, 0)), (167, (12, 19, 0)), (170, (12, 18, 0)), (180, (12, 31, 0)), (200, (12, 32, 0)), (212, (12, 40, 0)), (236, (12, 44, 0)), (239, (12, 42, 0)), (242, (12, 43, 0)), (245, (12, 45, 0)), (306, (12, 51, 0))]
def xz_gl14 : List (Nat × (Nat × Nat × Nat)) := []
def xz_gl15 : List (Nat × (Nat × Nat × Nat)) := []
def xz_gl (c : Nat) : List (Nat × (Nat × Nat × Nat)) := (bif Nat.blt c 8 then (bif Nat.blt c 4 then (bif Nat.blt c 2 then (bif Nat.blt c 1 then xz_gl0 else xz_gl1) else (bif Nat.blt c 3 then xz_gl2 else xz_gl3)) else (bif Nat.blt c 6 then (bif Nat.blt c 5 then xz_gl4 else xz_gl5) else (bif Nat.blt c 7 then xz_gl6 else xz_gl7))) else (bif Nat.blt c 12 then (bif Nat.blt c 10 then (bif Nat.blt c 9 then xz_gl8 else xz_gl9) else (bif Nat.blt c 11 then xz_gl10 else xz_gl11)) else (bif Nat.blt c 14 then (bif Nat.blt c 13 then xz_gl12 else xz_gl13) else (bif Nat.blt c 15 then xz_gl14 else xz_gl15))))
def xz_ml0 : List (Nat × Nat) := [(7, 23), (17, 42), (20, 46), (23, 52), (26, 54), (30, 59), (34, 62), (37, 66), (41, 69), (44, 75), (48, 77), (51, 79), (55, 83), (59, 87), (63, 112), (67, 136), (72, 142), (78, 146), (82, 1), (85, 148), (86, 22), (91, 150), (92, 149), (95, 41), (97, 157), (98, 45), (100, 159), (101, 51), (103, 160), (104, 53), (107, 161), (108, 58), (111, 162), (112, 61), (114, 163), (115, 65), (118, 164), (119, 68), (121, 165), (122, 74), (125, 166), (126, 76), (128, 167), (129, 78), (132, 168), (135, 82), (138, 169), (139, 86), (142, 170), (143, 13), (146, 188), (147, 111), (150, 189), (151, 135), (153, 207), (154, 141), (157, 211), (158, 145), (161, 214), (162, 14), (165, 215)]
def xz_ml1 : List (Nat × Nat) := [(9, 2), (18, 3), (25, 4), (32, 5), (39, 6), (46, 7), (53, 10), (60, 12), (69, 24), (73, 26), (77, 27), (81, 29), (84, 31), (87, 32), (91, 33), (95, 40), (105, 43), (108, 47), (111, 48), (114, 49), (117, 50), (120, 55), (123, 56), (126, 34), (130, 57), (134, 60), (138, 63), (141, 44), (144, 64), (147, 67), (151, 70), (154, 71), (157, 73), (160, 36), (164, 39), (167, 80), (170, 25), (173, 81), (183, 84), (186, 85), (190, 88), (198, 110), (207, 113), (211, 137), (215, 139), (224, 140), (231, 143), (234, 19), (238, 147), (242, 15), (249, 144), (259, 30), (268, 28), (271, 72), (285, 35), (288, 38), (291, 37), (300, 114), (314, 115), (323, 116), (327, 117)]
def xz_ml2 : List (Nat × Nat) := [(15, 28), (19, 30)]
def xz_ml3 : List (Nat × Nat) := [(22, 28)]
def xz_ml4 : List (Nat × Nat) := [(21, 28), (25, 138)]
def xz_ml5 : List (Nat × Nat) := [(26, 25), (30, 37)]
def xz_ml6 : List (Nat × Nat) := []
def xz_ml7 : List (Nat × Nat) := [(11, 8), (20, 9), (35, 89), (38, 90), (42, 91), (46, 109), (54, 92), (61, 93), (65, 106), (68, 107), (71, 94), (75, 95), (78, 102), (81, 103), (90, 105), (99, 108), (102, 25), (105, 28), (108, 96), (111, 101), (114, 100), (121, 104), (124, 97), (127, 98), (130, 99)]
def xz_ml8 : List (Nat × Nat) := []
def xz_ml9 : List (Nat × Nat) := []
def xz_ml10 : List (Nat × Nat) := [(11, 11), (20, 9), (44, 118), (51, 123), (54, 125), (58, 127), (71, 17), (77, 119), (80, 120), (89, 121), (96, 124), (99, 126), (102, 128), (105, 129), (108, 130), (111, 131), (114, 28), (118, 132), (121, 133), (124, 134)]
def xz_ml11 : List (Nat × Nat) := [(40, 122), (44, 28)]
def xz_ml12 : List (Nat × Nat) := [(24, 16), (28, 20), (32, 18), (36, 19), (39, 17), (44, 21)]
def xz_ml13 : List (Nat × Nat) := [(136, 153), (140, 156), (146, 155), (150, 152), (154, 151), (157, 154), (161, 158), (173, 173), (177, 175), (183, 178), (186, 179), (189, 171), (192, 177), (196, 180), (203, 184), (206, 183), (209, 182), (215, 174), (218, 176), (221, 181), (224, 185), (227, 172), (230, 186), (233, 187), (248, 197), (251, 198), (254, 194), (258, 195), (261, 196), (264, 200), (267, 203), (270, 205), (273, 202), (277, 204), (280, 193), (283, 199), (286, 201), (289, 192), (292, 190), (296, 191), (299, 206), (303, 213), (309, 210), (312, 208), (316, 209), (320, 212), (323, 216)]
def xz_ml14 : List (Nat × Nat) := []
def xz_ml15 : List (Nat × Nat) := []
def xz_ml (c : Nat) : List (Nat × Nat) := (bif Nat.blt c 8 then (bif Nat.blt c 4 then (bif Nat.blt c 2 then (bif Nat.blt c 1 then xz_ml0 else xz_ml1) else (bif Nat.blt c 3 then xz_ml2 else xz_ml3)) else (bif Nat.blt c 6 then (bif Nat.blt c 5 then xz_ml4 else xz_ml5) else (bif Nat.blt c 7 then xz_ml6 else xz_ml7))) else (bif Nat.blt c 12 then (bif Nat.blt c 10 then (bif Nat.blt c 9 then xz_ml8 else xz_ml9) else (bif Nat.blt c 11 then xz_ml10 else xz_ml11)) else (bif Nat.blt c 14 then (bif Nat.blt c 13 then xz_ml12 else xz_ml13) else (bif Nat.blt c 15 then xz_ml14 else xz_ml15))))
def xz_nl0 : List (Nat × Nat) := [(8, 0), (83, 12)]
def xz_nl1 : List (Nat × Nat) := [(7, 1), (16, 2), (23, 3), (30, 4), (37, 5), (44, 6), (51, 9), (58, 11)]
def xz_nl2 : List (Nat × Nat) := []
def xz_nl3 : List (Nat × Nat) := []
def xz_nl4 : List (Nat × Nat) := []
def xz_nl5 : List (Nat × Nat) := []
def xz_nl6 : List (Nat × Nat) := []
def xz_nl7 : List (Nat × Nat) := [(9, 7), (18, 8)]
def xz_nl8 : List (Nat × Nat) := []
def xz_nl9 : List (Nat × Nat) := []
def xz_nl10 : List (Nat × Nat) := [(9, 10), (18, 8)]
def xz_nl11 : List (Nat × Nat) := []
def xz_nl12 : List (Nat × Nat) := []
def xz_nl13 : List (Nat × Nat) := []
def xz_nl14 : List (Nat × Nat) := []
def xz_nl15 : List (Nat × Nat) := []
def xz_nl (c : Nat) : List (Nat × Nat) := (bif Nat.blt c 8 then (bif Nat.blt c 4 then (bif Nat.blt c 2 then (bif Nat.blt c 1 then xz_nl0 else xz_nl1) else (bif Nat.blt c 3 then xz_nl2 else xz_nl3)) else (bif Nat.blt c 6 then (bif Nat.blt c 5 then xz_nl4 else xz_nl5) else (bif Nat.blt c 7 then xz_nl6 else xz_nl7))) else (bif Nat.blt c 12 then (bif Nat.blt c 10 then (bif Nat.blt c 9 then xz_nl8 else xz_nl9) else (bif Nat.blt c 11 then xz_nl10 else xz_nl11)) else (bif Nat.blt c 14 then (bif Nat.blt c 13 then xz_nl12 else xz_nl13) else (bif Nat.blt c 15 then xz_nl14 else xz_nl15))))
def xz_cl0 : List (Nat × Int32) := []
def xz_cl1 : List (Nat × Int32) := []
def xz_cl2 : List (Nat × Int32) := []
def xz_cl3 : List (Nat × Int32) := []
def xz_cl4 : List (Nat × Int32) := []
def xz_cl5 : List (Nat × Int32) := []
def xz_cl6 : List (Nat × Int32) := []
def xz_cl7 : List (Nat × Int32) := []
def xz_cl8 : List (Nat × Int32) := []
def xz_cl9 : List (Nat × Int32) := []
def xz_cl10 : List (Nat × Int32) := []
def xz_cl11 : List (Nat × Int32) := []
def xz_cl12 : List (Nat × Int32) := [(17, 1469598103), (47, 16777619)]
def xz_cl13 : List (Nat × Int32) := [(129, 1469598103), (302, 16777619)]
def xz_cl14 : List (Nat × Int32) := []
def xz_cl15 : List (Nat × Int32) := [(265, 1431655765), (266, 858993459), (267, 252645135)]
def xz_cl (c : Nat) : List (Nat × Int32) := (bif Nat.blt c 8 then (bif Nat.blt c 4 then (bif Nat.blt c 2 then (bif Nat.blt c 1 then xz_cl0 else xz_cl1) else (bif Nat.blt c 3 then xz_cl2 else xz_cl3)) else (bif Nat.blt c 6 then (bif Nat.blt c 5 then xz_cl4 else xz_cl5) else (bif Nat.blt c 7 then xz_cl6 else xz_cl7))) else (bif Nat.blt c 12 then (bif Nat.blt c 10 then (bif Nat.blt c 9 then xz_cl8 else xz_cl9) else (bif Nat.blt c 11 then xz_cl10 else xz_cl11)) else (bif Nat.blt c 14 then (bif Nat.blt c 13 then xz_cl12 else xz_cl13) else (bif Nat.blt c 15 then xz_cl14 else xz_cl15))))
def xz_c2l0 : List (Nat × Int64) := [(133, 4294967295)]
def xz_c2l1 : List (Nat × Int64) := []
def xz_c2l2 : List (Nat × Int64) := []
def xz_c2l3 : List (Nat × Int64) := []
def xz_c2l4 : List (Nat × Int64) := []
def xz_c2l5 : List (Nat × Int64) := []
def xz_c2l6 : List (Nat × Int64) := []
def xz_c2l7 : List (Nat × Int64) := []
def xz_c2l8 : List (Nat × Int64) := [(17, 255)]
def xz_c2l9 : List (Nat × Int64) := []
def xz_c2l10 : List (Nat × Int64) := []
def xz_c2l11 : List (Nat × Int64) := []
def xz_c2l12 : List (Nat × Int64) := []
def xz_c2l13 : List (Nat × Int64) := []
def xz_c2l14 : List (Nat × Int64) := []
def xz_c2l15 : List (Nat × Int64) := []
def xz_c2l (c : Nat) : List (Nat × Int64) := (bif Nat.blt c 8 then (bif Nat.blt c 4 then (bif Nat.blt c 2 then (bif Nat.blt c 1 then xz_c2l0 else xz_c2l1) else (bif Nat.blt c 3 then xz_c2l2 else xz_c2l3)) else (bif Nat.blt c 6 then (bif Nat.blt c 5 then xz_c2l4 else xz_c2l5) else (bif Nat.blt c 7 then xz_c2l6 else xz_c2l7))) else (bif Nat.blt c 12 then (bif Nat.blt c 10 then (bif Nat.blt c 9 then xz_c2l8 else xz_c2l9) else (bif Nat.blt c 11 then xz_c2l10 else xz_c2l11)) else (bif Nat.blt c 14 then (bif Nat.blt c 13 then xz_c2l12 else xz_c2l13) else (bif Nat.blt c 15 then xz_c2l14 else xz_c2l15))))
def xz_g (c n : Nat) : Option (Nat × Nat × Nat) := (xz_gl c).lookup n
def xz_m (c n : Nat) : Option Nat := (xz_ml c).lookup n
def xz_n (c n : Nat) : Option Nat := (xz_nl c).lookup n
def xz_c (c n : Nat) : Option Int32 := (xz_cl c).lookup n
def xz_c2 (c n : Nat) : Option Int64 := (xz_c2l c).lookup n
theorem xm_kl : ∀ M, M < 217 → xm_k M < 16 := by decide +kernel
theorem xz_cw0 : ∀ q ∈ xz_cl0, Cond.constant (xz_cn 0) q.1 q.2 ∈ xt := fun _ h => absurd h List.not_mem_nil
theorem xz_cw1 : ∀ q ∈ xz_cl1, Cond.constant (xz_cn 1) q.1 q.2 ∈ xt := fun _ h => absurd h List.not_mem_nil
theorem xz_cw2 : ∀ q ∈ xz_cl2, Cond.constant (xz_cn 2) q.1 q.2 ∈ xt := fun _ h => absurd h List.not_mem_nil
theorem xz_cw3 : ∀ q ∈ xz_cl3, Cond.constant (xz_cn 3) q.1 q.2 ∈ xt := fun _ h => absurd h List.not_mem_nil
theorem xz_cw4 : ∀ q ∈ xz_cl4, Cond.constant (xz_cn 4) q.1 q.2 ∈ xt := fun _ h => absurd h List.not_mem_nil
theorem xz_cw5 : ∀ q ∈ xz_cl5, Cond.constant (xz_cn 5) q.1 q.2 ∈ xt := fun _ h => absurd h List.not_mem_nil
theorem xz_cw6 : ∀ q ∈ xz_cl6, Cond.constant (xz_cn 6) q.1 q.2 ∈ xt := fun _ h => absurd h List.not_mem_nil
theorem xz_cw7 : ∀ q ∈ xz_cl7, Cond.constant (xz_cn 7) q.1 q.2 ∈ xt := fun _ h => absurd h List.not_mem_nil
theorem xz_cw8 : ∀ q ∈ xz_cl8, Cond.constant (xz_cn 8) q.1 q.2 ∈ xt := fun _ h => absurd h List.not_mem_nil
theorem xz_cw9 : ∀ q ∈ xz_cl9, Cond.constant (xz_cn 9) q.1 q.2 ∈ xt := fun _ h => absurd h List.not_mem_nil
theorem xz_cw10 : ∀ q ∈ xz_cl10, Cond.constant (xz_cn 10) q.1 q.2 ∈ xt := fun _ h => absurd h List.not_mem_nil
theorem xz_cw11 : ∀ q ∈ xz_cl11, Cond.constant (xz_cn 11) q.1 q.2 ∈ xt := fun _ h => absurd h List.not_mem_nil
theorem xz_cw12 : ∀ q ∈ xz_cl12, Cond.constant (xz_cn 12) q.1 q.2 ∈ xt := List.forall_mem_cons.mpr ⟨xt_m 291 (by decide +kernel), List.forall_mem_cons.mpr ⟨xt_m 367 (by decide +kernel), fun _ h => absurd h List.not_mem_nil⟩⟩
theorem xz_cw13 : ∀ q ∈ xz_cl13, Cond.constant (xz_cn 13) q.1 q.2 ∈ xt := List.forall_mem_cons.mpr ⟨xt_m 987 (by decide +kernel), List.forall_mem_cons.mpr ⟨xt_m 1389 (by decide +kernel), fun _ h => absurd h List.not_mem_nil⟩⟩
theorem xz_cw14 : ∀ q ∈ xz_cl14, Cond.constant (xz_cn 14) q.1 q.2 ∈ xt := fun _ h => absurd h List.not_mem_nil
theorem xz_cw15 : ∀ q ∈ xz_cl15, Cond.constant (xz_cn 15) q.1 q.2 ∈ xt := List.forall_mem_cons.mpr ⟨xt_m 508 (by decide +kernel), List.forall_mem_cons.mpr ⟨xt_m 509 (by decide +kernel), List.forall_mem_cons.mpr ⟨xt_m 510 (by decide +kernel), fun _ h => absurd h List.not_mem_nil⟩⟩⟩
theorem xz_cw_a : ∀ c, c < 16 → ∀ q ∈ xz_cl c, Cond.constant (xz_cn c) q.1 q.2 ∈ xt := lt_s (p := fun c => ∀ q ∈ xz_cl c, Cond.constant (xz_cn c) q.1 q.2 ∈ xt) (lt_s (p := fun c => ∀ q ∈ xz_cl c, Cond.constant (xz_cn c) q.1 q.2 ∈ xt) (lt_s (p := fun c => ∀ q ∈ xz_cl c, Cond.constant (xz_cn c) q.1 q.2 ∈ xt) (lt_s (p := fun c => ∀ q ∈ xz_cl c, Cond.constant (xz_cn c) q.1 q.2 ∈ xt) (lt_s (p := fun c => ∀ q ∈ xz_cl c, Cond.constant (xz_cn c) q.1 q.2 ∈ xt) (lt_s (p := fun c => ∀ q ∈ xz_cl c, Cond.constant (xz_cn c) q.1 q.2 ∈ xt) (lt_s (p := fun c => ∀ q ∈ xz_cl c, Cond.constant (xz_cn c) q.1 q.2 ∈ xt) (lt_s (p := fun c => ∀ q ∈ xz_cl c, Cond.constant (xz_cn c) q.1 q.2 ∈ xt) (lt_s (p := fun c => ∀ q ∈ xz_cl c, Cond.constant (xz_cn c) q.1 q.2 ∈ xt) (lt_s (p := fun c => ∀ q ∈ xz_cl c, Cond.constant (xz_cn c) q.1 q.2 ∈ xt) (lt_s (p := fun c => ∀ q ∈ xz_cl c, Cond.constant (xz_cn c) q.1 q.2 ∈ xt) (lt_s (p := fun c => ∀ q ∈ xz_cl c, Cond.constant (xz_cn c) q.1 q.2 ∈ xt) (lt_s (p := fun c => ∀ q ∈ xz_cl c, Cond.constant (xz_cn c) q.1 q.2 ∈ xt) (lt_s (p := fun c => ∀ q ∈ xz_cl c, Cond.constant (xz_cn c) q.1 q.2 ∈ xt) (lt_s (p := fun c => ∀ q ∈ xz_cl c, Cond.constant (xz_cn c) q.1 q.2 ∈ xt) (lt_s (p := fun c => ∀ q ∈ xz_cl c, Cond.constant (xz_cn c) q.1 q.2 ∈ xt) (lt_0 (p := fun c => ∀ q ∈ xz_cl c, Cond.constant (xz_cn c) q.1 q.2 ∈ xt)) xz_cw0) xz_cw1) xz_cw2) xz_cw3) xz_cw4) xz_cw5) xz_cw6) xz_cw7) xz_cw8) xz_cw9) xz_cw10) xz_cw11) xz_cw12) xz_cw13) xz_cw14) xz_cw15
theorem xz_dw0 : ∀ q ∈ xz_c2l0, Cond.constantLong (xz_cn 0) q.1 q.2 ∈ xt := List.forall_mem_cons.mpr ⟨xt_m 1414 (by decide +kernel), fun _ h => absurd h List.not_mem_nil⟩
theorem xz_dw1 : ∀ q ∈ xz_c2l1, Cond.constantLong (xz_cn 1) q.1 q.2 ∈ xt := fun _ h => absurd h List.not_mem_nil
theorem xz_dw2 : ∀ q ∈ xz_c2l2, Cond.constantLong (xz_cn 2) q.1 q.2 ∈ xt := fun _ h => absurd h List.not_mem_nil
theorem xz_dw3 : ∀ q ∈ xz_c2l3, Cond.constantLong (xz_cn 3) q.1 q.2 ∈ xt := fun _ h => absurd h List.not_mem_nil
theorem xz_dw4 : ∀ q ∈ xz_c2l4, Cond.constantLong (xz_cn 4) q.1 q.2 ∈ xt := fun _ h => absurd h List.not_mem_nil
theorem xz_dw5 : ∀ q ∈ xz_c2l5, Cond.constantLong (xz_cn 5) q.1 q.2 ∈ xt := fun _ h => absurd h List.not_mem_nil
theorem xz_dw6 : ∀ q ∈ xz_c2l6, Cond.constantLong (xz_cn 6) q.1 q.2 ∈ xt := fun _ h => absurd h List.not_mem_nil
theorem xz_dw7 : ∀ q ∈ xz_c2l7, Cond.constantLong (xz_cn 7) q.1 q.2 ∈ xt := fun _ h => absurd h List.not_mem_nil
theorem xz_dw8 : ∀ q ∈ xz_c2l8, Cond.constantLong (xz_cn 8) q.1 q.2 ∈ xt := List.forall_mem_cons.mpr ⟨xt_m 706 (by decide +kernel), fun _ h => absurd h List.not_mem_nil⟩
theorem xz_dw9 : ∀ q ∈ xz_c2l9, Cond.constantLong (xz_cn 9) q.1 q.2 ∈ xt := fun _ h => absurd h List.not_mem_nil
theorem xz_dw10 : ∀ q ∈ xz_c2l10, Cond.constantLong (xz_cn 10) q.1 q.2 ∈ xt := fun _ h => absurd h List.not_mem_nil
theorem xz_dw11 : ∀ q ∈ xz_c2l11, Cond.constantLong (xz_cn 11) q.1 q.2 ∈ xt := fun _ h => absurd h List.not_mem_nil
theorem xz_dw12 : ∀ q ∈ xz_c2l12, Cond.constantLong (xz_cn 12) q.1 q.2 ∈ xt := fun _ h => absurd h List.not_mem_nil
theorem xz_dw13 : ∀ q ∈ xz_c2l13, Cond.constantLong (xz_cn 13) q.1 q.2 ∈ xt := fun _ h => absurd h List.not_mem_nil
theorem xz_dw14 : ∀ q ∈ xz_c2l14, Cond.constantLong (xz_cn 14) q.1 q.2 ∈ xt := fun _ h => absurd h List.not_mem_nil
theorem xz_dw15 : ∀ q ∈ xz_c2l15, Cond.constantLong (xz_cn 15) q.1 q.2 ∈ xt := fun _ h => absurd h List.not_mem_nil
theorem xz_dw_a : ∀ c, c < 16 → ∀ q ∈ xz_c2l c, Cond.constantLong (xz_cn c) q.1 q.2 ∈ xt := lt_s (p := fun c => ∀ q ∈ xz_c2l c, Cond.constantLong (xz_cn c) q.1 q.2 ∈ xt) (lt_s (p := fun c => ∀ q ∈ xz_c2l c, Cond.constantLong (xz_cn c) q.1 q.2 ∈ xt) (lt_s (p := fun c => ∀ q ∈ xz_c2l c, Cond.constantLong (xz_cn c) q.1 q.2 ∈ xt) (lt_s (p := fun c => ∀ q ∈ xz_c2l c, Cond.constantLong (xz_cn c) q.1 q.2 ∈ xt) (lt_s (p := fun c => ∀ q ∈ xz_c2l c, Cond.constantLong (xz_cn c) q.1 q.2 ∈ xt) (lt_s (p := fun c => ∀ q ∈ xz_c2l c, Cond.constantLong (xz_cn c) q.1 q.2 ∈ xt) (lt_s (p := fun c => ∀ q ∈ xz_c2l c, Cond.constantLong (xz_cn c) q.1 q.2 ∈ xt) (lt_s (p := fun c => ∀ q ∈ xz_c2l c, Cond.constantLong (xz_cn c) q.1 q.2 ∈ xt) (lt_s (p := fun c => ∀ q ∈ xz_c2l c, Cond.constantLong (xz_cn c) q.1 q.2 ∈ xt) (lt_s (p := fun c => ∀ q ∈ xz_c2l c, Cond.constantLong (xz_cn c) q.1 q.2 ∈ xt) (lt_s (p := fun c => ∀ q ∈ xz_c2l c, Cond.constantLong (xz_cn c) q.1 q.2 ∈ xt) (lt_s (p := fun c => ∀ q ∈ xz_c2l c, Cond.constantLong (xz_cn c) q.1 q.2 ∈ xt) (lt_s (p := fun c => ∀ q ∈ xz_c2l c, Cond.constantLong (xz_cn c) q.1 q.2 ∈ xt) (lt_s (p := fun c => ∀ q ∈ xz_c2l c, Cond.constantLong (xz_cn c) q.1 q.2 ∈ xt) (lt_s (p := fun c => ∀ q ∈ xz_c2l c, Cond.constantLong (xz_cn c) q.1 q.2 ∈ xt) (lt_s (p := fun c => ∀ q ∈ xz_c2l c, Cond.constantLong (xz_cn c) q.1 q.2 ∈ xt) (lt_0 (p := fun c => ∀ q ∈ xz_c2l c, Cond.constantLong (xz_cn c) q.1 q.2 ∈ xt)) xz_dw0) xz_dw1) xz_dw2) xz_dw3) xz_dw4) xz_dw5) xz_dw6) xz_dw7) xz_dw8) xz_dw9) xz_dw10) xz_dw11) xz_dw12) xz_dw13) xz_dw14) xz_dw15
theorem xz_c_ok {M n : Nat} {v : Int32} (hM : M < 217) (h : xz_c (xm_k M) n = some v) : Cond.constant (xm_y M).cls n v ∈ xt := by
  rw [xm_cls M hM]
  exact xz_cw_a _ (xm_kl M hM) _ (xt_lk h)
theorem xz_c2_ok {M n : Nat} {v : Int64} (hM : M < 217) (h : xz_c2 (xm_k M) n = some v) : Cond.constantLong (xm_y M).cls n v ∈ xt := by
  rw [xm_cls M hM]
  exact xz_dw_a _ (xm_kl M hM) _ (xt_lk h)
