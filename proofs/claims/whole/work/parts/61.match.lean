/-! judging: a match, a target -/
def cmp (x s n : Int32) : Int32 := if (s = 61 ∧ x = n) ∨ (s = 60 ∧ x < n) ∨ (s = 62 ∧ n < x) then 2 else 0
/-- what the class's facts say to a match -/
def mtc (F : Nat → Int32) (t : xE) : Int32 := if t.1 = 76 then (if F 4 = 0 then 1 else cmp (F 3) t.2.1 t.2.2) else if t.1 = 83 then (if F 7 = 0 then 1 else cmp (F 6) t.2.1 t.2.2) else if t.1 = 97 then cmp (F 0) t.2.1 t.2.2 else if t.1 = 99 then cmp (F 2) t.2.1 t.2.2 else if t.1 = 104 then cmp (F 1) t.2.1 t.2.2 else if t.1 = 108 then (if F 4 = 0 then 0 else cmp (F 3) t.2.1 t.2.2) else if t.1 = 114 then (if 12 ≤ t.2.2 then 0 else if (F 8 >>> (t.2.2 &&& 31)) &&& 1 = 1 then 2 else 0) else if t.1 = 115 then (if F 7 = 0 then 0 else cmp (F 6) t.2.1 t.2.2) else if t.1 = 117 then cmp (F 5) t.2.1 t.2.2 else 0
theorem v3_0 : v3 0 := Or.inl rfl
theorem v3_1 : v3 1 := Or.inr (Or.inl rfl)
theorem v3_2 : v3 2 := Or.inr (Or.inr rfl)
theorem v3_cmp (x s n : Int32) : v3 (cmp x s n) := by
  unfold cmp; split
  · exact v3_2
  · exact v3_0
theorem v3_mtc (F : Nat → Int32) (t : xE) : v3 (mtc F t) := by
  unfold mtc
  repeat' split
  all_goals first | exact v3_0 | exact v3_1 | exact v3_2 | exact v3_cmp _ _ _
theorem g122_eq (x s n : Int32) (σ : xS) : g122 x s n σ = some (.inl (cmp x s n), σ) := by
  have e33 : g122_33 σ = some (.inl 2, σ) := rfl
  have e37 : g122_37 σ = some (.inl 0, σ) := rfl
  have e22 : ¬ (s = 61 ∧ x = n) → ¬ (s = 60 ∧ x < n) → g122_22 x s n σ = some (.inl (cmp x s n), σ) := fun h1 h2 => by
    unfold g122_22 cmp
    by_cases h : s = 62
    · rw [if_pos h]
      by_cases h' : x ≤ n
      · rw [if_pos h', e37, if_neg (fun q => by
          rcases q with q | q | q
          · exact h1 q
          · exact h2 q
          · exact absurd h' (Int32.not_le.mpr q.2))]
      · rw [if_neg h', e33, if_pos (Or.inr (Or.inr ⟨h, Int32.not_le.mp h'⟩))]
    · rw [if_neg h, e37, if_neg (fun q => by
        rcases q with q | q | q
        · exact h1 q
        · exact h2 q
        · exact h q.1)]
  have e11 : ¬ (s = 61 ∧ x = n) → g122_11 x s n σ = some (.inl (cmp x s n), σ) := fun h1 => by
    unfold g122_11
    by_cases h : s = 60
    · rw [if_pos h]
      by_cases h' : x < n
      · rw [if_pos h', e33]
        unfold cmp
        rw [if_pos (Or.inr (Or.inl ⟨h, h'⟩))]
      · rw [if_neg h', e22 h1 (fun q => h' q.2)]
    · rw [if_neg h, e22 h1 (fun q => h q.1)]
  unfold g122
  by_cases h : s = 61
  · rw [if_pos h]
    by_cases h' : x = n
    · rw [if_pos h', e33]
      unfold cmp
      rw [if_pos (Or.inl ⟨h, h'⟩)]
    · rw [if_neg h', e11 (fun q => h' q.2)]
  · rw [if_neg h, e11 (fun q => h q.1)]
theorem g121_eq (l s n : Int32) (σ : xS) : g121 l s n σ = some (.inl (mtc (σ 35) (l, s, n)), σ) := by
  unfold g121 mtc
  simp only [g122_eq, g28_eq]
  by_cases h1 : l = 76
  · rw [if_pos h1, if_pos h1]
    by_cases q : σ 35 4 = 0
    · rw [if_pos q, if_pos q]
    · rw [if_neg q, if_neg q]
  rw [if_neg h1, if_neg h1]
  by_cases h2 : l = 83
  · rw [if_pos h2, if_pos h2]
    by_cases q : σ 35 7 = 0
    · rw [if_pos q, if_pos q]
    · rw [if_neg q, if_neg q]
  rw [if_neg h2, if_neg h2]
  by_cases h3 : l = 97
  · rw [if_pos h3, if_pos h3]
  rw [if_neg h3, if_neg h3]
  by_cases h4 : l = 99
  · rw [if_pos h4, if_pos h4]
  rw [if_neg h4, if_neg h4]
  by_cases h5 : l = 104
  · rw [if_pos h5, if_pos h5]
  rw [if_neg h5, if_neg h5]
  by_cases h6 : l = 108
  · rw [if_pos h6, if_pos h6]
    by_cases q : σ 35 4 = 0
    · rw [if_pos q, if_pos q]
    · rw [if_neg q, if_neg q]
  rw [if_neg h6, if_neg h6]
  by_cases h7 : l = 114
  · rw [if_pos h7, if_pos h7]
    by_cases q : 12 ≤ n
    · rw [if_pos q, if_pos q]
    · rw [if_neg q, if_neg q]
      by_cases b : (σ 35 8 >>> (n &&& 31)) &&& 1 = 1
      · rw [if_pos b, decide_eq_true b]; rfl
      · rw [if_neg b, decide_eq_false b]; rfl
  rw [if_neg h7, if_neg h7]
  by_cases h8 : l = 115
  · rw [if_pos h8, if_pos h8]
    by_cases q : σ 35 7 = 0
    · rw [if_pos q, if_pos q]
    · rw [if_neg q, if_neg q]
  rw [if_neg h8, if_neg h8]
  by_cases h9 : l = 117
  · rw [if_pos h9, if_pos h9]
  rw [if_neg h9, if_neg h9]
/-- the reference's request, against the class's facts -/
def wFa (s : xS) (F : Nat → Int32) : Prop := ∃ se ob u, se < 6 ∧ ob < 16 ∧ u < 8 ∧ s 53 42 = Int32.ofNat se ∧ s 53 44 = Int32.ofNat ob ∧ s 59 se = Int32.ofNat u ∧ F 0 = s 53 43 ∧ F 1 = s 53 45 ∧ F 2 = s 65 ob ∧ F 3 = s 66 ob ∧ F 4 = s 67 ob ∧ F 5 = Int32.ofNat u ∧ F 6 = s 56 u ∧ F 7 = s 57 u ∧ F 8 = wc (s 54) (s 60 se)
theorem cmp_r {s n : Int32} (hs : s = 61 ∨ s = 60 ∨ s = 62) (x : Int32) (σ : xS) : (if s = 61 then (if x = n then g196_161 1 σ else g196_161 0 σ) else (if s = 60 then (if n ≤ x then g196_161 0 σ else g196_161 1 σ) else (if x ≤ n then g196_161 0 σ else g196_161 1 σ))) = some (.inl (phi (cmp x s n)), σ) := by
  have e1 : g196_161 1 σ = some (.inl 1, σ) := rfl
  have e0 : g196_161 0 σ = some (.inl 0, σ) := rfl
  rw [e1, e0]
  unfold cmp
  rcases hs with rfl | rfl | rfl
  · rw [if_pos rfl]
    by_cases q : x = n
    · rw [if_pos q, if_pos (Or.inl ⟨rfl, q⟩)]; rfl
    · rw [if_neg q, if_neg (fun z => by
        rcases z with z | z | z
        · exact q z.2
        · exact absurd z.1 (by decide)
        · exact absurd z.1 (by decide))]; rfl
  · rw [if_neg (by decide), if_pos rfl]
    by_cases q : n ≤ x
    · rw [if_pos q, if_neg (fun z => by
        rcases z with z | z | z
        · exact absurd z.1 (by decide)
        · exact absurd q (Int32.not_le.mpr z.2)
        · exact absurd z.1 (by decide))]; rfl
    · rw [if_neg q, if_pos (Or.inr (Or.inl ⟨rfl, Int32.not_le.mp q⟩))]; rfl
  · rw [if_neg (by decide), if_neg (by decide)]
    by_cases q : x ≤ n
    · rw [if_pos q, if_neg (fun z => by
        rcases z with z | z | z
        · exact absurd z.1 (by decide)
        · exact absurd z.1 (by decide)
        · exact absurd q (Int32.not_le.mpr z.2))]; rfl
    · rw [if_neg q, if_pos (Or.inr (Or.inr ⟨rfl, Int32.not_le.mp q⟩))]; rfl
theorem g196_eq {s : xS} {F : Nat → Int32} (hF : wFa s F) {q : Nat} (hq : q < 200) {t : xE} (ht : att3 t) (h79 : s 79 q = t.1) (h80 : s 80 q = t.2.1) (h81 : s 81 q = t.2.2) : g196 (Int32.ofNat q) s = some (.inl (phi (mtc F t)), s) := by
  obtain ⟨se, ob, u, b1, b2, b3, b4, b5, b6, f0, f1, f2, f3, f4, f5, f6, f7, f8⟩ := hF
  obtain ⟨ha, hs⟩ := ht
  have hx : xn (Int32.ofNat q) 200 = true := xn_of (by omega) hq
  have hc : (Int32.ofNat q).toNatClampNeg = q := Int32.toNatClampNeg_ofNat_of_lt (by omega)
  have xse : xn (Int32.ofNat se) 6 = true := xn_of (by omega) b1
  have cse : (Int32.ofNat se).toNatClampNeg = se := Int32.toNatClampNeg_ofNat_of_lt (by omega)
  have xob : xn (Int32.ofNat ob) 16 = true := xn_of (by omega) b2
  have cob : (Int32.ofNat ob).toNatClampNeg = ob := Int32.toNatClampNeg_ofNat_of_lt (by omega)
  have xu : xn (Int32.ofNat u) 8 = true := xn_of (by omega) b3
  have cu : (Int32.ofNat u).toNatClampNeg = u := Int32.toNatClampNeg_ofNat_of_lt (by omega)
  have cc := fun x => cmp_r (n := t.2.2) hs x s
  unfold g196 mtc
  rw [hx, cond_true, hc, h79]
  have ha := of_decide_eq_true ha
  rcases ha with h | h | h | h | h | h | h | h | h
  · rw [h]
    by_cases z : s 67 ob = 0
    · have z' : F 4 = 0 := by rw [f4]; exact z
      simp only [g197, g197_12, b5, xob, cond_true, cob, if_pos z, (by decide : ((76 : Int32) = 108) = False), (by decide : ((76 : Int32) = 76) = True), if_false, if_true, x10, if_pos z']
      rfl
    · have z' : ¬ F 4 = 0 := by rw [f4]; exact z
      simp only [g197, g197_12, b5, xob, cond_true, cob, if_neg z, (by decide : ((76 : Int32) = 108) = False), (by decide : ((76 : Int32) = 76) = True), (by decide : ((76 : Int32) = 114) = False), if_false, if_true, g198, if_neg z', f3, h80, h81, cc]
  · rw [h]
    by_cases z : s 57 u = 0
    · have z' : F 7 = 0 := by rw [f7]; exact z
      simp only [g197, g197_42, b4, xse, cond_true, cse, b6, xu, cu, if_pos z, (by decide : ((83 : Int32) = 108) = False), (by decide : ((83 : Int32) = 76) = False), (by decide : ((83 : Int32) = 115) = False), (by decide : ((83 : Int32) = 83) = True), if_false, if_true, x10, if_pos z']
      rfl
    · have z' : ¬ F 7 = 0 := by rw [f7]; exact z
      simp only [g197, g197_42, b4, xse, cond_true, cse, b6, xu, cu, if_neg z, (by decide : ((83 : Int32) = 108) = False), (by decide : ((83 : Int32) = 76) = False), (by decide : ((83 : Int32) = 115) = False), (by decide : ((83 : Int32) = 83) = True), (by decide : ((83 : Int32) = 114) = False), (by decide : ((83 : Int32) = 97) = False), (by decide : ((83 : Int32) = 99) = False), (by decide : ((83 : Int32) = 104) = False), (by decide : ((83 : Int32) = 117) = False), if_false, if_true, g198, if_neg z', f6, h80, h81, cc]
  · rw [h]
    simp only [g197, (by decide : ((97 : Int32) = 108) = False), (by decide : ((97 : Int32) = 76) = False), (by decide : ((97 : Int32) = 115) = False), (by decide : ((97 : Int32) = 83) = False), (by decide : ((97 : Int32) = 114) = False), (by decide : ((97 : Int32) = 97) = True), if_false, if_true, g198, f0, h80, h81, cc]
  · rw [h]
    simp only [g197, (by decide : ((99 : Int32) = 108) = False), (by decide : ((99 : Int32) = 76) = False), (by decide : ((99 : Int32) = 115) = False), (by decide : ((99 : Int32) = 83) = False), (by decide : ((99 : Int32) = 114) = False), (by decide : ((99 : Int32) = 97) = False), (by decide : ((99 : Int32) = 99) = True), if_false, if_true, g198, b5, xob, cond_true, cob, f2, h80, h81, cc]
  · rw [h]
    simp only [g197, (by decide : ((104 : Int32) = 108) = False), (by decide : ((104 : Int32) = 76) = False), (by decide : ((104 : Int32) = 115) = False), (by decide : ((104 : Int32) = 83) = False), (by decide : ((104 : Int32) = 114) = False), (by decide : ((104 : Int32) = 97) = False), (by decide : ((104 : Int32) = 99) = False), (by decide : ((104 : Int32) = 104) = True), if_false, if_true, g198, f1, h80, h81, cc]
  · rw [h]
    by_cases z : s 67 ob = 0
    · have z' : F 4 = 0 := by rw [f4]; exact z
      simp only [g197, g197_12, b5, xob, cond_true, cob, if_pos z, (by decide : ((108 : Int32) = 108) = True), (by decide : ((108 : Int32) = 76) = False), (by decide : ((108 : Int32) = 83) = False), (by decide : ((108 : Int32) = 97) = False), (by decide : ((108 : Int32) = 99) = False), (by decide : ((108 : Int32) = 104) = False), if_false, if_true, x10, if_pos z']
      rfl
    · have z' : ¬ F 4 = 0 := by rw [f4]; exact z
      simp only [g197, g197_12, b5, xob, cond_true, cob, if_neg z, (by decide : ((108 : Int32) = 108) = True), (by decide : ((108 : Int32) = 76) = False), (by decide : ((108 : Int32) = 83) = False), (by decide : ((108 : Int32) = 97) = False), (by decide : ((108 : Int32) = 99) = False), (by decide : ((108 : Int32) = 104) = False), (by decide : ((108 : Int32) = 114) = False), if_false, if_true, g198, if_neg z', f3, h80, h81, cc]
  · rw [h]
    by_cases z : 12 ≤ t.2.2
    · simp only [g197, (by decide : ((114 : Int32) = 108) = False), (by decide : ((114 : Int32) = 76) = False), (by decide : ((114 : Int32) = 115) = False), (by decide : ((114 : Int32) = 83) = False), (by decide : ((114 : Int32) = 114) = True), (by decide : ((114 : Int32) = 97) = False), (by decide : ((114 : Int32) = 99) = False), (by decide : ((114 : Int32) = 104) = False), if_false, if_true, h81, if_pos z]
      rfl
    · simp only [g197, (by decide : ((114 : Int32) = 108) = False), (by decide : ((114 : Int32) = 76) = False), (by decide : ((114 : Int32) = 115) = False), (by decide : ((114 : Int32) = 83) = False), (by decide : ((114 : Int32) = 114) = True), (by decide : ((114 : Int32) = 97) = False), (by decide : ((114 : Int32) = 99) = False), (by decide : ((114 : Int32) = 104) = False), if_false, if_true, h81, if_neg z, b4, xse, cond_true, cse, g153_eq, f8]
      by_cases y : (wc (s 54) (s 60 se) >>> (t.2.2 &&& 31)) &&& 1 = 1
      · rw [if_pos y, if_pos y]; rfl
      · rw [if_neg y, if_neg y]; rfl
  · rw [h]
    by_cases z : s 57 u = 0
    · have z' : F 7 = 0 := by rw [f7]; exact z
      simp only [g197, g197_42, b4, xse, cond_true, cse, b6, xu, cu, if_pos z, (by decide : ((115 : Int32) = 108) = False), (by decide : ((115 : Int32) = 76) = False), (by decide : ((115 : Int32) = 115) = True), (by decide : ((115 : Int32) = 83) = False), (by decide : ((115 : Int32) = 97) = False), (by decide : ((115 : Int32) = 99) = False), (by decide : ((115 : Int32) = 104) = False), (by decide : ((115 : Int32) = 114) = False), if_false, if_true, x10, if_pos z']
      rfl
    · have z' : ¬ F 7 = 0 := by rw [f7]; exact z
      simp only [g197, g197_42, b4, xse, cond_true, cse, b6, xu, cu, if_neg z, (by decide : ((115 : Int32) = 108) = False), (by decide : ((115 : Int32) = 76) = False), (by decide : ((115 : Int32) = 115) = True), (by decide : ((115 : Int32) = 83) = False), (by decide : ((115 : Int32) = 97) = False), (by decide : ((115 : Int32) = 99) = False), (by decide : ((115 : Int32) = 104) = False), (by decide : ((115 : Int32) = 114) = False), (by decide : ((115 : Int32) = 117) = False), if_false, if_true, g198, if_neg z', f6, h80, h81, cc]
  · rw [h]
    simp only [g197, (by decide : ((117 : Int32) = 108) = False), (by decide : ((117 : Int32) = 76) = False), (by decide : ((117 : Int32) = 115) = False), (by decide : ((117 : Int32) = 83) = False), (by decide : ((117 : Int32) = 114) = False), (by decide : ((117 : Int32) = 97) = False), (by decide : ((117 : Int32) = 99) = False), (by decide : ((117 : Int32) = 104) = False), (by decide : ((117 : Int32) = 117) = True), if_false, if_true, g198, b4, xse, cond_true, cse, b6, f5, h80, h81, cc]
theorem g17_eq (a b : Int32) (σ : xS) : g17 a b σ = some (.inl (mx a b), σ) := by
  unfold g17 mx
  by_cases h : a < b
  · rw [if_pos h, if_pos (Int32.le_of_lt h)]
  · rw [if_neg h]
    by_cases h' : a ≤ b
    · rw [if_pos h', Int32.le_antisymm h' (Int32.not_lt.mp h)]
    · rw [if_neg h']
theorem g119_eq (a b : Int32) (σ : xS) : g119 a b σ = some (.inl (mn a b), σ) := by
  unfold g119 mn
  by_cases h : b < a
  · rw [if_pos h, if_neg (Int32.not_le.mpr h)]
  · rw [if_neg h, if_pos (Int32.not_lt.mp h)]
theorem g194_eq (a b : Int32) (σ : xS) : g194 a b σ = some (.inl (ei a b), σ) := by
  unfold g194 ei
  by_cases h1 : a = 1
  · rw [if_pos h1, if_pos (Or.inl h1)]
  · rw [if_neg h1]
    by_cases h2 : b = 1
    · rw [if_pos h2, if_pos (Or.inr h2)]
    · rw [if_neg h2, if_neg (show ¬ (a = 1 ∨ b = 1) from fun z => z.elim h1 h2)]
      by_cases h3 : a = 2
      · rw [if_pos h3, if_pos (Or.inl h3)]
      · rw [if_neg h3]
        by_cases h4 : b = 2
        · rw [if_pos h4, if_pos (Or.inr h4)]
        · rw [if_neg h4, if_neg (show ¬ (a = 2 ∨ b = 2) from fun z => z.elim h3 h4)]
theorem g195_eq (a b : Int32) (σ : xS) : g195 a b σ = some (.inl (bo a b), σ) := by
  unfold g195 bo
  by_cases h1 : a = 0
  · rw [if_pos h1, if_pos (Or.inl h1)]
  · rw [if_neg h1]
    by_cases h2 : b = 0
    · rw [if_pos h2, if_pos (Or.inr h2)]
    · rw [if_neg h2, if_neg (show ¬ (a = 0 ∨ b = 0) from fun z => z.elim h1 h2)]
      by_cases h3 : a = 2
      · rw [if_pos h3, if_pos (Or.inl h3)]
      · rw [if_neg h3]
        by_cases h4 : b = 2
        · rw [if_pos h4, if_pos (Or.inr h4)]
        · rw [if_neg h4, if_neg (show ¬ (a = 2 ∨ b = 2) from fun z => z.elim h3 h4)]
