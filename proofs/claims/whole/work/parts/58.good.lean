/-! what is read is good: targets, conditions, who is in whom -/
def att3 (t : xE) : Prop := att t.1 = true ∧ (t.2.1 = 61 ∨ t.2.1 = 60 ∨ t.2.1 = 62)
theorem pm_att {B : Nat → Int32} {L i : Nat} (h : (pm B L i).1 = true) : att3 (pm B L i).2.2 := by
  unfold pm at h ⊢
  cases a : att (nx B L i) with
  | false => rw [a] at h; cases h
  | true =>
    rw [a] at h
    cases s : sgn (nx B L i) (nx B L (i + 1)) with
    | false => rw [s] at h; cases h
    | true =>
      rw [s] at h
      cases d : isd (nx B L (i + 2)) with
      | false => rw [d] at h; cases h
      | true =>
        refine ⟨a, ?_⟩
        have s := of_decide_eq_true s
        rcases s with s | ⟨s | s, _⟩
        · exact Or.inl s
        · exact Or.inr (Or.inl s)
        · exact Or.inr (Or.inr s)
/-- a target's matches and the class's steps of it, from the sign c on -/
def gT : Int32 → List xG → List xE → Prop
  | _, [], _ => False
  | c, m :: Ms, T => m.2 = flg c ∧ att3 m.1 ∧ ((Ms = [] ∧ T = [m.1, (93, 0, 0)]) ∨ ∃ e T', sep e = true ∧ T = m.1 :: (e, 0, 0) :: T' ∧ gT e Ms T')
theorem gT_pt {B : Nat → Int32} {L : Nat} : ∀ (f : Nat) (c : Int32) (i : Nat), (pt B L f c i).1 = true → gT c (pt B L f c i).2.2.2 (pt B L f c i).2.2.1
  | 0, _, _, h => by cases h
  | f + 1, c, i, h => by
    rw [pt] at h ⊢
    cases g : (pm B L (i + 1)).1 with
    | false => rw [g] at h; cases h
    | true =>
      have ha := pm_att g
      rw [g] at h
      rw [cond_true] at h ⊢
      cases e : sep (nx B L (pm B L (i + 1)).2.1) with
      | true =>
        rw [e] at h
        exact ⟨rfl, ha, Or.inr ⟨_, _, e, rfl, gT_pt f _ _ h⟩⟩
      | false =>
        rw [e] at h
        rw [cond_false] at h ⊢
        by_cases z : nx B L (pm B L (i + 1)).2.1 = 93
        · rw [if_pos z]
          exact ⟨rfl, ha, Or.inl ⟨rfl, rfl⟩⟩
        · rw [if_neg z] at h; cases h
def phi (v : Int32) : Int32 := if v = 1 then 2 else if v = 2 then 1 else 0
def v3 (v : Int32) : Prop := v = 0 ∨ v = 1 ∨ v = 2
def mn (x y : Int32) : Int32 := if x ≤ y then x else y
def mx (x y : Int32) : Int32 := if x ≤ y then y else x
def bo (a b : Int32) : Int32 := if a = 0 ∨ b = 0 then 0 else if a = 2 ∨ b = 2 then 2 else 1
def ei (a b : Int32) : Int32 := if a = 1 ∨ b = 1 then 1 else if a = 2 ∨ b = 2 then 2 else 0
theorem v3_all {P : Int32 → Prop} (h0 : P 0) (h1 : P 1) (h2 : P 2) {v : Int32} (h : v3 v) : P v := by
  rcases h with rfl | rfl | rfl
  · exact h0
  · exact h1
  · exact h2
theorem v3_mn {x y : Int32} (hx : v3 x) (hy : v3 y) : v3 (mn x y) ∧ phi (mn x y) = bo (phi x) (phi y) := by
  rcases hx with rfl | rfl | rfl <;> rcases hy with rfl | rfl | rfl <;> exact ⟨by unfold v3; decide, by decide⟩
theorem v3_mx {x y : Int32} (hx : v3 x) (hy : v3 y) : v3 (mx x y) ∧ phi (mx x y) = ei (phi x) (phi y) := by
  rcases hx with rfl | rfl | rfl <;> rcases hy with rfl | rfl | rfl <;> exact ⟨by unfold v3; decide, by decide⟩
theorem v3_no {x : Int32} (hx : v3 x) : v3 (2 - x) ∧ phi (2 - x) = (if phi x = 2 then 2 else 1 - phi x) ∧ 2 - (2 - x) = x := by
  rcases hx with rfl | rfl | rfl <;> exact ⟨by unfold v3; decide, by decide, by decide⟩
/-- a step of the class, on a stack -/
def stC (f : xE → Int32) (t : xE) (k : List Int32) : Option (List Int32) := if t.1 = 33 then (match k with | x :: k => some ((2 - x) :: k) | [] => none) else if t.1 = 38 then (match k with | y :: x :: k => some (mn x y :: k) | _ => none) else if t.1 = 124 then (match k with | y :: x :: k => some (mx x y :: k) | _ => none) else if k.length < 7 then some (f t :: k) else none
def evC (f : xE → Int32) : List xE → List Int32 → Option (List Int32)
  | [], k => some k
  | t :: T, k => (stC f t k).bind (evC f T)
/-- a doing of the reference, on a pile -/
def stR (g : Int32 → Int32) (d : Int32) (k : List Int32) : Option (List Int32) := if d = 1001 then (match k with | y :: x :: k => some (bo x y :: k) | _ => none) else if d = 1002 then (match k with | y :: x :: k => some (ei x y :: k) | _ => none) else if d = 1000 then (match k with | x :: k => some ((if x = 2 then 2 else 1 - x) :: k) | [] => none) else some (g d :: k)
def evR (g : Int32 → Int32) : List Int32 → List Int32 → Option (List Int32)
  | [], k => some k
  | d :: T, k => (stR g d k).bind (evR g T)
theorem evC_app (f : xE → Int32) : ∀ (a b : List xE) (k : List Int32), evC f (a ++ b) k = (evC f a k).bind (evC f b)
  | [], b, k => rfl
  | t :: a, b, k => by
    rw [List.cons_append, evC, evC]
    cases stC f t k with
    | none => rfl
    | some k' => exact evC_app f a b k'
theorem evR_app (g : Int32 → Int32) : ∀ (a b : List Int32) (k : List Int32), evR g (a ++ b) k = (evR g a k).bind (evR g b)
  | [], b, k => rfl
  | t :: a, b, k => by
    rw [List.cons_append, evR, evR]
    cases stR g t k with
    | none => rfl
    | some k' => exact evR_app g a b k'
theorem evC_1 (f : xE → Int32) (t : xE) (k : List Int32) : evC f [t] k = stC f t k := by
  rw [evC]; cases stC f t k <;> rfl
theorem evR_1 (g : Int32 → Int32) (t : Int32) (k : List Int32) : evR g [t] k = stR g t k := by
  rw [evR]; cases stR g t k <;> rfl
def dsh (d : Int32) : Int32 := if 1000 ≤ d then d else d - 100
/-- a condition: the class's steps and the reference's doings come to the same -/
def gE (b : Nat) (T Ms : List xE) (Ds : Nat → List Int32) : Prop := ∀ f : xE → Int32, (∀ t, v3 (f t)) → ∀ (M : Nat) (g : Int32 → Int32), M + Ms.length ≤ 100 → (∀ q t, Ms[q]? = some t → g (Int32.ofNat (M + q)) = phi (f t)) →
  ∃ v, v3 v ∧ (∀ k, k.length ≤ b → evC f T k = some (v :: k)) ∧ ∀ k, evR g ((Ds M).map dsh) k = some (phi v :: k)
theorem att_no {x : Int32} (h : att x = true) : ¬ x = 33 ∧ ¬ x = 38 ∧ ¬ x = 124 := by
  refine ⟨fun q => ?_, fun q => ?_, fun q => ?_⟩ <;> (subst q; revert h; decide)
theorem x_m100 {M : Nat} (h : M < 100) : dsh (Int32.ofNat (100 + M)) = Int32.ofNat M ∧ ¬ Int32.ofNat M = 1001 ∧ ¬ Int32.ofNat M = 1002 ∧ ¬ Int32.ofNat M = 1000 := by
  have : (List.range 100).all (fun M => decide (dsh (Int32.ofNat (100 + M)) = Int32.ofNat M ∧ ¬ Int32.ofNat M = 1001 ∧ ¬ Int32.ofNat M = 1002 ∧ ¬ Int32.ofNat M = 1000)) = true := by decide +kernel
  exact of_decide_eq_true (List.all_eq_true.mp this M (List.mem_range.mpr h))
theorem gE_m {t : xE} (ha : att3 t) {b : Nat} (hb : b ≤ 6) : gE b [t] [t] (fun M => [Int32.ofNat (100 + M)]) := by
  intro f hf M g hM hg
  obtain ⟨a1, a2, a3⟩ := att_no ha.1
  obtain ⟨m1, m2, m3, m4⟩ := x_m100 (M := M) (by have : M + 1 ≤ 100 := hM; omega)
  refine ⟨f t, hf t, fun k hk => ?_, fun k => ?_⟩
  · rw [evC_1]
    unfold stC
    rw [if_neg a1, if_neg a2, if_neg a3, if_pos (by omega)]
  · show evR g [dsh (Int32.ofNat (100 + M))] k = _
    rw [m1, evR_1]
    unfold stR
    rw [if_neg m2, if_neg m3, if_neg m4]
    have := hg 0 t rfl
    rw [Nat.add_zero] at this
    rw [this]
theorem evR_nots {g : Int32 → Int32} {v : Int32} (hv : v3 v) (k : List Int32) : ∀ n, evR g ((List.replicate n (1000 : Int32)).map dsh) (phi v :: k) = some (phi (if n % 2 = 1 then 2 - v else v) :: k)
  | 0 => rfl
  | n + 1 => by
    have e : dsh 1000 = 1000 := by decide
    obtain ⟨a, b, c⟩ := v3_no hv
    have e1 : stR g 1000 (phi v :: k) = some ((if phi v = 2 then 2 else 1 - phi v) :: k) := by
      unfold stR
      rw [if_neg (by decide), if_neg (by decide), if_pos rfl]
    rw [List.replicate_succ, List.map_cons, e, evR, e1, ← b]
    show evR g ((List.replicate n (1000 : Int32)).map dsh) (phi (2 - v) :: k) = _
    rw [evR_nots a k n]
    by_cases q : n % 2 = 1
    · rw [if_pos q, if_neg (by omega), c]
    · rw [if_neg q, if_pos (by omega)]
theorem gE_not {b n : Nat} {T Ms : List xE} {Ds : Nat → List Int32} (h : gE b T Ms Ds) : gE b (bif decide (n % 2 = 1) then T ++ [(33, 0, 0)] else T) Ms (fun M => Ds M ++ List.replicate n 1000) := by
  intro f hf M g hM hg
  obtain ⟨v, h1, h2, h3⟩ := h f hf M g hM hg
  obtain ⟨a, -, -⟩ := v3_no h1
  refine ⟨if n % 2 = 1 then 2 - v else v, ?_, fun k hk => ?_, fun k => ?_⟩
  · by_cases q : n % 2 = 1
    · rw [if_pos q]; exact a
    · rw [if_neg q]; exact h1
  · by_cases q : n % 2 = 1
    · rw [decide_eq_true q, cond_true, if_pos q, evC_app, h2 k hk]
      show evC f [(33, 0, 0)] (v :: k) = _
      rw [evC_1, stC, if_pos rfl]
    · rw [decide_eq_false q, cond_false, if_neg q]; exact h2 k hk
  · show evR g ((Ds M ++ List.replicate n 1000).map dsh) k = _
    rw [List.map_append, evR_app, h3 k]
    exact evR_nots h1 k n
theorem gE_b {b : Nat} {op : Int32} (ho : op = 38 ∨ op = 124) {T1 M1 T2 M2 : List xE} {D1 D2 : Nat → List Int32} (h1 : gE (b + 1) T1 M1 D1) (h2 : gE (b + 1) T2 M2 D2) : gE b (T1 ++ T2 ++ [(op, 0, 0)]) (M1 ++ M2) (fun M => D1 M ++ D2 (M + M1.length) ++ [if op = 38 then 1001 else 1002]) := by
  intro f hf M g hM hg
  rw [List.length_append] at hM
  obtain ⟨v1, a1, a2, a3⟩ := h1 f hf M g (by omega) (fun q t hq => hg q t (by rw [List.getElem?_append_left (List.getElem?_eq_some_iff.mp hq).1]; exact hq))
  obtain ⟨v2, b1, b2, b3⟩ := h2 f hf (M + M1.length) g (by omega) (fun q t hq => by
    rw [Nat.add_assoc]
    exact hg (M1.length + q) t (by rw [List.getElem?_append_right (by omega), show M1.length + q - M1.length = q by omega]; exact hq))
  rcases ho with rfl | rfl
  · obtain ⟨c1, c2⟩ := v3_mn a1 b1
    refine ⟨mn v1 v2, c1, fun k hk => ?_, fun k => ?_⟩
    · rw [evC_app, evC_app, a2 k (by omega)]
      show ((evC f T2 (v1 :: k)).bind (evC f [(38, 0, 0)])) = _
      rw [b2 (v1 :: k) (by rw [List.length_cons]; omega)]
      show evC f [(38, 0, 0)] (v2 :: v1 :: k) = _
      rw [evC_1, stC, if_neg (by decide), if_pos rfl]
    · show evR g ((D1 M ++ D2 (M + M1.length) ++ [if (38 : Int32) = 38 then 1001 else 1002]).map dsh) k = _
      rw [if_pos rfl, List.map_append, List.map_append, evR_app, evR_app, a3 k]
      show ((evR g ((D2 (M + M1.length)).map dsh) (phi v1 :: k)).bind (evR g ([(1001 : Int32)].map dsh))) = _
      rw [b3 (phi v1 :: k)]
      show evR g [dsh 1001] (phi v2 :: phi v1 :: k) = _
      have e : dsh 1001 = 1001 := by decide
      rw [e, evR_1, stR, if_pos rfl, c2]
  · obtain ⟨c1, c2⟩ := v3_mx a1 b1
    refine ⟨mx v1 v2, c1, fun k hk => ?_, fun k => ?_⟩
    · rw [evC_app, evC_app, a2 k (by omega)]
      show ((evC f T2 (v1 :: k)).bind (evC f [(124, 0, 0)])) = _
      rw [b2 (v1 :: k) (by rw [List.length_cons]; omega)]
      show evC f [(124, 0, 0)] (v2 :: v1 :: k) = _
      rw [evC_1, stC, if_neg (by decide), if_neg (by decide), if_pos rfl]
    · show evR g ((D1 M ++ D2 (M + M1.length) ++ [if (124 : Int32) = 38 then 1001 else 1002]).map dsh) k = _
      rw [if_neg (by decide), List.map_append, List.map_append, evR_app, evR_app, a3 k]
      show ((evR g ((D2 (M + M1.length)).map dsh) (phi v1 :: k)).bind (evR g ([(1002 : Int32)].map dsh))) = _
      rw [b3 (phi v1 :: k)]
      show evR g [dsh 1002] (phi v2 :: phi v1 :: k) = _
      have e : dsh 1002 = 1002 := by decide
      rw [e, evR_1, stR, if_neg (by decide), if_pos rfl, c2]
theorem gE_x {B : Nat → Int32} {L : Nat} : ∀ (f b i : Nat), b ≤ 6 → (px B L f b i).1 = true → gE b (px B L f b i).2.2.1 (px B L f b i).2.2.2.1 (px B L f b i).2.2.2.2
  | 0, _, _, _, h => by cases h
  | f + 1, b, i, hb, h => by
    rw [px] at h ⊢
    have key : ∀ r : xR, (r.1 = true → gE b r.2.2.1 r.2.2.2.1 r.2.2.2.2) → (pnot (nt B L 300 i) r).1 = true → gE b (pnot (nt B L 300 i) r).2.2.1 (pnot (nt B L 300 i) r).2.2.2.1 (pnot (nt B L 300 i) r).2.2.2.2 := by
      intro r h1 h2
      unfold pnot at h2 ⊢
      cases g : r.1 with
      | false => rw [g, cond_false, g] at h2; cases h2
      | true => exact gE_not (h1 g)
    refine key _ (fun z => ?_) h
    by_cases q : nx B L (i + nt B L 300 i) = 40
    · rw [if_pos q] at z ⊢
      by_cases y : b < 6
      · rw [if_pos y] at z ⊢
        have I := fun j => gE_x (B := B) (L := L) f (b + 1) j (by omega)
        have I1 := I (i + nt B L 300 i + 1)
        unfold pb1 at z ⊢
        generalize px B L f (b + 1) (i + nt B L 300 i + 1) = r1 at *
        cases g1 : r1.1 with
        | false => rw [g1] at z; cases z
        | true =>
          rw [g1] at z
          rw [cond_true] at z ⊢
          by_cases o : nx B L r1.2.1 = 38 ∨ nx B L r1.2.1 = 124
          · rw [if_pos o] at z ⊢
            have I2 := I (r1.2.1 + 1)
            unfold pb2 at z ⊢
            generalize px B L f (b + 1) (r1.2.1 + 1) = r2 at *
            cases g2 : r2.1 with
            | false => rw [g2] at z; cases z
            | true =>
              rw [g2] at z
              rw [cond_true] at z ⊢
              by_cases o2 : nx B L r2.2.1 = 41
              · rw [if_pos o2]; exact gE_b o (I1 g1) (I2 g2)
              · rw [if_neg o2] at z; cases z
          · rw [if_neg o] at z; cases z
      · rw [if_neg y] at z; cases z
    · rw [if_neg q] at z ⊢
      unfold pmt at z ⊢
      cases g : (pm B L (i + nt B L 300 i)).1 with
      | false => rw [g] at z; cases z
      | true => exact gE_m (pm_att g) hb
/-- what a condition does refers to its own matches -/
def gD (Ms : List xE) (Ds : Nat → List Int32) : Prop := ∀ M d, d ∈ Ds M → d = 1000 ∨ d = 1001 ∨ d = 1002 ∨ ∃ q t, Ms[q]? = some t ∧ d = Int32.ofNat (100 + (M + q))
def gA (Ms : List xE) : Prop := ∀ (q : Nat) (t : xE), Ms[q]? = some t → att3 t
theorem gD_x {B : Nat → Int32} {L : Nat} : ∀ (f b i : Nat), (px B L f b i).1 = true → gD (px B L f b i).2.2.2.1 (px B L f b i).2.2.2.2 ∧ gA (px B L f b i).2.2.2.1
  | 0, _, _, h => by cases h
  | f + 1, b, i, h => by
    rw [px] at h ⊢
    have key : ∀ r : xR, (r.1 = true → gD r.2.2.2.1 r.2.2.2.2 ∧ gA r.2.2.2.1) → (pnot (nt B L 300 i) r).1 = true → gD (pnot (nt B L 300 i) r).2.2.2.1 (pnot (nt B L 300 i) r).2.2.2.2 ∧ gA (pnot (nt B L 300 i) r).2.2.2.1 := by
      intro r h1 h2
      unfold pnot at h2 ⊢
      cases g : r.1 with
      | false => rw [g, cond_false, g] at h2; cases h2
      | true =>
        refine ⟨fun M d hd => ?_, (h1 g).2⟩
        have hd : d ∈ r.2.2.2.2 M ++ List.replicate (nt B L 300 i) 1000 := hd
        rcases List.mem_append.mp hd with hd | hd
        · exact (h1 g).1 M d hd
        · exact Or.inl (List.eq_of_mem_replicate hd)
    refine key _ (fun z => ?_) h
    by_cases q : nx B L (i + nt B L 300 i) = 40
    · rw [if_pos q] at z ⊢
      by_cases y : b < 6
      · rw [if_pos y] at z ⊢
        have I := fun j => gD_x (B := B) (L := L) f (b + 1) j
        have I1 := I (i + nt B L 300 i + 1)
        unfold pb1 at z ⊢
        generalize px B L f (b + 1) (i + nt B L 300 i + 1) = r1 at *
        cases g1 : r1.1 with
        | false => rw [g1] at z; cases z
        | true =>
          rw [g1] at z
          rw [cond_true] at z ⊢
          by_cases o : nx B L r1.2.1 = 38 ∨ nx B L r1.2.1 = 124
          · rw [if_pos o] at z ⊢
            have I2 := I (r1.2.1 + 1)
            unfold pb2 at z ⊢
            generalize px B L f (b + 1) (r1.2.1 + 1) = r2 at *
            cases g2 : r2.1 with
            | false => rw [g2] at z; cases z
            | true =>
              rw [g2] at z
              rw [cond_true] at z ⊢
              by_cases o2 : nx B L r2.2.1 = 41
              · rw [if_pos o2]
                obtain ⟨x1, x2⟩ := I1 g1
                obtain ⟨y1, y2⟩ := I2 g2
                refine ⟨fun M d hd => ?_, fun q t hq => ?_⟩
                · have hd : d ∈ r1.2.2.2.2 M ++ r2.2.2.2.2 (M + r1.2.2.2.1.length) ++ [if nx B L r1.2.1 = 38 then 1001 else 1002] := hd
                  rcases List.mem_append.mp hd with hd | hd
                  · rcases List.mem_append.mp hd with hd | hd
                    · rcases x1 M d hd with w | w | w | ⟨q, t, w1, w2⟩
                      · exact Or.inl w
                      · exact Or.inr (Or.inl w)
                      · exact Or.inr (Or.inr (Or.inl w))
                      · refine Or.inr (Or.inr (Or.inr ⟨q, t, ?_, w2⟩))
                        show (r1.2.2.2.1 ++ r2.2.2.2.1)[q]? = some t
                        rw [List.getElem?_append_left (List.getElem?_eq_some_iff.mp w1).1]; exact w1
                    · rcases y1 _ d hd with w | w | w | ⟨q, t, w1, w2⟩
                      · exact Or.inl w
                      · exact Or.inr (Or.inl w)
                      · exact Or.inr (Or.inr (Or.inl w))
                      · refine Or.inr (Or.inr (Or.inr ⟨r1.2.2.2.1.length + q, t, ?_, by rw [w2, Nat.add_assoc]⟩))
                        show (r1.2.2.2.1 ++ r2.2.2.2.1)[r1.2.2.2.1.length + q]? = some t
                        rw [List.getElem?_append_right (by omega), show r1.2.2.2.1.length + q - r1.2.2.2.1.length = q by omega]; exact w1
                  · have hd := List.mem_singleton.mp hd
                    by_cases o1 : nx B L r1.2.1 = 38
                    · rw [if_pos o1] at hd; exact Or.inr (Or.inl hd)
                    · rw [if_neg o1] at hd; exact Or.inr (Or.inr (Or.inl hd))
                · have hq : (r1.2.2.2.1 ++ r2.2.2.2.1)[q]? = some t := hq
                  by_cases w : q < r1.2.2.2.1.length
                  · rw [List.getElem?_append_left w] at hq; exact x2 q t hq
                  · rw [List.getElem?_append_right (by omega)] at hq; exact y2 _ t hq
              · rw [if_neg o2] at z; cases z
          · rw [if_neg o] at z; cases z
      · rw [if_neg y] at z; cases z
    · rw [if_neg q] at z ⊢
      unfold pmt at z ⊢
      cases g : (pm B L (i + nt B L 300 i)).1 with
      | false => rw [g] at z; cases z
      | true =>
        refine ⟨fun M d hd => ?_, fun q t hq => ?_⟩
        · have hd : d ∈ [Int32.ofNat (100 + M)] := hd
          exact Or.inr (Or.inr (Or.inr ⟨0, _, rfl, List.mem_singleton.mp hd⟩))
        · cases q with
          | zero => cases hq; exact pm_att g
          | succ q => cases hq
/-- a good node -/
def gN (r : xN) : Prop := (isr r.1 = true ∨ (isr r.1 = false ∧ comb r.1 = true)) ∧ wD8 r.2.2.1 ∧ wD8 r.2.2.2.1 ∧ ((r.2.2.2.2.1 = [] ∧ r.2.2.2.2.2.1 = []) ∨ gT 91 r.2.2.2.2.2.1 r.2.2.2.2.1) ∧ ((r.2.2.2.2.2.2.1 = [] ∧ ∀ M, r.2.2.2.2.2.2.2.2 M = []) ∨ (gE 0 r.2.2.2.2.2.2.1 r.2.2.2.2.2.2.2.1 r.2.2.2.2.2.2.2.2 ∧ gD r.2.2.2.2.2.2.2.1 r.2.2.2.2.2.2.2.2 ∧ gA r.2.2.2.2.2.2.2.1))
def gLs (N : Nat) (par : Option Nat) (rs : List xN) : Prop := ∀ q r, rs[q]? = some r → gN r ∧ (q = 0 → r.2.1 = par) ∧ (0 < q → ∃ m r', r.2.1 = some (N + m) ∧ m < q ∧ rs[m]? = some r' ∧ comb r'.1 = true ∧ isr r'.1 = false)
def gKs (N N0 : Nat) (rs : List xN) : Prop := ∀ q r, rs[q]? = some r → gN r ∧ (r.2.1 = some N0 ∨ ∃ m r', r.2.1 = some (N + m) ∧ m < q ∧ rs[m]? = some r' ∧ comb r'.1 = true ∧ isr r'.1 = false)
theorem gT_T {B : Nat → Int32} {L i : Nat} (h : (pT B L i).1 = true) : ((pT B L i).2.2.1 = [] ∧ (pT B L i).2.2.2 = []) ∨ gT 91 (pT B L i).2.2.2 (pT B L i).2.2.1 := by
  unfold pT at h ⊢
  by_cases q : nx B L i = 91
  · rw [if_pos q] at h ⊢; exact Or.inr (gT_pt 300 91 i h)
  · rw [if_neg q]; exact Or.inl ⟨rfl, rfl⟩
theorem gLs_ru {B : Nat → Int32} {L N i : Nat} {c : Int32} {par : Option Nat} (hc : isr c = true) (h : (pru B L c par i).1 = true) : gLs N par (pru B L c par i).2.2 := by
  unfold pru at h ⊢
  cases g : (pT B L (i + 1)).1 with
  | false => rw [g] at h; cases h
  | true =>
    rw [g] at h
    rw [cond_true] at h ⊢
    unfold pr2 at h ⊢
    cases g2 : (pcn B L (pT B L (i + 1)).2.1).1 with
    | false => rw [g2] at h; cases h
    | true =>
      rw [g2] at h
      rw [cond_true] at h ⊢
      unfold pr3 at h ⊢
      by_cases z : (pd B L 43 (pcn B L (pT B L (i + 1)).2.1).2.1).1 = 1
      · rw [if_pos z] at h ⊢
        by_cases y : nx B L (pd B L 43 (pcn B L (pT B L (i + 1)).2.1).2.1).2.1 = 59
        · rw [if_pos y]
          intro q r hq
          cases q with
          | succ q => cases hq
          | zero =>
            cases hq
            refine ⟨⟨Or.inl hc, pd_8, pd_8, gT_T g, ?_⟩, fun _ => rfl, fun z => absurd z (Nat.lt_irrefl 0)⟩
            show (((pcn B L (pT B L (i + 1)).2.1).2.2.1 = [] ∧ ∀ M, (pcn B L (pT B L (i + 1)).2.1).2.2.2.2 M = []) ∨ (gE 0 (pcn B L (pT B L (i + 1)).2.1).2.2.1 (pcn B L (pT B L (i + 1)).2.1).2.2.2.1 (pcn B L (pT B L (i + 1)).2.1).2.2.2.2 ∧ gD (pcn B L (pT B L (i + 1)).2.1).2.2.2.1 (pcn B L (pT B L (i + 1)).2.1).2.2.2.2 ∧ gA (pcn B L (pT B L (i + 1)).2.1).2.2.2.1))
            unfold pcn at g2 ⊢
            by_cases x : nx B L (pT B L (i + 1)).2.1 = 63
            · rw [if_pos x] at g2 ⊢; exact Or.inr ⟨gE_x 8 0 _ (by omega) g2, gD_x 8 0 _ g2⟩
            · rw [if_neg x]; exact Or.inl ⟨rfl, fun _ => rfl⟩
        · rw [if_neg y] at h; cases h
      · rw [if_neg z] at h; cases h
theorem gLs_po {B : Nat → Int32} {L N i : Nat} {c : Int32} {par : Option Nat} {kids : Nat → xP} (hc : comb c = true) (hci : isr c = false) (hk : ∀ j, (kids j).1 = true → gKs (N + 1) N (kids j).2.2) (h : (ppo B L c par i kids).1 = true) : gLs N par (ppo B L c par i kids).2.2 := by
  unfold ppo at h ⊢
  cases g : (pT B L (i + 1)).1 with
  | false => rw [g] at h; cases h
  | true =>
    rw [g] at h
    rw [cond_true] at h ⊢
    by_cases q : nx B L (pT B L (i + 1)).2.1 = 123
    · rw [if_pos q] at h ⊢
      have hk := hk ((pT B L (i + 1)).2.1 + 1)
      generalize kids ((pT B L (i + 1)).2.1 + 1) = k at *
      unfold pp2 at h ⊢
      cases g2 : k.1 with
      | false => rw [g2] at h; cases h
      | true =>
        rw [g2] at h
        rw [cond_true] at h ⊢
        unfold pp3 at h ⊢
        by_cases z : (pd B L 43 k.2.1).1 = 1
        · rw [if_pos z] at h ⊢
          unfold pp4 at h ⊢
          by_cases y : (pd B L 45 (pd B L 43 k.2.1).2.1).1 = 1
          · rw [if_pos y]
            intro q r hq
            cases q with
            | zero =>
              cases hq
              exact ⟨⟨Or.inr ⟨hci, hc⟩, pd_8, pd_8, gT_T g, Or.inl ⟨rfl, fun _ => rfl⟩⟩, fun _ => rfl, fun z => absurd z (Nat.lt_irrefl 0)⟩
            | succ q =>
              have hq : k.2.2[q]? = some r := hq
              obtain ⟨x1, x2⟩ := hk g2 q r hq
              refine ⟨x1, fun z => (by cases z), fun _ => ?_⟩
              rcases x2 with x2 | ⟨m, r', y1, y2, y3, y4, y5⟩
              · exact ⟨0, _, x2, Nat.succ_pos q, rfl, hc, hci⟩
              · exact ⟨m + 1, r', by rw [y1, show N + 1 + m = N + (m + 1) by omega], by omega, y3, y4, y5⟩
          · rw [if_neg y] at h; cases h
        · rw [if_neg z] at h; cases h
    · rw [if_neg q] at h; cases h
theorem gKs_kd {B : Nat → Int32} {L N0 : Nat} {rec : Nat → Nat → xP} (hr : ∀ N j, (rec N j).1 = true → gLs N (some N0) (rec N j).2.2) : ∀ (m N j : Nat), (pkd B L rec m N j).1 = true → gKs N N0 (pkd B L rec m N j).2.2
  | 0, _, _, h => by cases h
  | m + 1, N, j, h => by
    have h1 := hr N j
    rw [pkd] at h ⊢
    generalize rec N j = r at *
    cases g : r.1 with
    | false => rw [g] at h; cases h
    | true =>
      rw [g] at h
      rw [cond_true] at h ⊢
      have a : gKs N N0 r.2.2 := fun q t hq => by
        obtain ⟨x1, x2, x3⟩ := h1 g q t hq
        refine ⟨x1, ?_⟩
        by_cases z : q = 0
        · exact Or.inl (x2 z)
        · exact Or.inr (x3 (by omega))
      by_cases z : nx B L r.2.1 = 125
      · rw [if_pos z]; exact a
      · rw [if_neg z] at h ⊢
        have b := gKs_kd (B := B) (L := L) hr m (N + r.2.2.length) r.2.1 h
        generalize (pkd B L rec m (N + r.2.2.length) r.2.1).2.2 = ks at *
        intro q t hq
        have hq : (r.2.2 ++ ks)[q]? = some t := hq
        by_cases y : q < r.2.2.length
        · rw [List.getElem?_append_left y] at hq
          obtain ⟨x1, x2⟩ := a q t hq
          refine ⟨x1, ?_⟩
          rcases x2 with x2 | ⟨m, r', y1, y2, y3, y4⟩
          · exact Or.inl x2
          · exact Or.inr ⟨m, r', y1, y2, by show (r.2.2 ++ ks)[m]? = some r'; rw [List.getElem?_append_left (by omega)]; exact y3, y4⟩
        · rw [List.getElem?_append_right (by omega)] at hq
          obtain ⟨x1, x2⟩ := b _ t hq
          refine ⟨x1, ?_⟩
          rcases x2 with x2 | ⟨m, r', y1, y2, y3, y4⟩
          · exact Or.inl x2
          · refine Or.inr ⟨r.2.2.length + m, r', by rw [y1, Nat.add_assoc], by omega, ?_, y4⟩
            show (r.2.2 ++ ks)[r.2.2.length + m]? = some r'
            rw [List.getElem?_append_right (by omega), show r.2.2.length + m - r.2.2.length = m by omega]; exact y3
theorem gLs_nd {B : Nat → Int32} {L : Nat} : ∀ (f N : Nat) (par : Option Nat) (o : Bool) (w i : Nat), (pnd B L f N par o w i).1 = true → gLs N par (pnd B L f N par o w i).2.2
  | 0, _, _, _, _, _, h => by cases h
  | f + 1, N, par, o, w, i, h => by
    rw [pnd] at h ⊢
    by_cases hN : 40 ≤ N
    · rw [if_pos hN] at h; cases h
    · rw [if_neg hN] at h ⊢
      cases g : isr (nx B L i) with
      | true =>
        rw [g] at h
        rw [cond_true] at h ⊢
        cases o with
        | true => cases h
        | false => exact gLs_ru g h
      | false =>
        rw [g] at h
        rw [cond_false] at h ⊢
        cases g2 : comb (nx B L i) with
        | false => rw [g2] at h; cases h
        | true =>
          rw [g2] at h
          rw [cond_true] at h ⊢
          by_cases hw : w < 5
          · rw [if_pos hw] at h ⊢
            exact gLs_po g2 g (fun j hj => gKs_kd (fun N' j' h' => gLs_nd f N' (some N) _ (w + 1) j' h') 40 (N + 1) j hj) h
          · rw [if_neg hw] at h; cases h
