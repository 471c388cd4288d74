/-! the law's helpers: laid by program (wip/whole/dec.py) -/
/- AccessDeskLaw.senior -/
def g22 (a1 : Int32) (a2 : Int32) (σ : xS) (τ : Nat → Nat → Int64) : Option (Int32 × xS × (Nat → Nat → Int64)) := match g23 a1 a2 σ with | some (Sum.inl v, s) => some (0, s, τ) | some (Sum.inr v, s) => (if v = 0 then some (1, s, τ) else (if v = 1 then some (2, s, τ) else none)) | none => none
theorem g22_run {l : Launch} {Ω : xo_O} (htr : xH l) (d : Nat) (p : Nat) (τ : Nat → Nat → Int64) (a1 : Int32) (a2 : Int32) (σ : xS) {q : Int32 × xS × (Nat → Nat → Int64)} (hq : g22 a1 a2 σ τ = some q) : xv l Ω (d + 8) 3 18 22 0 (xs_loc (xm_l 22) [.ref 0, .int a1, .int a2]) [] (hM p σ τ) (.inl (some (.int q.1)), hM p q.2.1 q.2.2) := by
  unfold g22 at hq
  cases q3 : g23 a1 a2 σ with
  | none => rw [q3] at hq; cases hq
  | some q30 =>
    have hc := g23_run (Ω := Ω) htr d p τ a1 a2 σ q3
    obtain ⟨v | v, s⟩ := q30
    · rw [q3] at hq; cases hq
      exact xp_ok htr 7 (d + 8) 3 18 [eN none (hM p s τ) 3 18] 22 0 _ _ _ ⟨hc, trivial, rfl⟩
    · rw [q3] at hq; dsimp only at hq
      by_cases h0 : v = 0
      · subst h0; rw [if_pos rfl] at hq; cases hq
        exact xp_ok htr 7 (d + 8) 3 18 [eT 0 (hM p s τ) 3 18] 22 0 _ _ _ ⟨hc, fun a => ⟨trivial, rfl⟩⟩
      rw [if_neg h0] at hq
      by_cases h1 : v = 1
      · subst h1; rw [if_pos rfl] at hq; cases hq
        exact xp_ok htr 7 (d + 8) 3 18 [eT 1 (hM p s τ) 3 18] 22 0 _ _ _ ⟨hc, fun a => ⟨trivial, rfl⟩⟩
      rw [if_neg h1] at hq
      cases hq
/- AccessDeskLaw.unsenior -/
def g41 (a1 : Int32) (a2 : Int32) (σ : xS) (τ : Nat → Nat → Int64) : Option (Int32 × xS × (Nat → Nat → Int64)) := match g42 a1 a2 σ with | some (Sum.inl v, s) => some (0, s, τ) | some (Sum.inr v, s) => (if v = 0 then some (1, s, τ) else (if v = 1 then some (2, s, τ) else none)) | none => none
theorem g41_run {l : Launch} {Ω : xo_O} (htr : xH l) (d : Nat) (p : Nat) (τ : Nat → Nat → Int64) (a1 : Int32) (a2 : Int32) (σ : xS) {q : Int32 × xS × (Nat → Nat → Int64)} (hq : g41 a1 a2 σ τ = some q) : xv l Ω (d + 8) 2 12 41 0 (xs_loc (xm_l 41) [.ref 0, .int a1, .int a2]) [] (hM p σ τ) (.inl (some (.int q.1)), hM p q.2.1 q.2.2) := by
  unfold g41 at hq
  cases q3 : g42 a1 a2 σ with
  | none => rw [q3] at hq; cases hq
  | some q30 =>
    have hc := g42_run (Ω := Ω) htr d p τ a1 a2 σ q3
    obtain ⟨v | v, s⟩ := q30
    · rw [q3] at hq; cases hq
      exact xp_ok htr 7 (d + 8) 2 12 [eN none (hM p s τ) 2 12] 41 0 _ _ _ ⟨hc, trivial, rfl⟩
    · rw [q3] at hq; dsimp only at hq
      by_cases h0 : v = 0
      · subst h0; rw [if_pos rfl] at hq; cases hq
        exact xp_ok htr 7 (d + 8) 2 12 [eT 0 (hM p s τ) 2 12] 41 0 _ _ _ ⟨hc, fun a => ⟨trivial, rfl⟩⟩
      rw [if_neg h0] at hq
      by_cases h1 : v = 1
      · subst h1; rw [if_pos rfl] at hq; cases hq
        exact xp_ok htr 7 (d + 8) 2 12 [eT 1 (hM p s τ) 2 12] 41 0 _ _ _ ⟨hc, fun a => ⟨trivial, rfl⟩⟩
      rw [if_neg h1] at hq
      cases hq
/- AccessDeskLaw.assign -/
def g45 (a1 : Int32) (a2 : Int32) (σ : xS) (τ : Nat → Nat → Int64) : Option (Int32 × xS × (Nat → Nat → Int64)) := match g46 a1 a2 σ with | some (Sum.inl v, s) => some (0, s, τ) | some (Sum.inr v, s) => (if v = 0 then some (1, s, τ) else (if v = 1 then some (2, s, τ) else none)) | none => none
theorem g45_run {l : Launch} {Ω : xo_O} (htr : xH l) (d : Nat) (p : Nat) (τ : Nat → Nat → Int64) (a1 : Int32) (a2 : Int32) (σ : xS) {q : Int32 × xS × (Nat → Nat → Int64)} (hq : g45 a1 a2 σ τ = some q) : xv l Ω (d + 8) 3 18 45 0 (xs_loc (xm_l 45) [.ref 0, .int a1, .int a2]) [] (hM p σ τ) (.inl (some (.int q.1)), hM p q.2.1 q.2.2) := by
  unfold g45 at hq
  cases q3 : g46 a1 a2 σ with
  | none => rw [q3] at hq; cases hq
  | some q30 =>
    have hc := g46_run (Ω := Ω) htr d p τ a1 a2 σ q3
    obtain ⟨v | v, s⟩ := q30
    · rw [q3] at hq; cases hq
      exact xp_ok htr 7 (d + 8) 3 18 [eN none (hM p s τ) 3 18] 45 0 _ _ _ ⟨hc, trivial, rfl⟩
    · rw [q3] at hq; dsimp only at hq
      by_cases h0 : v = 0
      · subst h0; rw [if_pos rfl] at hq; cases hq
        exact xp_ok htr 7 (d + 8) 3 18 [eT 0 (hM p s τ) 3 18] 45 0 _ _ _ ⟨hc, fun a => ⟨trivial, rfl⟩⟩
      rw [if_neg h0] at hq
      by_cases h1 : v = 1
      · subst h1; rw [if_pos rfl] at hq; cases hq
        exact xp_ok htr 7 (d + 8) 3 18 [eT 1 (hM p s τ) 3 18] 45 0 _ _ _ ⟨hc, fun a => ⟨trivial, rfl⟩⟩
      rw [if_neg h1] at hq
      cases hq
/- AccessDeskLaw.withdraw -/
def g51 (a1 : Int32) (a2 : Int32) (σ : xS) (τ : Nat → Nat → Int64) : Option (Int32 × xS × (Nat → Nat → Int64)) := match g52 a1 a2 σ with | some (Sum.inl v, s) => some (0, s, τ) | some (Sum.inr v, s) => (if v = 0 then some (1, s, τ) else (if v = 1 then some (2, s, τ) else none)) | none => none
theorem g51_run {l : Launch} {Ω : xo_O} (htr : xH l) (d : Nat) (p : Nat) (τ : Nat → Nat → Int64) (a1 : Int32) (a2 : Int32) (σ : xS) {q : Int32 × xS × (Nat → Nat → Int64)} (hq : g51 a1 a2 σ τ = some q) : xv l Ω (d + 8) 2 12 51 0 (xs_loc (xm_l 51) [.ref 0, .int a1, .int a2]) [] (hM p σ τ) (.inl (some (.int q.1)), hM p q.2.1 q.2.2) := by
  unfold g51 at hq
  cases q3 : g52 a1 a2 σ with
  | none => rw [q3] at hq; cases hq
  | some q30 =>
    have hc := g52_run (Ω := Ω) htr d p τ a1 a2 σ q3
    obtain ⟨v | v, s⟩ := q30
    · rw [q3] at hq; cases hq
      exact xp_ok htr 7 (d + 8) 2 12 [eN none (hM p s τ) 2 12] 51 0 _ _ _ ⟨hc, trivial, rfl⟩
    · rw [q3] at hq; dsimp only at hq
      by_cases h0 : v = 0
      · subst h0; rw [if_pos rfl] at hq; cases hq
        exact xp_ok htr 7 (d + 8) 2 12 [eT 0 (hM p s τ) 2 12] 51 0 _ _ _ ⟨hc, fun a => ⟨trivial, rfl⟩⟩
      rw [if_neg h0] at hq
      by_cases h1 : v = 1
      · subst h1; rw [if_pos rfl] at hq; cases hq
        exact xp_ok htr 7 (d + 8) 2 12 [eT 1 (hM p s τ) 2 12] 51 0 _ _ _ ⟨hc, fun a => ⟨trivial, rfl⟩⟩
      rw [if_neg h1] at hq
      cases hq
/- AccessDeskLaw.bound -/
def g53 (a1 : Int32) (a2 : Int32) (a3 : Int32) (σ : xS) (τ : Nat → Nat → Int64) : Option (Int32 × xS × (Nat → Nat → Int64)) := match g54 a1 a2 a3 σ with | some (Sum.inl v, s) => some (0, s, xh_ul τ 92 0 (Int32.toInt64 v)) | some (Sum.inr v, s) => (if v = 0 then some (1, s, τ) else (if v = 1 then some (2, s, τ) else none)) | none => none
theorem g53_run {l : Launch} {Ω : xo_O} (htr : xH l) (d : Nat) (p : Nat) (τ : Nat → Nat → Int64) (a1 : Int32) (a2 : Int32) (a3 : Int32) (σ : xS) {q : Int32 × xS × (Nat → Nat → Int64)} (hq : g53 a1 a2 a3 σ τ = some q) : xv l Ω (d + 8) 2 12 53 0 (xs_loc (xm_l 53) [.ref 0, .int a1, .int a2, .int a3, .ref 92]) [] (hM p σ τ) (.inl (some (.int q.1)), hM p q.2.1 q.2.2) := by
  unfold g53 at hq
  cases q3 : g54 a1 a2 a3 σ with
  | none => rw [q3] at hq; cases hq
  | some q30 =>
    have hc := g54_run (Ω := Ω) htr d p τ a1 a2 a3 σ q3
    obtain ⟨v | v, s⟩ := q30
    · rw [q3] at hq; cases hq
      exact xp_ok htr 12 (d + 8) 2 12 [eN (some (.int v)) (hM p s τ) 2 12] 53 0 _ _ _ ⟨hc, (by unfold vp_in; decide), trivial, rfl⟩
    · rw [q3] at hq; dsimp only at hq
      by_cases h0 : v = 0
      · subst h0; rw [if_pos rfl] at hq; cases hq
        exact xp_ok htr 10 (d + 8) 2 12 [eT 0 (hM p s τ) 2 12] 53 0 _ _ _ ⟨hc, fun a => ⟨trivial, rfl⟩⟩
      rw [if_neg h0] at hq
      by_cases h1 : v = 1
      · subst h1; rw [if_pos rfl] at hq; cases hq
        exact xp_ok htr 10 (d + 8) 2 12 [eT 1 (hM p s τ) 2 12] 53 0 _ _ _ ⟨hc, fun a => ⟨trivial, rfl⟩⟩
      rw [if_neg h1] at hq
      cases hq
/- AccessDeskLaw.rank -/
def g58 (a1 : Int32) (a2 : Int32) (a3 : Int32) (σ : xS) (τ : Nat → Nat → Int64) : Option (Int32 × xS × (Nat → Nat → Int64)) := match g59 a1 a2 a3 σ with | some (Sum.inl v, s) => some (0, s, τ) | some (Sum.inr v, s) => (if v = 0 then some (1, s, τ) else none) | none => none
theorem g58_run {l : Launch} {Ω : xo_O} (htr : xH l) (d : Nat) (p : Nat) (τ : Nat → Nat → Int64) (a1 : Int32) (a2 : Int32) (a3 : Int32) (σ : xS) {q : Int32 × xS × (Nat → Nat → Int64)} (hq : g58 a1 a2 a3 σ τ = some q) : xv l Ω (d + 8) 1 6 58 0 (xs_loc (xm_l 58) [.ref 0, .int a1, .int a2, .int a3]) [] (hM p σ τ) (.inl (some (.int q.1)), hM p q.2.1 q.2.2) := by
  unfold g58 at hq
  cases q3 : g59 a1 a2 a3 σ with
  | none => rw [q3] at hq; cases hq
  | some q30 =>
    have hc := g59_run (Ω := Ω) htr d p τ a1 a2 a3 σ q3
    obtain ⟨v | v, s⟩ := q30
    · rw [q3] at hq; cases hq
      exact xp_ok htr 8 (d + 8) 1 6 [eN none (hM p s τ) 1 6] 58 0 _ _ _ ⟨hc, trivial, rfl⟩
    · rw [q3] at hq; dsimp only at hq
      by_cases h0 : v = 0
      · subst h0; rw [if_pos rfl] at hq; cases hq
        exact xp_ok htr 8 (d + 8) 1 6 [eT 0 (hM p s τ) 1 6] 58 0 _ _ _ ⟨hc, fun a => ⟨trivial, rfl⟩⟩
      rw [if_neg h0] at hq
      cases hq
/- AccessDeskLaw.open -/
def g61 (a1 : Int32) (a2 : Int32) (σ : xS) (τ : Nat → Nat → Int64) : Option (Int32 × xS × (Nat → Nat → Int64)) := match g62 a1 a2 σ with | some (Sum.inl v, s) => some (0, s, τ) | some (Sum.inr v, s) => (if v = 0 then some (1, s, τ) else (if v = 1 then some (2, s, τ) else none)) | none => none
theorem g61_run {l : Launch} {Ω : xo_O} (htr : xH l) (d : Nat) (p : Nat) (τ : Nat → Nat → Int64) (a1 : Int32) (a2 : Int32) (σ : xS) {q : Int32 × xS × (Nat → Nat → Int64)} (hq : g61 a1 a2 σ τ = some q) : xv l Ω (d + 8) 2 12 61 0 (xs_loc (xm_l 61) [.ref 0, .int a1, .int a2]) [] (hM p σ τ) (.inl (some (.int q.1)), hM p q.2.1 q.2.2) := by
  unfold g61 at hq
  cases q3 : g62 a1 a2 σ with
  | none => rw [q3] at hq; cases hq
  | some q30 =>
    have hc := g62_run (Ω := Ω) htr d p τ a1 a2 σ q3
    obtain ⟨v | v, s⟩ := q30
    · rw [q3] at hq; cases hq
      exact xp_ok htr 7 (d + 8) 2 12 [eN none (hM p s τ) 2 12] 61 0 _ _ _ ⟨hc, trivial, rfl⟩
    · rw [q3] at hq; dsimp only at hq
      by_cases h0 : v = 0
      · subst h0; rw [if_pos rfl] at hq; cases hq
        exact xp_ok htr 7 (d + 8) 2 12 [eT 0 (hM p s τ) 2 12] 61 0 _ _ _ ⟨hc, fun a => ⟨trivial, rfl⟩⟩
      rw [if_neg h0] at hq
      by_cases h1 : v = 1
      · subst h1; rw [if_pos rfl] at hq; cases hq
        exact xp_ok htr 7 (d + 8) 2 12 [eT 1 (hM p s τ) 2 12] 61 0 _ _ _ ⟨hc, fun a => ⟨trivial, rfl⟩⟩
      rw [if_neg h1] at hq
      cases hq
/- AccessDeskLaw.close -/
def g65 (a1 : Int32) (σ : xS) (τ : Nat → Nat → Int64) : Option (Int32 × xS × (Nat → Nat → Int64)) := match g66 a1 σ with | some (Sum.inl v, s) => some (0, s, τ) | some (Sum.inr v, s) => (if v = 0 then some (1, s, τ) else (if v = 1 then some (2, s, τ) else none)) | none => none
theorem g65_run {l : Launch} {Ω : xo_O} (htr : xH l) (d : Nat) (p : Nat) (τ : Nat → Nat → Int64) (a1 : Int32) (σ : xS) {q : Int32 × xS × (Nat → Nat → Int64)} (hq : g65 a1 σ τ = some q) : xv l Ω (d + 8) 2 12 65 0 (xs_loc (xm_l 65) [.ref 0, .int a1]) [] (hM p σ τ) (.inl (some (.int q.1)), hM p q.2.1 q.2.2) := by
  unfold g65 at hq
  cases q3 : g66 a1 σ with
  | none => rw [q3] at hq; cases hq
  | some q30 =>
    have hc := g66_run (Ω := Ω) htr d p τ a1 σ q3
    obtain ⟨v | v, s⟩ := q30
    · rw [q3] at hq; cases hq
      exact xp_ok htr 6 (d + 8) 2 12 [eN none (hM p s τ) 2 12] 65 0 _ _ _ ⟨hc, trivial, rfl⟩
    · rw [q3] at hq; dsimp only at hq
      by_cases h0 : v = 0
      · subst h0; rw [if_pos rfl] at hq; cases hq
        exact xp_ok htr 6 (d + 8) 2 12 [eT 0 (hM p s τ) 2 12] 65 0 _ _ _ ⟨hc, fun a => ⟨trivial, rfl⟩⟩
      rw [if_neg h0] at hq
      by_cases h1 : v = 1
      · subst h1; rw [if_pos rfl] at hq; cases hq
        exact xp_ok htr 6 (d + 8) 2 12 [eT 1 (hM p s τ) 2 12] 65 0 _ _ _ ⟨hc, fun a => ⟨trivial, rfl⟩⟩
      rw [if_neg h1] at hq
      cases hq
/- AccessDeskLaw.activate -/
def g68 (a1 : Int32) (a2 : Int32) (a3 : Int32) (σ : xS) (τ : Nat → Nat → Int64) : Option (Int32 × xS × (Nat → Nat → Int64)) := match g69 a1 a2 a3 σ with | some (Sum.inl v, s) => some (0, s, τ) | some (Sum.inr v, s) => (if v = 0 then some (1, s, τ) else (if v = 1 then some (2, s, τ) else none)) | none => none
theorem g68_run {l : Launch} {Ω : xo_O} (htr : xH l) (d : Nat) (p : Nat) (τ : Nat → Nat → Int64) (a1 : Int32) (a2 : Int32) (a3 : Int32) (σ : xS) {q : Int32 × xS × (Nat → Nat → Int64)} (hq : g68 a1 a2 a3 σ τ = some q) : xv l Ω (d + 9) 4 24 68 0 (xs_loc (xm_l 68) [.ref 0, .int a1, .int a2, .int a3]) [] (hM p σ τ) (.inl (some (.int q.1)), hM p q.2.1 q.2.2) := by
  unfold g68 at hq
  cases q3 : g69 a1 a2 a3 σ with
  | none => rw [q3] at hq; cases hq
  | some q30 =>
    have hc := g69_run (Ω := Ω) htr d p τ a1 a2 a3 σ q3
    obtain ⟨v | v, s⟩ := q30
    · rw [q3] at hq; cases hq
      exact xp_ok htr 8 (d + 9) 4 24 [eN none (hM p s τ) 4 24] 68 0 _ _ _ ⟨hc, trivial, rfl⟩
    · rw [q3] at hq; dsimp only at hq
      by_cases h0 : v = 0
      · subst h0; rw [if_pos rfl] at hq; cases hq
        exact xp_ok htr 8 (d + 9) 4 24 [eT 0 (hM p s τ) 4 24] 68 0 _ _ _ ⟨hc, fun a => ⟨trivial, rfl⟩⟩
      rw [if_neg h0] at hq
      by_cases h1 : v = 1
      · subst h1; rw [if_pos rfl] at hq; cases hq
        exact xp_ok htr 8 (d + 9) 4 24 [eT 1 (hM p s τ) 4 24] 68 0 _ _ _ ⟨hc, fun a => ⟨trivial, rfl⟩⟩
      rw [if_neg h1] at hq
      cases hq
/- AccessDeskLaw.holds -/
def g74 (a1 : Int32) (σ : xS) (τ : Nat → Nat → Int64) : Option (Int32 × xS × (Nat → Nat → Int64)) := match g75 a1 σ with | some (Sum.inl v, s) => some (0, s, xh_ul τ 92 0 (Int32.toInt64 v)) | some (Sum.inr v, s) => (if v = 0 then some (1, s, τ) else none) | none => none
theorem g74_run {l : Launch} {Ω : xo_O} (htr : xH l) (d : Nat) (p : Nat) (τ : Nat → Nat → Int64) (a1 : Int32) (σ : xS) {q : Int32 × xS × (Nat → Nat → Int64)} (hq : g74 a1 σ τ = some q) : xv l Ω (d + 8) 1 6 74 0 (xs_loc (xm_l 74) [.ref 0, .int a1, .ref 92]) [] (hM p σ τ) (.inl (some (.int q.1)), hM p q.2.1 q.2.2) := by
  unfold g74 at hq
  cases q3 : g75 a1 σ with
  | none => rw [q3] at hq; cases hq
  | some q30 =>
    have hc := g75_run (Ω := Ω) htr d p τ a1 σ q3
    obtain ⟨v | v, s⟩ := q30
    · rw [q3] at hq; cases hq
      exact xp_ok htr 10 (d + 8) 1 6 [eN (some (.int v)) (hM p s τ) 1 6] 74 0 _ _ _ ⟨hc, (by unfold vp_in; decide), trivial, rfl⟩
    · rw [q3] at hq; dsimp only at hq
      by_cases h0 : v = 0
      · subst h0; rw [if_pos rfl] at hq; cases hq
        exact xp_ok htr 8 (d + 8) 1 6 [eT 0 (hM p s τ) 1 6] 74 0 _ _ _ ⟨hc, fun a => ⟨trivial, rfl⟩⟩
      rw [if_neg h0] at hq
      cases hq
/- AccessDeskLaw.authorized -/
def g76 (a1 : Int32) (σ : xS) (τ : Nat → Nat → Int64) : Option (Int32 × xS × (Nat → Nat → Int64)) := match g77 a1 σ with | some (Sum.inl v, s) => some (0, s, xh_ul τ 92 0 (Int32.toInt64 v)) | some (Sum.inr v, s) => (if v = 0 then some (1, s, τ) else none) | none => none
theorem g76_run {l : Launch} {Ω : xo_O} (htr : xH l) (d : Nat) (p : Nat) (τ : Nat → Nat → Int64) (a1 : Int32) (σ : xS) {q : Int32 × xS × (Nat → Nat → Int64)} (hq : g76 a1 σ τ = some q) : xv l Ω (d + 8) 1 6 76 0 (xs_loc (xm_l 76) [.ref 0, .int a1, .ref 92]) [] (hM p σ τ) (.inl (some (.int q.1)), hM p q.2.1 q.2.2) := by
  unfold g76 at hq
  cases q3 : g77 a1 σ with
  | none => rw [q3] at hq; cases hq
  | some q30 =>
    have hc := g77_run (Ω := Ω) htr d p τ a1 σ q3
    obtain ⟨v | v, s⟩ := q30
    · rw [q3] at hq; cases hq
      exact xp_ok htr 10 (d + 8) 1 6 [eN (some (.int v)) (hM p s τ) 1 6] 76 0 _ _ _ ⟨hc, (by unfold vp_in; decide), trivial, rfl⟩
    · rw [q3] at hq; dsimp only at hq
      by_cases h0 : v = 0
      · subst h0; rw [if_pos rfl] at hq; cases hq
        exact xp_ok htr 8 (d + 8) 1 6 [eT 0 (hM p s τ) 1 6] 76 0 _ _ _ ⟨hc, fun a => ⟨trivial, rfl⟩⟩
      rw [if_neg h0] at hq
      cases hq
/- AccessDeskLaw.object -/
def g78 (a1 : Int32) (a2 : Int32) (a3 : Int32) (a4 : Int32) (σ : xS) (τ : Nat → Nat → Int64) : Option (Int32 × xS × (Nat → Nat → Int64)) := match g79 a1 a2 a3 a4 σ with | some (Sum.inl v, s) => some (0, s, τ) | some (Sum.inr v, s) => (if v = 0 then some (1, s, τ) else none) | none => none
theorem g78_run {l : Launch} {Ω : xo_O} (htr : xH l) (d : Nat) (p : Nat) (τ : Nat → Nat → Int64) (a1 : Int32) (a2 : Int32) (a3 : Int32) (a4 : Int32) (σ : xS) {q : Int32 × xS × (Nat → Nat → Int64)} (hq : g78 a1 a2 a3 a4 σ τ = some q) : xv l Ω (d + 8) 1 6 78 0 (xs_loc (xm_l 78) [.ref 0, .int a1, .int a2, .int a3, .int a4]) [] (hM p σ τ) (.inl (some (.int q.1)), hM p q.2.1 q.2.2) := by
  unfold g78 at hq
  cases q3 : g79 a1 a2 a3 a4 σ with
  | none => rw [q3] at hq; cases hq
  | some q30 =>
    have hc := g79_run (Ω := Ω) htr d p τ a1 a2 a3 a4 σ q3
    obtain ⟨v | v, s⟩ := q30
    · rw [q3] at hq; cases hq
      exact xp_ok htr 9 (d + 8) 1 6 [eN none (hM p s τ) 1 6] 78 0 _ _ _ ⟨hc, trivial, rfl⟩
    · rw [q3] at hq; dsimp only at hq
      by_cases h0 : v = 0
      · subst h0; rw [if_pos rfl] at hq; cases hq
        exact xp_ok htr 9 (d + 8) 1 6 [eT 0 (hM p s τ) 1 6] 78 0 _ _ _ ⟨hc, fun a => ⟨trivial, rfl⟩⟩
      rw [if_neg h0] at hq
      cases hq
/- AccessDeskLaw.feed -/
def g82 (a1 : Int64) (a3 : Int32) (σ : xS) (τ : Nat → Nat → Int64) : Option (Int32 × xS × (Nat → Nat → Int64)) := match g83 a1 a3 σ with | some (Sum.inl v, s) => some (0, s, xh_ul τ 92 0 (Int32.toInt64 v)) | some (Sum.inr v, s) => (if v = 0 then some (1, s, τ) else (if v = 1 then some (2, s, τ) else none)) | none => none
theorem g82_run {l : Launch} {Ω : xo_O} (htr : xH l) (d : Nat) (p : Nat) (τ : Nat → Nat → Int64) (a1 : Int64) (a3 : Int32) (σ : xS) {q : Int32 × xS × (Nat → Nat → Int64)} (hq : g82 a1 a3 σ τ = some q) : xv l Ω (d + 8) 2 12 82 0 (xs_loc (xm_l 82) [.ref 0, .long a1, .int a3, .ref 92]) [] (hM p σ τ) (.inl (some (.int q.1)), hM p q.2.1 q.2.2) := by
  unfold g82 at hq
  cases q3 : g83 a1 a3 σ with
  | none => rw [q3] at hq; cases hq
  | some q30 =>
    have hc := g83_run (Ω := Ω) htr d p τ a1 a3 σ q3
    obtain ⟨v | v, s⟩ := q30
    · rw [q3] at hq; cases hq
      exact xp_ok htr 11 (d + 8) 2 12 [eN (some (.int v)) (hM p s τ) 2 12] 82 0 _ _ _ ⟨hc, (by unfold vp_in; decide), trivial, rfl⟩
    · rw [q3] at hq; dsimp only at hq
      by_cases h0 : v = 0
      · subst h0; rw [if_pos rfl] at hq; cases hq
        exact xp_ok htr 9 (d + 8) 2 12 [eT 0 (hM p s τ) 2 12] 82 0 _ _ _ ⟨hc, fun a => ⟨trivial, rfl⟩⟩
      rw [if_neg h0] at hq
      by_cases h1 : v = 1
      · subst h1; rw [if_pos rfl] at hq; cases hq
        exact xp_ok htr 9 (d + 8) 2 12 [eT 1 (hM p s τ) 2 12] 82 0 _ _ _ ⟨hc, fun a => ⟨trivial, rfl⟩⟩
      rw [if_neg h1] at hq
      cases hq
/- AccessDeskLaw.decide -/
def g111 (p : Nat) (a1 : Int32) (a2 : Int32) (a3 : Int32) (a4 : Int32) (σ : xS) (τ : Nat → Nat → Int64) : Option (Int32 × xS × (Nat → Nat → Int64)) := match g112 p a1 a2 a3 a4 σ with | some (Sum.inl v, s) => some (0, s, xh_ul τ 92 0 (Int32.toInt64 v)) | some (Sum.inr v, s) => (if v = 0 then some (1, s, τ) else (if v = 1 then some (2, s, τ) else none)) | none => none
theorem g111_run_23 {l : Launch} {Ω : xo_O} (htr : xH l) (d : Nat) (τ : Nat → Nat → Int64) (a1 : Int32) (a2 : Int32) (a3 : Int32) (a4 : Int32) (σ : xS) {q : Int32 × xS × (Nat → Nat → Int64)} (hq : g111 23 a1 a2 a3 a4 σ τ = some q) : xv l Ω (d + 8) 3 18 111 0 (xs_loc (xm_l 111) [.ref 0, .int a1, .int a2, .int a3, .int a4, .ref 92]) [] (hM 23 σ τ) (.inl (some (.int q.1)), hM 23 q.2.1 q.2.2) := by
  unfold g111 at hq
  cases q3 : g112 23 a1 a2 a3 a4 σ with
  | none => rw [q3] at hq; cases hq
  | some q30 =>
    have hc := g112_run_23 (Ω := Ω) htr d  τ a1 a2 a3 a4 σ q3
    obtain ⟨v | v, s⟩ := q30
    · rw [q3] at hq; cases hq
      exact xp_ok htr 13 (d + 8) 3 18 [eN (some (.int v)) (hM 23 s τ) 3 18] 111 0 _ _ _ ⟨hc, (by unfold vp_in; decide), trivial, rfl⟩
    · rw [q3] at hq; dsimp only at hq
      by_cases h0 : v = 0
      · subst h0; rw [if_pos rfl] at hq; cases hq
        exact xp_ok htr 11 (d + 8) 3 18 [eT 0 (hM 23 s τ) 3 18] 111 0 _ _ _ ⟨hc, fun a => ⟨trivial, rfl⟩⟩
      rw [if_neg h0] at hq
      by_cases h1 : v = 1
      · subst h1; rw [if_pos rfl] at hq; cases hq
        exact xp_ok htr 11 (d + 8) 3 18 [eT 1 (hM 23 s τ) 3 18] 111 0 _ _ _ ⟨hc, fun a => ⟨trivial, rfl⟩⟩
      rw [if_neg h1] at hq
      cases hq
theorem g111_run_36 {l : Launch} {Ω : xo_O} (htr : xH l) (d : Nat) (τ : Nat → Nat → Int64) (a1 : Int32) (a2 : Int32) (a3 : Int32) (a4 : Int32) (σ : xS) {q : Int32 × xS × (Nat → Nat → Int64)} (hq : g111 36 a1 a2 a3 a4 σ τ = some q) : xv l Ω (d + 8) 3 18 111 0 (xs_loc (xm_l 111) [.ref 0, .int a1, .int a2, .int a3, .int a4, .ref 92]) [] (hM 36 σ τ) (.inl (some (.int q.1)), hM 36 q.2.1 q.2.2) := by
  unfold g111 at hq
  cases q3 : g112 36 a1 a2 a3 a4 σ with
  | none => rw [q3] at hq; cases hq
  | some q30 =>
    have hc := g112_run_36 (Ω := Ω) htr d  τ a1 a2 a3 a4 σ q3
    obtain ⟨v | v, s⟩ := q30
    · rw [q3] at hq; cases hq
      exact xp_ok htr 13 (d + 8) 3 18 [eN (some (.int v)) (hM 36 s τ) 3 18] 111 0 _ _ _ ⟨hc, (by unfold vp_in; decide), trivial, rfl⟩
    · rw [q3] at hq; dsimp only at hq
      by_cases h0 : v = 0
      · subst h0; rw [if_pos rfl] at hq; cases hq
        exact xp_ok htr 11 (d + 8) 3 18 [eT 0 (hM 36 s τ) 3 18] 111 0 _ _ _ ⟨hc, fun a => ⟨trivial, rfl⟩⟩
      rw [if_neg h0] at hq
      by_cases h1 : v = 1
      · subst h1; rw [if_pos rfl] at hq; cases hq
        exact xp_ok htr 11 (d + 8) 3 18 [eT 1 (hM 36 s τ) 3 18] 111 0 _ _ _ ⟨hc, fun a => ⟨trivial, rfl⟩⟩
      rw [if_neg h1] at hq
      cases hq
/- AccessDeskLaw.request -/
def g135 (p : Nat) (a1 : Int32) (a2 : Int32) (a3 : Int32) (a4 : Int32) (σ : xS) (τ : Nat → Nat → Int64) : Option (Int32 × xS × (Nat → Nat → Int64)) := match g136 p a1 a2 a3 a4 σ with | some (Sum.inl v, s) => some (0, s, xh_ul τ 92 0 (Int32.toInt64 v)) | some (Sum.inr v, s) => (if v = 0 then some (1, s, τ) else (if v = 1 then some (2, s, τ) else (if v = 2 then some (3, s, τ) else none))) | none => none
theorem g135_run_23 {l : Launch} {Ω : xo_O} (htr : xH l) (d : Nat) (τ : Nat → Nat → Int64) (a1 : Int32) (a2 : Int32) (a3 : Int32) (a4 : Int32) (σ : xS) {q : Int32 × xS × (Nat → Nat → Int64)} (hq : g135 23 a1 a2 a3 a4 σ τ = some q) : xv l Ω (d + 8) 3 18 135 0 (xs_loc (xm_l 135) [.ref 0, .int a1, .int a2, .int a3, .int a4, .ref 92]) [] (hM 23 σ τ) (.inl (some (.int q.1)), hM 23 q.2.1 q.2.2) := by
  unfold g135 at hq
  cases q3 : g136 23 a1 a2 a3 a4 σ with
  | none => rw [q3] at hq; cases hq
  | some q30 =>
    have hc := g136_run_23 (Ω := Ω) htr d  τ a1 a2 a3 a4 σ q3
    obtain ⟨v | v, s⟩ := q30
    · rw [q3] at hq; cases hq
      exact xp_ok htr 13 (d + 8) 3 18 [eN (some (.int v)) (hM 23 s τ) 3 18] 135 0 _ _ _ ⟨hc, (by unfold vp_in; decide), trivial, rfl⟩
    · rw [q3] at hq; dsimp only at hq
      by_cases h0 : v = 0
      · subst h0; rw [if_pos rfl] at hq; cases hq
        exact xp_ok htr 11 (d + 8) 3 18 [eT 0 (hM 23 s τ) 3 18] 135 0 _ _ _ ⟨hc, fun a => ⟨trivial, rfl⟩⟩
      rw [if_neg h0] at hq
      by_cases h1 : v = 1
      · subst h1; rw [if_pos rfl] at hq; cases hq
        exact xp_ok htr 11 (d + 8) 3 18 [eT 1 (hM 23 s τ) 3 18] 135 0 _ _ _ ⟨hc, fun a => ⟨trivial, rfl⟩⟩
      rw [if_neg h1] at hq
      by_cases h2 : v = 2
      · subst h2; rw [if_pos rfl] at hq; cases hq
        exact xp_ok htr 11 (d + 8) 3 18 [eT 2 (hM 23 s τ) 3 18] 135 0 _ _ _ ⟨hc, fun a => ⟨trivial, rfl⟩⟩
      rw [if_neg h2] at hq
      cases hq
theorem g135_run_36 {l : Launch} {Ω : xo_O} (htr : xH l) (d : Nat) (τ : Nat → Nat → Int64) (a1 : Int32) (a2 : Int32) (a3 : Int32) (a4 : Int32) (σ : xS) {q : Int32 × xS × (Nat → Nat → Int64)} (hq : g135 36 a1 a2 a3 a4 σ τ = some q) : xv l Ω (d + 8) 3 18 135 0 (xs_loc (xm_l 135) [.ref 0, .int a1, .int a2, .int a3, .int a4, .ref 92]) [] (hM 36 σ τ) (.inl (some (.int q.1)), hM 36 q.2.1 q.2.2) := by
  unfold g135 at hq
  cases q3 : g136 36 a1 a2 a3 a4 σ with
  | none => rw [q3] at hq; cases hq
  | some q30 =>
    have hc := g136_run_36 (Ω := Ω) htr d  τ a1 a2 a3 a4 σ q3
    obtain ⟨v | v, s⟩ := q30
    · rw [q3] at hq; cases hq
      exact xp_ok htr 13 (d + 8) 3 18 [eN (some (.int v)) (hM 36 s τ) 3 18] 135 0 _ _ _ ⟨hc, (by unfold vp_in; decide), trivial, rfl⟩
    · rw [q3] at hq; dsimp only at hq
      by_cases h0 : v = 0
      · subst h0; rw [if_pos rfl] at hq; cases hq
        exact xp_ok htr 11 (d + 8) 3 18 [eT 0 (hM 36 s τ) 3 18] 135 0 _ _ _ ⟨hc, fun a => ⟨trivial, rfl⟩⟩
      rw [if_neg h0] at hq
      by_cases h1 : v = 1
      · subst h1; rw [if_pos rfl] at hq; cases hq
        exact xp_ok htr 11 (d + 8) 3 18 [eT 1 (hM 36 s τ) 3 18] 135 0 _ _ _ ⟨hc, fun a => ⟨trivial, rfl⟩⟩
      rw [if_neg h1] at hq
      by_cases h2 : v = 2
      · subst h2; rw [if_pos rfl] at hq; cases hq
        exact xp_ok htr 11 (d + 8) 3 18 [eT 2 (hM 36 s τ) 3 18] 135 0 _ _ _ ⟨hc, fun a => ⟨trivial, rfl⟩⟩
      rw [if_neg h2] at hq
      cases hq
/- AccessDeskLaw.entry -/
def g141 (a1 : Int32) (a2 : Int32) (σ : xS) (τ : Nat → Nat → Int64) : Option (Int32 × xS × (Nat → Nat → Int64)) := match g142 a1 a2 σ with | some (Sum.inl v, s) => some (0, s, xh_ul τ 92 0 (Int32.toInt64 v)) | some (Sum.inr v, s) => (if v = 0 then some (1, s, τ) else (if v = 3 then some (2, s, τ) else none)) | none => none
theorem g141_run {l : Launch} {Ω : xo_O} (htr : xH l) (d : Nat) (p : Nat) (τ : Nat → Nat → Int64) (a1 : Int32) (a2 : Int32) (σ : xS) {q : Int32 × xS × (Nat → Nat → Int64)} (hq : g141 a1 a2 σ τ = some q) : xv l Ω (d + 8) 2 12 141 0 (xs_loc (xm_l 141) [.ref 0, .int a1, .int a2, .ref 92]) [] (hM p σ τ) (.inl (some (.int q.1)), hM p q.2.1 q.2.2) := by
  unfold g141 at hq
  cases q3 : g142 a1 a2 σ with
  | none => rw [q3] at hq; cases hq
  | some q30 =>
    have hc := g142_run (Ω := Ω) htr d p τ a1 a2 σ q3
    obtain ⟨v | v, s⟩ := q30
    · rw [q3] at hq; cases hq
      exact xp_ok htr 11 (d + 8) 2 12 [eN (some (.int v)) (hM p s τ) 2 12] 141 0 _ _ _ ⟨hc, (by unfold vp_in; decide), trivial, rfl⟩
    · rw [q3] at hq; dsimp only at hq
      by_cases h0 : v = 0
      · subst h0; rw [if_pos rfl] at hq; cases hq
        exact xp_ok htr 9 (d + 8) 2 12 [eT 0 (hM p s τ) 2 12] 141 0 _ _ _ ⟨hc, fun a => ⟨trivial, rfl⟩⟩
      rw [if_neg h0] at hq
      by_cases h3 : v = 3
      · subst h3; rw [if_pos rfl] at hq; cases hq
        exact xp_ok htr 9 (d + 8) 2 12 [eT 3 (hM p s τ) 2 12] 141 0 _ _ _ ⟨hc, fun a => ⟨trivial, rfl⟩⟩
      rw [if_neg h3] at hq
      cases hq
/- AccessDeskLaw.touch -/
def g145 (a1 : Int32) (a2 : Int32) (a3 : Int32) (σ : xS) (τ : Nat → Nat → Int64) : Option (Int32 × xS × (Nat → Nat → Int64)) := match g146 a1 a2 a3 σ with | some (Sum.inl v, s) => some (0, s, τ) | some (Sum.inr v, s) => (if v = 0 then some (1, s, τ) else (if v = 3 then some (2, s, τ) else none)) | none => none
theorem g145_run {l : Launch} {Ω : xo_O} (htr : xH l) (d : Nat) (p : Nat) (τ : Nat → Nat → Int64) (a1 : Int32) (a2 : Int32) (a3 : Int32) (σ : xS) {q : Int32 × xS × (Nat → Nat → Int64)} (hq : g145 a1 a2 a3 σ τ = some q) : xv l Ω (d + 8) 2 12 145 0 (xs_loc (xm_l 145) [.ref 0, .int a1, .int a2, .int a3]) [] (hM p σ τ) (.inl (some (.int q.1)), hM p q.2.1 q.2.2) := by
  unfold g145 at hq
  cases q3 : g146 a1 a2 a3 σ with
  | none => rw [q3] at hq; cases hq
  | some q30 =>
    have hc := g146_run (Ω := Ω) htr d p τ a1 a2 a3 σ q3
    obtain ⟨v | v, s⟩ := q30
    · rw [q3] at hq; cases hq
      exact xp_ok htr 8 (d + 8) 2 12 [eN none (hM p s τ) 2 12] 145 0 _ _ _ ⟨hc, trivial, rfl⟩
    · rw [q3] at hq; dsimp only at hq
      by_cases h0 : v = 0
      · subst h0; rw [if_pos rfl] at hq; cases hq
        exact xp_ok htr 8 (d + 8) 2 12 [eT 0 (hM p s τ) 2 12] 145 0 _ _ _ ⟨hc, fun a => ⟨trivial, rfl⟩⟩
      rw [if_neg h0] at hq
      by_cases h3 : v = 3
      · subst h3; rw [if_pos rfl] at hq; cases hq
        exact xp_ok htr 8 (d + 8) 2 12 [eT 3 (hM p s τ) 2 12] 145 0 _ _ _ ⟨hc, fun a => ⟨trivial, rfl⟩⟩
      rw [if_neg h3] at hq
      cases hq
