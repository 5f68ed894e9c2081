-- own text: what the leaves answer
theorem zg_t {ρ : Type} {p : Prop} {d : Decidable p} {k : Option ρ} (hp : p) : zg p k = k := by unfold zg; rw [if_pos hp]
theorem zb1_t {α ρ : Type} {x : Option α} {k : α → Option ρ} {v : α} (h : x = some v) : zb1 x k = k v := by subst h; rfl
abbrev zcan (k : Int) : Prop := k = 0 ∨ k = 2 ∨ k = 3 ∨ k = 5
abbrev zwd (k : Int) : Int := if k = 5 then 2 else if k = 0 ∨ k = 2 then 1 else 0
abbrev zhr (k : Int) : Int := if k = 3 then 1 else if k = 4 then 2 else -9
abbrev ztn (k : Int) : Prop := k ≠ 2 ∧ k ≠ 5
abbrev zK (K : Nat → Int) : Prop := ∀ i, i < 36 → 0 ≤ K i ∧ K i < 6
theorem e_isSquare {q : Int} (h : zr q) : g_X_isSquare q = some (if 0 ≤ q ∧ q < 36 then 1 else 0) := by
  unfold g_X_isSquare
  rw [zg_t h]
  grind
theorem e_at {n : Nat} {g : Nat → Int} {i : Int} (hn : n < 2147483648) (hi : zr i) : g_Numbers_at n g i = some (if 0 ≤ i ∧ i < (n : Int) then g i.toNat else 0) := by
  unfold g_Numbers_at
  rw [zg_t hi, zg_t (show zr (n : Int) from ⟨by omega, by omega⟩)]
  by_cases h1 : i < 0
  · rw [if_pos h1, if_neg (by omega)]
  · rw [if_neg h1]
    by_cases h2 : (n : Int) ≤ i
    · rw [if_pos h2, if_neg (by omega)]
    · rw [if_neg h2, if_pos (by omega), zg_t (by omega)]
theorem e_put {n : Nat} {g : Nat → Int} {i v : Int} (hn : n < 2147483648) (hi : zr i) : g_Numbers_put n g i v = some (if 0 ≤ i ∧ i < (n : Int) then updI g i.toNat v else g) := by
  unfold g_Numbers_put
  rw [zg_t hi, zg_t (show zr (n : Int) from ⟨by omega, by omega⟩)]
  by_cases h1 : i < 0
  · rw [if_pos h1, if_neg (by omega)]
  · rw [if_neg h1]
    by_cases h2 : (n : Int) ≤ i
    · rw [if_pos h2, if_neg (by omega)]
    · rw [if_neg h2, if_pos (by omega), zg_t (by omega)]; rfl
theorem zj1_v {α ρ : Type} {k : α → Option ρ} {b : (α → Option ρ) → Option ρ} : zj1 k b = b k := rfl
theorem zb1_v {α ρ : Type} {k : α → Option ρ} {v : α} : zb1 (some v) k = k v := rfl
theorem e_atN {n : Nat} {g : Nat → Int} {q : Nat} (hn : n < 2147483648) (h : q < n) : g_Numbers_at n g (q : Int) = some (g q) := by
  rw [e_at hn ⟨by omega, by omega⟩, if_pos (by omega), Int.toNat_natCast]
theorem e_can {k : Int} (h : 0 ≤ k ∧ k < 6) : g_Town_trait 6 TI_KIND_CAN_BE k = some (if zcan k then 1 else 0) := by
  rcases (show k = 0 ∨ k = 1 ∨ k = 2 ∨ k = 3 ∨ k = 4 ∨ k = 5 by omega) with e | e | e | e | e | e <;> subst e <;> decide
theorem e_wd {k : Int} (h : 0 ≤ k ∧ k < 6) : g_Town_trait 6 TI_KIND_WORDS k = some (zwd k) := by
  rcases (show k = 0 ∨ k = 1 ∨ k = 2 ∨ k = 3 ∨ k = 4 ∨ k = 5 by omega) with e | e | e | e | e | e <;> subst e <;> decide
theorem e_hr {k : Int} (h : 0 ≤ k ∧ k < 6) : g_Town_trait 6 TI_KIND_HEARS k = some (zhr k) := by
  rcases (show k = 0 ∨ k = 1 ∨ k = 2 ∨ k = 3 ∨ k = 4 ∨ k = 5 by omega) with e | e | e | e | e | e <;> subst e <;> decide
theorem e_tn {k : Int} (h : 0 ≤ k ∧ k < 6) : g_Town_trait 6 TI_KIND_CORNER k = some (if ztn k then 1 else 0) := by
  rcases (show k = 0 ∨ k = 1 ∨ k = 2 ∨ k = 3 ∨ k = 4 ∨ k = 5 by omega) with e | e | e | e | e | e <;> subst e <;> decide
theorem e_canBe {K : Nat → Int} (hK : zK K) {q : Int} (h : zr q) : g_Town_canBe K q = some (if 0 ≤ q ∧ q < 36 ∧ zcan (K q.toNat) then 1 else 0) := by
  simp only [g_Town_canBe, e_isSquare h, zb1_v, e_at (n := 36) (by decide) h, zg, zr]
  by_cases h1 : 0 ≤ q ∧ q < 36
  · have hk := hK q.toNat (by omega)
    have e1 : (if 0 ≤ q ∧ q < ((36 : Nat) : Int) then K q.toNat else 0) = K q.toNat := if_pos h1
    rw [e1]
    simp only [e_can hk, zb1_v]
    grind
  · grind
theorem e_words {K : Nat → Int} (hK : zK K) {q : Nat} (h : q < 36) : g_Town_wordsOn K (q : Int) = some (zwd (K q)) := by
  unfold g_Town_wordsOn
  rw [zb1_t (e_atN (by decide) h), zb1_t (e_wd (hK q h))]
theorem e_hearing {K : Nat → Int} (hK : zK K) {q : Nat} (h : q < 36) : g_Town_hearing K (q : Int) = some (zhr (K q)) := by
  unfold g_Town_hearing
  rw [zb1_t (e_atN (by decide) h), zb1_t (e_hr (hK q h))]
theorem e_turns {K : Nat → Int} (hK : zK K) {q : Nat} (h : q < 36) : g_Town_turnsAreCorners K (q : Int) = some (if ztn (K q) then 1 else 0) := by
  unfold g_Town_turnsAreCorners
  rw [zb1_t (e_atN (by decide) h), zb1_t (e_tn (hK q h))]
  simp only [zr, zg]
  grind

abbrev zap (a b : Nat) : Int := (((a : Int) / 6 - (b : Int) / 6).natAbs : Int) + (((a : Int) % 6 - (b : Int) % 6).natAbs : Int)
theorem e_apart {a b : Nat} (ha : a < 36) (hb : b < 36) : g_Town_apart (a : Int) (b : Int) = some (zap a b) := by
  simp (disch := omega) only [g_Town_apart, zg_t, zn]
theorem e_M_apart {a b : Nat} (ha : a < 36) (hb : b < 36) : g_M_apart (a : Int) (b : Int) = some (zap a b) := by
  have hs : ∀ x : Int, zr x → -2147483648 < x → g_M_size x = some (x.natAbs : Int) := by
    intro x hx hx2
    simp only [g_M_size, zg, if_pos hx]
    split <;> congr 1 <;> omega
  simp (disch := omega) only [g_M_apart, zg_t, hs, zb1_v]
theorem e_corner {K : Nat → Int} (hK : zK K) {q c w : Nat} (h : q < 36) (hc : c < 5) (hw : w < 5) : g_Town_isCorner K (q : Int) (c : Int) (w : Int) = some (if c ≠ 4 ∧ c ≠ w ∧ ztn (K q) then 1 else 0) := by
  simp (disch := omega) only [g_Town_isCorner, e_turns hK h, zb1_v, zg_t]
  grind [zg]
def zBs (q w : Nat) : Int := if w = 0 then (if q < 6 then -1 else (q : Int) - 6) else if w = 1 then (if q % 6 = 0 then -1 else (q : Int) - 1) else if w = 2 then (if q % 6 = 5 then -1 else (q : Int) + 1) else if w = 3 then (if q < 30 then (q : Int) + 6 else -1) else -1
def zN (K : Nat → Int) (q w : Nat) : Int := if 0 ≤ zBs q w ∧ zcan (K (zBs q w).toNat) then zBs q w else -1
theorem zBs_rng {q w : Nat} (h : q < 36) : -1 ≤ zBs q w ∧ zBs q w < 36 := by unfold zBs; grind
theorem e_beside {q w : Nat} (h : q < 36) (hw : w < 4) : g_Town_beside (q : Int) (w : Int) = some (zBs q w) := by
  exact (by decide +kernel : ∀ q : Nat, q < 36 → ∀ w : Nat, w < 4 → g_Town_beside (q : Int) (w : Int) = some (zBs q w)) q h w hw
theorem e_next {K : Nat → Int} (hK : zK K) {q w : Nat} (h : q < 36) (hw : w < 4) : g_Town_next K (q : Int) (w : Int) = some (zN K q w) := by
  have hr := zBs_rng (w := w) h
  simp only [g_Town_next, e_beside h hw, zb1_v, e_canBe hK (q := zBs q w) ⟨by omega, by omega⟩, zg, zr, zN]
  grind
theorem zN_rng {K : Nat → Int} {q w : Nat} (h : q < 36) : -1 ≤ zN K q w ∧ zN K q w < 36 ∧ (0 ≤ zN K q w → zcan (K (zN K q w).toNat)) := by
  have hr := zBs_rng (w := w) h
  unfold zN; grind
-- the reference's leaves
abbrev zR (s K : Nat → Int) : Prop := ∀ i, i < 36 → s i = K i
theorem e_M_canStand {k : Int} (h : 0 ≤ k ∧ k < 6) : g_M_canStand k = some (if zcan k then 1 else 0) := by
  rcases (show k = 0 ∨ k = 1 ∨ k = 2 ∨ k = 3 ∨ k = 4 ∨ k = 5 by omega) with e | e | e | e | e | e <;> subst e <;> decide
theorem e_M_canBe {s K : Nat → Int} (hs : zR s K) (hK : zK K) {q : Nat} (h : q < 36) : g_M_canBe s (q : Int) = some (if zcan (K q) then 1 else 0) := by
  have hk := hK q h
  simp only [g_M_canBe, zg, Int.toNat_natCast, hs q h, e_M_canStand hk, zb1_v]
  grind
theorem e_M_words {s K : Nat → Int} (hs : zR s K) (hK : zK K) {q : Nat} (h : q < 36) : g_M_wordsOn s (q : Int) = some (zwd (K q)) := by
  have hk := hK q h
  simp only [g_M_wordsOn, zg, Int.toNat_natCast, hs q h, zr, zwd]
  grind
theorem e_M_hears {k : Int} (h : 0 ≤ k ∧ k < 6) : g_M_hears k = some (zhr k) := by
  simp only [g_M_hears, zg, zr, zhr]
  grind
theorem e_M_turned {s K : Nat → Int} (hs : zR s K) (hK : zK K) {q : Nat} (h : q < 36) : g_M_isTurned s (q : Int) = some (if ztn (K q) then 1 else 0) := by
  have hk := hK q h
  simp only [g_M_isTurned, zg, Int.toNat_natCast, hs q h, zr, ztn]
  grind
theorem e_M_corner {s K : Nat → Int} (hs : zR s K) (hK : zK K) {q c w : Nat} (h : q < 36) (hc : c < 5) (hw : w < 5) : g_M_isCorner s (q : Int) (c : Int) (w : Int) = some (if c ≠ 4 ∧ c ≠ w ∧ ztn (K q) then 1 else 0) := by
  simp (disch := omega) only [g_M_isCorner, e_M_turned hs hK h, zb1_v, zg_t]
  grind [zg]
theorem e_M_said {s K : Nat → Int} (hs : zR s K) (hK : zK K) {q c w : Nat} (h : q < 36) (hc : c < 5) (hw : w < 5) : g_M_saidOn s (q : Int) (c : Int) (w : Int) = some (if c ≠ 4 ∧ c ≠ w ∧ ztn (K q) then 0 else zwd (K q)) := by
  simp only [g_M_saidOn, e_M_corner hs hK h hc hw, e_M_words hs hK h, zb1_v, zg, zr]
  grind
theorem e_M_isSquare {q : Int} (h : zr q) : g_M_isSquare q = some (if 0 ≤ q ∧ q < 36 then 1 else 0) := by
  obtain ⟨h1, h2⟩ := h
  simp only [g_M_isSquare, g_M_isIn, zg, zr, zb1]
  grind
theorem e_M_gone {s K : Nat → Int} (hs : zR s K) (hK : zK K) {q w : Nat} (h : q < 36) (hw : w < 4) : g_M_gone s (q : Int) (w : Int) = some (if zcan (K q) ∧ 0 ≤ zN K q w then zN K q w else -9) := by
  have key : ∀ t : Int, -10 < t → t < 50 → (zb1 (g_M_isSquare t) fun r2 => zg (zr r2) <| if r2 = (0 : Int) then some (-9 : Int) else zb1 (g_M_canBe s (q : Int)) fun r5 => zg (zr r5) <| if r5 = (0 : Int) then some (-9 : Int) else zb1 (g_M_canBe s t) fun r8 => zg (zr r8) <| if r8 = (0 : Int) then some (-9 : Int) else some t) = some (if zcan (K q) ∧ (0 ≤ t ∧ t < 36) ∧ zcan (K t.toNat) then t else -9) := by
    intro t h1 h2
    rw [e_M_isSquare ⟨by omega, by omega⟩, zb1_v, e_M_canBe hs hK h]
    by_cases h3 : 0 ≤ t ∧ t < 36
    · obtain ⟨m, rfl⟩ := Int.eq_ofNat_of_zero_le h3.1
      rw [e_M_canBe hs hK (q := m) (by omega)]
      simp only [zb1_v, zg, zr]
      grind
    · simp only [zb1_v, zg, zr]
      grind
  have fin : ∀ t : Int, ((0 ≤ t ∧ t < 36) ↔ 0 ≤ zBs q w) → (0 ≤ zBs q w → t = zBs q w) → (if zcan (K q) ∧ (0 ≤ t ∧ t < 36) ∧ zcan (K t.toNat) then t else -9) = (if zcan (K q) ∧ 0 ≤ zN K q w then zN K q w else -9) := by
    intro t h1 h2
    unfold zN
    by_cases h3 : 0 ≤ zBs q w
    · rw [h2 h3]
      have := zBs_rng (w := w) h
      by_cases h4 : zcan (K (zBs q w).toNat)
      · rw [if_pos (show 0 ≤ zBs q w ∧ zcan (K (zBs q w).toNat) from ⟨h3, h4⟩)]
        simp [h3, h4, this.2]
      · rw [if_neg (show ¬ (0 ≤ zBs q w ∧ zcan (K (zBs q w).toNat)) from fun x => h4 x.2)]
        rw [if_neg (fun x => h4 x.2.2), if_neg (fun x => absurd x.2 (by decide))]
    · rw [if_neg (fun x => h3 (h1.mp x.2.1)), if_neg (fun x => by rw [if_neg (fun y => h3 y.1)] at x; exact absurd x.2 (by decide))]
  unfold g_M_gone
  rw [zj1_v, zg_t (by omega)]
  by_cases w0 : (w : Int) = 0
  · have w1 : w = 0 := by omega
    subst w1
    have ez : zBs q 0 = if q < 6 then -1 else (q : Int) - 6 := rfl
    rw [if_pos w0]
    exact (key _ (by omega) (by omega)).trans (congrArg some (fin _ (by rw [ez]; split <;> omega) (by rw [ez]; split <;> omega)))
  rw [if_neg w0]
  by_cases w0 : (w : Int) = 1
  · have w1 : w = 1 := by omega
    subst w1
    have ez : zBs q 1 = if q % 6 = 0 then -1 else (q : Int) - 1 := rfl
    rw [if_pos w0, zg_t (by omega), zg_t (by omega)]
    by_cases h6 : (q : Int) % 6 = 0
    · rw [if_pos h6]
      exact (key _ (by omega) (by omega)).trans (congrArg some (fin _ (by rw [ez]; split <;> omega) (by rw [ez]; split <;> omega)))
    · rw [if_neg h6]
      exact (key _ (by omega) (by omega)).trans (congrArg some (fin _ (by rw [ez]; split <;> omega) (by rw [ez]; split <;> omega)))
  rw [if_neg w0]
  by_cases w0 : (w : Int) = 2
  · have w1 : w = 2 := by omega
    subst w1
    have ez : zBs q 2 = if q % 6 = 5 then -1 else (q : Int) + 1 := rfl
    rw [if_pos w0, zg_t (by omega), zg_t (by omega)]
    by_cases h6 : (q : Int) % 6 = 5
    · rw [if_pos h6]
      exact (key _ (by omega) (by omega)).trans (congrArg some (fin _ (by rw [ez]; split <;> omega) (by rw [ez]; split <;> omega)))
    · rw [if_neg h6]
      exact (key _ (by omega) (by omega)).trans (congrArg some (fin _ (by rw [ez]; split <;> omega) (by rw [ez]; split <;> omega)))
  rw [if_neg w0]
  have w1 : w = 3 := by omega
  subst w1
  have ez : zBs q 3 = if q < 30 then (q : Int) + 6 else -1 := rfl
  exact (key _ (by omega) (by omega)).trans (congrArg some (fin _ (by rw [ez]; split <;> omega) (by rw [ez]; split <;> omega)))
