-- own text: walks: a way gone, judge
def zCt (br run : Int) : Int := if 0 < run then (run - 1) / br else 0
abbrev zCn (K : Nat → Int) (q c w : Nat) : Prop := c ≠ 4 ∧ c ≠ w ∧ ztn (K q)
theorem e_speak {K : Nat → Int} (hK : zK K) {q : Nat} (hq : q < 36) (wd run : Int) (sp : Nat → Int) : g_Stroll_speak wd run (q : Int) sp K = some (wd + zwd (K q), run + zwd (K q), updI sp q (sp q + 1)) := by
  refine ev_is ?_
  unfold g_Stroll_speak
  refine ev_c1 (e_words hK hq) (ev_n (ev_c1 (e_atN (by decide) hq) (ev_c1 (v1 := updI sp q (sp q + 1)) ?_ (ev_c1 (e_words hK hq) (ev_n (ev_some rfl))))))
  rw [e_put (n := 36) (by decide) ⟨by omega, by omega⟩, if_pos (by omega), Int.toNat_natCast]
theorem e_endRun {cu lr run br : Int} (h1 : 0 ≤ run) (h2 : run < 1000000) (h3 : 0 ≤ lr) (h4 : lr < 1000000) (h5 : 1 ≤ br) (h6 : br ≤ 9) : g_Stroll_endRun cu lr run br = some (cu + zCt br run, max lr run, 0) := by
  refine ev_is ?_
  unfold g_Stroll_endRun
  refine ev_c1 (show g_Town_breath br = some br from rfl) (ev_i1 (ev_g (by omega) (ev_if (fun h => ?_) (fun h => ?_))))
  · refine ev_g (by omega) (ev_g (by omega) (ev_n (ev_some ?_)))
    unfold zCt
    rw [if_neg (by omega), Int.add_zero]
  · refine ev_g (by omega) (ev_f (by omega) (ev_g (by omega) (ev_g (by omega) (ev_n (ev_g (by omega) (ev_g (by omega) (ev_n (ev_some ?_))))))))
    unfold zCt
    rw [if_pos (by omega)]
theorem e_go {K : Nat → Int} (hK : zK K) {q c w : Nat} (hq : q < 36) (hc : c < 5) (hw : w < 4) (co cu wd : Int) {lr run br : Int} (sp : Nat → Int) (h1 : 0 ≤ run) (h2 : run < 1000000) (h3 : 0 ≤ lr) (h4 : lr < 1000000) (h5 : 1 ≤ br) (h6 : br ≤ 9) : g_Stroll_go co cu wd (c : Int) lr run (q : Int) sp br K (w : Int) = some (if zN K q w = -1 then (0, co, cu, wd, (c : Int), lr, run, (q : Int), sp) else if zCn K q c w then (1, co + 1, cu + 1 + zCt br run, wd, (w : Int), max lr run, 0, zN K q w, sp) else (1, co, cu, wd + zwd (K q), (w : Int), lr, run + zwd (K q), zN K q w, updI sp q (sp q + 1))) := by
  have r := zN_rng (K := K) (w := w) hq
  refine ev_is ?_
  unfold g_Stroll_go
  refine ev_c1 (e_next hK hq hw) (ev_g (by omega) (ev_if (fun h => ?_) (fun h => ?_)))
  · exact ev_some (by rw [if_pos h])
  · rw [if_neg h]
    refine ev_c1 (e_corner hK hq hc (by omega)) (ev_i6 ?_)
    by_cases hn : zCn K q c w
    · rw [if_pos hn, if_pos hn]
      exact ev_g (by omega) (ev_f (by decide) (ev_n (ev_n (ev_c3 (e_endRun h1 h2 h3 h4 h5 h6) (ev_some rfl)))))
    · rw [if_neg hn, if_neg hn]
      exact ev_g (by omega) (ev_t rfl (ev_c3 (e_speak hK hq wd run sp) (ev_some rfl)))
theorem e_begin (a1 a2 a3 a4 a5 a6 a7 : Int) (sp : Nat → Int) (ho : Int) : ev (g_Stroll_begin a1 a2 a3 a4 a5 a6 a7 sp ho) (fun r => r.1 = 0 ∧ r.2.1 = 0 ∧ r.2.2.1 = 0 ∧ r.2.2.2.1 = 4 ∧ r.2.2.2.2.1 = 0 ∧ r.2.2.2.2.2.1 = 0 ∧ r.2.2.2.2.2.2.1 = ho ∧ ∀ i, i < 36 → r.2.2.2.2.2.2.2 i = 0) := by
  unfold g_Stroll_begin
  exact ev_c1 (show g_Town_home ho = some ho from rfl) (ev_b1 (e_fill (by decide) sp 0) (fun r h => ev_some ⟨rfl, rfl, rfl, rfl, rfl, rfl, rfl, h⟩))
theorem e_end {K : Nat → Int} (hK : zK K) {q : Nat} (hq : q < 36) (cu wd : Int) {lr run br : Int} (sp : Nat → Int) (h1 : 0 ≤ run) (h2 : run < 1000) (h3 : 0 ≤ lr) (h4 : lr < 1000000) (h5 : 1 ≤ br) (h6 : br ≤ 9) : g_Stroll_end cu wd lr run (q : Int) sp br K = some (cu + zCt br (run + zwd (K q)), wd + zwd (K q), max lr (run + zwd (K q)), 0, updI sp q (sp q + 1)) := by
  have r := zwd_rng (K q)
  refine ev_is ?_
  unfold g_Stroll_end
  exact ev_c3 (e_speak hK hq wd run sp) (ev_c3 (e_endRun (by omega) (by omega) h3 h4 h5 h6) (ev_some rfl))
/-- where one stands when n ways of the row are gone; -1: not so many can be gone -/
def zPos (K : Nat → Int) (ho : Int) (t : Nat → Int) : Nat → Int
  | 0 => ho
  | n + 1 => if zPos K ho t n < 0 then -1 else zN K (zPos K ho t n).toNat (t n).toNat
theorem zPos_s (K : Nat → Int) (ho : Int) (t : Nat → Int) (n : Nat) (h : ¬ zPos K ho t n < 0) : zPos K ho t (n + 1) = zN K (zPos K ho t n).toNat (t n).toNat := if_neg h
theorem zPos_stay (K : Nat → Int) (ho : Int) (t : Nat → Int) : ∀ n m, n ≤ m → zPos K ho t n < 0 → zPos K ho t m < 0 := by
  intro n m h
  induction h with
  | refl => exact id
  | @step m _ ih =>
    intro x
    have e : zPos K ho t (m + 1) = -1 := if_pos (ih x)
    rw [e]; decide
def zStop (K : Nat → Int) (ho : Int) (t : Nat → Int) (n : Int) (r : Int) : Prop := (r = -9 ∧ ∀ m : Nat, (m : Int) ≤ n → 0 ≤ zPos K ho t m) ∨ ∃ m : Nat, r = m ∧ (m : Int) < n ∧ 0 ≤ zPos K ho t m ∧ zPos K ho t (m + 1) < 0
theorem zStop_one {K : Nat → Int} {ho : Int} {t : Nat → Int} {n r r2 : Int} (h : zStop K ho t n r) (h2 : zStop K ho t n r2) : r = r2 := by
  rcases h with ⟨e, a⟩ | ⟨m, e, a1, a2, a3⟩
  · rcases h2 with ⟨e2, _⟩ | ⟨m2, e2, b1, b2, b3⟩
    · omega
    · have := a (m2 + 1) (by omega); omega
  · rcases h2 with ⟨e2, b⟩ | ⟨m2, e2, b1, b2, b3⟩
    · have := b (m + 1) (by omega); omega
    · rcases Nat.lt_trichotomy m m2 with l | l | l
      · have := zPos_stay K ho t (m + 1) m2 l a3; omega
      · omega
      · have := zPos_stay K ho t (m2 + 1) m l b3; omega
def zWays (t : Nat → Int) (n : Int) : Prop := ∀ i : Nat, (i : Int) < n → t i < 4
theorem e_isRow {n : Int} {a b : Nat → Int} (h : iRow n 20 a b 0 9) : ev (g_X_isRowOfWays n a) (fun r => (r = 1 ∧ zWays a n) ∨ (r = 0 ∧ ¬ zWays a n)) := by
  obtain ⟨h1, h2, h3⟩ := h
  unfold g_X_isRowOfWays
  refine ev_f1_1 21 (by decide) (fun i => (i : Int) ≤ n ∧ ∀ j : Nat, j < i → a j < 4) (fun i ag hi hQ hag => ?_) ⟨by omega, fun j hj => absurd hj (Nat.not_lt_zero j)⟩
  refine ev_g (by omega) (ev_g (by omega) (ev_if (fun h => ?_) (fun h => ?_)))
  · exact ev_some (Or.inl ⟨rfl, fun j hj => hQ.2 j (by omega)⟩)
  · have hl : i < 20 := by omega
    have hh := h3 i (by omega)
    refine ev_c1 (e_atN (by decide) hl) (ev_g (by omega) (ev_if (fun h9 => ?_) (fun h9 => ?_)))
    · refine ev_n (hag () (by omega) ⟨by omega, fun j hj => ?_⟩)
      by_cases e : j = i
      · subst e; exact h9
      · exact hQ.2 j (by omega)
    · exact ev_some (Or.inr ⟨rfl, fun x => h9 (x i (by omega))⟩)
theorem e_M_areWays {n : Int} {a b : Nat → Int} (h : iRow n 20 a b 0 9) : ev (g_M_areWays n b) (fun r => (r = 1 ∧ zWays a n) ∨ (r = 0 ∧ ¬ zWays a n)) := by
  obtain ⟨h1, h2, h3⟩ := h
  unfold g_M_areWays
  refine ev_f1_1 21 (by decide) (fun i => (i : Int) ≤ n ∧ ∀ j : Nat, j < i → a j < 4) (fun i ag hi hQ hag => ?_) ⟨by omega, fun j hj => absurd hj (Nat.not_lt_zero j)⟩
  refine ev_g (by omega) (ev_g (by omega) (ev_if (fun h => ?_) (fun h => ?_)))
  · exact ev_some (Or.inl ⟨rfl, fun j hj => hQ.2 j (by omega)⟩)
  · have hl : i < 20 := by omega
    have hh := h3 i (by omega)
    refine ev_g (by omega) ?_
    rw [Int.toNat_natCast, ← hh.1]
    refine ev_g (by omega) (ev_if (fun h9 => ?_) (fun h9 => ?_))
    · refine ev_n (hag () (by omega) ⟨by omega, fun j hj => ?_⟩)
      by_cases e : j = i
      · subst e; exact h9
      · exact hQ.2 j (by omega)
    · exact ev_some (Or.inr ⟨rfl, fun x => h9 (x i (by omega))⟩)
theorem zPos_ok {K : Nat → Int} {ho : Int} {t : Nat → Int} (h1 : 0 ≤ ho) (h2 : ho < 36) (h3 : zcan (K ho.toNat)) : ∀ n, zPos K ho t n < 36 ∧ (0 ≤ zPos K ho t n → zcan (K (zPos K ho t n).toNat))
  | 0 => ⟨h2, fun _ => h3⟩
  | n + 1 => by
    by_cases h : zPos K ho t n < 0
    · have e : zPos K ho t (n + 1) = -1 := if_pos h
      rw [e]; exact ⟨by decide, fun x => absurd x (by decide)⟩
    · rw [zPos_s K ho t n h]
      have ih := zPos_ok (t := t) h1 h2 h3 n
      have r := zN_rng (K := K) (q := (zPos K ho t n).toNat) (w := (t n).toNat) (by omega)
      exact ⟨r.2.1, r.2.2⟩
theorem e_M_firstWrong {K s : Nat → Int} {ho fi br n : Int} {a b : Nat → Int} (hT : iTown K s ho fi br) (h : iRow n 20 a b 0 9) (hw : zWays a n) : ev (g_M_firstWrong n b s) (fun r => zStop K ho a n r) := by
  obtain ⟨hK, hs, h36, h37, h38, q1, q2, q3, q4, q5, q6, q7⟩ := hT
  have e36 : s (36 : Int).toNat = ho := h36
  obtain ⟨h1, h2, h3⟩ := h
  unfold g_M_firstWrong
  refine ev_g (by omega) (ev_n ?_)
  rw [e36]
  refine ev_f2_2 21 (by decide) (fun i p => (i : Int) ≤ n ∧ p = zPos K ho a i ∧ ∀ m : Nat, m ≤ i → 0 ≤ zPos K ho a m) (fun i p ag hi hQ hag => ?_) ⟨by omega, rfl, fun m hm => by
    have : m = 0 := by omega
    subst this
    exact q1⟩
  obtain ⟨i1, i2, i3⟩ := hQ
  refine ev_g (by omega) (ev_g (by omega) (ev_if (fun h => ?_) (fun h => ?_)))
  · exact ev_some (Or.inl ⟨rfl, fun m hm => i3 m (by omega)⟩)
  have hl : i < 20 := by omega
  have hh := h3 i (by omega)
  have hi4 := hw i (by omega)
  have pk := zPos_ok (t := a) q1 q2 q3 i
  have p0 := i3 i (Nat.le_refl i)
  obtain ⟨q, eq⟩ := Int.eq_ofNat_of_zero_le p0
  obtain ⟨w, ew⟩ := Int.eq_ofNat_of_zero_le hh.2.1
  have hq : q < 36 := by omega
  have hw4 : w < 4 := by omega
  have nx := zPos_s K ho a i (by omega)
  rw [eq, Int.toNat_natCast, ew, Int.toNat_natCast] at nx
  have cq := pk.2 p0
  rw [eq, Int.toNat_natCast] at cq
  have r := zN_rng (K := K) (w := w) hq
  refine ev_g (by omega) ?_
  rw [Int.toNat_natCast, ← hh.1, i2, eq, ew]
  refine ev_c1 (e_M_gone hs hK hq hw4) ?_
  by_cases h9 : 0 ≤ zN K q w
  · rw [if_pos ⟨cq, h9⟩]
    refine ev_g (by omega) (ev_t h9 (ev_n (hag _ (by omega) ⟨by omega, nx.symm, fun m hm => ?_⟩)))
    by_cases e : m = i + 1
    · subst e; omega
    · exact i3 m (by omega)
  · rw [if_neg (fun x => h9 x.2)]
    exact ev_g (by omega) (ev_f (by decide) (ev_some (Or.inr ⟨i, rfl, by omega, p0, by omega⟩)))
abbrev ZS : Type := Nat × Nat × Int × Int × Int × Int × Int × (Nat → Int)
/-- a way gone: square, way one came by, corners, cuts, words, longest run, run, what is said on each square -/
def zGo (K : Nat → Int) (br : Int) (w : Nat) (x : ZS) : ZS :=
  if zN K x.1 w = -1 then x
  else if zCn K x.1 x.2.1 w then ((zN K x.1 w).toNat, w, x.2.2.1 + 1, x.2.2.2.1 + 1 + zCt br x.2.2.2.2.2.2.1, x.2.2.2.2.1, max x.2.2.2.2.2.1 x.2.2.2.2.2.2.1, 0, x.2.2.2.2.2.2.2)
  else ((zN K x.1 w).toNat, w, x.2.2.1, x.2.2.2.1, x.2.2.2.2.1 + zwd (K x.1), x.2.2.2.2.2.1, x.2.2.2.2.2.2.1 + zwd (K x.1), updI x.2.2.2.2.2.2.2 x.1 (x.2.2.2.2.2.2.2 x.1 + 1))
def zWs (K : Nat → Int) (br ho : Int) (t : Nat → Int) : Nat → ZS
  | 0 => (ho.toNat, 4, 0, 0, 0, 0, 0, fun _ => 0)
  | n + 1 => zGo K br (t n).toNat (zWs K br ho t n)
/-- what holds on a walk of at most n steps -/
def zOK (K : Nat → Int) (n : Nat) (x : ZS) : Prop := x.1 < 36 ∧ zcan (K x.1) ∧ x.2.1 < 5 ∧ 0 ≤ x.2.2.2.2.2.1 ∧ x.2.2.2.2.2.1 ≤ 2 * n ∧ 0 ≤ x.2.2.2.2.2.2.1 ∧ x.2.2.2.2.2.2.1 ≤ 2 * n
theorem zGo_ok {K : Nat → Int} {br : Int} {n w : Nat} {x : ZS} (h : zOK K n x) (hw : w < 4) : zOK K (n + 1) (zGo K br w x) := by
  obtain ⟨h1, h2, h3, h4, h5, h6, h7⟩ := h
  have r := zN_rng (K := K) (w := w) h1
  have d := zwd_rng (K x.1)
  unfold zGo
  by_cases e : zN K x.1 w = -1
  · rw [if_pos e]; exact ⟨h1, h2, h3, h4, by omega, h6, by omega⟩
  · rw [if_neg e]
    by_cases c : zCn K x.1 x.2.1 w
    · rw [if_pos c]
      refine ⟨?_, r.2.2 (by omega), ?_, ?_, ?_, ?_, ?_⟩
      · show (zN K x.1 w).toNat < 36; omega
      · show w < 5; omega
      · show 0 ≤ max x.2.2.2.2.2.1 x.2.2.2.2.2.2.1; omega
      · show max x.2.2.2.2.2.1 x.2.2.2.2.2.2.1 ≤ _; omega
      · show (0 : Int) ≤ 0; omega
      · show (0 : Int) ≤ _; omega
    · rw [if_neg c]
      refine ⟨?_, r.2.2 (by omega), ?_, h4, ?_, ?_, ?_⟩
      · show (zN K x.1 w).toNat < 36; omega
      · show w < 5; omega
      · show x.2.2.2.2.2.1 ≤ _; omega
      · show 0 ≤ x.2.2.2.2.2.2.1 + zwd (K x.1); omega
      · show x.2.2.2.2.2.2.1 + zwd (K x.1) ≤ _; omega
theorem zWs_ok {K : Nat → Int} {br ho : Int} {t : Nat → Int} (h1 : 0 ≤ ho) (h2 : ho < 36) (h3 : zcan (K ho.toNat)) : ∀ n, (∀ m, m < n → (t m).toNat < 4) → zOK K n (zWs K br ho t n)
  | 0, _ => ⟨show ho.toNat < 36 by omega, h3, show 4 < 5 by decide, show (0 : Int) ≤ 0 by decide, show (0 : Int) ≤ _ by omega, show (0 : Int) ≤ 0 by decide, show (0 : Int) ≤ _ by omega⟩
  | n + 1, h => zGo_ok (zWs_ok h1 h2 h3 n (fun m hm => h m (by omega))) (h n (by omega))
theorem zGo_pos {K : Nat → Int} {br : Int} {w : Nat} {x : ZS} (hx : x.1 < 36) (h : 0 ≤ zN K x.1 w) : ((zGo K br w x).1 : Int) = zN K x.1 w := by
  unfold zGo
  rw [if_neg (by omega)]
  by_cases c : zCn K x.1 x.2.1 w
  · rw [if_pos c]; show (((zN K x.1 w).toNat : Nat) : Int) = _; omega
  · rw [if_neg c]; show (((zN K x.1 w).toNat : Nat) : Int) = _; omega
theorem zWs_pos {K : Nat → Int} {br ho : Int} {t : Nat → Int} (h1 : 0 ≤ ho) (h2 : ho < 36) (h3 : zcan (K ho.toNat)) : ∀ n, (∀ m, m < n → (t m).toNat < 4) → (∀ m, m ≤ n → 0 ≤ zPos K ho t m) → ((zWs K br ho t n).1 : Int) = zPos K ho t n
  | 0, _, _ => by show ((ho.toNat : Nat) : Int) = ho; omega
  | n + 1, h, h4 => by
    have ih := zWs_pos (br := br) h1 h2 h3 n (fun m hm => h m (by omega)) (fun m hm => h4 m (by omega))
    have ok := zWs_ok (br := br) h1 h2 h3 n (fun m hm => h m (by omega))
    have p := h4 (n + 1) (Nat.le_refl _)
    have q := h4 n (by omega)
    rw [zPos_s K ho t n (by omega), ← ih, Int.toNat_natCast] at p ⊢
    exact zGo_pos ok.1 p
/-- the class's values at a state -/
def zVal (x : ZS) (co cu wd c lr run q : Int) (sp : Nat → Int) : Prop := q = (x.1 : Int) ∧ c = (x.2.1 : Int) ∧ co = x.2.2.1 ∧ cu = x.2.2.2.1 ∧ wd = x.2.2.2.2.1 ∧ lr = x.2.2.2.2.2.1 ∧ run = x.2.2.2.2.2.2.1 ∧ ∀ i, i < 36 → sp i = x.2.2.2.2.2.2.2 i
theorem e_goV {K : Nat → Int} (hK : zK K) {x : ZS} {n w : Nat} {co cu wd c lr run q br : Int} {sp : Nat → Int} (hv : zVal x co cu wd c lr run q sp) (hx : zOK K n x) (hn : n < 1000) (hw : w < 4) (h5 : 1 ≤ br) (h6 : br ≤ 9) : ev (g_Stroll_go co cu wd c lr run q sp br K (w : Int)) (fun r => (r.1 = 0 ∧ zN K x.1 w = -1 ∨ r.1 = 1 ∧ 0 ≤ zN K x.1 w) ∧ zVal (zGo K br w x) r.2.1 r.2.2.1 r.2.2.2.1 r.2.2.2.2.1 r.2.2.2.2.2.1 r.2.2.2.2.2.2.1 r.2.2.2.2.2.2.2.1 r.2.2.2.2.2.2.2.2) := by
  obtain ⟨v1, v2, v3, v4, v5, v6, v7, v8⟩ := hv
  obtain ⟨o1, o2, o3, o4, o5, o6, o7⟩ := hx
  have r := zN_rng (K := K) (w := w) o1
  subst v1 v2 v3 v4 v5 v6 v7
  refine ev_eq (e_go hK o1 o3 hw _ _ _ sp o6 (by omega) o4 (by omega) h5 h6) ?_
  unfold zGo
  by_cases e : zN K x.1 w = -1
  · rw [if_pos e, if_pos e]
    exact ⟨Or.inl ⟨rfl, e⟩, rfl, rfl, rfl, rfl, rfl, rfl, rfl, v8⟩
  · rw [if_neg e, if_neg e]
    by_cases c : zCn K x.1 x.2.1 w
    · rw [if_pos c, if_pos c]
      exact ⟨Or.inr ⟨rfl, by omega⟩, show zN K x.1 w = (((zN K x.1 w).toNat : Nat) : Int) by omega, rfl, rfl, rfl, rfl, rfl, rfl, v8⟩
    · rw [if_neg c, if_neg c]
      refine ⟨Or.inr ⟨rfl, by omega⟩, show zN K x.1 w = (((zN K x.1 w).toNat : Nat) : Int) by omega, rfl, rfl, rfl, rfl, rfl, rfl, fun i hi => ?_⟩
      show updI sp x.1 (sp x.1 + 1) i = updI x.2.2.2.2.2.2.2 x.1 (x.2.2.2.2.2.2.2 x.1 + 1) i
      rw [v8 x.1 o1]
      by_cases ei : i = x.1
      · rw [ei, updI_at, updI_at]
      · rw [updI_ne _ _ ei, updI_ne _ _ ei]; exact v8 i hi
/-- what is known when a walk has ended -/
def zFin (K : Nat → Int) (br : Int) (x : ZS) (co cu wd lr q : Int) (sp : Nat → Int) : Prop := q = (x.1 : Int) ∧ co = x.2.2.1 ∧ cu = x.2.2.2.1 + zCt br (x.2.2.2.2.2.2.1 + zwd (K x.1)) ∧ wd = x.2.2.2.2.1 + zwd (K x.1) ∧ lr = max x.2.2.2.2.2.1 (x.2.2.2.2.2.2.1 + zwd (K x.1)) ∧ ∀ i, i < 36 → sp i = updI x.2.2.2.2.2.2.2 x.1 (x.2.2.2.2.2.2.2 x.1 + 1) i
theorem e_endV {K : Nat → Int} (hK : zK K) {x : ZS} {n : Nat} {co cu wd c lr run q br : Int} {sp : Nat → Int} (hv : zVal x co cu wd c lr run q sp) (hx : zOK K n x) (hn : n < 400) (h5 : 1 ≤ br) (h6 : br ≤ 9) : ev (g_Stroll_end cu wd lr run q sp br K) (fun r => zFin K br x co r.1 r.2.1 r.2.2.1 q r.2.2.2.2) := by
  obtain ⟨v1, v2, v3, v4, v5, v6, v7, v8⟩ := hv
  obtain ⟨o1, o2, o3, o4, o5, o6, o7⟩ := hx
  subst v1 v2 v3 v4 v5 v6 v7
  refine ev_eq (e_end hK o1 _ _ sp o6 (by omega) o4 (by omega) h5 h6) ⟨rfl, rfl, rfl, rfl, rfl, fun i hi => ?_⟩
  show updI sp x.1 (sp x.1 + 1) i = updI x.2.2.2.2.2.2.2 x.1 (x.2.2.2.2.2.2.2 x.1 + 1) i
  rw [v8 x.1 o1]
  by_cases ei : i = x.1
  · rw [ei, updI_at, updI_at]
  · rw [updI_ne _ _ ei, updI_ne _ _ ei]; exact v8 i hi
theorem e_goTheRow {K s : Nat → Int} {ho fi br n : Int} {a b : Nat → Int} (a1 a2 a3 a4 a5 a6 a7 : Int) (sp0 : Nat → Int) (hT : iTown K s ho fi br) (h : iRow n 20 a b 0 9) (hw : zWays a n) : ev (g_X_goTheRow n a1 a2 a3 a4 a5 a6 a7 sp0 a br ho K) (fun r => ∃ m : Nat, (m : Int) ≤ n ∧ zStop K ho a n r.1 ∧ (r.1 = -9 → (m : Int) = n) ∧ (r.1 ≠ -9 → r.1 = m) ∧ zFin K br (zWs K br ho a m) r.2.1 r.2.2.1 r.2.2.2.1 r.2.2.2.2.2.1 r.2.2.2.2.2.2.2.1 r.2.2.2.2.2.2.2.2) := by
  obtain ⟨hK, hs, h36, h37, h38, q1, q2, q3, q4, q5, q6, q7⟩ := hT
  obtain ⟨h1, h2, h3⟩ := h
  have wl : ∀ m : Nat, (m : Int) < n → (a m).toNat < 4 := fun m hm => by have := hw m hm; have := h3 m hm; omega
  unfold g_X_goTheRow
  refine ev_b8 (e_begin a1 a2 a3 a4 a5 a6 a7 sp0 ho) (fun co cu wd c lr run q sp hb => ev_i9 ?_)
  have v0 : zVal (zWs K br ho a 0) co cu wd c lr run q sp := ⟨by have := hb.2.2.2.2.2.2.1; show q = ((ho.toNat : Nat) : Int); have : q = ho := this; omega, hb.2.2.2.1, hb.1, hb.2.1, hb.2.2.1, hb.2.2.2.2.1, hb.2.2.2.2.2.1, hb.2.2.2.2.2.2.2⟩
  refine ev_l10 (fun m (l1 l2 : Int) co cu wd c lr run q sp => ∃ i : Nat, (i : Int) ≤ n ∧ zVal (zWs K br ho a i) co cu wd c lr run q sp ∧ (∀ j : Nat, j ≤ i → 0 ≤ zPos K ho a j) ∧ ((l1 = -9 ∧ l2 = i ∧ m + i = 30) ∨ (l1 = i ∧ l2 = i + 1 ∧ (i : Int) < n ∧ zPos K ho a (i + 1) < 0 ∧ m = 0))) ?_ (m := 30) (zF_gt (by decide)) ⟨0, h1, v0, fun j hj => by
    have : j = 0 := by omega
    subst this
    exact q1, Or.inl ⟨rfl, rfl, rfl⟩⟩
  intro m l1 l2 co cu wd c lr run q sp ag hI hag
  obtain ⟨i, i1, i2, i3, i4⟩ := hI
  have ok := zWs_ok (br := br) (t := a) q1 q2 q3 i (fun m hm => wl m (by omega))
  have leave : ∀ l1 : Int, zStop K ho a n l1 → (l1 = -9 → (i : Int) = n) → (l1 ≠ -9 → l1 = i) → ev (zb5 (g_Stroll_end cu wd lr run q sp br K) fun (x1 : Int) (x2 : Int) (x3 : Int) (x4 : Int) (x5 : Nat → Int) => some (l1, co, x1, x2, c, x3, x4, q, x5)) (fun r => ∃ m : Nat, (m : Int) ≤ n ∧ zStop K ho a n r.1 ∧ (r.1 = -9 → (m : Int) = n) ∧ (r.1 ≠ -9 → r.1 = m) ∧ zFin K br (zWs K br ho a m) r.2.1 r.2.2.1 r.2.2.2.1 r.2.2.2.2.2.1 r.2.2.2.2.2.2.2.1 r.2.2.2.2.2.2.2.2) := fun l1 s1 s2 s3 =>
    ev_b5 (e_endV hK i2 ok (by omega) q6 q7) (fun x1 x2 x3 x4 x5 hx => ev_some ⟨i, i1, s1, s2, s3, hx⟩)
  have st : l1 = -9 ∨ 0 ≤ l1 ∧ l1 < 20 := by omega
  refine ev_g (by omega) (ev_g (by omega) (ev_if (fun h9 => ?_) (fun h9 => ev_g (by omega) (ev_if (fun h8 => ?_) (fun h8 => ?_)))))
  · rcases i4 with ⟨x1, x2, x3⟩ | ⟨x1, x2, x3, x4, x5⟩
    · exact leave l1 (Or.inl ⟨x1, fun m hm => i3 m (by omega)⟩) (fun _ => by omega) (fun x => absurd x1 x)
    · exact leave l1 (Or.inr ⟨i, x1, x3, i3 i (Nat.le_refl i), x4⟩) (fun x => by omega) (fun _ => x1)
  · obtain ⟨x1, x2, x3⟩ := i4.resolve_right (fun x => by omega)
    have hl : i < 20 := by omega
    have hh := h3 i (by omega)
    have h4 := hw i (by omega)
    obtain ⟨w, ew⟩ := Int.eq_ofNat_of_zero_le hh.2.1
    have hw4 : w < 4 := by omega
    have ps := zWs_pos (br := br) (t := a) q1 q2 q3 i (fun m hm => wl m (by omega)) i3
    have p0 := i3 i (Nat.le_refl i)
    have nx := zPos_s K ho a i (by omega)
    rw [← ps, Int.toNat_natCast, ew, Int.toNat_natCast] at nx
    rw [x2]
    refine ev_c1 (e_atN (by decide) hl) ?_
    rw [ew]
    refine ev_b9 (e_goV hK i2 ok (by omega) hw4 q6 q7) (fun r c1 c2 c3 c4 c5 c6 c7 c8 hr => ev_i1 ?_)
    obtain ⟨r1, r2⟩ := hr
    have wv : zWs K br ho a (i + 1) = zGo K br w (zWs K br ho a i) := by show zGo K br (a i).toNat _ = _; rw [ew, Int.toNat_natCast]
    rcases r1 with ⟨r1, r3⟩ | ⟨r1, r3⟩
    · have r1 : r = 0 := r1
      have same : zGo K br w (zWs K br ho a i) = zWs K br ho a i := by unfold zGo; rw [if_pos r3]
      rw [same] at r2
      exact ev_g (by omega) (ev_t r1 (ev_n (hag 0 _ _ _ _ _ _ _ _ _ _ (by omega) ⟨i, i1, r2, i3, Or.inr ⟨rfl, rfl, by omega, by omega, rfl⟩⟩)))
    · have r1 : r = 1 := r1
      refine ev_g (by omega) (ev_f (by omega) (ev_n (hag (m - 1) _ _ _ _ _ _ _ _ _ _ (by omega) ⟨i + 1, by omega, by rw [wv]; exact r2, fun j hj => ?_, Or.inl ⟨x1, by omega, by omega⟩⟩)))
      by_cases e : j = i + 1
      · subst e; omega
      · exact i3 j (by omega)
  · obtain ⟨x1, x2, x3, x4, x5⟩ := i4.resolve_left (fun x => h8 x.1)
    exact leave l1 (Or.inr ⟨i, x1, x3, i3 i (Nat.le_refl i), x4⟩) (fun x => absurd x h8) (fun _ => x1)
theorem m_judge {K s ra rb : Nat → Int} {ho fi br n : Int} {a b : Nat → Int} (a1 a2 a3 a4 a5 a6 a7 : Int) (sp0 : Nat → Int) (hT : iTown K s ho fi br) (h : iRow n 20 a b 0 9) (hr : iRef ra rb) : ev (g_X_judge n ra a1 a2 a3 a4 a5 a6 a7 sp0 a br ho K) (fun x => ev (g_M_judge n rb b s) (fun y => x.1 = y.1 ∧ x.2.1 = y.2.1 ∧ iRow x.2.1 20 a b 0 9 ∧ iRef x.2.2.1 y.2.2)) := by
  unfold g_X_judge g_M_judge
  refine ev_b1 (e_isRow h) (fun r hr1 => ?_)
  rcases hr1 with ⟨e, hw⟩ | ⟨e, hw⟩
  · refine ev_g (by omega) (ev_f (by omega) (ev_b9 (e_goTheRow a1 a2 a3 a4 a5 a6 a7 sp0 hT h hw) (fun r c1 c2 c3 c4 c5 c6 c7 c8 hg => ev_some ?_)))
    obtain ⟨m, g1, g2, _⟩ := hg
    refine ev_b1 (e_M_areWays h) (fun r2 hr2 => ?_)
    have e2 : r2 = 1 := by
      rcases hr2 with x | x
      · exact x.1
      · exact absurd hw x.2
    refine ev_g (by omega) (ev_f (by omega) (ev_b1 (e_M_firstWrong hT h hw) (fun r3 h3 => ev_some ⟨zStop_one g2 h3, rfl, ⟨show (0 : Int) ≤ 0 by decide, show (0 : Int) ≤ 20 by decide, fun i hi => absurd hi (by show ¬ (i : Int) < 0; omega)⟩, hr⟩)))
  · refine ev_g (by omega) (ev_t e (ev_c2 (er_3 _) (ev_some ?_)))
    refine ev_b1 (e_M_areWays h) (fun r2 hr2 => ?_)
    have e2 : r2 = 0 := by
      rcases hr2 with x | x
      · exact absurd x.2 hw
      · exact x.1
    exact ev_g (by omega) (ev_t e2 (ev_c2 (en_3 _) (ev_some ⟨rfl, rfl, h, iRef_up hr _ (by decide)⟩)))
