-- own text: letters and statements
def zKc (c : Int) : Int := if c = 115 then 0 else if c = 119 then 1 else if c = 99 then 2 else if c = 110 then 3 else if c = 116 then 4 else if c = 109 then 5 else -1
theorem zKc_rng (c : Int) : -1 ≤ zKc c ∧ zKc c < 6 := by unfold zKc; repeat' split <;> omega
theorem e_ix : ∀ c, c < 256 → g_String_indexOf_0 5 ((c : Nat) : Int) = some (zKc ((c : Nat) : Int)) := by decide +kernel
theorem e_kindM {c : Int} (h : zr c) : g_M_kindOf c = some (if 0 ≤ zKc c then zKc c else -9) := by
  refine ev_is ?_
  unfold g_M_kindOf zKc
  refine ev_g h ?_
  refine ev_if (fun c1 => ev_some ?_) (fun c1 => ev_if (fun c2 => ev_some ?_) (fun c2 => ev_if (fun c3 => ev_some ?_) (fun c3 => ev_if (fun c4 => ev_some ?_) (fun c4 => ev_if (fun c5 => ev_some ?_) (fun c5 => ev_if (fun c6 => ev_some ?_) (fun c6 => ev_some ?_))))))
  · subst c1; decide
  · subst c2; decide
  · subst c3; decide
  · subst c4; decide
  · subst c5; decide
  · subst c6; decide
  · rw [if_neg c4, if_neg c6, if_neg c1, if_neg c3, if_neg c5, if_neg c2]; decide
def zFm (c : Int) : Nat := if c = 98 ∨ c = 102 then 3 else if c = 104 then 2 else if c = 107 then 0 else if c = 118 then 1 else 4
theorem zFm_le (c : Int) : zFm c ≤ 4 := by
  unfold zFm
  split
  · omega
  · split
    · omega
    · split
      · omega
      · split
        · omega
        · omega
theorem e_form {c : Int} (h : zr c) : g_Letters_formOf c = some (zFm c) := by
  refine ev_is ?_
  unfold g_Letters_formOf zFm
  refine ev_g h (ev_if (fun c1 => ev_some ?_) (fun c1 => ev_if (fun c2 => ev_some ?_) (fun c2 => ev_if (fun c3 => ev_some ?_) (fun c3 => ev_if (fun c4 => ev_some ?_) (fun c4 => ev_if (fun c5 => ev_some ?_) (fun c5 => ev_some ?_))))))
  · rw [if_pos (Or.inl c1)]
  · rw [if_pos (Or.inr c2)]
  · subst c3; decide
  · subst c4; decide
  · subst c5; decide
  · rw [if_neg (by omega), if_neg c3, if_neg c4, if_neg c5]
def zFl : List (List Int) := [[75, 68, 68, 59], [75, 68, 68, 68, 68, 59], [68, 68, 59], [68, 59]]
def zFc (F i : Nat) : Int := (zFl.getD F []).getD i 0
theorem e_len : ∀ F, F < 6 → g_String_length F = some ((zSL F : Nat) : Int) := by decide +kernel
theorem e_emp : ∀ F, F < 6 → g_String_isEmpty F = some (if zSL F = 0 then 1 else 0) := by decide +kernel
theorem e_chr : ∀ F, F < 4 → ∀ i, i < zSL F → g_String_charAt F ((i : Nat) : Int) = some (zFc F i) := by decide +kernel
theorem zSL_pos : ∀ F, F < 4 → 2 ≤ zSL F ∧ zSL F ≤ 6 := by decide +kernel
theorem zFc_end : ∀ F, F < 4 → zFc F (zSL F - 1) = 59 := by decide +kernel
theorem zFc_rng : ∀ F, F < 4 → ∀ i, i < zSL F → 0 ≤ zFc F i ∧ zFc F i < 256 := by decide +kernel
abbrev zFit (d c : Int) : Prop := (d = 75 ∧ 0 ≤ zKc c) ∨ (d = 68 ∧ 48 ≤ c ∧ c ≤ 57) ∨ (d ≠ 75 ∧ d ≠ 68 ∧ c = d)
theorem zFit_D {c : Int} : zFit 68 c ↔ (48 ≤ c ∧ c ≤ 57) := by unfold zFit; omega
theorem zFit_K {c : Int} : zFit 75 c ↔ 0 ≤ zKc c := by unfold zFit; omega
theorem zFit_S {c : Int} : zFit 59 c ↔ c = 59 := by unfold zFit; omega
theorem e_fits {d c : Int} (hd : zr d) (h0 : 0 ≤ c) (h1 : c < 256) : g_Letters_fits d c = some (if zFit d c then 1 else 0) := by
  refine ev_is ?_
  unfold g_Letters_fits
  obtain ⟨m, rfl⟩ := Int.eq_ofNat_of_zero_le h0
  have k := zKc_rng (m : Int)
  refine ev_g hd (ev_if (fun c1 => ?_) (fun c1 => ev_if (fun c2 => ?_) (fun c2 => ?_)))
  · refine ev_g (by decide) (ev_g (by omega) ?_)
    rw [show (m : Int) % 65536 = (m : Int) by omega]
    refine ev_c1 (e_ix m (by omega)) (ev_g (by omega) (ev_if (fun c3 => ev_some ?_) (fun c3 => ev_some ?_)))
    · rw [if_neg (by unfold zFit; omega)]
    · rw [if_pos (Or.inl ⟨c1, by omega⟩)]
  · refine ev_g (by omega) (ev_if (fun c3 => ev_some ?_) (fun c3 => ev_if (fun c4 => ev_some ?_) (fun c4 => ev_some ?_)))
    · rw [if_neg (by unfold zFit; omega)]
    · rw [if_neg (by unfold zFit; omega)]
    · rw [if_pos (Or.inr (Or.inl ⟨c2, by omega, by omega⟩))]
  · refine ev_g (by omega) (ev_if (fun c3 => ev_some ?_) (fun c3 => ev_some ?_))
    · rw [if_pos (Or.inr (Or.inr ⟨c1, c2, c3⟩))]
    · rw [if_neg (by unfold zFit; omega)]
abbrev zGd (a : Nat → Int) (n p F i : Nat) : Prop := p + 1 + i < n ∧ zFit (zFc F i) (a (p + 1 + i))
def zPs (a : Nat → Int) (n p : Nat) (r : Int) (q : Nat) : Prop := (r = 0 ∧ zFm (a p) = 4 ∧ q = p) ∨ (r = 0 ∧ zFm (a p) ≠ 4 ∧ ∃ i, i < zSL (zFm (a p)) ∧ q = p + 1 + i ∧ (∀ j, j < i → zGd a n p (zFm (a p)) j) ∧ ¬ zGd a n p (zFm (a p)) i) ∨ (r = 1 ∧ zFm (a p) ≠ 4 ∧ q = p + 1 + zSL (zFm (a p)) ∧ ∀ j, j < zSL (zFm (a p)) → zGd a n p (zFm (a p)) j)
theorem zPs_u {a : Nat → Int} {n p : Nat} {r r' : Int} {q q' : Nat} (h : zPs a n p r q) (h' : zPs a n p r' q') : r = r' ∧ q = q' := by
  unfold zPs at h h'
  generalize zFm (a p) = F at h h'
  rcases h with ⟨a1, a2, a3⟩ | ⟨a1, a2, i, a3, a4, a5, a6⟩ | ⟨a1, a2, a3, a4⟩
  · rcases h' with ⟨b1, b2, b3⟩ | ⟨b1, b2, i', b3, b4, b5, b6⟩ | ⟨b1, b2, b3, b4⟩
    · omega
    · exact absurd a2 b2
    · exact absurd a2 b2
  · rcases h' with ⟨b1, b2, b3⟩ | ⟨b1, b2, i', b3, b4, b5, b6⟩ | ⟨b1, b2, b3, b4⟩
    · exact absurd b2 a2
    · rcases Nat.lt_trichotomy i i' with c | c | c
      · exact absurd (b5 i c) a6
      · omega
      · exact absurd (a5 i' c) b6
    · exact absurd (b4 i a3) a6
  · rcases h' with ⟨b1, b2, b3⟩ | ⟨b1, b2, i', b3, b4, b5, b6⟩ | ⟨b1, b2, b3, b4⟩
    · exact absurd b2 a2
    · exact absurd (a4 i' b3) b6
    · omega
theorem zPs_1 {a : Nat → Int} {n p q : Nat} (h : zPs a n p 1 q) : zFm (a p) < 4 ∧ q = p + 1 + zSL (zFm (a p)) ∧ (∀ j, j < zSL (zFm (a p)) → zGd a n p (zFm (a p)) j) ∧ q ≤ n := by
  rcases h with ⟨a1, _⟩ | ⟨a1, _⟩ | ⟨a1, a2, a3, a4⟩
  · omega
  · omega
  · have l := zFm_le (a p)
    have F4 : zFm (a p) < 4 := by omega
    have sp := zSL_pos _ F4
    have := (a4 (zSL (zFm (a p)) - 1) (by omega)).1
    exact ⟨F4, a3, a4, by omega⟩
def zCh (a : Nat → Int) (n : Nat) : Nat → Nat → Prop
  | 0, p => p = 0
  | k + 1, q => ∃ p, zCh a n k p ∧ p < n ∧ zPs a n p 1 q
theorem zCh_u {a : Nat → Int} {n : Nat} : ∀ {k p p'}, zCh a n k p → zCh a n k p' → p = p'
  | 0, p, p', h, h' => h.trans h'.symm
  | k + 1, p, p', ⟨x, h1, h2, h3⟩, ⟨y, g1, g2, g3⟩ => by
    have e := zCh_u h1 g1
    subst e
    exact (zPs_u h3 g3).2
theorem zCh_pre {a : Nat → Int} {n k : Nat} : ∀ {k' p'}, zCh a n k' p' → k < k' → ∃ p q, zCh a n k p ∧ p < n ∧ zPs a n p 1 q ∧ p < p'
  | 0, _, _, l => absurd l (Nat.not_lt_zero k)
  | k' + 1, p', ⟨x, h1, h2, h3⟩, l => by
    have e := (zPs_1 h3).2.1
    by_cases c : k = k'
    · subst c
      exact ⟨x, p', h1, h2, h3, by omega⟩
    · obtain ⟨p, q, g1, g2, g3, g4⟩ := zCh_pre (k := k) h1 (by omega)
      exact ⟨p, q, g1, g2, g3, by omega⟩
theorem zCh_le {a : Nat → Int} {n : Nat} : ∀ {k p}, zCh a n k p → p ≤ n
  | 0, p, h => by have h : p = 0 := h; omega
  | k + 1, p, ⟨x, h1, h2, h3⟩ => (zPs_1 h3).2.2.2
theorem zCh_k {a : Nat → Int} {n k k' p : Nat} (h : zCh a n k p) (h' : zCh a n k' p) : k = k' := by
  rcases Nat.lt_trichotomy k k' with c | c | c
  · obtain ⟨x, q, g1, g2, g3, g4⟩ := zCh_pre h' c
    have := zCh_u g1 h
    omega
  · exact c
  · obtain ⟨x, q, g1, g2, g3, g4⟩ := zCh_pre h c
    have := zCh_u g1 h'
    omega
theorem zCh_no {a : Nat → Int} {n k p q N : Nat} (h : zCh a n k p) (hp : p < n) (hq : zPs a n p 0 q) (hN : zCh a n N n) : False := by
  rcases Nat.lt_trichotomy k N with c | c | c
  · obtain ⟨x, y, g1, g2, g3, g4⟩ := zCh_pre hN c
    have e := zCh_u g1 h
    subst e
    have := (zPs_u g3 hq).1
    omega
  · subst c
    have := zCh_u h hN
    omega
  · obtain ⟨x, y, g1, g2, g3, g4⟩ := zCh_pre h c
    have := zCh_u g1 hN
    omega
theorem zCh_wr {a : Nat → Int} {n k p q k' p' q' : Nat} (h : zCh a n k p) (hp : p < n) (hq : zPs a n p 0 q) (h' : zCh a n k' p') (hp' : p' < n) (hq' : zPs a n p' 0 q') : q = q' := by
  rcases Nat.lt_trichotomy k k' with c | c | c
  · obtain ⟨x, y, g1, g2, g3, g4⟩ := zCh_pre h' c
    have e := zCh_u g1 h
    subst e
    have := (zPs_u g3 hq).1
    omega
  · subst c
    have e := zCh_u h h'
    subst e
    exact (zPs_u hq hq').2
  · obtain ⟨x, y, g1, g2, g3, g4⟩ := zCh_pre h c
    have e := zCh_u g1 h'
    subst e
    have := (zPs_u g3 hq').1
    omega
theorem e_first {a : Nat → Int} {n : Nat} (hn : n ≤ 96) (ha : ∀ i, i < n → 0 ≤ a i ∧ a i ≤ 255) : ev (g_Letters_firstWrongLetter (n : Int) a) (fun r => (n = 0 ∧ r = 0) ∨ (0 < n ∧ r = -1 ∧ ∃ k, zCh a n k n) ∨ (∃ k p q : Nat, zCh a n k p ∧ p < n ∧ zPs a n p 0 q ∧ r = (q : Int) ∧ q ≤ n)) := by
  unfold g_Letters_firstWrongLetter
  refine ev_j1 (fun _ => ∃ k, zCh a n k n) (fun _ h => ev_g (by omega) (ev_if (fun c => ev_some (Or.inl ⟨by omega, rfl⟩)) (fun c => ev_some (Or.inr (Or.inl ⟨by omega, rfl, h⟩))))) (fun k2 hk => ?_)
  refine ev_l1 (fun μ l => ∃ k p : Nat, l = (p : Int) ∧ zCh a n k p ∧ μ = n - p) (fun μ l ag hI hag => ?_) (m := n) (zF_gt (by omega)) ⟨0, 0, rfl, rfl, rfl⟩
  obtain ⟨k, p, rfl, h1, h2⟩ := hI
  have pl := zCh_le h1
  refine ev_g (by omega) (ev_g (by omega) (ev_if (fun c => hk () ⟨k, ?_⟩) (fun c => ?_)))
  · rw [show n = p by omega] at h1 ⊢
    exact h1
  have hp : p < n := by omega
  have ap := ha p hp
  refine ev_c1 (e_atN (by decide) (by omega)) (ev_c1 (e_form (by omega)) ?_)
  have F4 := zFm_le (a p)
  refine ev_g (by omega) (ev_c1 (e_emp _ (by omega)) ?_)
  by_cases cF : zFm (a p) = 4
  · have e0 : zSL (zFm (a p)) = 0 := by rw [cF]; rfl
    rw [if_pos e0]
    exact ev_g (by decide) (ev_f (by decide) (ev_some (Or.inr (Or.inr ⟨k, p, p, h1, hp, Or.inl ⟨rfl, cF, rfl⟩, rfl, by omega⟩))))
  have F3 : zFm (a p) < 4 := by omega
  have sp := zSL_pos _ F3
  have e0 : ¬ zSL (zFm (a p)) = 0 := by omega
  rw [if_neg e0]
  refine ev_g (by decide) (ev_t rfl (ev_n (ev_i1 ?_)))
  refine ev_f2_2 (zSL (zFm (a p))) (by omega) (fun i v => v = ((p + 1 + i : Nat) : Int) ∧ ∀ j, j < i → zGd a n p (zFm (a p)) j) (fun i v ag2 hi hQ hag2 => ?_) ⟨by omega, fun j hj => absurd hj (Nat.not_lt_zero j)⟩
  obtain ⟨rfl, q2⟩ := hQ
  refine ev_c1 (e_len _ (by omega)) (ev_g (by omega) (ev_g (by omega) (ev_if (fun c2 => ?_) (fun c2 => ?_))))
  · have ei : i = zSL (zFm (a p)) := by omega
    have ps : zPs a n p 1 (p + 1 + i) := Or.inr (Or.inr ⟨rfl, cF, by omega, fun j hj => q2 j (by omega)⟩)
    exact hag (n - (p + 1 + i)) _ (by omega) ⟨k + 1, p + 1 + i, rfl, ⟨p, h1, hp, ps⟩, rfl⟩
  have il : i < zSL (zFm (a p)) := by omega
  have ql : p + 1 + i ≤ n := by
    rcases Nat.eq_zero_or_pos i with z | z
    · omega
    · have := (q2 (i - 1) (by omega)).1; omega
  refine ev_g (by omega) (ev_if (fun c3 => ev_some (Or.inr (Or.inr ⟨k, p, p + 1 + i, h1, hp, Or.inr (Or.inl ⟨rfl, cF, i, il, rfl, q2, fun x => by have := x.1; omega⟩), rfl, ql⟩))) (fun c3 => ?_))
  have al := ha (p + 1 + i) (by omega)
  have fr := zFc_rng _ F3 i il
  refine ev_c1 (e_chr _ F3 i il) (ev_c1 (e_atN (by decide) (by omega)) (ev_c1 (e_fits (by omega) al.1 (by omega)) ?_))
  by_cases cf : zFit (zFc (zFm (a p)) i) (a (p + 1 + i))
  · rw [if_pos cf]
    refine ev_g (by decide) (ev_f (by decide) (ev_n (ev_n (hag2 _ il ⟨by omega, fun j hj => ?_⟩))))
    by_cases e : j = i
    · subst e; exact ⟨by omega, cf⟩
    · exact q2 j (by omega)
  · rw [if_neg cf]
    exact ev_g (by decide) (ev_t rfl (ev_some (Or.inr (Or.inr ⟨k, p, p + 1 + i, h1, hp, Or.inr (Or.inl ⟨rfl, cF, i, il, rfl, q2, fun x => cf x.2⟩), rfl, ql⟩))))
