-- own text: the reference reads a statement
abbrev zDg (a : Nat → Int) (n i : Nat) : Prop := i < n ∧ 48 ≤ a i ∧ a i ≤ 57
def zVa (a : Nat → Int) (x : Nat) : Nat → Int
  | 0 => 0
  | k + 1 => 10 * zVa a x k + a (x + k) - 48
theorem e_here {a b : Nat → Int} {n : Nat} (hn : n ≤ 96) (hab : ∀ i, i < n → b i = a i) (x : Nat) (hx : x ≤ 1000) : g_M_here (n : Int) (x : Int) b = some (if x < n then a x else -1) := by
  refine ev_is ?_
  unfold g_M_here
  refine ev_g (by omega) (ev_g (by omega) (ev_if (fun c => ev_some ?_) (fun c => ev_g (by omega) (ev_some ?_))))
  · rw [if_neg (by omega)]
  · rw [if_pos (by omega), Int.toNat_natCast, hab x (by omega)]
theorem e_num {a b : Nat → Int} {n : Nat} (hn : n ≤ 96) (hab : ∀ i, i < n → b i = a i) (ha : ∀ i, i < n → 0 ≤ a i ∧ a i ≤ 255) (nu : Nat → Int) {x idx cn : Nat} (hx : x ≤ 900) (hi : idx < 3) (hc : cn ≤ 2) : ev (g_M_readsNumber (n : Int) (x : Int) b nu (idx : Int) (cn : Int)) (fun r => (r.1 = 1 ∧ r.2.1 = ((x + cn : Nat) : Int) ∧ (∀ j, j < cn → zDg a n (x + j)) ∧ r.2.2 idx = zVa a x cn ∧ ∀ u, u ≠ idx → r.2.2 u = nu u) ∨ (r.1 = 0 ∧ ∃ j, j < cn ∧ r.2.1 = ((x + j : Nat) : Int) ∧ (∀ j', j' < j → zDg a n (x + j')) ∧ ¬ zDg a n (x + j))) := by
  unfold g_M_readsNumber
  refine ev_g (by omega) (ev_n ?_)
  rw [Int.toNat_natCast]
  refine ev_f3_1 cn (by omega) (fun i pl nu2 => pl = ((x + i : Nat) : Int) ∧ (∀ j, j < i → zDg a n (x + j)) ∧ nu2 idx = zVa a x i ∧ ∀ u, u ≠ idx → nu2 u = nu u) (fun i pl nu2 ag hi2 hQ hag => ?_) ⟨rfl, fun j hj => absurd hj (Nat.not_lt_zero j), updI_at _ _ _, fun u hu => updI_ne _ _ hu⟩
  obtain ⟨rfl, q2, q3, q4⟩ := hQ
  refine ev_g (by omega) (ev_g (by omega) (ev_if (fun c => ev_some (Or.inl ?_)) (fun c => ?_)))
  · have e : i = cn := by omega
    subst e
    exact ⟨rfl, rfl, q2, q3, q4⟩
  have il : i < cn := by omega
  have he := e_here hn hab (x + i) (by omega)
  have hz : zr (if x + i < n then a (x + i) else -1) := by
    by_cases l : x + i < n
    · rw [if_pos l]; have := ha _ l; omega
    · rw [if_neg l]; decide
  refine ev_c1 he (ev_c1 (e_M_isIn hz (by decide) (by decide)) ?_)
  by_cases cd : zDg a n (x + i)
  · have t : (48 : Int) ≤ (if x + i < n then a (x + i) else -1) ∧ (if x + i < n then a (x + i) else -1) ≤ 57 := by
      rw [if_pos cd.1]; exact cd.2
    rw [if_pos t]
    refine ev_g (by decide) (ev_f (by decide) (ev_c1 he (ev_n (ev_n (ev_n (ev_n (hag _ _ il ⟨by omega, fun j hj => ?_, ?_, fun u hu => ?_⟩)))))))
    · by_cases e : j = i
      · subst e; exact cd
      · exact q2 j (by omega)
    · rw [updI_at, if_pos cd.1, q3]
      rfl
    · rw [updI_ne _ _ hu]; exact q4 u hu
  · have t : ¬ ((48 : Int) ≤ (if x + i < n then a (x + i) else -1) ∧ (if x + i < n then a (x + i) else -1) ≤ 57) := fun y => by
      by_cases l : x + i < n
      · rw [if_pos l] at y; exact cd ⟨l, y⟩
      · rw [if_neg l] at y; omega
    rw [if_neg t]
    exact ev_g (by decide) (ev_t rfl (ev_some (Or.inr ⟨rfl, i, il, rfl, q2, cd⟩)))
theorem e_kind {a b : Nat → Int} {n : Nat} (hn : n ≤ 96) (hab : ∀ i, i < n → b i = a i) (ha : ∀ i, i < n → 0 ≤ a i ∧ a i ≤ 255) (nu : Nat → Int) {x : Nat} (hx : x ≤ 900) : ev (g_M_readsKind (n : Int) (x : Int) b nu) (fun r => (r.1 = 1 ∧ r.2.1 = ((x + 1 : Nat) : Int) ∧ x < n ∧ 0 ≤ zKc (a x) ∧ r.2.2 0 = zKc (a x)) ∨ (r.1 = 0 ∧ r.2.1 = (x : Int) ∧ ¬ (x < n ∧ 0 ≤ zKc (a x)))) := by
  unfold g_M_readsKind
  have hz : zr (if x < n then a x else -1) := by
    by_cases l : x < n
    · rw [if_pos l]; have := ha _ l; omega
    · rw [if_neg l]; decide
  refine ev_c1 (e_here hn hab x (by omega)) (ev_c1 (e_kindM hz) ?_)
  refine ev_g (by decide) (ev_n ?_)
  have kr := zKc_rng (a x)
  by_cases cd : x < n ∧ 0 ≤ zKc (a x)
  · rw [if_pos cd.1, if_pos cd.2]
    have e : updI nu (0 : Int).toNat (zKc (a x)) (0 : Int).toNat = zKc (a x) := updI_at _ _ _
    refine ev_i1 ?_
    rw [e]
    refine ev_g (by omega) (ev_t cd.2 (ev_n (ev_g (by omega) (ev_f (by omega) (ev_some (Or.inl ⟨rfl, by show (x : Int) + 1 = _; omega, cd.1, cd.2, e⟩))))))
  · have t : (if 0 ≤ zKc (if x < n then a x else -1) then zKc (if x < n then a x else -1) else -9) = -9 := by
      by_cases l : x < n
      · rw [if_pos l, if_neg (fun y => cd ⟨l, y⟩)]
      · rw [if_neg l]; decide
    rw [t]
    have e : updI nu (0 : Int).toNat (-9) (0 : Int).toNat = -9 := updI_at _ _ _
    refine ev_i1 ?_
    rw [e]
    refine ev_g (by decide) (ev_f (by decide) (ev_n (ev_g (by decide) (ev_t (by decide) (ev_some (Or.inr ⟨rfl, by show (x : Int) + 0 = _; omega, cd⟩))))))
def zNb (a : Nat → Int) (p : Nat) (nu : Nat → Int) : Prop := (a p = 98 ∨ a p = 102 → nu 0 = zVa a (p + 1) 1) ∧ (a p = 104 → nu 0 = zVa a (p + 1) 2) ∧ (a p = 107 → nu 0 = zKc (a (p + 1)) ∧ nu 1 = zVa a (p + 2) 2) ∧ (a p = 118 → nu 0 = zKc (a (p + 1)) ∧ nu 1 = zVa a (p + 2) 2 ∧ nu 2 = zVa a (p + 4) 2)
theorem zFc_3 : zFc 3 0 = 68 := rfl
theorem zFc_2 : ∀ i, i < 2 → zFc 2 i = 68 := by decide
theorem zFc_0 : zFc 0 0 = 75 ∧ ∀ i, i < 2 → zFc 0 (1 + i) = 68 := by decide
theorem zFc_1 : zFc 1 0 = 75 ∧ ∀ i, i < 4 → zFc 1 (1 + i) = 68 := by decide
theorem zGd_D {a : Nat → Int} {n p F i x : Nat} (h : zFc F i = 68) (e : x = p + 1 + i) : zGd a n p F i ↔ zDg a n x := by
  subst e
  unfold zGd zDg
  rw [h, zFit_D]
theorem zGd_K {a : Nat → Int} {n p F i x : Nat} (h : zFc F i = 75) (e : x = p + 1 + i) : zGd a n p F i ↔ (x < n ∧ 0 ≤ zKc (a x)) := by
  subst e
  unfold zGd
  rw [h, zFit_K]
theorem e_reads {a b : Nat → Int} {n : Nat} (hn : n ≤ 96) (hab : ∀ i, i < n → b i = a i) (ha : ∀ i, i < n → 0 ≤ a i ∧ a i ≤ 255) (nu : Nat → Int) {p : Nat} (hp : p < n) : ev (g_M_readsStatement (n : Int) (p : Int) b nu) (fun r => ∃ q : Nat, r.2.1 = (q : Int) ∧ (r.1 = 0 ∨ r.1 = 1) ∧ zPs a n p r.1 q ∧ (r.1 = 1 → zNb a p r.2.2)) := by
  unfold g_M_readsStatement
  have ap := ha p hp
  refine ev_c1 (e_here hn hab p (by omega)) ?_
  rw [if_pos hp]
  refine ev_n ?_
  rw [show (p : Int) + 1 = ((p + 1 : Nat) : Int) by omega]
  have F4 := zFm_le (a p)
  by_cases cF : zFm (a p) = 4
  · have ne : a p ≠ 98 ∧ a p ≠ 102 ∧ a p ≠ 104 ∧ a p ≠ 107 ∧ a p ≠ 118 := by
      unfold zFm at cF
      refine ⟨fun x => ?_, fun x => ?_, fun x => ?_, fun x => ?_, fun x => ?_⟩
      · rw [x] at cF; exact absurd cF (by decide)
      · rw [x] at cF; exact absurd cF (by decide)
      · rw [x] at cF; exact absurd cF (by decide)
      · rw [x] at cF; exact absurd cF (by decide)
      · rw [x] at cF; exact absurd cF (by decide)
    refine ev_i3 (ev_g (by omega) (ev_f ne.1 (ev_f ne.2.1 (ev_f ne.2.2.1 (ev_f ne.2.2.2.1 (ev_f ne.2.2.2.2 (ev_n (ev_some ⟨p, ?_, Or.inl rfl, Or.inl ⟨rfl, cF, rfl⟩, fun x => absurd (show (0 : Int) = 1 from x) (by decide)⟩))))))))
    show ((p + 1 : Nat) : Int) - 1 = (p : Int)
    omega
  have F3 : zFm (a p) < 4 := by omega
  have sp := zSL_pos _ F3
  refine ev_j3 (fun l pl nu2 => (l = 0 ∧ ∃ i, i < zSL (zFm (a p)) ∧ pl = ((p + 1 + i : Nat) : Int) ∧ (∀ j, j < i → zGd a n p (zFm (a p)) j) ∧ ¬ zGd a n p (zFm (a p)) i) ∨ (l = 1 ∧ pl = ((p + 1 + (zSL (zFm (a p)) - 1) : Nat) : Int) ∧ (∀ j, j < zSL (zFm (a p)) - 1 → zGd a n p (zFm (a p)) j) ∧ zNb a p nu2)) (fun l pl nu2 h => ?_) (fun k2 hk => ?_)
  · rcases h with ⟨rfl, i, h1, rfl, h3, h4⟩ | ⟨rfl, rfl, h3, h4⟩
    · exact ev_g (by decide) (ev_t rfl (ev_some ⟨p + 1 + i, rfl, Or.inl rfl, Or.inr (Or.inl ⟨rfl, cF, i, h1, rfl, h3, h4⟩), fun x => absurd (show (0 : Int) = 1 from x) (by decide)⟩))
    · have fe := zFc_end _ F3
      generalize hL : zSL (zFm (a p)) - 1 = L at *
      have eL : zSL (zFm (a p)) = L + 1 := by omega
      refine ev_g (by decide) (ev_f (by decide) (ev_c1 (e_here hn hab (p + 1 + L) (by omega)) ?_))
      by_cases c : p + 1 + L < n
      · rw [if_pos c]
        have al := ha _ c
        refine ev_g (by omega) (ev_if (fun c2 => ev_n (ev_some ⟨p + 1 + (L + 1), by show ((p + 1 + L : Nat) : Int) + 1 = _; omega, Or.inr rfl, Or.inr (Or.inr ⟨rfl, cF, by rw [eL], fun j hj => ?_⟩), fun _ => h4⟩)) (fun c2 => ev_some ⟨p + 1 + L, rfl, Or.inl rfl, Or.inr (Or.inl ⟨rfl, cF, L, by omega, rfl, h3, fun x => ?_⟩), fun x => absurd (show (0 : Int) = 1 from x) (by decide)⟩))
        · by_cases e : j = L
          · subst e
            refine ⟨c, ?_⟩
            rw [fe, zFit_S]; exact c2
          · exact h3 j (by omega)
        · have := x.2
          rw [fe, zFit_S] at this
          exact c2 this
      · rw [if_neg c]
        exact ev_g (by decide) (ev_f (by decide) (ev_some ⟨p + 1 + L, rfl, Or.inl rfl, Or.inr (Or.inl ⟨rfl, cF, L, by omega, rfl, h3, fun x => c x.1⟩), fun x => absurd (show (0 : Int) = 1 from x) (by decide)⟩))
  have digits : ∀ (nu : Nat → Int) (x idx cn i0 : Nat), x = p + 1 + i0 → idx < 3 → cn ≤ 2 → i0 + cn < zSL (zFm (a p)) → (∀ j, j < cn → zFc (zFm (a p)) (i0 + j) = 68) → (∀ j, j < i0 → zGd a n p (zFm (a p)) j) → ev (g_M_readsNumber (n : Int) (x : Int) b nu (idx : Int) (cn : Int)) (fun r => (r.1 = 1 ∧ r.2.1 = ((x + cn : Nat) : Int) ∧ (∀ j, j < i0 + cn → zGd a n p (zFm (a p)) j) ∧ r.2.2 idx = zVa a x cn ∧ ∀ u, u ≠ idx → r.2.2 u = nu u) ∨ (r.1 = 0 ∧ ∃ i, i < zSL (zFm (a p)) ∧ r.2.1 = ((p + 1 + i : Nat) : Int) ∧ (∀ j, j < i → zGd a n p (zFm (a p)) j) ∧ ¬ zGd a n p (zFm (a p)) i)) := by
    intro nu x idx cn i0 ex h1 h2 h3 h4 h5
    refine ev_mono (e_num hn hab ha nu (by omega) h1 h2) (fun r hr => ?_)
    rcases hr with ⟨r1, r2, r3, r4, r5⟩ | ⟨r1, j, r2, r3, r4, r5⟩
    · refine Or.inl ⟨r1, r2, fun j hj => ?_, r4, r5⟩
      by_cases l : j < i0
      · exact h5 j l
      · obtain ⟨d, ed⟩ : ∃ d, j = i0 + d := ⟨j - i0, by omega⟩
        subst ed
        exact (zGd_D (h4 d (by omega)) (show x + d = p + 1 + (i0 + d) by omega)).mpr (r3 d (by omega))
    · refine Or.inr ⟨r1, i0 + j, by omega, by rw [r3]; omega, fun j2 hj2 => ?_, fun y => r5 ?_⟩
      · by_cases l : j2 < i0
        · exact h5 j2 l
        · obtain ⟨d, ed⟩ : ∃ d, j2 = i0 + d := ⟨j2 - i0, by omega⟩
          subst ed
          exact (zGd_D (h4 d (by omega)) (show x + d = p + 1 + (i0 + d) by omega)).mpr (r4 d (by omega))
      · exact (zGd_D (h4 j r2) (show x + j = p + 1 + (i0 + j) by omega)).mp y
  refine ev_g (by omega) (ev_if (fun c1 => ?_) (fun c1 => ev_if (fun c2 => ?_) (fun c2 => ev_if (fun c3 => ?_) (fun c3 => ev_if (fun c4 => ?_) (fun c4 => ev_if (fun c5 => ?_) (fun c5 => ?_))))))
  · have eF : zFm (a p) = 3 := by rw [c1]; rfl
    rw [eF] at digits hk
    refine ev_b3 (digits nu (p + 1) 0 1 0 rfl (by decide) (by decide) (by decide) (by decide) (fun j hj => absurd hj (Nat.not_lt_zero j))) (fun l pl nu2 hr => hk _ _ _ ?_)
    rcases hr with ⟨r1, r2, r3, r4, r5⟩ | ⟨r1, r2⟩
    · exact Or.inr ⟨r1, r2, r3, fun _ => r4, fun x => by omega, fun x => by omega, fun x => by omega⟩
    · exact Or.inl ⟨r1, r2⟩
  · have eF : zFm (a p) = 3 := by rw [c2]; rfl
    rw [eF] at digits hk
    refine ev_b3 (digits nu (p + 1) 0 1 0 rfl (by decide) (by decide) (by decide) (by decide) (fun j hj => absurd hj (Nat.not_lt_zero j))) (fun l pl nu2 hr => hk _ _ _ ?_)
    rcases hr with ⟨r1, r2, r3, r4, r5⟩ | ⟨r1, r2⟩
    · exact Or.inr ⟨r1, r2, r3, fun _ => r4, fun x => by omega, fun x => by omega, fun x => by omega⟩
    · exact Or.inl ⟨r1, r2⟩
  · have eF : zFm (a p) = 2 := by rw [c3]; rfl
    rw [eF] at digits hk
    refine ev_b3 (digits nu (p + 1) 0 2 0 rfl (by decide) (by decide) (by decide) (by decide) (fun j hj => absurd hj (Nat.not_lt_zero j))) (fun l pl nu2 hr => hk _ _ _ ?_)
    rcases hr with ⟨r1, r2, r3, r4, r5⟩ | ⟨r1, r2⟩
    · exact Or.inr ⟨r1, r2, r3, fun x => by omega, fun _ => r4, fun x => by omega, fun x => by omega⟩
    · exact Or.inl ⟨r1, r2⟩
  · have eF : zFm (a p) = 0 := by rw [c4]; rfl
    rw [eF] at digits hk
    refine ev_b3 (e_kind hn hab ha nu (x := p + 1) (by omega)) (fun l pl nu2 hr => ?_)
    refine ev_j3 (fun l pl nu2 => (l = 0 ∧ ∃ i, i < zSL 0 ∧ pl = ((p + 1 + i : Nat) : Int) ∧ (∀ j, j < i → zGd a n p 0 j) ∧ ¬ zGd a n p 0 i) ∨ (l = 1 ∧ pl = ((p + 1 + (zSL 0 - 1) : Nat) : Int) ∧ (∀ j, j < zSL 0 - 1 → zGd a n p 0 j) ∧ zNb a p nu2)) (fun l pl nu2 h => hk _ _ _ h) (fun k3 hk3 => ?_)
    refine ev_j2 (fun pl nu2 => ∃ i, i < zSL 0 ∧ pl = ((p + 1 + i : Nat) : Int) ∧ (∀ j, j < i → zGd a n p 0 j) ∧ ¬ zGd a n p 0 i) (fun pl nu2 h => hk3 _ _ _ (Or.inl ⟨rfl, h⟩)) (fun k4 hk4 => ?_)
    rcases hr with ⟨r1, r2, r3, r4, r5⟩ | ⟨r1, r2, r3⟩
    · have r1 : l = 1 := r1
      have r2 : pl = ((p + 1 + 1 : Nat) : Int) := r2
      have r5 : nu2 0 = zKc (a (p + 1)) := r5
      have g0 : zGd a n p 0 0 := (zGd_K zFc_0.1 rfl).mpr ⟨r3, r4⟩
      refine ev_g (by omega) (ev_f (by omega) ?_)
      rw [r2]
      refine ev_b3 (digits nu2 (p + 1 + 1) 1 2 1 rfl (by decide) (by decide) (by decide) zFc_0.2 (fun j hj => by rw [show j = 0 by omega]; exact g0)) (fun l2 pl2 nu3 hr2 => ?_)
      rcases hr2 with ⟨s1, s2, s3, s4, s5⟩ | ⟨s1, s2⟩
      · have s1 : l2 = 1 := s1
        refine ev_g (by omega) (ev_f (by omega) (hk3 _ _ _ (Or.inr ⟨rfl, s2, s3, fun x => by omega, fun x => by omega, fun _ => ⟨?_, s4⟩, fun x => by omega⟩)))
        exact (s5 0 (by decide)).trans r5
      · have s1 : l2 = 0 := s1
        exact ev_g (by omega) (ev_t s1 (hk4 _ _ s2))
    · have r1 : l = 0 := r1
      exact ev_g (by omega) (ev_t r1 (hk4 _ _ ⟨0, by decide, r2, fun j hj => absurd hj (Nat.not_lt_zero j), fun y => r3 ((zGd_K zFc_0.1 rfl).mp y)⟩))
  · have eF : zFm (a p) = 1 := by rw [c5]; rfl
    rw [eF] at digits hk
    refine ev_b3 (e_kind hn hab ha nu (x := p + 1) (by omega)) (fun l pl nu2 hr => ?_)
    refine ev_j3 (fun l pl nu2 => (l = 0 ∧ ∃ i, i < zSL 1 ∧ pl = ((p + 1 + i : Nat) : Int) ∧ (∀ j, j < i → zGd a n p 1 j) ∧ ¬ zGd a n p 1 i) ∨ (l = 1 ∧ pl = ((p + 1 + (zSL 1 - 1) : Nat) : Int) ∧ (∀ j, j < zSL 1 - 1 → zGd a n p 1 j) ∧ zNb a p nu2)) (fun l pl nu2 h => hk _ _ _ h) (fun k3 hk3 => ?_)
    refine ev_j2 (fun pl nu2 => ∃ i, i < zSL 1 ∧ pl = ((p + 1 + i : Nat) : Int) ∧ (∀ j, j < i → zGd a n p 1 j) ∧ ¬ zGd a n p 1 i) (fun pl nu2 h => hk3 _ _ _ (Or.inl ⟨rfl, h⟩)) (fun k4 hk4 => ?_)
    rcases hr with ⟨r1, r2, r3, r4, r5⟩ | ⟨r1, r2, r3⟩
    · have r1 : l = 1 := r1
      have r2 : pl = ((p + 1 + 1 : Nat) : Int) := r2
      have r5 : nu2 0 = zKc (a (p + 1)) := r5
      have g0 : zGd a n p 1 0 := (zGd_K zFc_1.1 rfl).mpr ⟨r3, r4⟩
      refine ev_g (by omega) (ev_f (by omega) ?_)
      rw [r2]
      refine ev_b3 (digits nu2 (p + 1 + 1) 1 2 1 rfl (by decide) (by decide) (by decide) (fun j hj => zFc_1.2 j (by omega)) (fun j hj => by rw [show j = 0 by omega]; exact g0)) (fun l2 pl2 nu3 hr2 => ?_)
      rcases hr2 with ⟨s1, s2, s3, s4, s5⟩ | ⟨s1, s2⟩
      · have s1 : l2 = 1 := s1
        have s2 : pl2 = ((p + 1 + 1 + 2 : Nat) : Int) := s2
        have s4 : nu3 1 = zVa a (p + 2) 2 := s4
        refine ev_g (by omega) (ev_f (by omega) ?_)
        rw [s2]
        refine ev_b3 (digits nu3 (p + 1 + 1 + 2) 2 2 3 (by omega) (by decide) (by decide) (by decide) (fun j hj => by have := zFc_1.2 (2 + j) (by omega); rw [show 1 + (2 + j) = 3 + j by omega] at this; exact this) s3) (fun l3 pl3 nu4 hr3 => ?_)
        rcases hr3 with ⟨t1, t2, t3, t4, t5⟩ | ⟨t1, t2⟩
        · have t1 : l3 = 1 := t1
          refine ev_g (by omega) (ev_f (by omega) (hk3 _ _ _ (Or.inr ⟨rfl, t2, t3, fun x => by omega, fun x => by omega, fun x => by omega, fun _ => ⟨?_, ?_, t4⟩⟩)))
          · exact (t5 0 (by decide)).trans ((s5 0 (by decide)).trans r5)
          · exact (t5 1 (by decide)).trans s4
        · have t1 : l3 = 0 := t1
          exact ev_g (by omega) (ev_t t1 (hk4 _ _ t2))
      · have s1 : l2 = 0 := s1
        exact ev_g (by omega) (ev_t s1 (hk4 _ _ s2))
    · have r1 : l = 0 := r1
      exact ev_g (by omega) (ev_t r1 (hk4 _ _ ⟨0, by decide, r2, fun j hj => absurd hj (Nat.not_lt_zero j), fun y => r3 ((zGd_K zFc_1.1 rfl).mp y)⟩))
  · exfalso
    apply cF
    unfold zFm
    rw [if_neg (by omega), if_neg c3, if_neg c4, if_neg c5]
