-- own text: said
def zSo (K : Nat → Int) (q c w : Nat) : Int := if zCn K q c w then 0 else zwd (K q)
abbrev zFt (K : Nat → Int) (v : Int) (S : Nat → Prop) (j : Nat) : Prop := zcan (K (j / 5)) ∧ ∃ w, w < 4 ∧ 0 ≤ zN K (j / 5) w ∧ zSo K (j / 5) (j % 5) w = v ∧ S (zTo K j w)
def zSa (K a : Nat → Int) (n : Nat) : Nat → Nat → Prop
  | 0, j => zcan (K (j / 5)) ∧ zwd (K (j / 5)) = a (n - 1)
  | d + 1, j => zFt K (a (n - 1 - (d + 1))) (zSa K a n d) j
abbrev zLay (x : Nat → Int) (ng : Int) (S : Nat → Prop) (m : Nat) : Prop := ∀ j, j < m → (x j = 1 ∧ S j) ∨ (x j = ng ∧ ¬ S j)
theorem zLay_rng {x : Nat → Int} {ng : Int} {S : Nat → Prop} {m : Nat} (hg : -1 ≤ ng ∧ ng ≤ 0) (h : zLay x ng S m) {j : Nat} (hj : j < m) : ng ≤ x j ∧ x j ≤ 1 := by
  rcases h j hj with z | z
  · have := z.1; omega
  · have := z.1; omega
theorem zSo_rng (K : Nat → Int) (q c w : Nat) : 0 ≤ zSo K q c w ∧ zSo K q c w ≤ 2 := by
  have := zwd_rng (K q)
  unfold zSo
  by_cases h : zCn K q c w
  · rw [if_pos h]; omega
  · rw [if_neg h]; omega
theorem zLay_put {x : Nat → Int} {ng s : Int} {S : Nat → Prop} {i : Nat} (hQ : zLay x ng S i) (hs : (s = 1 ∧ S i) ∨ (s = ng ∧ ¬ S i)) : zLay (updI x i s) ng S (i + 1) := fun j hj => by
  by_cases e : j = i
  · subst e; rw [updI_at]; exact hs
  · rw [updI_ne _ _ e]; exact hQ j (by omega)
theorem e_fitsBefore {K now : Nat → Int} {S : Nat → Prop} (hK : zK K) {j : Nat} (hj : j < 180) {v : Int} (hv : zr v) (hn : zLay now (-1) S 180) : ev (g_Talks_fitsBefore now K (j : Int) v) (fun r => (r = 1 ∧ zFt K v S j) ∨ (r = 0 ∧ ¬ zFt K v S j)) := by
  unfold g_Talks_fitsBefore
  have e5 : (j : Int) / 5 = ((j / 5 : Nat) : Int) := by omega
  have e6 : (j : Int) % 5 = ((j % 5 : Nat) : Int) := by omega
  refine ev_g (by omega) (ev_n ?_)
  rw [e5, e6]
  have hq : j / 5 < 36 := by omega
  have hc : j % 5 < 5 := by omega
  by_cases c : zcan (K (j / 5))
  case neg => exact ev_c1 (e_canF hK hq c) (ev_g (by decide) (ev_t rfl (ev_some (Or.inr ⟨rfl, fun x => c x.1⟩))))
  refine ev_c1 (e_canT hK hq c) (ev_g (by decide) (ev_f (by decide) ?_))
  refine ev_f1_1 4 (by decide) (fun i => ∀ w, w < i → ¬ (0 ≤ zN K (j / 5) w ∧ zSo K (j / 5) (j % 5) w = v ∧ S (zTo K j w))) (fun i ag hi4 hQ hag => ?_) (fun w hw => absurd hw (Nat.not_lt_zero w))
  refine ev_g (by omega) (ev_if (fun c1 => ev_some (Or.inr ⟨rfl, fun x => ?_⟩)) (fun c1 => ?_))
  · obtain ⟨_, w, h4, h5⟩ := x
    exact hQ w (by omega) h5
  have hl : i < 4 := by omega
  have r := zN_rng (K := K) (q := j / 5) (w := i) hq
  refine ev_c1 (e_next hK hq hl) (ev_c1 (e_corner hK hq hc (by omega)) ?_)
  have nx : ¬ (0 ≤ zN K (j / 5) i ∧ zSo K (j / 5) (j % 5) i = v ∧ S (zTo K j i)) → ∀ w, w < i + 1 → ¬ (0 ≤ zN K (j / 5) w ∧ zSo K (j / 5) (j % 5) w = v ∧ S (zTo K j w)) := fun h w hw => by
    by_cases e : w = i
    · subst e; exact h
    · exact hQ w (by omega)
  refine ev_j1 (fun s => s = zSo K (j / 5) (j % 5) i) (fun s hs => ?_) (fun k2 hk => ?_)
  · have so := zSo_rng K (j / 5) (j % 5) i
    refine ev_j1 (fun _ => ∀ w, w < i + 1 → ¬ (0 ≤ zN K (j / 5) w ∧ zSo K (j / 5) (j % 5) w = v ∧ S (zTo K j w))) (fun _ h => ev_n (hag () hl h)) (fun k3 hk3 => ?_)
    refine ev_g (by omega) (ev_if (fun c2 => hk3 () (nx (fun x => by have := x.1; omega))) (fun c2 => ?_))
    refine ev_g (by omega) (ev_g hv (ev_if (fun c3 => ?_) (fun c3 => hk3 () (nx (fun x => c3 (hs.trans x.2.1))))))
    have et : zN K (j / 5) i * 5 + (i : Int) = ((zTo K j i : Nat) : Int) := by unfold zTo; omega
    have tl := zTo_lt (K := K) hj hl
    rw [et]
    refine ev_c1 (e_atN (by decide) tl) ?_
    have z := hn _ tl
    have z1 := zLay_rng (by decide) hn tl
    refine ev_g (by omega) (ev_if (fun c4 => ev_some (Or.inl ⟨rfl, c, i, hl, by omega, by omega, ?_⟩)) (fun c4 => hk3 () (nx (fun x => ?_))))
    · rcases z with z | z
      · exact z.2
      · have := z.1; omega
    · rcases z with z | z
      · exact c4 z.1
      · exact z.2 x.2.2
  · by_cases cc : zCn K (j / 5) (j % 5) i
    · rw [if_pos cc]
      exact ev_g (by decide) (ev_f (by decide) (hk _ (by unfold zSo; rw [if_pos cc])))
    · rw [if_neg cc]
      exact ev_g (by decide) (ev_t rfl (ev_c1 (e_words hK hq) (hk _ (by unfold zSo; rw [if_neg cc]))))
theorem e_fitAll {K ta : Nat → Int} (hK : zK K) (now th : Nat → Int) {n : Nat} (h1 : 1 ≤ n) (h2 : n ≤ 20) (ht : ∀ i, i < n → 0 ≤ ta i ∧ ta i ≤ 9) : ev (g_Talks_fitAll 20 ta now th K (n : Int)) (fun r => zLay r.1 (-1) (zSa K ta n (n - 1)) 180) := by
  unfold g_Talks_fitAll
  refine ev_j1 (fun x => zLay x (-1) (zSa K ta n 0) 180) (fun x hx => ?_) (fun k2 hk => ?_)
  · refine ev_n ?_
    refine ev_l3 (fun μ l x y => ∃ d : Nat, l = (n : Int) - 2 - d ∧ d ≤ n - 1 ∧ μ = n - 1 - d ∧ zLay x (-1) (zSa K ta n d) 180) (fun μ l x y ag hI hag => ?_) (m := n - 1) (zF_gt (by omega)) ⟨0, by omega, by omega, by omega, hx⟩
    obtain ⟨d, rfl, d2, d3, d4⟩ := hI
    refine ev_g (by omega) (ev_if (fun c => ev_some ?_) (fun c => ?_))
    · have : d = n - 1 := by omega
      rw [← this]; exact d4
    have dl : d + 2 ≤ n := by omega
    refine ev_j1 (fun y => zLay y (-1) (zSa K ta n (d + 1)) 180) (fun y hy => ?_) (fun k3 hk3 => ?_)
    · exact ev_b1 (e_takeN (by decide) y x) (fun z hz => ev_n (hag (μ - 1) _ _ _ (by omega) ⟨d + 1, by omega, by omega, by omega, fun j hj => by rw [hz j hj]; exact hy j hj⟩))
    refine ev_f2_1 180 (by decide) (fun i z => zLay z (-1) (zSa K ta n (d + 1)) i) (fun i z ag2 hi8 hQ hag2 => ?_) (fun j hj => absurd hj (Nat.not_lt_zero j))
    refine ev_g (by omega) (ev_if (fun c2 => hk3 _ (fun j hj => hQ j (by omega))) (fun c2 => ?_))
    have il : i < 180 := by omega
    have el : (n : Int) - 2 - (d : Int) = ((n - 1 - (d + 1) : Nat) : Int) := by omega
    rw [el]
    have ta1 := ht (n - 1 - (d + 1)) (by omega)
    refine ev_c1 (e_atN (by decide) (by omega)) (ev_b1 (e_fitsBefore hK il (by omega) d4) (fun r hr => ?_))
    refine ev_j1 (fun s => (s = 1 ∧ zSa K ta n (d + 1) i) ∨ (s = -1 ∧ ¬ zSa K ta n (d + 1) i)) (fun s hs => ?_) (fun k4 hk4 => ?_)
    · exact ev_c1 (e_putN (by decide) il) (ev_n (hag2 _ il (zLay_put hQ hs)))
    · rcases hr with ⟨r1, r2⟩ | ⟨r1, r2⟩
      · exact ev_g (by omega) (ev_f (by omega) (hk4 _ (Or.inl ⟨rfl, r2⟩)))
      · exact ev_g (by omega) (ev_t r1 (hk4 _ (Or.inr ⟨rfl, r2⟩)))
  · refine ev_f2_1 180 (by decide) (fun i z => zLay z (-1) (zSa K ta n 0) i) (fun i z ag hi8 hQ hag => ?_) (fun j hj => absurd hj (Nat.not_lt_zero j))
    refine ev_g (by omega) (ev_if (fun c2 => hk _ (fun j hj => hQ j (by omega))) (fun c2 => ?_))
    have il : i < 180 := by omega
    have e5 : (i : Int) / 5 = ((i / 5 : Nat) : Int) := by omega
    have hq : i / 5 < 36 := by omega
    refine ev_g (by omega) (ev_n ?_)
    rw [e5]
    have dq := zwd_rng (K (i / 5))
    have tn := ht (n - 1) (by omega)
    obtain ⟨r33, e33, h33⟩ : ∃ r, g_Town_canBe K ((i / 5 : Nat) : Int) = some r ∧ ((r = 1 ∧ zcan (K (i / 5))) ∨ (r = 0 ∧ ¬ zcan (K (i / 5)))) := by
      by_cases c : zcan (K (i / 5))
      · exact ⟨1, e_canT hK hq c, Or.inl ⟨rfl, c⟩⟩
      · exact ⟨0, e_canF hK hq c, Or.inr ⟨rfl, c⟩⟩
    refine ev_c1 e33 (ev_j1 (fun s => (s = 1 ∧ zSa K ta n 0 i) ∨ (s = 0 ∧ ¬ zSa K ta n 0 i)) (fun s hs => ?_) (fun k3 hk3 => ?_))
    · refine ev_j1 (fun s => (s = 1 ∧ zSa K ta n 0 i) ∨ (s = -1 ∧ ¬ zSa K ta n 0 i)) (fun s hs => ?_) (fun k4 hk4 => ?_)
      · exact ev_c1 (e_putN (by decide) il) (ev_n (hag _ il (zLay_put hQ hs)))
      · rcases hs with ⟨r1, r2⟩ | ⟨r1, r2⟩
        · exact ev_g (by omega) (ev_f (by omega) (hk4 _ (Or.inl ⟨rfl, r2⟩)))
        · exact ev_g (by omega) (ev_t r1 (hk4 _ (Or.inr ⟨rfl, r2⟩)))
    · refine ev_j1 (fun _ => ¬ zSa K ta n 0 i) (fun _ h => hk3 _ (Or.inr ⟨rfl, h⟩)) (fun k4 hk4 => ?_)
      rcases h33 with ⟨c1, c2⟩ | ⟨c1, c2⟩
      · refine ev_g (by omega) (ev_f (by omega) (ev_c1 (e_words hK hq) ?_))
        rw [show (n : Int) - 1 = ((n - 1 : Nat) : Int) by omega]
        exact ev_c1 (e_atN (by decide) (by omega)) (ev_g (by omega) (ev_g (by omega) (ev_if (fun c3 => hk3 _ (Or.inl ⟨rfl, c2, c3⟩)) (fun c3 => hk4 () (fun x => c3 x.2)))))
      · exact ev_g (by omega) (ev_t c1 (hk4 () (fun x => c2 x.1)))
def zDw (g : Nat → Int) : Nat → Int × Int
  | 0 => (0, -9)
  | k + 1 => if g (35 - k) = 1 then ((zDw g k).1 + 1, ((35 - k : Nat) : Int)) else zDw g k
theorem zDw_eq {g g' : Nat → Int} (h : ∀ q, q < 36 → (g q = 1 ↔ g' q = 1)) : ∀ k, zDw g k = zDw g' k
  | 0 => rfl
  | k + 1 => by
    have ih := zDw_eq h k
    have hh := h (35 - k) (by omega)
    show (if g (35 - k) = 1 then ((zDw g k).1 + 1, ((35 - k : Nat) : Int)) else zDw g k) = (if g' (35 - k) = 1 then ((zDw g' k).1 + 1, ((35 - k : Nat) : Int)) else zDw g' k)
    by_cases c : g (35 - k) = 1
    · rw [if_pos c, if_pos (hh.mp c), ih]
    · rw [if_neg c, if_neg (fun x => c (hh.mpr x)), ih]
theorem e_saidX {K ta : Nat → Int} (hK : zK K) (now th ra : Nat → Int) {n : Nat} (h1 : 1 ≤ n) (h2 : n ≤ 20) (ht : ∀ i, i < n → 0 ≤ ta i ∧ ta i ≤ 9) {a : Int} (ha : a = 0 ∨ a = 1) : ev (g_X_said (n : Int) ra now th ta K a) (fun r => (∃ x, zLay x (-1) (zSa K ta n (n - 1)) 180 ∧ r.1 = if a = 0 then (zDw (fun q => x (q * 5 + 4)) 36).1 else (zDw (fun q => x (q * 5 + 4)) 36).2) ∧ r.2.1 = ra) := by
  unfold g_X_said
  refine ev_i1 (ev_g (by omega) (ev_f (by omega) (ev_t (by omega) (ev_g (by omega) (ev_f (by omega) ?_)))))
  refine ev_b2 (e_fitAll hK now th h1 h2 ht) (fun x y hx => ?_)
  have hx : zLay x (-1) (zSa K ta n (n - 1)) 180 := hx
  refine ev_j2 (fun c m => c = (zDw (fun q => x (q * 5 + 4)) 36).1 ∧ m = (zDw (fun q => x (q * 5 + 4)) 36).2) (fun c m hcm => ?_) (fun k2 hk => ?_)
  · refine ev_if (fun c0 => ev_some ⟨⟨x, hx, ?_⟩, rfl⟩) (fun c0 => ev_some ⟨⟨x, hx, ?_⟩, rfl⟩)
    · rw [if_pos c0]; exact hcm.1
    · rw [if_neg c0]; exact hcm.2
  · refine ev_l3 (fun μ c m l => ∃ k : Nat, l = 35 - (k : Int) ∧ k ≤ 36 ∧ μ = 36 - k ∧ c = (zDw (fun q => x (q * 5 + 4)) k).1 ∧ m = (zDw (fun q => x (q * 5 + 4)) k).2) (fun μ c m l ag hI hag => ?_) (m := 36) (zF_gt (by decide)) ⟨0, by omega, by omega, by omega, rfl, rfl⟩
    obtain ⟨k, rfl, d2, d3, d4, d5⟩ := hI
    refine ev_g (by omega) (ev_if (fun c0 => hk _ _ ?_) (fun c0 => ?_))
    · have : k = 36 := by omega
      subst this
      exact ⟨d4, d5⟩
    have hq : 35 - k < 36 := by omega
    have zr1 := zLay_rng (by decide) hx (show (35 - k) * 5 + 4 < 180 by omega)
    unfold g_Talks_canStart
    rw [show (35 : Int) - (k : Int) = ((35 - k : Nat) : Int) by omega]
    have go : ∀ c' m', c' = (zDw (fun q => x (q * 5 + 4)) (k + 1)).1 → m' = (zDw (fun q => x (q * 5 + 4)) (k + 1)).2 → ev (ag c' m' (((35 - k : Nat) : Int) + -1)) _ := fun c' m' e1 e2 => hag (μ - 1) _ _ _ (by omega) ⟨k + 1, by omega, by omega, by omega, e1, e2⟩
    have st : zDw (fun q => x (q * 5 + 4)) (k + 1) = if x ((35 - k) * 5 + 4) = 1 then ((zDw (fun q => x (q * 5 + 4)) k).1 + 1, ((35 - k : Nat) : Int)) else zDw (fun q => x (q * 5 + 4)) k := rfl
    rw [show ((35 - k : Nat) : Int) * 5 + 4 = (((35 - k) * 5 + 4 : Nat) : Int) by omega]
    by_cases cc : x ((35 - k) * 5 + 4) = 1
    · rw [if_pos cc] at st
      rw [st] at go
      refine ev_c1 (v1 := 1) (ev_is (ev_c1 (e_atN (by decide) (by omega)) (ev_g (by omega) (ev_t cc (ev_some rfl))))) ?_
      exact ev_i2 (ev_g (by decide) (ev_f (by decide) (ev_n (ev_n (go _ _ (by rw [d4]) rfl)))))
    · rw [if_neg cc] at st
      rw [st] at go
      refine ev_c1 (v1 := 0) (ev_is (ev_c1 (e_atN (by decide) (by omega)) (ev_g (by omega) (ev_f cc (ev_some rfl))))) ?_
      exact ev_i2 (ev_g (by decide) (ev_t rfl (ev_n (go _ _ d4 d5))))
theorem e_M_canBeSaid {s K rw a : Nat → Int} (hs : zR s K) (hK : zK K) {ah : Nat → Int} {n d : Nat} (h1 : 1 ≤ n) (h2 : n ≤ 20) (hd : d < n) (hr : ∀ i, i < n → rw i = a i) (ht : ∀ i, i < n → 0 ≤ a i ∧ a i ≤ 9) (ha : d = 0 ∨ zLay ah 0 (zSa K a n (d - 1)) 180) {q c : Nat} (hq : q < 36) (hc : c < 5) (cq : zcan (K q)) : ev (g_M_canBeSaid (n : Int) ah rw s (q : Int) (c : Int) (((n - 1 - d : Nat) : Nat) : Int)) (fun r => (r = 1 ∧ zSa K a n d (q * 5 + c)) ∨ (r = 0 ∧ ¬ zSa K a n d (q * 5 + c))) := by
  unfold g_M_canBeSaid
  have jq : (q * 5 + c) / 5 = q := by omega
  have jc : (q * 5 + c) % 5 = c := by omega
  have dq := zwd_rng (K q)
  have a1 := ht (n - 1 - d) (by omega)
  have a2 := hr (n - 1 - d) (by omega)
  refine ev_g (by omega) (ev_g (by omega) (ev_if (fun c1 => ?_) (fun c1 => ?_)))
  · have d0 : d = 0 := by omega
    subst d0
    have e0 : zSa K a n 0 (q * 5 + c) ↔ zwd (K q) = a (n - 1) := by
      show (zcan (K ((q * 5 + c) / 5)) ∧ zwd (K ((q * 5 + c) / 5)) = a (n - 1)) ↔ _
      rw [jq]
      exact ⟨fun x => x.2, fun x => ⟨cq, x⟩⟩
    refine ev_c1 (e_M_words hs hK hq) (ev_g (by omega) ?_)
    rw [Int.toNat_natCast, a2]
    exact ev_g (by omega) (ev_g (by omega) (ev_if (fun c2 => ev_some (Or.inl ⟨rfl, e0.mpr c2⟩)) (fun c2 => ev_some (Or.inr ⟨rfl, fun x => c2 (e0.mp x)⟩))))
  · obtain ⟨e, rfl⟩ : ∃ e, d = e + 1 := ⟨d - 1, by omega⟩
    have ah2 : zLay ah 0 (zSa K a n e) 180 := by
      rcases ha with ha | ha
      · omega
      · exact ha
    generalize hS : zSa K a n e = S at ah2
    have e0 : zSa K a n (e + 1) (q * 5 + c) ↔ ∃ w, w < 4 ∧ 0 ≤ zN K q w ∧ zSo K q c w = a (n - 1 - (e + 1)) ∧ S (zTo K (q * 5 + c) w) := by
      show zFt K (a (n - 1 - (e + 1))) (zSa K a n e) (q * 5 + c) ↔ _
      unfold zFt
      rw [hS, jq, jc]
      exact ⟨fun x => x.2, fun x => ⟨cq, x⟩⟩
    refine ev_f1_1 4 (by decide) (fun i => ∀ w, w < i → ¬ (0 ≤ zN K q w ∧ zSo K q c w = a (n - 1 - (e + 1)) ∧ S (zTo K (q * 5 + c) w))) (fun i ag hi4 hQ hag => ?_) (fun w hw => absurd hw (Nat.not_lt_zero w))
    refine ev_g (by omega) (ev_if (fun c1 => ev_some (Or.inr ⟨rfl, fun x => ?_⟩)) (fun c1 => ?_))
    · obtain ⟨w, h4, h5⟩ := e0.mp x
      exact hQ w (by omega) h5
    have hl : i < 4 := by omega
    have r := zN_rng (K := K) (q := q) (w := i) hq
    refine ev_c1 (e_M_gone hs hK hq hl) ?_
    have nx : ¬ (0 ≤ zN K q i ∧ zSo K q c i = a (n - 1 - (e + 1)) ∧ S (zTo K (q * 5 + c) i)) → ∀ w, w < i + 1 → ¬ (0 ≤ zN K q w ∧ zSo K q c w = a (n - 1 - (e + 1)) ∧ S (zTo K (q * 5 + c) w)) := fun h w hw => by
      by_cases e : w = i
      · subst e; exact h
      · exact hQ w (by omega)
    refine ev_j1 (fun _ => ∀ w, w < i + 1 → ¬ (0 ≤ zN K q w ∧ zSo K q c w = a (n - 1 - (e + 1)) ∧ S (zTo K (q * 5 + c) w))) (fun _ h => ev_n (hag () hl h)) (fun k3 hk3 => ?_)
    by_cases c4 : 0 ≤ zN K q i
    case neg =>
      rw [if_neg (fun x => c4 x.2)]
      exact ev_g (by decide) (ev_t (by decide) (hk3 () (nx (fun x => c4 x.1))))
    rw [if_pos ⟨cq, c4⟩]
    obtain ⟨u, et⟩ := Int.eq_ofNat_of_zero_le c4
    have to : zTo K (q * 5 + c) i = u * 5 + i := by unfold zTo; rw [jq, et, Int.toNat_natCast]
    have tl : u * 5 + i < 180 := by omega
    have so := zSo_rng K q c i
    refine ev_g (by omega) (ev_f (by omega) (ev_c1 (e_M_said hs hK hq hc (by omega)) (ev_g (by omega) ?_)))
    rw [Int.toNat_natCast, a2]
    have es : (if c ≠ 4 ∧ c ≠ i ∧ ztn (K q) then 0 else zwd (K q)) = zSo K q c i := rfl
    rw [es]
    refine ev_g (by omega) (ev_g (by omega) (ev_if (fun c5 => ?_) (fun c5 => hk3 () (nx (fun x => c5 x.2.1)))))
    rw [et]
    refine ev_c1 e_M_at (ev_g (by omega) ?_)
    rw [Int.toNat_natCast]
    have z := ah2 _ tl
    have z1 := zLay_rng (by decide) ah2 tl
    refine ev_g (by omega) (ev_if (fun c6 => hk3 () (nx (fun x => ?_))) (fun c6 => ev_some (Or.inl ⟨rfl, e0.mpr ⟨i, hl, c4, c5, ?_⟩⟩)))
    · rw [to] at x
      rcases z with z | z
      · have := z.1; omega
      · exact z.2 x.2.2
    · rw [to]
      rcases z with z | z
      · exact z.2
      · exact absurd z.1 c6
theorem e_saidM {s K rw a : Nat → Int} (hs : zR s K) (hK : zK K) (ah nw rb : Nat → Int) {n : Nat} (h1 : 1 ≤ n) (h2 : n ≤ 20) (hr : ∀ i, i < n → rw i = a i) (ht : ∀ i, i < n → 0 ≤ a i ∧ a i ≤ 9) {p : Int} (hp : p = 0 ∨ p = 1) : ev (g_M_said (n : Int) ah nw rb rw s p) (fun r => (∃ x, zLay x 0 (zSa K a n (n - 1)) 180 ∧ r.1 = if p = 0 then (zDw (fun q => x (q * 5 + 4)) 36).1 else (zDw (fun q => x (q * 5 + 4)) 36).2) ∧ r.2.2.2 = rb) := by
  unfold g_M_said
  refine ev_c1 (e_inT (by omega) (by decide) (by decide) (by omega)) (ev_g (by decide) (ev_f (by decide) (ev_g (by omega) (ev_f (by omega) (ev_n ?_)))))
  refine ev_j2 (fun x y => zLay x 0 (zSa K a n (n - 1)) 180) (fun x y hx => ?_) (fun k2 hk => ?_)
  · refine ev_j2 (fun c m => c = (zDw (fun q => x (q * 5 + 4)) 36).1 ∧ m = (zDw (fun q => x (q * 5 + 4)) 36).2) (fun c m hcm => ?_) (fun k2 hk => ?_)
    · refine ev_g (by omega) (ev_if (fun c0 => ev_some ⟨⟨x, hx, ?_⟩, rfl⟩) (fun c0 => ev_some ⟨⟨x, hx, ?_⟩, rfl⟩))
      · rw [if_pos c0]; exact hcm.1
      · rw [if_neg c0]; exact hcm.2
    · refine ev_l3 (fun μ c m l => ∃ k : Nat, l = 35 - (k : Int) ∧ k ≤ 36 ∧ μ = 36 - k ∧ c = (zDw (fun q => x (q * 5 + 4)) k).1 ∧ m = (zDw (fun q => x (q * 5 + 4)) k).2) (fun μ c m l ag hI hag => ?_) (m := 36) (zF_gt (by decide)) ⟨0, by omega, by omega, by omega, rfl, rfl⟩
      obtain ⟨k, rfl, d2, d3, d4, d5⟩ := hI
      refine ev_g (by omega) (ev_if (fun c0 => hk _ _ ?_) (fun c0 => ?_))
      · have : k = 36 := by omega
        subst this
        exact ⟨d4, d5⟩
      have hq : 35 - k < 36 := by omega
      have tl : (35 - k) * 5 + 4 < 180 := by omega
      have z := hx _ tl
      have zr1 := zLay_rng (by decide) hx tl
      rw [show (35 : Int) - (k : Int) = ((35 - k : Nat) : Int) by omega]
      have go : ∀ c' m', c' = (zDw (fun q => x (q * 5 + 4)) (k + 1)).1 → m' = (zDw (fun q => x (q * 5 + 4)) (k + 1)).2 → ev (ag c' m' (((35 - k : Nat) : Int) + -1)) _ := fun c' m' e1 e2 => hag (μ - 1) _ _ _ (by omega) ⟨k + 1, by omega, by omega, by omega, e1, e2⟩
      have st : zDw (fun q => x (q * 5 + 4)) (k + 1) = if x ((35 - k) * 5 + 4) = 1 then ((zDw (fun q => x (q * 5 + 4)) k).1 + 1, ((35 - k : Nat) : Int)) else zDw (fun q => x (q * 5 + 4)) k := rfl
      refine ev_c1 (e_M_at (q := 35 - k) (c := 4)) (ev_g (by omega) (ev_i2 ?_))
      rw [Int.toNat_natCast]
      by_cases cc : x ((35 - k) * 5 + 4) = 1
      · rw [if_pos cc] at st
        rw [st] at go
        exact ev_g (by omega) (ev_f (by omega) (ev_n (ev_n (go _ _ (by rw [d4]) rfl))))
      · rw [if_neg cc] at st
        rw [st] at go
        have c0 : x ((35 - k) * 5 + 4) = 0 := by omega
        exact ev_g (by omega) (ev_t c0 (ev_n (go _ _ d4 d5)))
  · refine ev_l3 (fun μ l x y => ∃ d : Nat, l = (n : Int) - 1 - d ∧ d ≤ n ∧ μ = n - d ∧ (d = 0 ∨ zLay x 0 (zSa K a n (d - 1)) 180)) (fun μ l x y ag hI hag => ?_) (m := n) (zF_gt (by omega)) ⟨0, by omega, by omega, by omega, Or.inl rfl⟩
    obtain ⟨d, rfl, d2, d3, d4⟩ := hI
    refine ev_g (by omega) (ev_if (fun c0 => hk _ _ ?_) (fun c0 => ?_))
    · have : d = n := by omega
      subst this
      rcases d4 with d4 | d4
      · omega
      · exact d4
    have dl : d < n := by omega
    rw [show (n : Int) - 1 - (d : Int) = ((n - 1 - d : Nat) : Int) by omega]
    refine ev_j1 (fun y => zLay y 0 (zSa K a n d) 180) (fun y hy => ?_) (fun k3 hk3 => ?_)
    · refine ev_j1 (fun z => zLay z 0 (zSa K a n d) 180) (fun z hz => ev_n (hag (μ - 1) _ _ _ (by omega) ⟨d + 1, by omega, by omega, by omega, Or.inr hz⟩)) (fun k4 hk4 => ?_)
      refine ev_f2_1 180 (by decide) (fun i z => zLay z 0 (zSa K a n d) i) (fun i z ag2 hi8 hQ hag2 => ?_) (fun j hj => absurd hj (Nat.not_lt_zero j))
      refine ev_g (by omega) (ev_if (fun c2 => hk4 _ (fun j hj => hQ j (by omega))) (fun c2 => ?_))
      have il : i < 180 := by omega
      have zr1 := zLay_rng (by decide) hy il
      refine ev_g (by omega) (ev_n ?_)
      rw [Int.toNat_natCast]
      exact ev_g (by omega) (ev_n (ev_n (hag2 _ il (zLay_put hQ (hy i il)))))
    refine ev_f2_1 36 (by decide) (fun i z => zLay z 0 (zSa K a n d) (i * 5)) (fun q z ag2 hq36 hQ hag2 => ?_) (fun j hj => absurd hj (by omega))
    refine ev_g (by omega) (ev_if (fun c2 => hk3 _ (fun j hj => hQ j (by omega))) (fun c2 => ?_))
    have hq : q < 36 := by omega
    refine ev_j1 (fun z => zLay z 0 (zSa K a n d) (q * 5 + 5)) (fun z hz => ev_n (hag2 _ hq (by rw [show (q + 1) * 5 = q * 5 + 5 by omega]; exact hz))) (fun k4 hk4 => ?_)
    refine ev_f2_1 5 (by decide) (fun c z => zLay z 0 (zSa K a n d) (q * 5 + c)) (fun c z ag3 hc5 hQ3 hag3 => ?_) hQ
    refine ev_g (by omega) (ev_if (fun c3 => hk4 _ (fun j hj => hQ3 j (by omega))) (fun c3 => ?_))
    have hc : c < 5 := by omega
    obtain ⟨r60, e60, h60⟩ : ∃ r, g_M_canBe s (q : Int) = some r ∧ ((r = 1 ∧ zcan (K q)) ∨ (r = 0 ∧ ¬ zcan (K q))) := by
      by_cases c : zcan (K q)
      · exact ⟨1, e_McanT hs hK hq c, Or.inl ⟨rfl, c⟩⟩
      · exact ⟨0, e_McanF hs hK hq c, Or.inr ⟨rfl, c⟩⟩
    refine ev_c1 e_M_at (ev_c1 e60 (ev_j1 (fun s => (s = 1 ∧ zSa K a n d (q * 5 + c)) ∨ (s = 0 ∧ ¬ zSa K a n d (q * 5 + c))) (fun s2 hs2 => ?_) (fun k5 hk5 => ?_)))
    · have sr : 0 ≤ s2 ∧ s2 ≤ 1 := by
        rcases hs2 with x | x
        · have := x.1; omega
        · have := x.1; omega
      refine ev_g (by omega) (ev_g sr (ev_n (ev_n (hag3 _ hc ?_))))
      rw [Int.toNat_natCast]
      exact zLay_put hQ3 hs2
    · refine ev_j1 (fun _ => ¬ zSa K a n d (q * 5 + c)) (fun _ h => hk5 _ (Or.inr ⟨rfl, h⟩)) (fun k6 hk6 => ?_)
      rcases h60 with ⟨c1, c2⟩ | ⟨c1, c2⟩
      · refine ev_g (by omega) (ev_f (by omega) (ev_b1 (e_M_canBeSaid hs hK h1 h2 dl hr ht d4 hq hc c2) (fun r hr2 => ?_)))
        rcases hr2 with ⟨r1, r2⟩ | ⟨r1, r2⟩
        · exact ev_g (by omega) (ev_f (by omega) (hk5 _ (Or.inl ⟨rfl, r2⟩)))
        · exact ev_g (by omega) (ev_t r1 (hk6 () r2))
      · refine ev_g (by omega) (ev_t c1 (hk6 () (fun x => c2 ?_)))
        have jq : (q * 5 + c) / 5 = q := by omega
        rcases d with _ | d
        · have := x.1; rw [jq] at this; exact this
        · have := x.1; rw [jq] at this; exact this
theorem m_said {K s ra rb ta tb : Nat → Int} {n a : Int} (now th ah nw : Nat → Int) (hK : zK K) (hs : zR s K) (hR : iRow n 20 ta tb 0 9) (hr : iRef ra rb) (ha : zr a) : ev2 (g_X_said n ra now th ta K a) (g_M_said n ah nw rb tb s a) (fun x y => x.1 = y.1 ∧ iRef x.2.1 y.2.2.2) := by
  obtain ⟨n1, n2, n3⟩ := hR
  by_cases c : a = 0 ∨ a = 1
  · obtain ⟨m, rfl⟩ := Int.eq_ofNat_of_zero_le n1
    by_cases c0 : m = 0
    · subst c0
      unfold g_X_said g_M_said
      exact l_i1 (l_g ha (l_f (by omega) (l_t (by omega) (l_g (by decide) (l_t rfl (r_c1 (e_inT ha (by decide) (by decide) (by omega)) (r_g (by decide) (r_f (by decide) (r_g (by decide) (r_t rfl (l_c2 (er_3 ra) (r_c2 (en_3 rb) (e2_some ⟨rfl, iRef_up hr 3 (by decide)⟩)))))))))))))
    · have h1 : 1 ≤ m := by omega
      have h2 : m ≤ 20 := by omega
      have ht : ∀ i, i < m → 0 ≤ ta i ∧ ta i ≤ 9 := fun i hi => (n3 i (by omega)).2
      have hab : ∀ i, i < m → tb i = ta i := fun i hi => (n3 i (by omega)).1.symm
      refine e2_ev (ev_mono (e_saidX hK now th ra h1 h2 ht c) (fun r hr1 => ev_mono (e_saidM hs hK ah nw rb h1 h2 hab ht c) (fun y hy => ?_)))
      obtain ⟨⟨x1, x2, x3⟩, x4⟩ := hr1
      obtain ⟨⟨y1, y2, y3⟩, y4⟩ := hy
      have e := zDw_eq (g := fun q => x1 (q * 5 + 4)) (g' := fun q => y1 (q * 5 + 4)) (fun q hq => by
        have u := x2 (q * 5 + 4) (by omega)
        have v := y2 (q * 5 + 4) (by omega)
        constructor
        · intro h
          have h : x1 (q * 5 + 4) = 1 := h
          rcases u with u | u
          · rcases v with v | v
            · exact v.1
            · exact absurd u.2 v.2
          · have := u.1; omega
        · intro h
          have h : y1 (q * 5 + 4) = 1 := h
          rcases v with v | v
          · rcases u with u | u
            · exact u.1
            · exact absurd v.2 u.2
          · have := v.1; omega) 36
      rw [x3, y3, x4, y4, e]
      exact ⟨rfl, hr⟩
  · unfold g_X_said g_M_said
    refine r_c1 (e_inF ha (by decide) (by decide) (by omega)) (r_g (by decide) (r_t rfl (l_i1 (l_g ha ?_))))
    by_cases c1 : a < 0
    · exact l_t c1 (l_c2 (er_2 ra) (r_c2 (en_2 rb) (e2_some ⟨rfl, iRef_up hr 2 (by decide)⟩)))
    · exact l_f c1 (l_f (by omega) (l_c2 (er_2 ra) (r_c2 (en_2 rb) (e2_some ⟨rfl, iRef_up hr 2 (by decide)⟩))))
