-- own text: routes
def zP0 (K : Nat → Int) (j w : Nat) : Int := 1 + (if zCn K (j / 5) (j % 5) w then 1000 else 0)
def zP1 (K : Nat → Int) (fi : Int) (j w : Nat) : Int := if zCn K (j / 5) (j % 5) w then 0 else zFn K fi (j / 5)
theorem zP0_rng (K : Nat → Int) (j w : Nat) : 0 ≤ zP0 K j w ∧ zP0 K j w ≤ 1001 := by
  unfold zP0
  by_cases c : zCn K (j / 5) (j % 5) w
  · rw [if_pos c]; omega
  · rw [if_neg c]; omega
theorem zFn_rng (K : Nat → Int) {fi : Int} (h1 : 0 ≤ fi) (h2 : fi ≤ 9) (q : Nat) : 0 ≤ zFn K fi q ∧ zFn K fi q ≤ 648 := by
  have d := zwd_rng (K q)
  have b := zHB_rng K q
  have a : 0 ≤ zwd (K q) * fi ∧ zwd (K q) * fi ≤ 18 := by
    have z : zwd (K q) = 0 ∨ zwd (K q) = 1 ∨ zwd (K q) = 2 := by omega
    rcases z with z | z | z
    · rw [z]; omega
    · rw [z]; omega
    · rw [z]; omega
  unfold zFn
  exact ⟨Int.mul_nonneg a.1 b.1, Int.mul_le_mul a.2 b.2 b.1 (by decide)⟩
theorem zP1_rng (K : Nat → Int) {fi : Int} (h1 : 0 ≤ fi) (h2 : fi ≤ 9) (j w : Nat) : 0 ≤ zP1 K fi j w ∧ zP1 K fi j w ≤ 648 := by
  have f := zFn_rng K h1 h2 (j / 5)
  unfold zP1
  by_cases c : zCn K (j / 5) (j % 5) w
  · rw [if_pos c]; omega
  · rw [if_neg c]; exact f
theorem e_cost0 {s K : Nat → Int} (hs : zR s K) (hK : zK K) (q c w : Nat) (hq : q < 36) (hc : c < 5) (hw : w < 4) : g_M_costOf s (q : Int) (c : Int) (w : Int) 0 = some (zP0 K (q * 5 + c) w) := by
  have jq : (q * 5 + c) / 5 = q := by omega
  have jc : (q * 5 + c) % 5 = c := by omega
  refine ev_is ?_
  unfold g_M_costOf zP0
  rw [jq, jc]
  refine ev_g (by decide) (ev_t rfl (ev_c1 (e_M_corner hs hK hq hc (by omega)) (ev_i1 ?_)))
  by_cases k : zCn K q c w
  · rw [if_pos k, if_pos k]
    exact ev_g (by decide) (ev_f (by decide) (ev_some rfl))
  · rw [if_neg k, if_neg k]
    exact ev_g (by decide) (ev_t rfl (ev_some rfl))
theorem e_cost1 {s K : Nat → Int} (hs : zR s K) (hK : zK K) {fi : Int} (hfi : s 37 = fi) (q c w : Nat) (hq : q < 36) (hc : c < 5) (hw : w < 4) : g_M_costOf s (q : Int) (c : Int) (w : Int) 1 = some (zP1 K fi (q * 5 + c) w) := by
  have jq : (q * 5 + c) / 5 = q := by omega
  have jc : (q * 5 + c) % 5 = c := by omega
  refine ev_is ?_
  unfold g_M_costOf zP1
  rw [jq, jc]
  refine ev_g (by decide) (ev_f (by decide) (ev_c1 (e_M_said hs hK hq hc (by omega)) (ev_g (by decide) (ev_c1 (e_M_heardBy hs hK hq) (ev_some ?_)))))
  show (if zCn K q c w then 0 else zwd (K q)) * s 37 * zHB K q = _
  rw [hfi]
  by_cases k : zCn K q c w
  · rw [if_pos k, if_pos k, Int.zero_mul, Int.zero_mul]
  · rw [if_neg k, if_neg k]; rfl
theorem zTour_cong {K : Nat → Int} {c c2 : Nat → Nat → Int} {ok ok2 : Nat → Nat → Prop} {s : Nat} (h : ∀ j w, j < 180 → w < 4 → c j w = c2 j w) (hk : ∀ j w, j < 180 → w < 4 → ok j w → ok2 j w) : ∀ {m v x}, zTour K c ok s m v x → zTour K c2 ok2 s m v x
  | 0, v, x, t => t
  | m + 1, v, x, t => by
    obtain ⟨j, w, h1, h2, h3, h4, h5, h6⟩ := t
    exact ⟨j, w, h1, h2, h3, hk j w h1 h2 h4, h5, by rw [← h j w h1 h2]; exact zTour_cong h hk h6⟩
theorem zTour_came {K : Nat → Int} {c : Nat → Nat → Int} {ok : Nat → Nat → Prop} {s m v : Nat} {x : Int} (h : zTour K c ok s (m + 1) v x) : v % 5 < 4 := by
  obtain ⟨j, w, h1, h2, h3, h4, h5, h6⟩ := h
  have z : zTo K j w % 5 = w := by unfold zTo; omega
  rw [← h5, z]; exact h2
abbrev zFour (C C4 : Nat → Nat → Int) : Prop := ∀ j w, j < 180 → w < 4 → C4 j w = 4 * C j w + (if j % 5 = 4 then (w : Int) else 0)
theorem zT_A {K : Nat → Int} {C C4 : Nat → Nat → Int} (h4 : zFour C C4) {s : Nat} (hs : s % 5 = 4) : ∀ {m v X}, zTour K C4 zAny s (m + 1) v X → ∃ (f : Nat) (P : Int), f < 4 ∧ X = 4 * P + (f : Int) ∧ zTour K C (zOk (f : Int)) s (m + 1) v P
  | 0, v, X, t => by
    obtain ⟨j, w, h1, h2, h3, _, h5, h6⟩ := t
    have e := h4 j w h1 h2
    have js := h6.1
    rw [if_pos (by rw [js]; exact hs)] at e
    exact ⟨w, C j w, h2, by have := h6.2; omega, j, w, h1, h2, h3, fun _ => Or.inr rfl, h5, js, by omega⟩
  | m + 1, v, X, t => by
    obtain ⟨j, w, h1, h2, h3, _, h5, h6⟩ := t
    have cm := zTour_came h6
    obtain ⟨f, P, a1, a2, a3⟩ := zT_A h4 hs h6
    have e := h4 j w h1 h2
    rw [if_neg (by omega)] at e
    exact ⟨f, P + C j w, a1, by omega, j, w, h1, h2, h3, fun x => by omega, h5, by rw [show P + C j w - C j w = P by omega]; exact a3⟩
theorem zT_B {K : Nat → Int} {C C4 : Nat → Nat → Int} (h4 : zFour C C4) {s f : Nat} (hs : s % 5 = 4) : ∀ {m v P}, zTour K C (zOk (f : Int)) s (m + 1) v P → zTour K C4 zAny s (m + 1) v (4 * P + (f : Int))
  | 0, v, P, t => by
    obtain ⟨j, w, h1, h2, h3, hk, h5, h6⟩ := t
    have e := h4 j w h1 h2
    have js := h6.1
    have j4 : j % 5 = 4 := by rw [js]; exact hs
    rw [if_pos j4] at e
    have wf : w = f := by
      rcases hk j4 with z | z
      · omega
      · omega
    exact ⟨j, w, h1, h2, h3, trivial, h5, js, by have := h6.2; omega⟩
  | m + 1, v, P, t => by
    obtain ⟨j, w, h1, h2, h3, _, h5, h6⟩ := t
    have cm := zTour_came h6
    have a := zT_B h4 hs h6
    have e := h4 j w h1 h2
    rw [if_neg (by omega)] at e
    exact ⟨j, w, h1, h2, h3, trivial, h5, by rw [show 4 * P + (f : Int) - C4 j w = 4 * (P - C j w) + (f : Int) by omega]; exact a⟩
theorem zT_C {K : Nat → Int} {C : Nat → Nat → Int} {s : Nat} (hs : s % 5 = 4) : ∀ {m v P}, zTour K C (zOk (-9)) s (m + 1) v P → ∃ f : Nat, f < 4 ∧ zTour K C (zOk (f : Int)) s (m + 1) v P
  | 0, v, P, t => by
    obtain ⟨j, w, h1, h2, h3, _, h5, h6⟩ := t
    exact ⟨w, h2, j, w, h1, h2, h3, fun _ => Or.inr rfl, h5, h6⟩
  | m + 1, v, P, t => by
    obtain ⟨j, w, h1, h2, h3, _, h5, h6⟩ := t
    have cm := zTour_came h6
    obtain ⟨f, a1, a2⟩ := zT_C hs h6
    exact ⟨f, a1, j, w, h1, h2, h3, fun x => by omega, h5, a2⟩
theorem zT_D {K : Nat → Int} {C : Nat → Nat → Int} {s : Nat} {f : Int} {m v : Nat} {P : Int} (t : zTour K C (zOk f) s m v P) : zTour K C (zOk (-9)) s m v P := zTour_cong (fun _ _ _ _ => rfl) (fun _ _ _ _ _ _ => Or.inl (by decide)) t
theorem zNo_link {K : Nat → Int} {C C4 : Nat → Nat → Int} (h4 : zFour C C4) {s t : Nat} (hs : s % 5 = 4) : zNo K C4 zAny s t ↔ zNo K C (zOk (-9)) s t := by
  constructor
  · intro h m v x hv hx
    rcases m with _ | m
    · exact h 0 v x hv hx
    · obtain ⟨f, _, a⟩ := zT_C hs hx
      exact h _ v _ hv (zT_B h4 hs a)
  · intro h m v x hv hx
    rcases m with _ | m
    · exact h 0 v x hv hx
    · obtain ⟨f, P, _, _, a⟩ := zT_A h4 hs hx
      exact h _ v _ hv (zT_D a)
theorem zSq_link {K : Nat → Int} {C C4 : Nat → Nat → Int} (h4 : zFour C C4) {s t p : Nat} (hs : s = p * 5 + 4) {R P0 : Int} (hR : zSq K C4 zAny s t R) (hP : zSq K C (zOk (-9)) s t P0) (h0 : 0 ≤ P0) : R / 4 = P0 ∧ (p ≠ t → ∃ f : Nat, f < 4 ∧ R % 4 = (f : Int) ∧ zSq K C (zOk (f : Int)) s t P0 ∧ ∀ f' : Nat, f' < f → ¬ zSq K C (zOk (f' : Int)) s t P0) := by
  have s4 : s % 5 = 4 := by omega
  have s5 : s / 5 = p := by omega
  obtain ⟨⟨m, v, a1, a2⟩, a3⟩ := hR
  obtain ⟨⟨m', v', b1, b2⟩, b3⟩ := hP
  rcases m with _ | m
  · have R0 := a2.2
    have vs := a2.1
    have P1 := b3 0 v 0 a1 ⟨vs, rfl⟩
    exact ⟨by omega, fun x => by rw [vs] at a1; omega⟩
  · obtain ⟨f, P, c1, c2, c3⟩ := zT_A h4 s4 a2
    have P1 := b3 _ _ _ a1 (zT_D c3)
    have PP : P = P0 := by
      rcases m' with _ | m'
      · have e := b2.2
        have vs := b2.1
        have := a3 0 v' 0 b1 ⟨vs, rfl⟩
        omega
      · obtain ⟨g, g1, g2⟩ := zT_C s4 b2
        have := a3 _ _ _ b1 (zT_B h4 s4 g2)
        omega
    subst PP
    refine ⟨by omega, fun hne => ⟨f, c1, by omega, ⟨⟨_, v, a1, c3⟩, fun m2 v2 x hv hx => b3 _ _ _ hv (zT_D hx)⟩, fun f' hf' hq => ?_⟩⟩
    obtain ⟨⟨m2, v2, d1, d2⟩, _⟩ := hq
    rcases m2 with _ | m2
    · have vs := d2.1
      rw [vs] at d1
      omega
    · have := a3 _ _ _ d1 (zT_B h4 s4 d2)
      omega
theorem zFour_0 {K tl : Nat → Int} (ht : ∀ i, i < 36 → tl i = 0) : zFour (zP0 K) (zPr K 1000 1 tl) := fun j w hj hw => by
  unfold zP0 zPr
  rw [ht (j / 5) (by omega)]
  omega
theorem zFour_1 {K tl : Nat → Int} {fi : Int} (ht : ∀ i, i < 36 → tl i = zFn K fi i) : zFour (zP1 K fi) (zPr K 0 0 tl) := fun j w hj hw => by
  unfold zP1 zPr
  rw [ht (j / 5) (by omega)]
  omega
theorem zFour_r {C C4 : Nat → Nat → Int} (h4 : zFour C C4) (h : ∀ j w, 0 ≤ C j w ∧ C j w ≤ 1001) : ∀ j w, j < 180 → w < 4 → 0 ≤ C4 j w ∧ C4 j w ≤ 5000 := fun j w hj hw => by
  have e := h4 j w hj hw
  have r := h j w
  by_cases k : j % 5 = 4
  · rw [if_pos k] at e; omega
  · rw [if_neg k] at e; omega
