-- own text: walks with prices, the least of them
def zTour (K : Nat → Int) (c : Nat → Nat → Int) (ok : Nat → Nat → Prop) (s : Nat) : Nat → Nat → Int → Prop
  | 0, v, x => v = s ∧ x = 0
  | m + 1, v, x => ∃ j w : Nat, j < 180 ∧ w < 4 ∧ 0 ≤ zN K (j / 5) w ∧ ok j w ∧ zTo K j w = v ∧ zTour K c ok s m j (x - c j w)
theorem zTour_lt {K : Nat → Int} {c : Nat → Nat → Int} {ok : Nat → Nat → Prop} {s : Nat} (hs : s < 180) : ∀ {m v x}, zTour K c ok s m v x → v < 180
  | 0, v, x, h => by have := h.1; omega
  | m + 1, v, x, h => by
    obtain ⟨j, w, h1, h2, h3, h4, h5, h6⟩ := h
    have := zTo_lt (K := K) h1 h2
    omega
theorem zTour_s {K : Nat → Int} {c : Nat → Nat → Int} {ok : Nat → Nat → Prop} {s m j w : Nat} {x : Int} (hj : j < 180) (hw : w < 4) (hN : 0 ≤ zN K (j / 5) w) (hk : ok j w) (h : zTour K c ok s m j x) : zTour K c ok s (m + 1) (zTo K j w) (x + c j w) :=
  ⟨j, w, hj, hw, hN, hk, rfl, by rw [show x + c j w - c j w = x by omega]; exact h⟩
theorem zTour_rng {K : Nat → Int} {c : Nat → Nat → Int} {ok : Nat → Nat → Prop} {s : Nat} {B : Nat} (hc : ∀ j w, j < 180 → w < 4 → 0 ≤ c j w ∧ c j w ≤ (B : Int)) : ∀ {m v x}, zTour K c ok s m v x → 0 ≤ x ∧ x ≤ ((B * m : Nat) : Int)
  | 0, v, x, h => by have := h.2; omega
  | m + 1, v, x, h => by
    obtain ⟨j, w, h1, h2, h3, h4, h5, h6⟩ := h
    have a := zTour_rng hc h6
    have b := hc j w h1 h2
    have e : B * (m + 1) = B * m + B := Nat.mul_succ B m
    omega
theorem zmin_n {S : Int → Prop} (h0 : ∀ x, S x → 0 ≤ x) : ∀ (n : Nat) (x : Int), x ≤ (n : Int) → S x → ∃ y, S y ∧ ∀ z, S z → y ≤ z
  | 0, x, hx, h => ⟨x, h, fun y hy => by have := h0 y hy; omega⟩
  | n + 1, x, hx, h => by
    by_cases e : ∃ y, S y ∧ y < x
    · obtain ⟨y, h1, h2⟩ := e
      exact zmin_n h0 n y (by omega) h1
    · exact ⟨x, h, fun y hy => by
        rcases Int.lt_or_le y x with k | k
        · exact absurd ⟨y, hy, k⟩ e
        · exact k⟩
theorem zmin_e {S : Int → Prop} (h0 : ∀ x, S x → 0 ≤ x) {x : Int} (h : S x) : ∃ y, S y ∧ ∀ z, S z → y ≤ z := zmin_n h0 x.toNat x (by have := h0 x h; omega) h
theorem zmin_N {S : Nat → Prop} {n : Nat} (h : S n) : ∃ m, S m ∧ ∀ i, i < m → ¬ S i := by
  obtain ⟨y, h1, h2⟩ := zmin_e (S := fun x => 0 ≤ x ∧ S x.toNat) (fun x hx => hx.1) (x := (n : Int)) ⟨by omega, by rw [Int.toNat_natCast]; exact h⟩
  refine ⟨y.toNat, h1.2, fun i hi hS => ?_⟩
  have := h2 (i : Int) ⟨by omega, by rw [Int.toNat_natCast]; exact hS⟩
  have := h1.1
  omega
def zLc (K : Nat → Int) (c : Nat → Nat → Int) (ok : Nat → Nat → Prop) (s v : Nat) (x : Int) : Prop := (∃ m, zTour K c ok s m v x) ∧ ∀ m y, zTour K c ok s m v y → x ≤ y
def zMl (K : Nat → Int) (c : Nat → Nat → Int) (ok : Nat → Nat → Prop) (s v m : Nat) : Prop := ∃ x, zLc K c ok s v x ∧ zTour K c ok s m v x ∧ ∀ i, i < m → ¬ zTour K c ok s i v x
theorem zMl_u {K : Nat → Int} {c : Nat → Nat → Int} {ok : Nat → Nat → Prop} {s v m m' : Nat} (h : zMl K c ok s v m) (h' : zMl K c ok s v m') : m = m' := by
  obtain ⟨x, a1, a2, a3⟩ := h
  obtain ⟨y, b1, b2, b3⟩ := h'
  have e : x = y := by
    have := a1.2 m' y b2
    have := b1.2 m x a2
    omega
  subst e
  rcases Nat.lt_trichotomy m m' with k | k | k
  · exact absurd a2 (b3 m k)
  · exact k
  · exact absurd b2 (a3 m' k)
theorem zMl_p {K : Nat → Int} {c : Nat → Nat → Int} {ok : Nat → Nat → Prop} {s v m : Nat} (h : zMl K c ok s v (m + 1)) : ∃ j, j < 180 ∧ zMl K c ok s j m := by
  obtain ⟨x, a1, a2, a3⟩ := h
  obtain ⟨j, w, h1, h2, h3, h4, h5, h6⟩ := a2
  refine ⟨j, h1, x - c j w, ⟨⟨m, h6⟩, fun i y hy => ?_⟩, h6, fun i hi hy => ?_⟩
  · have t := zTour_s h1 h2 h3 h4 hy
    rw [h5] at t
    have := a1.2 _ _ t
    omega
  · have t := zTour_s h1 h2 h3 h4 hy
    rw [h5, show x - c j w + c j w = x by omega] at t
    exact a3 (i + 1) (by omega) t
theorem zMl_d {K : Nat → Int} {c : Nat → Nat → Int} {ok : Nat → Nat → Prop} {s : Nat} (hs : s < 180) : ∀ (d : Nat) {v i : Nat}, zMl K c ok s v (i + d) → ∃ u, u < 180 ∧ zMl K c ok s u i
  | 0, v, i, h => ⟨v, by obtain ⟨x, _, a, _⟩ := h; exact zTour_lt hs a, h⟩
  | d + 1, v, i, h => by
    obtain ⟨j, _, h2⟩ := zMl_p (m := i + d) h
    exact zMl_d hs d h2
theorem cnt_lt2 {p q : Nat → Prop} {dp : DecidablePred p} {dq : DecidablePred q} (h : ∀ i, p i → q i) {u : Nat} (hq : q u) (hp : ¬ p u) : ∀ n, @cnt p dp n + (if u < n then 1 else 0) ≤ @cnt q dq n
  | 0 => by rw [if_neg (Nat.not_lt_zero u)]; exact Int.le_refl _
  | n + 1 => by
    have ih := cnt_lt2 (dp := dp) (dq := dq) h hq hp n
    rw [cnt_s, cnt_s]
    by_cases e : n = u
    · subst e
      rw [if_neg (Nat.lt_irrefl n)] at ih
      rw [if_pos (Nat.lt_succ_self n), if_neg hp, if_pos hq]
      omega
    · have e1 : (if u < n then (1 : Int) else 0) = (if u < n + 1 then 1 else 0) := by
        by_cases l : u < n
        · rw [if_pos l, if_pos (by omega)]
        · rw [if_neg l, if_neg (by omega)]
      rw [e1] at ih
      by_cases k : p n
      · rw [if_pos k, if_pos (h n k)]; omega
      · rw [if_neg k]
        by_cases k2 : q n
        · rw [if_pos k2]; omega
        · rw [if_neg k2]; omega
theorem zMl_cnt {K : Nat → Int} {c : Nat → Nat → Int} {ok : Nat → Nat → Prop} {s M : Nat} (h : ∀ i, i ≤ M → ∃ u, u < 180 ∧ zMl K c ok s u i) : ∀ i, i ≤ M + 1 → (i : Int) ≤ @cnt (fun u => ∃ t, t < i ∧ zMl K c ok s u t) (fun _ => Classical.propDecidable _) 180
  | 0, _ => (@cnt_rng _ (fun _ => Classical.propDecidable _) 180).1
  | i + 1, hi => by
    have ih := zMl_cnt h i (by omega)
    obtain ⟨u, h1, h2⟩ := h i (by omega)
    have l := cnt_lt2 (p := fun u => ∃ t, t < i ∧ zMl K c ok s u t) (q := fun u => ∃ t, t < i + 1 ∧ zMl K c ok s u t) (dp := fun _ => Classical.propDecidable _) (dq := fun _ => Classical.propDecidable _) (fun v hv => by
      obtain ⟨t, a, b⟩ := hv
      exact ⟨t, by omega, b⟩) (u := u) ⟨i, by omega, h2⟩ (fun hv => by
      obtain ⟨t, a, b⟩ := hv
      have := zMl_u b h2
      omega) 180
    rw [if_pos h1] at l
    omega
theorem zShort {K : Nat → Int} {c : Nat → Nat → Int} {ok : Nat → Nat → Prop} {s : Nat} (hs : s < 180) (hc : ∀ j w, j < 180 → w < 4 → 0 ≤ c j w) {m v : Nat} {x : Int} (h : zTour K c ok s m v x) : ∃ m' x', m' ≤ 179 ∧ x' ≤ x ∧ zTour K c ok s m' v x' := by
  have pos : ∀ m v x, zTour K c ok s m v x → 0 ≤ x := by
    intro m
    induction m with
    | zero => intro v x h; have := h.2; omega
    | succ n ih =>
      intro v x h
      obtain ⟨j, w, h1, h2, h3, h4, h5, h6⟩ := h
      have := ih _ _ h6
      have := hc j w h1 h2
      omega
  obtain ⟨y, y1, y2⟩ := zmin_e (S := fun x => ∃ m, zTour K c ok s m v x) (fun x hx => by obtain ⟨m, hm⟩ := hx; exact pos _ _ _ hm) ⟨m, h⟩
  obtain ⟨m0, hm0⟩ := y1
  obtain ⟨M, b1, b2⟩ := zmin_N (S := fun i => zTour K c ok s i v y) hm0
  have ml : zMl K c ok s v M := ⟨y, ⟨⟨m0, hm0⟩, fun m z hz => y2 z ⟨m, hz⟩⟩, b1, b2⟩
  have all : ∀ i, i ≤ M → ∃ u, u < 180 ∧ zMl K c ok s u i := fun i hi => zMl_d hs (M - i) (v := v) (by rw [show i + (M - i) = M by omega]; exact ml)
  have cc := zMl_cnt all (M + 1) (Nat.le_refl _)
  have cr := (@cnt_rng (fun u => ∃ t, t < M + 1 ∧ zMl K c ok s u t) (fun _ => Classical.propDecidable _) 180).2
  exact ⟨M, y, by omega, y2 x ⟨m, h⟩, b1⟩
def zRes (K : Nat → Int) (c : Nat → Nat → Int) (ok : Nat → Nat → Prop) (s : Nat) (INF : Int) (L : Nat → Int) : Prop := ∀ v, v < 180 → (L v = INF ∧ ∀ m x, ¬ zTour K c ok s m v x) ∨ (0 ≤ L v ∧ L v < INF ∧ (∃ m, zTour K c ok s m v (L v)) ∧ ∀ m x, zTour K c ok s m v x → L v ≤ x)
theorem zRes_of {K : Nat → Int} {c : Nat → Nat → Int} {ok : Nat → Nat → Prop} {s : Nat} {INF : Int} {L : Nat → Int} (hs : s < 180) (hi : 895000 < INF) (hc : ∀ j w, j < 180 → w < 4 → 0 ≤ c j w ∧ c j w ≤ 5000) (hv : ∀ v, v < 180 → L v = INF ∨ (L v < INF ∧ ∃ m, zTour K c ok s m v (L v))) (hle : ∀ m v x, m ≤ 179 → zTour K c ok s m v x → L v ≤ x) : zRes K c ok s INF L := by
  have all : ∀ m v x, zTour K c ok s m v x → L v ≤ x ∧ L v ≤ 895000 := fun m v x h => by
    obtain ⟨m', x', a1, a2, a3⟩ := zShort hs (fun j w h1 h2 => (hc j w h1 h2).1) h
    have b := zTour_rng (B := 5000) hc a3
    have d := hle m' v x' a1 a3
    omega
  intro v hv2
  rcases hv v hv2 with e | ⟨e, m, hm⟩
  · exact Or.inl ⟨e, fun m x h => by have := (all m v x h).2; omega⟩
  · exact Or.inr ⟨(zTour_rng (B := 5000) hc hm).1, e, ⟨m, hm⟩, fun m x h => (all m v x h).1⟩
theorem zRes_rel {K : Nat → Int} {c : Nat → Nat → Int} {ok : Nat → Nat → Prop} {s : Nat} {INF : Int} {L : Nat → Int} (hs : s < 180) (hi : 895000 < INF) (hc : ∀ j w, j < 180 → w < 4 → 0 ≤ c j w ∧ c j w ≤ 5000) (hv : ∀ v, v < 180 → L v = INF ∨ (L v < INF ∧ ∃ m, zTour K c ok s m v (L v))) (h0 : L s ≤ 0) (hr : ∀ j w, j < 180 → w < 4 → 0 ≤ zN K (j / 5) w → ok j w → L j < INF → L (zTo K j w) ≤ L j + c j w) : zRes K c ok s INF L := by
  refine zRes_of hs hi hc hv (fun m v x hm h => ?_)
  clear hm
  induction m generalizing v x with
  | zero => rw [h.1, h.2]; exact h0
  | succ n ih =>
    obtain ⟨j, w, h1, h2, h3, h4, h5, h6⟩ := h
    have a := ih _ _ h6
    have tl := zTo_lt (K := K) h1 h2
    have b := (hc j w h1 h2).1
    rcases hv j h1 with e | ⟨e, _⟩
    · rcases hv v (by omega) with e2 | ⟨e2, _⟩
      · omega
      · omega
    · have := hr j w h1 h2 h3 h4 e
      rw [h5] at this
      omega
def zSq (K : Nat → Int) (c : Nat → Nat → Int) (ok : Nat → Nat → Prop) (s t : Nat) (P : Int) : Prop := (∃ m v, v / 5 = t ∧ zTour K c ok s m v P) ∧ ∀ m v x, v / 5 = t → zTour K c ok s m v x → P ≤ x
theorem zSq_u {K : Nat → Int} {c : Nat → Nat → Int} {ok : Nat → Nat → Prop} {s t : Nat} {P P' : Int} (h : zSq K c ok s t P) (h' : zSq K c ok s t P') : P = P' := by
  obtain ⟨⟨m, v, a1, a2⟩, a3⟩ := h
  obtain ⟨⟨m', v', b1, b2⟩, b3⟩ := h'
  have := a3 _ _ _ b1 b2
  have := b3 _ _ _ a1 a2
  omega
def zNo (K : Nat → Int) (c : Nat → Nat → Int) (ok : Nat → Nat → Prop) (s t : Nat) : Prop := ∀ m v x, v / 5 = t → ¬ zTour K c ok s m v x
def zM5 (L : Nat → Int) (INF : Int) (t : Nat) : Nat → Int
  | 0 => INF
  | i + 1 => min (zM5 L INF t i) (L (t * 5 + i))
theorem zM5_le {L : Nat → Int} {INF : Int} {t : Nat} : ∀ (n : Nat), zM5 L INF t n ≤ INF ∧ ∀ i, i < n → zM5 L INF t n ≤ L (t * 5 + i)
  | 0 => ⟨Int.le_refl _, fun i hi => absurd hi (Nat.not_lt_zero i)⟩
  | n + 1 => by
    have ih := zM5_le (L := L) (INF := INF) (t := t) n
    refine ⟨by show min (zM5 L INF t n) (L (t * 5 + n)) ≤ INF; have := ih.1; omega, fun i hi => ?_⟩
    show min (zM5 L INF t n) (L (t * 5 + n)) ≤ _
    by_cases e : i = n
    · subst e; omega
    · have := ih.2 i (by omega); omega
theorem zM5_at {L : Nat → Int} {INF : Int} {t : Nat} : ∀ (n : Nat), zM5 L INF t n = INF ∨ ∃ i, i < n ∧ zM5 L INF t n = L (t * 5 + i)
  | 0 => Or.inl rfl
  | n + 1 => by
    have ih := zM5_at (L := L) (INF := INF) (t := t) n
    have e : zM5 L INF t (n + 1) = min (zM5 L INF t n) (L (t * 5 + n)) := rfl
    rcases Int.lt_or_le (zM5 L INF t n) (L (t * 5 + n)) with k | k
    · have e2 : zM5 L INF t (n + 1) = zM5 L INF t n := by omega
      rw [e2]
      rcases ih with h | ⟨i, h1, h2⟩
      · exact Or.inl h
      · exact Or.inr ⟨i, by omega, h2⟩
    · exact Or.inr ⟨n, by omega, by omega⟩
theorem zM5_rng {L : Nat → Int} {INF : Int} {t : Nat} (h0 : 0 ≤ INF) (h : ∀ v, v < 180 → 0 ≤ L v) (ht : t < 36) (n : Nat) (hn : n ≤ 5) : 0 ≤ zM5 L INF t n ∧ zM5 L INF t n ≤ INF := by
  refine ⟨?_, (zM5_le n).1⟩
  rcases zM5_at (L := L) (INF := INF) (t := t) n with e | ⟨i, h1, h2⟩
  · omega
  · have := h (t * 5 + i) (by omega); omega
theorem zM5_sq {K : Nat → Int} {c : Nat → Nat → Int} {ok : Nat → Nat → Prop} {s t : Nat} {INF : Int} {L : Nat → Int} (hs : s < 180) (ht : t < 36) (h : zRes K c ok s INF L) : (zM5 L INF t 5 = INF ∧ zNo K c ok s t) ∨ (0 ≤ zM5 L INF t 5 ∧ zM5 L INF t 5 < INF ∧ zSq K c ok s t (zM5 L INF t 5)) := by
  have le := zM5_le (L := L) (INF := INF) (t := t) 5
  have key : ∀ m v x, v / 5 = t → zTour K c ok s m v x → zM5 L INF t 5 ≤ x ∧ zM5 L INF t 5 < INF := fun m v x hv hx => by
    have l := zTour_lt hs hx
    have a := le.2 (v % 5) (by omega)
    rw [show t * 5 + v % 5 = v by omega] at a
    rcases h v l with ⟨e, no⟩ | ⟨e0, e1, e2, e3⟩
    · exact absurd hx (no m x)
    · have := e3 m x hx
      omega
  rcases zM5_at (L := L) (INF := INF) (t := t) 5 with e | ⟨i, h1, h2⟩
  · exact Or.inl ⟨e, fun m v x hv hx => by have := (key m v x hv hx).2; omega⟩
  · rcases h (t * 5 + i) (by omega) with ⟨e, no⟩ | ⟨e0, e1, ⟨m, e2⟩, e3⟩
    · exact Or.inl ⟨by omega, fun m v x hv hx => by have := (key m v x hv hx).2; omega⟩
    · exact Or.inr ⟨by omega, by omega, ⟨m, t * 5 + i, by omega, by rw [h2]; exact e2⟩, fun m v x hv hx => (key m v x hv hx).1⟩
