-- own text: words, unheard
theorem e_putN {n : Nat} {g : Nat → Int} {q : Nat} {v : Int} (hn : n < 2147483648) (h : q < n) : g_Numbers_put n g (q : Int) v = some (updI g q v) := by
  rw [e_put hn ⟨by omega, by omega⟩, if_pos (by omega), Int.toNat_natCast]
abbrev zHu (K : Nat → Int) (h : Int) (q : Nat) : Prop := h ≠ 0 ∧ 0 < zwd (K q) ∧ 0 < zHB K q
def zVl (K : Nat → Int) (m : Int) (F : Nat → Int) (j w : Nat) : Int := if zCn K (j / 5) (j % 5) w then (if m = 0 then F j else 0) else F j + zwd (K (j / 5))
abbrev zBk (K : Nat → Int) (h : Int) (F : Nat → Int) (j w : Nat) : Prop := F j < 0 ∨ zN K (j / 5) w < 0 ∨ (zHu K h (j / 5) ∧ ¬ zCn K (j / 5) (j % 5) w)
def zTo (K : Nat → Int) (j w : Nat) : Nat := (zN K (j / 5) w).toNat * 5 + w
def zRx (K : Nat → Int) (h m : Int) (F : Nat → Int) (j w : Nat) (G : Nat → Int) : Nat → Int := if zBk K h F j w then G else updI G (zTo K j w) (max (G (zTo K j w)) (zVl K m F j w))
def zL4 (K : Nat → Int) (h m : Int) (F : Nat → Int) (j : Nat) (G : Nat → Int) : Nat → Nat → Int
  | 0 => G
  | w + 1 => zRx K h m F j w (zL4 K h m F j G w)
def zLy (K : Nat → Int) (h m : Int) (F : Nat → Int) : Nat → Nat → Int
  | 0 => fun _ => -1
  | j + 1 => zL4 K h m F j (zLy K h m F j) 4
abbrev zI (G : Nat → Int) (B : Int) : Prop := ∀ j, -1 ≤ G j ∧ G j ≤ B
abbrev zE (a G : Nat → Int) : Prop := ∀ j, j < 180 → a j = G j
abbrev zCF (K G : Nat → Int) : Prop := ∀ j, 0 ≤ G j → zcan (K (j / 5))
theorem zE_up {a G : Nat → Int} (h : zE a G) (i : Nat) (v : Int) : zE (updI a i v) (updI G i v) := by
  intro j hj
  by_cases e : j = i
  · subst e; rw [updI_at, updI_at]
  · rw [updI_ne _ _ e, updI_ne _ _ e]; exact h j hj
theorem zVl_rng {K : Nat → Int} {m b : Int} {F : Nat → Int} {j w : Nat} (h0 : 0 ≤ F j) (hb : F j ≤ b) : 0 ≤ zVl K m F j w ∧ zVl K m F j w ≤ b + 2 := by
  have d := zwd_rng (K (j / 5))
  unfold zVl
  by_cases c : zCn K (j / 5) (j % 5) w
  · rw [if_pos c]
    by_cases e : m = 0
    · rw [if_pos e]; omega
    · rw [if_neg e]; omega
  · rw [if_neg c]; omega
theorem zRx_rng {K : Nat → Int} {h m b : Int} {F G : Nat → Int} {j w : Nat} (hF : zI F b) (hG : zI G (b + 2)) : zI (zRx K h m F j w G) (b + 2) := by
  intro i
  unfold zRx
  by_cases k : zBk K h F j w
  · rw [if_pos k]; exact hG i
  · rw [if_neg k]
    have v := zVl_rng (K := K) (m := m) (w := w) (show 0 ≤ F j by omega) (hF j).2
    by_cases e : i = zTo K j w
    · subst e; rw [updI_at]; have := hG (zTo K j w); omega
    · rw [updI_ne _ _ e]; exact hG i
theorem zL4_rng {K : Nat → Int} {h m b : Int} {F G : Nat → Int} {j : Nat} (hF : zI F b) (hG : zI G (b + 2)) : ∀ w, zI (zL4 K h m F j G w) (b + 2)
  | 0 => hG
  | w + 1 => zRx_rng hF (zL4_rng hF hG w)
theorem zLy_rng {K : Nat → Int} {h m b : Int} {F : Nat → Int} (h0 : -1 ≤ b) (hF : zI F b) : ∀ j, zI (zLy K h m F j) (b + 2)
  | 0 => fun i => ⟨by show (-1 : Int) ≤ -1; omega, by show (-1 : Int) ≤ _; omega⟩
  | j + 1 => zL4_rng hF (zLy_rng h0 hF j) 4
theorem zRx_can {K : Nat → Int} {h m : Int} {F G : Nat → Int} {j w : Nat} (hj : j < 180) (hw : w < 5) (hG : zCF K G) : zCF K (zRx K h m F j w G) := by
  intro i hi
  have r := zN_rng (K := K) (q := j / 5) (w := w) (by omega)
  unfold zRx at hi
  by_cases k : zBk K h F j w
  · rw [if_pos k] at hi; exact hG i hi
  · rw [if_neg k] at hi
    by_cases e : i = zTo K j w
    · have z : zTo K j w / 5 = (zN K (j / 5) w).toNat := by unfold zTo; omega
      rw [e, z]
      exact r.2.2 (by omega)
    · rw [updI_ne _ _ e] at hi; exact hG i hi
theorem zL4_can {K : Nat → Int} {h m : Int} {F G : Nat → Int} {j : Nat} (hj : j < 180) (hG : zCF K G) : ∀ w, w ≤ 5 → zCF K (zL4 K h m F j G w)
  | 0, _ => hG
  | w + 1, hw => zRx_can hj (by omega) (zL4_can hj hG w (by omega))
theorem zLy_can {K : Nat → Int} {h m : Int} {F : Nat → Int} : ∀ j, j ≤ 180 → zCF K (zLy K h m F j)
  | 0, _ => fun i hi => absurd hi (by show ¬ (0 : Int) ≤ -1; decide)
  | j + 1, hj => zL4_can (by omega) (zLy_can j (by omega)) 4 (by decide)
theorem zL4_bk {K : Nat → Int} {h m : Int} {F G : Nat → Int} {j : Nat} (hb : ∀ w, w < 4 → zBk K h F j w) : ∀ w, w ≤ 4 → zL4 K h m F j G w = G
  | 0, _ => rfl
  | w + 1, hw => by
    show zRx K h m F j w (zL4 K h m F j G w) = G
    rw [zL4_bk hb w (by omega)]
    unfold zRx
    rw [if_pos (hb w (by omega))]
theorem zTo_lt {K : Nat → Int} {j w : Nat} (hj : j < 180) (hw : w < 4) : zTo K j w < 180 := by
  have r := zN_rng (K := K) (q := j / 5) (w := w) (by omega)
  unfold zTo; omega
def zMx (K : Nat → Int) (h : Int) (F : Nat → Int) : Nat → Int
  | 0 => -1
  | j + 1 => if F j = -1 ∨ zHu K h (j / 5) then zMx K h F j else max (zMx K h F j) (F j + zwd (K (j / 5)))
theorem zMx_rng {K : Nat → Int} {h b : Int} {F : Nat → Int} (h0 : 0 ≤ b) (hF : zI F b) : ∀ n, -1 ≤ zMx K h F n ∧ zMx K h F n ≤ b + 2
  | 0 => ⟨by show (-1 : Int) ≤ -1; omega, by show (-1 : Int) ≤ _; omega⟩
  | j + 1 => by
    have ih := zMx_rng (K := K) (h := h) h0 hF j
    have d := zwd_rng (K (j / 5))
    have f := hF j
    show -1 ≤ (if F j = -1 ∨ zHu K h (j / 5) then zMx K h F j else max (zMx K h F j) (F j + zwd (K (j / 5)))) ∧ (if F j = -1 ∨ zHu K h (j / 5) then zMx K h F j else max (zMx K h F j) (F j + zwd (K (j / 5)))) ≤ b + 2
    by_cases e : F j = -1 ∨ zHu K h (j / 5)
    · rw [if_pos e]; exact ih
    · rw [if_neg e]; omega
theorem zMx_up {K : Nat → Int} {h v : Int} {G : Nat → Int} {i : Nat} (hv : 0 ≤ v) (hG : ∀ j, -1 ≤ G j) : ∀ n, zMx K h (updI G i (max (G i) v)) n = if i < n ∧ ¬ zHu K h (i / 5) then max (zMx K h G n) (v + zwd (K (i / 5))) else zMx K h G n
  | 0 => by rw [if_neg (by omega)]; rfl
  | n + 1 => by
    have ih := zMx_up (K := K) (h := h) (i := i) hv hG n
    have g := hG n
    show (if updI G i (max (G i) v) n = -1 ∨ zHu K h (n / 5) then zMx K h (updI G i (max (G i) v)) n else max (zMx K h (updI G i (max (G i) v)) n) (updI G i (max (G i) v) n + zwd (K (n / 5)))) = if i < n + 1 ∧ ¬ zHu K h (i / 5) then max (if G n = -1 ∨ zHu K h (n / 5) then zMx K h G n else max (zMx K h G n) (G n + zwd (K (n / 5)))) (v + zwd (K (i / 5))) else (if G n = -1 ∨ zHu K h (n / 5) then zMx K h G n else max (zMx K h G n) (G n + zwd (K (n / 5))))
    rw [ih]
    by_cases e : n = i
    · subst e
      have a1 : ¬ (n < n ∧ ¬ zHu K h (n / 5)) := fun x => by have := x.1; omega
      rw [updI_at, if_neg a1]
      by_cases u : zHu K h (n / 5)
      · have a2 : max (G n) v = -1 ∨ zHu K h (n / 5) := Or.inr u
        have a3 : ¬ (n < n + 1 ∧ ¬ zHu K h (n / 5)) := fun x => x.2 u
        have a4 : G n = -1 ∨ zHu K h (n / 5) := Or.inr u
        rw [if_pos a2, if_neg a3, if_pos a4]
      · have a2 : ¬ (max (G n) v = -1 ∨ zHu K h (n / 5)) := fun x => by
          rcases x with x | x
          · omega
          · exact u x
        have a3 : n < n + 1 ∧ ¬ zHu K h (n / 5) := ⟨by omega, u⟩
        rw [if_neg a2, if_pos a3]
        by_cases z : G n = -1
        · have a4 : G n = -1 ∨ zHu K h (n / 5) := Or.inl z
          rw [if_pos a4]; omega
        · have a4 : ¬ (G n = -1 ∨ zHu K h (n / 5)) := fun x => by
            rcases x with x | x
            · exact z x
            · exact u x
          rw [if_neg a4]; omega
    · rw [updI_ne _ _ e]
      by_cases u : zHu K h (i / 5)
      · have a1 : ¬ (i < n ∧ ¬ zHu K h (i / 5)) := fun x => x.2 u
        have a2 : ¬ (i < n + 1 ∧ ¬ zHu K h (i / 5)) := fun x => x.2 u
        rw [if_neg a1, if_neg a2]
      · by_cases l : i < n
        · have a1 : i < n ∧ ¬ zHu K h (i / 5) := ⟨l, u⟩
          have a2 : i < n + 1 ∧ ¬ zHu K h (i / 5) := ⟨by omega, u⟩
          rw [if_pos a1, if_pos a2]
          by_cases z : G n = -1 ∨ zHu K h (n / 5)
          · rw [if_pos z, if_pos z]
          · rw [if_neg z, if_neg z]; omega
        · have a1 : ¬ (i < n ∧ ¬ zHu K h (i / 5)) := fun x => l x.1
          have a2 : ¬ (i < n + 1 ∧ ¬ zHu K h (i / 5)) := fun x => by have := x.1; omega
          rw [if_neg a1, if_neg a2]
theorem zMx_none {K : Nat → Int} {h : Int} : ∀ n, zMx K h (fun _ => -1) n = -1
  | 0 => rfl
  | n + 1 => by
    show (if (-1 : Int) = -1 ∨ zHu K h (n / 5) then zMx K h (fun _ => -1) n else _) = _
    rw [if_pos (Or.inl rfl)]; exact zMx_none n
def zTr (K : Nat → Int) (h m : Int) (p : Nat) : Nat → Nat → Int
  | 0 => updI (fun _ => -1) (p * 5 + 4) 0
  | k + 1 => zLy K h m (zTr K h m p k) 180
theorem zTr_rng {K : Nat → Int} {h m : Int} {p : Nat} : ∀ k : Nat, zI (zTr K h m p k) (2 * k)
  | 0 => fun i => by
    show -1 ≤ updI (fun _ => -1) (p * 5 + 4) 0 i ∧ updI (fun _ => -1) (p * 5 + 4) 0 i ≤ _
    by_cases e : i = p * 5 + 4
    · rw [e, updI_at]; omega
    · rw [updI_ne _ _ e]; show (-1 : Int) ≤ -1 ∧ (-1 : Int) ≤ _; omega
  | k + 1 => fun i => by
    have := zLy_rng (K := K) (h := h) (m := m) (by omega) (zTr_rng (K := K) (h := h) (m := m) (p := p) k) 180 i
    show -1 ≤ zLy K h m (zTr K h m p k) 180 i ∧ zLy K h m (zTr K h m p k) 180 i ≤ _
    omega
theorem zTr_can {K : Nat → Int} {h m : Int} {p : Nat} (hp : zcan (K p)) : ∀ k : Nat, zCF K (zTr K h m p k)
  | 0 => fun i hi => by
    have hi : 0 ≤ updI (fun _ => -1) (p * 5 + 4) 0 i := hi
    by_cases e : i = p * 5 + 4
    · have : i / 5 = p := by omega
      rw [this]; exact hp
    · rw [updI_ne _ _ e] at hi; exact absurd hi (by show ¬ (0 : Int) ≤ -1; decide)
  | k + 1 => zLy_can 180 (Nat.le_refl _)
theorem zLy_dead {K : Nat → Int} {h m : Int} {F : Nat → Int} (hb : ∀ j, j < 180 → ∀ w, w < 4 → zBk K h F j w) : ∀ j, j ≤ 180 → zLy K h m F j = fun _ => -1
  | 0, _ => rfl
  | j + 1, hj => by
    show zL4 K h m F j (zLy K h m F j) 4 = _
    rw [zL4_bk (hb j (by omega)) 4 (Nat.le_refl _)]
    exact zLy_dead hb j (by omega)
theorem zTr_dead {K : Nat → Int} {h m : Int} {p : Nat} (hu : zHu K h p) : ∀ k, zTr K h m p (k + 1) = fun _ => -1
  | 0 => zLy_dead (fun j hj w hw => by
      by_cases e : j = p * 5 + 4
      · have e1 : j / 5 = p := by omega
        have e2 : j % 5 = 4 := by omega
        exact Or.inr (Or.inr ⟨by rw [e1]; exact hu, fun c => c.1 e2⟩)
      · exact Or.inl (by show updI (fun _ => -1) (p * 5 + 4) 0 j < 0; rw [updI_ne _ _ e]; show (-1 : Int) < 0; decide)) 180 (Nat.le_refl _)
  | k + 1 => zLy_dead (fun j hj w hw => Or.inl (by rw [zTr_dead hu k]; show (-1 : Int) < 0; decide)) 180 (Nat.le_refl _)
def zBe (K : Nat → Int) (h m : Int) (p : Nat) : Nat → Int
  | 0 => zMx K h (zTr K h m p 0) 180
  | k + 1 => max (zBe K h m p k) (zMx K h (zTr K h m p (k + 1)) 180)
theorem zMx_0 {K : Nat → Int} {h m : Int} {p : Nat} (hp : p < 36) : zMx K h (zTr K h m p 0) 180 = if zHu K h p then -1 else zwd (K p) := by
  have d := zwd_rng (K p)
  have e : p * 5 + 4 < 180 := by omega
  have q : (p * 5 + 4) / 5 = p := by omega
  have u := zMx_up (K := K) (h := h) (v := 0) (G := fun _ => -1) (i := p * 5 + 4) (by decide) (fun _ => by decide) 180
  rw [q, zMx_none] at u
  show zMx K h (updI (fun _ => -1) (p * 5 + 4) (max (-1) 0)) 180 = _
  rw [u]
  by_cases c : zHu K h p
  · rw [if_neg (fun x => x.2 c), if_pos c]
  · rw [if_pos ⟨e, c⟩, if_neg c]; omega
theorem zBe_rng {K : Nat → Int} {h m : Int} {p : Nat} : ∀ k : Nat, -1 ≤ zBe K h m p k ∧ zBe K h m p k ≤ 2 * k + 2
  | 0 => zMx_rng (by decide) (zTr_rng 0) 180
  | k + 1 => by
    have a := zBe_rng (K := K) (h := h) (m := m) (p := p) k
    have b := zMx_rng (K := K) (h := h) (by omega) (zTr_rng (K := K) (h := h) (m := m) (p := p) (k + 1)) 180
    show -1 ≤ max (zBe K h m p k) (zMx K h (zTr K h m p (k + 1)) 180) ∧ max (zBe K h m p k) (zMx K h (zTr K h m p (k + 1)) 180) ≤ _
    omega
theorem zBe_dead {K : Nat → Int} {h m : Int} {p : Nat} (hp : p < 36) (hu : zHu K h p) : ∀ k, zBe K h m p k = -1
  | 0 => by show zMx K h (zTr K h m p 0) 180 = -1; rw [zMx_0 hp, if_pos hu]
  | k + 1 => by
    show max (zBe K h m p k) (zMx K h (zTr K h m p (k + 1)) 180) = -1
    rw [zBe_dead hp hu k, zTr_dead hu k, zMx_none]; rfl
theorem zBe_live {K : Nat → Int} {h m : Int} {p : Nat} (hp : p < 36) (hu : ¬ zHu K h p) : ∀ k, 0 ≤ zBe K h m p k
  | 0 => by show 0 ≤ zMx K h (zTr K h m p 0) 180; rw [zMx_0 hp, if_neg hu]; exact (zwd_rng _).1
  | k + 1 => by
    have := zBe_live (h := h) (m := m) hp hu k
    show 0 ≤ max (zBe K h m p k) (zMx K h (zTr K h m p (k + 1)) 180)
    omega
theorem e_hush {K : Nat → Int} (hK : zK K) (a : Nat → Int) {h : Int} (hh : zr h) : ev (g_Talks_hush a K h) (fun r => ∀ q, q < 36 → r q = if zHu K h q then 1 else 0) := by
  unfold g_Talks_hush
  refine ev_f2_1 36 (by decide) (fun i x => ∀ q, q < i → x q = if zHu K h q then 1 else 0) (fun i x ag hi hQ hag => ?_) (fun q hq => absurd hq (Nat.not_lt_zero q))
  refine ev_g (by omega) (ev_if (fun c => ev_some (fun q hq => hQ q (by omega))) (fun c => ?_))
  have hl : i < 36 := by omega
  have r1 := zwd_rng (K i)
  have r2 := zHB_rng K i
  refine ev_j1 (fun v => v = if zHu K h i then 1 else 0) (fun v hv => ?_) (fun k2 hk => ?_)
  · refine ev_j1 (fun v => v = if zHu K h i then 1 else 0) (fun v hv => ?_) (fun k2 hk => ?_)
    · refine ev_c1 (e_putN (by decide) hl) (ev_n (hag _ hl (fun q hq => ?_)))
      by_cases e : q = i
      · subst e; rw [updI_at]; exact hv
      · rw [updI_ne _ _ e]; exact hQ q (by omega)
    · subst hv
      by_cases c : zHu K h i
      · rw [if_pos c] at hk ⊢
        exact ev_g (by decide) (ev_f (by decide) (hk _ rfl))
      · rw [if_neg c] at hk ⊢
        exact ev_g (by decide) (ev_t rfl (hk _ rfl))
  · refine ev_j1 (fun _ => ¬ zHu K h i) (fun _ hv => hk _ (by rw [if_neg hv])) (fun k3 hk3 => ?_)
    refine ev_g hh (ev_if (fun c => hk3 () (fun x => x.1 c)) (fun c => ev_c1 (e_words hK hl) (ev_g (by omega) (ev_if (fun c2 => hk3 () (fun x => by have := x.2.1; omega)) (fun c2 => ev_c1 (e_heardBy hK hl) (ev_g (by omega) (ev_if (fun c3 => hk3 () (fun x => by have := x.2.2; omega)) (fun c3 => hk _ (by rw [if_pos ⟨c, by omega, by omega⟩])))))))))
theorem e_goOnFrom {K : Nat → Int} (hK : zK K) {ish now th F G : Nat → Int} {h m b : Int} {j : Nat} (hj : j < 180) (hi : ∀ q, q < 36 → ish q = if zHu K h q then 1 else 0) (hn : zE now F) (hF : zI F b) (hb : b ≤ 1000) (h0 : 0 ≤ F j) (hm : zr m) (hG : zI G (b + 2)) (ht : zE th G) : ev (g_Talks_goOnFrom ish now th K (j : Int) m) (fun r => zE r (zL4 K h m F j G 4)) := by
  unfold g_Talks_goOnFrom
  have e5 : (j : Int) / 5 = ((j / 5 : Nat) : Int) := by omega
  have e6 : (j : Int) % 5 = ((j % 5 : Nat) : Int) := by omega
  refine ev_g (by omega) (ev_n ?_)
  rw [e5, e6]
  have hq : j / 5 < 36 := by omega
  have hc : j % 5 < 5 := by omega
  refine ev_f2_1 4 (by decide) (fun i x => zE x (zL4 K h m F j G i)) (fun i x ag hi4 hQ hag => ?_) ht
  refine ev_g (by omega) (ev_if (fun c => ?_) (fun c => ?_))
  · have : i = 4 := by omega
    subst this
    exact ev_some hQ
  have hl : i < 4 := by omega
  have r := zN_rng (K := K) (q := j / 5) (w := i) hq
  refine ev_c1 (e_next hK hq hl) (ev_c1 (e_corner hK hq hc (by omega)) ?_)
  refine ev_j1 (fun y => zE y (zL4 K h m F j G (i + 1))) (fun y hy => ev_n (hag y hl hy)) (fun k2 hk => ?_)
  have bk : zBk K h F j i → zE x (zL4 K h m F j G (i + 1)) := fun bb => by
    show zE x (zRx K h m F j i (zL4 K h m F j G i))
    unfold zRx
    rw [if_pos bb]; exact hQ
  refine ev_g (by omega) (ev_if (fun c1 => hk _ (bk (Or.inr (Or.inl (by omega))))) (fun c1 => ?_))
  refine ev_c1 (e_atN (by decide) hq) ?_
  rw [hi _ hq]
  refine ev_j1 (fun _ => ¬ (zHu K h (j / 5) ∧ ¬ zCn K (j / 5) (j % 5) i)) (fun _ nb => ?_) (fun k3 hk3 => ?_)
  · have nbk : ¬ zBk K h F j i := fun x => by
      rcases x with x | x | x
      · omega
      · omega
      · exact nb x
    obtain ⟨t, et⟩ := Int.eq_ofNat_of_zero_le (show 0 ≤ zN K (j / 5) i by omega)
    have d := zwd_rng (K (j / 5))
    have fj := hF j
    refine ev_c1 (e_atN (by decide) hj) (ev_c1 (e_words hK hq) (ev_n ?_))
    rw [hn j hj]
    refine ev_j1 (fun v => v = zVl K m F j i) (fun v hv => ?_) (fun k4 hk4 => ?_)
    · refine ev_n ?_
      have vr := zVl_rng (K := K) (m := m) (w := i) h0 fj.2
      have et2 : zN K (j / 5) i * 5 + (i : Int) = ((zTo K j i : Nat) : Int) := by
        unfold zTo; rw [et, Int.toNat_natCast]; omega
      have tl := zTo_lt (K := K) hj hl
      have gr := zL4_rng (K := K) (h := h) (m := m) (j := j) hF hG i (zTo K j i)
      rw [et2]
      refine ev_c1 (e_atN (by decide) tl) ?_
      rw [hQ _ tl, hv]
      refine ev_g (by omega) (ev_g (by omega) (ev_n (ev_c1 (e_putN (by decide) tl) (hk _ ?_))))
      show zE _ (zRx K h m F j i (zL4 K h m F j G i))
      unfold zRx
      rw [if_neg nbk]
      exact zE_up hQ _ _
    · by_cases cc : zCn K (j / 5) (j % 5) i
      · rw [if_pos cc]
        refine ev_g (by decide) (ev_f (by decide) (ev_j1 (fun v => v = zVl K m F j i) (fun v hv => hk4 v hv) (fun k5 hk5 => ev_g hm (ev_if (fun c2 => ?_) (fun c2 => ?_)))))
        · refine ev_c1 (e_atN (by decide) hj) (hk5 _ ?_)
          unfold zVl
          rw [if_pos cc, if_pos c2, hn j hj]
        · refine hk5 _ ?_
          unfold zVl
          rw [if_pos cc, if_neg c2]
      · rw [if_neg cc]
        refine ev_g (by decide) (ev_t rfl (hk4 _ ?_))
        unfold zVl
        rw [if_neg cc]
  · by_cases u : zHu K h (j / 5)
    · rw [if_pos u]
      refine ev_g (by decide) (ev_f (by decide) ?_)
      by_cases cc : zCn K (j / 5) (j % 5) i
      · rw [if_pos cc]
        exact ev_g (by decide) (ev_f (by decide) (hk3 () (fun x => x.2 cc)))
      · rw [if_neg cc]
        exact ev_g (by decide) (ev_t rfl (hk _ (bk (Or.inr (Or.inr ⟨u, cc⟩)))))
    · rw [if_neg u]
      exact ev_g (by decide) (ev_t rfl (hk3 () (fun x => u x.1)))
theorem e_goOn {K : Nat → Int} (hK : zK K) {ish now F : Nat → Int} (th : Nat → Int) {h m b : Int} (hi : ∀ q, q < 36 → ish q = if zHu K h q then 1 else 0) (hn : zE now F) (hF : zI F b) (h1 : 0 ≤ b) (hb : b ≤ 1000) (hm : zr m) : ev (g_Talks_goOn ish now th K m) (fun r => zE r.1 (zLy K h m F 180)) := by
  unfold g_Talks_goOn
  refine ev_b1 (e_fill (by decide) th (-1)) (fun t0 h0 => ?_)
  refine ev_j1 (fun y => zE y (zLy K h m F 180)) (fun y hy => ev_b1 (e_takeN (by decide) y now) (fun r hr => ev_some (fun j hj => by show r j = _; rw [hr j hj, hy j hj]))) (fun k2 hk => ?_)
  refine ev_f2_1 180 (by decide) (fun i x => zE x (zLy K h m F i)) (fun i x ag hi8 hQ hag => ?_) h0
  refine ev_g (by omega) (ev_if (fun c => ?_) (fun c => ?_))
  · have : i = 180 := by omega
    subst this
    exact hk _ hQ
  have hl : i < 180 := by omega
  have fi := hF i
  refine ev_c1 (e_atN (by decide) hl) ?_
  rw [hn i hl]
  refine ev_j1 (fun y => zE y (zLy K h m F (i + 1))) (fun y hy => ev_n (hag y hl hy)) (fun k3 hk3 => ?_)
  refine ev_g (by omega) (ev_if (fun c1 => hk3 _ ?_) (fun c1 => ?_))
  · show zE x (zL4 K h m F i (zLy K h m F i) 4)
    rw [zL4_bk (fun w hw => Or.inl (by omega)) 4 (Nat.le_refl _)]
    exact hQ
  · exact ev_b1 (e_goOnFrom hK hl hi hn hF hb (by omega) hm (zLy_rng (by omega) hF i) hQ) (fun r hr => hk3 r hr)
theorem e_most {K : Nat → Int} (hK : zK K) {ish now F : Nat → Int} {h b : Int} (hi : ∀ q, q < 36 → ish q = if zHu K h q then 1 else 0) (hn : zE now F) (hF : zI F b) (h1 : 0 ≤ b) (hb : b ≤ 1000) : g_Talks_mostAtEnd ish now K = some (zMx K h F 180) := by
  refine ev_is ?_
  unfold g_Talks_mostAtEnd
  refine ev_f2_2 180 (by decide) (fun i v => v = zMx K h F i) (fun i v ag hi8 hQ hag => ?_) rfl
  refine ev_g (by omega) (ev_if (fun c => ?_) (fun c => ?_))
  · have : i = 180 := by omega
    subst this
    exact ev_some hQ
  have hl : i < 180 := by omega
  have hq : i / 5 < 36 := by omega
  have fi := hF i
  have e5 : (i : Int) / 5 = ((i / 5 : Nat) : Int) := by omega
  have mr := zMx_rng (K := K) (h := h) h1 hF i
  have d := zwd_rng (K (i / 5))
  refine ev_g (by omega) (ev_n (ev_c1 (e_atN (by decide) hl) ?_))
  rw [e5, hn i hl]
  refine ev_j1 (fun y => y = zMx K h F (i + 1)) (fun y hy => ev_n (hag y hl hy)) (fun k2 hk => ?_)
  have skip : F i = -1 ∨ zHu K h (i / 5) → v = zMx K h F (i + 1) := fun e => by
    show v = if F i = -1 ∨ zHu K h (i / 5) then zMx K h F i else _
    rw [if_pos e]; exact hQ
  refine ev_g (by omega) (ev_if (fun c1 => hk _ (skip (Or.inl c1))) (fun c1 => ev_c1 (e_atN (by decide) hq) ?_))
  rw [hi _ hq]
  by_cases u : zHu K h (i / 5)
  · rw [if_pos u]
    exact ev_g (by decide) (ev_f (by decide) (hk _ (skip (Or.inr u))))
  · rw [if_neg u]
    refine ev_g (by decide) (ev_t rfl (ev_c1 (e_atN (by decide) hl) (ev_c1 (e_words hK hq) ?_)))
    rw [hn i hl]
    refine ev_g (by omega) (ev_g (by omega) (ev_n (hk _ ?_)))
    show _ = if F i = -1 ∨ zHu K h (i / 5) then zMx K h F i else _
    rw [if_neg (by intro x; rcases x with x | x; exact c1 x; exact u x), hQ]
theorem e_tbegin {K : Nat → Int} (hK : zK K) (now : Nat → Int) (h m : Int) {p : Nat} (hp : p < 36) : ev (g_Talks_begin now K (p : Int)) (fun r => r.1 = (if zcan (K p) then 1 else 0) ∧ zE r.2 (zTr K h m p 0)) := by
  unfold g_Talks_begin
  refine ev_b1 (e_fill (by decide) now (-1)) (fun t0 h0 => ?_)
  rw [show (p : Int) * 5 + 4 = ((p * 5 + 4 : Nat) : Int) by omega]
  refine ev_c1 (e_putN (by decide) (by omega)) (ev_c1 (e_canBe hK ⟨by omega, by omega⟩) ?_)
  have e0 : (0 ≤ (p : Int) ∧ (p : Int) < 36 ∧ zcan (K (p : Int).toNat)) ↔ zcan (K p) := by
    rw [Int.toNat_natCast]
    exact ⟨fun x => x.2.2, fun x => ⟨by omega, by omega, x⟩⟩
  have z : zE (updI t0 (p * 5 + 4) 0) (zTr K h m p 0) := zE_up (G := fun _ => -1) h0 _ _
  by_cases c : zcan (K p)
  · rw [if_pos (e0.mpr c)]
    exact ev_g (by decide) (ev_some ⟨by rw [if_pos c], z⟩)
  · rw [if_neg (fun x => c (e0.mp x))]
    exact ev_g (by decide) (ev_some ⟨by rw [if_neg c], z⟩)
theorem e_mostWords {K : Nat → Int} (hK : zK K) {ish : Nat → Int} (now th : Nat → Int) {h : Int} (hi : ∀ q, q < 36 → ish q = if zHu K h q then 1 else 0) {p : Nat} (hp : p < 36) {n : Int} (hn0 : 0 ≤ n) (hn1 : n ≤ 20) : ev (g_Talks_mostWords ish now th K (p : Int) n) (fun r => r.1 = if ¬ zcan (K p) ∨ zHu K h p then -9 else zBe K h 0 p n.toNat) := by
  unfold g_Talks_mostWords
  refine ev_b2 (e_tbegin hK now h 0 hp) (fun r1 n0 hr => ?_)
  obtain ⟨h1, h2⟩ := hr
  have h1 : r1 = if zcan (K p) then 1 else 0 := h1
  have h2 : zE n0 (zTr K h 0 p 0) := h2
  by_cases c : zcan (K p)
  case neg =>
    rw [if_neg c] at h1
    exact ev_g (by omega) (ev_t h1 (ev_some (by rw [if_pos (Or.inl c)])))
  rw [if_pos c] at h1
  refine ev_g (by omega) (ev_f (by omega) (ev_c1 (e_most hK hi h2 (zTr_rng 0) (by decide) (by decide)) ?_))
  refine ev_j3 (fun v _ _ => v = zBe K h 0 p n.toNat) (fun v g1 g2 hv => ?_) (fun k2 hk => ?_)
  · have br := zBe_rng (K := K) (h := h) (m := 0) (p := p) n.toNat
    by_cases u : zHu K h p
    · have := zBe_dead (m := 0) hp u n.toNat
      exact ev_g (by omega) (ev_t (by omega) (ev_some (by rw [if_pos (Or.inr u)])))
    · have := zBe_live (m := 0) hp u n.toNat
      refine ev_g (by omega) (ev_f (by omega) (ev_some ?_))
      rw [if_neg (by intro x; rcases x with x | x; exact x c; exact u x)]
      exact hv
  · refine ev_f4_2 21 (by decide) (fun i v x y => (i : Int) ≤ n ∧ v = zBe K h 0 p i ∧ zE x (zTr K h 0 p i)) (fun i v x y ag hi8 hQ hag => ?_) ⟨by omega, rfl, h2⟩
    obtain ⟨i1, i2, i3⟩ := hQ
    refine ev_g (by omega) (ev_g (by omega) (ev_if (fun c1 => hk _ _ _ ?_) (fun c1 => ?_)))
    · have : i = n.toNat := by omega
      rw [← this]; exact i2
    · refine ev_b2 (e_goOn hK y hi i3 (zTr_rng i) (by omega) (by omega) (by decide)) (fun x2 y2 hx => ?_)
      have hx : zE x2 (zTr K h 0 p (i + 1)) := hx
      have br := zBe_rng (K := K) (h := h) (m := 0) (p := p) i
      have mr := zMx_rng (K := K) (h := h) (by omega) (zTr_rng (K := K) (h := h) (m := 0) (p := p) (i + 1)) 180
      refine ev_c1 (e_most hK hi hx (zTr_rng (i + 1)) (by omega) (by omega)) (ev_g (by omega) (ev_g (by omega) (ev_n (ev_n (hag _ _ _ (by omega) ⟨by omega, ?_, hx⟩)))))
      rw [i2]; rfl
