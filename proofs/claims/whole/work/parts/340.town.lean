-- own text: the town told in letters
theorem zVa_1 (a : Nat → Int) (x : Nat) : zVa a x 1 = a x - 48 := by
  show 10 * 0 + a x - 48 = a x - 48
  omega
theorem zVa_2 (a : Nat → Int) (x : Nat) : zVa a x 2 = (a x - 48) * 10 + (a (x + 1) - 48) := by
  show 10 * (10 * 0 + a x - 48) + a (x + 1) - 48 = _
  omega
theorem e_dig {a : Nat → Int} {x : Nat} (h : x < 96) : g_Letters_digitAt a (x : Int) = some (a x - 48) := by
  refine ev_is ?_
  unfold g_Letters_digitAt
  exact ev_c1 (e_atN (by decide) h) (ev_some rfl)
theorem e_sq {a : Nat → Int} {x : Nat} (h : x + 1 < 96) : g_Letters_squareAt a (x : Int) = some (zVa a x 2) := by
  refine ev_is ?_
  unfold g_Letters_squareAt
  rw [show (x : Int) + 1 = ((x + 1 : Nat) : Int) by omega]
  exact ev_c1 (e_dig (by omega)) (ev_c1 (e_dig h) (ev_some (by rw [zVa_2])))
theorem e_kAt {a : Nat → Int} {x : Nat} (h : x < 96) (h0 : 0 ≤ a x) (h1 : a x ≤ 255) : g_Letters_kindAt a (x : Int) = some (zKc (a x)) := by
  refine ev_is ?_
  unfold g_Letters_kindAt
  refine ev_c1 (e_atN (by decide) h) (ev_g (by decide) (ev_g (by omega) ?_))
  obtain ⟨m, em⟩ := Int.eq_ofNat_of_zero_le h0
  rw [em, show (m : Int) % 65536 = (m : Int) by omega]
  exact ev_c1 (e_ix m (by omega)) (ev_some rfl)
theorem e_mvT {K : Nat → Int} {ho b : Int} (hK : zK K) (hb : zr b) : g_Town_moveHome ho K b = some (if 0 ≤ b ∧ b < 36 ∧ zcan (K b.toNat) then (1, b) else (0, ho)) := by
  refine ev_is ?_
  unfold g_Town_moveHome
  refine ev_c1 (e_canBe hK hb) ?_
  by_cases c : 0 ≤ b ∧ b < 36 ∧ zcan (K b.toNat)
  · rw [if_pos c, if_pos c]
    exact ev_g (by decide) (ev_f (by decide) (ev_some rfl))
  · rw [if_neg c, if_neg c]
    exact ev_g (by decide) (ev_t rfl (ev_some rfl))
theorem e_fillR {s : Nat → Int} {A B k : Int} (h0 : 0 ≤ A) (h1 : A ≤ B) (h2 : B < 36) : ev (zl2 (fun (l5 : Int) (g26 : Nat → Int) again => zg (zr l5) <| if B < l5 then (some ((1 : Int), g26)) else (zg (0 ≤ l5 ∧ l5 < 39) <| zn (updI g26 l5.toNat k) fun (g30 : Nat → Int) => zn (l5 + (1 : Int)) fun (x31 : Int) => again x31 g30)) zF A s) (fun y => y = (1, updR s A B k)) := by
  refine ev_l2 (fun μ l x => ∃ i : Nat, l = A + i ∧ A + i ≤ B + 1 ∧ x = updR s A (A + i - 1) k ∧ μ = 40 - i) (fun μ l x ag hI hag => ?_) (m := 40) (zF_gt (by decide)) ⟨0, by omega, by omega, by rw [show A + ((0 : Nat) : Int) - 1 = A - 1 by omega, updR_0], rfl⟩
  obtain ⟨i, rfl, i1, rfl, i3⟩ := hI
  refine ev_g (by omega) (ev_if (fun c => ev_some ?_) (fun c => ev_g (by omega) (ev_n (ev_n (hag (40 - (i + 1)) _ _ (by omega) ⟨i + 1, by omega, by omega, ?_, rfl⟩)))))
  · rw [show A + (i : Int) - 1 = B by omega]
  · rw [updR_s s A (A + i) k h0 (by omega), show A + ((i + 1 : Nat) : Int) - 1 = A + i by omega]
theorem e_bM {s K : Nat → Int} {ho fi br A B k : Int} (hT : iTown K s ho fi br) (hA : 0 ≤ A ∧ A < 1000) (hB : 0 ≤ B ∧ B < 1000) (hk : 0 ≤ k ∧ k < 6) : ev (zg (zr B) <| zg (zr A) <| if B < A then (some ((0 : Int), s)) else (zb1 (g_M_isSquare B) fun (r40 : Int) => zg (zr r40) <| if r40 = (0 : Int) then (some ((0 : Int), s)) else (zb1 (g_M_canStand k) fun (r43 : Int) => zj1 (fun (_ : Unit) => zl2 (fun (l5 : Int) (g26 : Nat → Int) again => zg (zr l5) <| if B < l5 then (some ((1 : Int), g26)) else (zg (0 ≤ l5 ∧ l5 < 39) <| zn (updI g26 l5.toNat k) fun (g30 : Nat → Int) => zn (l5 + (1 : Int)) fun (x31 : Int) => again x31 g30)) zF A s) fun k52 => zg (zr r43) <| if r43 = (0 : Int) then (zg (0 ≤ (36 : Int) ∧ (36 : Int) < 39) <| zb1 (g_M_isIn (s (36 : Int).toNat) A B) fun (r55 : Int) => zg (zr r55) <| if r55 = (0 : Int) then (k52 ()) else (some ((0 : Int), s))) else (k52 ())))) (fun y => ((A ≤ B ∧ 0 ≤ A ∧ B < 36 ∧ ¬ (A ≤ ho ∧ ho ≤ B ∧ ¬ zcan k)) ∧ y = (1, updR s A B k)) ∨ (¬ (A ≤ B ∧ 0 ≤ A ∧ B < 36 ∧ ¬ (A ≤ ho ∧ ho ≤ B ∧ ¬ zcan k)) ∧ y = (0, s))) := by
  obtain ⟨hK, hs, h36, _, _, ho0, ho1, _, _, _, _, _⟩ := hT
  refine ev_g (by omega) (ev_g (by omega) (ev_if (fun c => ev_some (Or.inr ⟨fun x => by have := x.1; omega, rfl⟩)) (fun c => ?_)))
  by_cases cb : 0 ≤ B ∧ B < 36
  case neg => exact ev_c1 (e_MsqF (by omega) cb) (ev_g (by decide) (ev_t rfl (ev_some (Or.inr ⟨fun x => cb ⟨by omega, x.2.2.1⟩, rfl⟩))))
  refine ev_c1 (e_MsqT (by omega) cb) (ev_g (by decide) (ev_f (by decide) (ev_c1 (e_M_canStand hk) ?_)))
  refine ev_j1 (fun _ => ¬ (A ≤ ho ∧ ho ≤ B ∧ ¬ zcan k)) (fun _ h => ?_) (fun k2 hk2 => ?_)
  · exact ev_mono (e_fillR hA.1 (by omega) cb.2) (fun y hy => Or.inl ⟨⟨by omega, hA.1, cb.2, h⟩, hy⟩)
  · by_cases ck : zcan k
    · rw [if_pos ck]
      exact ev_g (by decide) (ev_f (by decide) (hk2 () (fun x => x.2.2 ck)))
    · rw [if_neg ck]
      have e36 : s (36 : Int).toNat = ho := h36
      refine ev_g (by decide) (ev_t rfl (ev_g (by decide) ?_))
      rw [e36]
      refine ev_c1 (e_M_isIn (by omega) (by omega) (by omega)) ?_
      by_cases ci : A ≤ ho ∧ ho ≤ B
      · rw [if_pos ci]
        exact ev_g (by decide) (ev_f (by decide) (ev_some (Or.inr ⟨fun x => x.2.2.2 ⟨ci.1, ci.2, ck⟩, rfl⟩)))
      · rw [if_neg ci]
        exact ev_g (by decide) (ev_t rfl (hk2 () (fun x => ci ⟨x.1, x.2.1⟩)))
theorem iTown_R {s K : Nat → Int} {ho fi br A B k : Int} (hT : iTown K s ho fi br) (hk : 0 ≤ k ∧ k < 6) (h : A ≤ B ∧ 0 ≤ A ∧ B < 36 ∧ ¬ (A ≤ ho ∧ ho ≤ B ∧ ¬ zcan k)) : iTown (updR K A B k) (updR s A B k) ho fi br := by
  obtain ⟨hK, hs, h36, h37, h38, ho0, ho1, hc, r1, r2, r3, r4⟩ := hT
  have hi : ∀ i : Nat, 36 ≤ i → updR s A B k i = s i := fun i hi => if_neg (fun x => by omega)
  refine ⟨fun i hi => ?_, fun i hi => ?_, (hi 36 (by decide)).trans h36, (hi 37 (by decide)).trans h37, (hi 38 (by decide)).trans h38, ho0, ho1, ?_, r1, r2, r3, r4⟩
  · unfold updR
    by_cases c : A ≤ (i : Int) ∧ (i : Int) ≤ B
    · rw [if_pos c]; exact hk
    · rw [if_neg c]; exact hK i hi
  · unfold updR
    rw [hs i hi]
  · unfold updR
    by_cases c : A ≤ ((ho.toNat : Nat) : Int) ∧ ((ho.toNat : Nat) : Int) ≤ B
    · rw [if_pos c]
      by_cases ck : zcan k
      · exact ck
      · exact absurd ⟨by omega, by omega, ck⟩ h.2.2.2
    · rw [if_neg c]; exact hc
abbrev zOut (x : Int × Int × Int × Int × (Nat → Int)) (y : Int × (Nat → Int)) : Prop := y.1 = x.1 ∧ (x.1 = 0 ∨ x.1 = 1) ∧ (x.1 = 1 → iTown x.2.2.2.2 y.2 x.2.2.2.1 x.2.2.1 x.2.1)
theorem e_obey {K s a nu : Nat → Int} {ho fi br : Int} {n p q : Nat} (hT : iTown K s ho fi br) (hn : n ≤ 96) (ha : ∀ i, i < n → 0 ≤ a i ∧ a i ≤ 255) (hp : p < n) (hP : zPs a n p 1 q) (hN : zNb a p nu) : ev (g_Letters_obey br fi ho K a (p : Int)) (fun x => ev (g_M_isDone nu s (a p)) (fun y => zOut x y)) := by
  have hT0 := hT
  obtain ⟨hK, hs, h36, h37, h38, ho0, ho1, hcan, r1, r2, r3, r4⟩ := hT0
  obtain ⟨F4, eq, gd, ql⟩ := zPs_1 hP
  have ap := ha p hp
  obtain ⟨N1, N2, N3, N4⟩ := hN
  have lets : a p = 98 ∨ a p = 102 ∨ a p = 104 ∨ a p = 107 ∨ a p = 118 := by
    have h := F4
    unfold zFm at h
    by_cases c1 : a p = 98 ∨ a p = 102
    · omega
    · by_cases c2 : a p = 104
      · omega
      · by_cases c3 : a p = 107
        · omega
        · by_cases c4 : a p = 118
          · omega
          · rw [if_neg c1, if_neg c2, if_neg c3, if_neg c4] at h
            omega
  unfold g_Letters_obey
  refine ev_c1 (e_atN (by decide) (by omega)) (ev_g (by omega) ?_)
  rcases lets with c | c | c | c | c
  · have eF : zFm (a p) = 3 := by rw [c]; rfl
    rw [eF] at gd
    have g0 := (zGd_D zFc_3 (show p + 1 = p + 1 + 0 by omega)).mp (gd 0 (by decide))
    have e0 : nu (0 : Int).toNat = a (p + 1) - 48 := (N1 (Or.inl c)).trans (zVa_1 a (p + 1))
    rw [show (p : Int) + 1 = ((p + 1 : Nat) : Int) by omega]
    refine ev_t c (ev_c1 (e_dig (by omega)) ?_)
    have cb := e_cB (f := br) (b := a (p + 1) - 48) (by omega)
    by_cases d : 1 ≤ a (p + 1) - 48 ∧ a (p + 1) - 48 ≤ 9
    · refine ev_c2 (cb.trans (congrArg some (if_pos d))) (ev_g (by decide) (ev_some ?_))
      unfold g_M_isDone
      rw [e0]
      refine ev_g (by decide) (ev_n (ev_g (by decide) (ev_n (ev_i1 (ev_g (by omega) (ev_f (by omega) (ev_g (by omega) (ev_f (by omega) (ev_f (by omega) (ev_f (by omega) (ev_f (by omega) (ev_g (by decide) (ev_n (ev_g (by omega) (ev_f (by omega) (ev_some ⟨rfl, Or.inr rfl, fun _ => ?_⟩))))))))))))))))
      exact ⟨hK, zR_hi hs (p := 38) (by decide) _, (updI_ne (q := 38) (i := 36) s (a (p + 1) - 48) (by decide)).trans h36, (updI_ne (q := 38) (i := 37) s (a (p + 1) - 48) (by decide)).trans h37, updI_at s 38 (a (p + 1) - 48), ho0, ho1, hcan, r1, r2, d.1, d.2⟩
    · refine ev_c2 (cb.trans (congrArg some (if_neg d))) (ev_g (by decide) (ev_some ?_))
      unfold g_M_isDone
      rw [e0]
      have g1 := g0.2
      exact ev_g (by decide) (ev_n (ev_g (by decide) (ev_n (ev_i1 (ev_g (by omega) (ev_f (by omega) (ev_g (by omega) (ev_f (by omega) (ev_f (by omega) (ev_f (by omega) (ev_f (by omega) (ev_g (by decide) (ev_n (ev_g (by omega) (ev_t (by omega) (ev_some ⟨rfl, Or.inl rfl, fun x => absurd (show (0 : Int) = 1 from x) (by decide)⟩))))))))))))))))
  · have eF : zFm (a p) = 3 := by rw [c]; rfl
    rw [eF] at gd
    have g0 := (zGd_D zFc_3 (show p + 1 = p + 1 + 0 by omega)).mp (gd 0 (by decide))
    have e0 : nu (0 : Int).toNat = a (p + 1) - 48 := (N1 (Or.inr c)).trans (zVa_1 a (p + 1))
    rw [show (p : Int) + 1 = ((p + 1 : Nat) : Int) by omega]
    have g1 := g0.2
    have d : 0 ≤ a (p + 1) - 48 ∧ a (p + 1) - 48 ≤ 9 := by omega
    refine ev_f (by omega) (ev_t c (ev_c1 (e_dig (by omega)) (ev_c2 ((e_cF (by omega)).trans (congrArg some (if_pos d))) ?_)))
    refine ev_g (by decide) (ev_some ?_)
    unfold g_M_isDone
    rw [e0]
    refine ev_g (by decide) (ev_n (ev_g (by decide) (ev_n (ev_i1 (ev_g (by omega) (ev_f (by omega) (ev_g (by omega) (ev_t c (ev_g (by decide) (ev_n (ev_some ⟨rfl, Or.inr rfl, fun _ => ?_⟩)))))))))))
    exact ⟨hK, zR_hi hs (p := 37) (by decide) _, (updI_ne (q := 37) (i := 36) s (a (p + 1) - 48) (by decide)).trans h36, updI_at s 37 (a (p + 1) - 48), (updI_ne (q := 37) (i := 38) s (a (p + 1) - 48) (by decide)).trans h38, ho0, ho1, hcan, d.1, d.2, r3, r4⟩
  · have eF : zFm (a p) = 2 := by rw [c]; rfl
    rw [eF] at gd
    have g0 := (zGd_D (zFc_2 0 (by decide)) (show p + 1 = p + 1 + 0 by omega)).mp (gd 0 (by decide))
    have g1 := (zGd_D (zFc_2 1 (by decide)) (show p + 1 + 1 = p + 1 + 1 by omega)).mp (gd 1 (by decide))
    have v2 := zVa_2 a (p + 1)
    have g02 := g0.2
    have g12 := g1.2
    have e0 : nu (0 : Int).toNat = zVa a (p + 1) 2 := N2 c
    rw [show (p : Int) + 1 = ((p + 1 : Nat) : Int) by omega]
    have es := e_sq (a := a) (x := p + 1) (by omega)
    generalize zVa a (p + 1) 2 = Q at *
    obtain ⟨m, rfl⟩ := Int.eq_ofNat_of_zero_le (show 0 ≤ Q by omega)
    refine ev_f (by omega) (ev_f (by omega) (ev_t c (ev_c1 es ?_)))
    have mv := e_mvT (K := K) (ho := ho) (b := (m : Int)) hK (by omega)
    by_cases C : 0 ≤ (m : Int) ∧ (m : Int) < 36 ∧ zcan (K (m : Int).toNat)
    · refine ev_c2 (mv.trans (congrArg some (if_pos C))) (ev_g (by decide) (ev_some ?_))
      have hc : zcan (K m) := by have := C.2.2; rw [Int.toNat_natCast] at this; exact this
      unfold g_M_isDone
      rw [e0]
      refine ev_g (by decide) (ev_n (ev_g (by decide) (ev_n (ev_i1 (ev_g (by omega) (ev_f (by omega) (ev_g (by omega) (ev_f (by omega) (ev_t c (ev_c1 (e_MsqT (by omega) ⟨C.1, C.2.1⟩) (ev_g (by decide) (ev_f (by decide) (ev_c1 (e_McanT hs hK (by omega) hc) (ev_g (by decide) (ev_f (by decide) (ev_g (by decide) (ev_n (ev_some ⟨rfl, Or.inr rfl, fun _ => ?_⟩))))))))))))))))))
      exact ⟨hK, zR_hi hs (p := 36) (by decide) _, updI_at s 36 (m : Int), (updI_ne (q := 36) (i := 37) s (m : Int) (by decide)).trans h37, (updI_ne (q := 36) (i := 38) s (m : Int) (by decide)).trans h38, C.1, C.2.1, C.2.2, r1, r2, r3, r4⟩
    · refine ev_c2 (mv.trans (congrArg some (if_neg C))) (ev_g (by decide) (ev_some ?_))
      unfold g_M_isDone
      rw [e0]
      refine ev_g (by decide) (ev_n (ev_g (by decide) (ev_n (ev_i1 (ev_g (by omega) (ev_f (by omega) (ev_g (by omega) (ev_f (by omega) (ev_t c ?_)))))))))
      by_cases m36 : 0 ≤ (m : Int) ∧ (m : Int) < 36
      · have hc : ¬ zcan (K m) := fun x => C ⟨m36.1, m36.2, by rw [Int.toNat_natCast]; exact x⟩
        exact ev_c1 (e_MsqT (by omega) m36) (ev_g (by decide) (ev_f (by decide) (ev_c1 (e_McanF hs hK (by omega) hc) (ev_g (by decide) (ev_t rfl (ev_some ⟨rfl, Or.inl rfl, fun x => absurd (show (0 : Int) = 1 from x) (by decide)⟩))))))
      · exact ev_c1 (e_MsqF (by omega) m36) (ev_g (by decide) (ev_t rfl (ev_some ⟨rfl, Or.inl rfl, fun x => absurd (show (0 : Int) = 1 from x) (by decide)⟩)))
  · have eF : zFm (a p) = 0 := by rw [c]; rfl
    rw [eF] at gd
    have gk := (zGd_K zFc_0.1 (show p + 1 = p + 1 + 0 by omega)).mp (gd 0 (by decide))
    have g0 := (zGd_D (zFc_0.2 0 (by decide)) (show p + 2 = p + 1 + (1 + 0) by omega)).mp (gd 1 (by decide))
    have g1 := (zGd_D (zFc_0.2 1 (by decide)) (show p + 3 = p + 1 + (1 + 1) by omega)).mp (gd 2 (by decide))
    have v2 := zVa_2 a (p + 2)
    rw [show p + 2 + 1 = p + 3 by omega] at v2
    obtain ⟨n0, n1⟩ := N3 c
    have e0 : nu (0 : Int).toNat = zKc (a (p + 1)) := n0
    have e1 : nu (1 : Int).toNat = zVa a (p + 2) 2 := n1
    have es := e_sq (a := a) (x := p + 2) (by omega)
    have ek := e_kAt (a := a) (x := p + 1) (by omega) (ha _ gk.1).1 (ha _ gk.1).2
    have kr := zKc_rng (a (p + 1))
    have gk2 := gk.2
    have g02 := g0.2
    have g12 := g1.2
    clear n0 n1 N1 N2 N3 N4 gk g0 g1 gd
    rw [show (p : Int) + 1 = ((p + 1 : Nat) : Int) by omega, show (p : Int) + 2 = ((p + 2 : Nat) : Int) by omega]
    generalize zVa a (p + 2) 2 = Q at *
    generalize zKc (a (p + 1)) = k at *
    refine ev_f (by omega) (ev_f (by omega) (ev_f (by omega) (ev_t c (ev_c1 es (ev_c1 es (ev_c1 ek ?_))))))
    have rb := e_rebuild (K := K) ⟨ho0, ho1⟩ (a := Q) (b := Q) (k := k) (by omega) (by omega) (by omega)
    by_cases C : Q ≤ Q ∧ 0 ≤ Q ∧ Q < 36 ∧ ¬ (Q ≤ ho ∧ ho ≤ Q ∧ ¬ zcan k)
    · refine ev_c2 (rb.trans (congrArg some (if_pos C))) (ev_g (by decide) (ev_some ?_))
      unfold g_M_isDone
      rw [e0, e1]
      refine ev_g (by decide) (ev_n (ev_g (by decide) (ev_n (ev_i1 (ev_g (by omega) (ev_f (by omega) (ev_g (by omega) (ev_f (by omega) (ev_f (by omega) (ev_t c ?_))))))))))
      refine ev_mono (e_bM hT ⟨by omega, by omega⟩ ⟨by omega, by omega⟩ (by omega)) (fun y hy => ?_)
      rcases hy with ⟨y1, y2⟩ | ⟨y1, y2⟩
      · rw [y2]; exact ⟨rfl, Or.inr rfl, fun _ => iTown_R hT (by omega) C⟩
      · exact absurd C y1
    · refine ev_c2 (rb.trans (congrArg some (if_neg C))) (ev_g (by decide) (ev_some ?_))
      unfold g_M_isDone
      rw [e0, e1]
      refine ev_g (by decide) (ev_n (ev_g (by decide) (ev_n (ev_i1 (ev_g (by omega) (ev_f (by omega) (ev_g (by omega) (ev_f (by omega) (ev_f (by omega) (ev_t c ?_))))))))))
      refine ev_mono (e_bM hT ⟨by omega, by omega⟩ ⟨by omega, by omega⟩ (by omega)) (fun y hy => ?_)
      rcases hy with ⟨y1, y2⟩ | ⟨y1, y2⟩
      · exact absurd y1 C
      · rw [y2]; exact ⟨rfl, Or.inl rfl, fun x => absurd (show (0 : Int) = 1 from x) (by decide)⟩
  · have eF : zFm (a p) = 1 := by rw [c]; rfl
    rw [eF] at gd
    have gk := (zGd_K zFc_1.1 (show p + 1 = p + 1 + 0 by omega)).mp (gd 0 (by decide))
    have g0 := (zGd_D (zFc_1.2 0 (by decide)) (show p + 2 = p + 1 + (1 + 0) by omega)).mp (gd 1 (by decide))
    have g1 := (zGd_D (zFc_1.2 1 (by decide)) (show p + 3 = p + 1 + (1 + 1) by omega)).mp (gd 2 (by decide))
    have h0 := (zGd_D (zFc_1.2 2 (by decide)) (show p + 4 = p + 1 + (1 + 2) by omega)).mp (gd 3 (by decide))
    have h1 := (zGd_D (zFc_1.2 3 (by decide)) (show p + 5 = p + 1 + (1 + 3) by omega)).mp (gd 4 (by decide))
    have v2 := zVa_2 a (p + 2)
    rw [show p + 2 + 1 = p + 3 by omega] at v2
    have v4 := zVa_2 a (p + 4)
    rw [show p + 4 + 1 = p + 5 by omega] at v4
    obtain ⟨n0, n1, n2⟩ := N4 c
    have e0 : nu (0 : Int).toNat = zKc (a (p + 1)) := n0
    have e1 : nu (1 : Int).toNat = zVa a (p + 2) 2 := n1
    have e2 : nu (2 : Int).toNat = zVa a (p + 4) 2 := n2
    have es := e_sq (a := a) (x := p + 2) (by omega)
    have es2 := e_sq (a := a) (x := p + 4) (by omega)
    have ek := e_kAt (a := a) (x := p + 1) (by omega) (ha _ gk.1).1 (ha _ gk.1).2
    have kr := zKc_rng (a (p + 1))
    have gk2 := gk.2
    have g02 := g0.2
    have g12 := g1.2
    have h02 := h0.2
    have h12 := h1.2
    clear n0 n1 n2 N1 N2 N3 N4 gk g0 g1 h0 h1 gd
    rw [show (p : Int) + 1 = ((p + 1 : Nat) : Int) by omega, show (p : Int) + 2 = ((p + 2 : Nat) : Int) by omega, show (p : Int) + 4 = ((p + 4 : Nat) : Int) by omega]
    generalize zVa a (p + 2) 2 = Q at *
    generalize zVa a (p + 4) 2 = R at *
    generalize zKc (a (p + 1)) = k at *
    refine ev_f (by omega) (ev_f (by omega) (ev_f (by omega) (ev_f (by omega) (ev_t c (ev_c1 es (ev_c1 es2 (ev_c1 ek ?_)))))))
    have rb := e_rebuild (K := K) ⟨ho0, ho1⟩ (a := Q) (b := R) (k := k) (by omega) (by omega) (by omega)
    by_cases C : Q ≤ R ∧ 0 ≤ Q ∧ R < 36 ∧ ¬ (Q ≤ ho ∧ ho ≤ R ∧ ¬ zcan k)
    · refine ev_c2 (rb.trans (congrArg some (if_pos C))) (ev_g (by decide) (ev_some ?_))
      unfold g_M_isDone
      rw [e0, e1, e2]
      refine ev_g (by decide) (ev_n (ev_g (by decide) (ev_n (ev_i1 (ev_g (by omega) (ev_t c (ev_g (by decide) (ev_g (by omega) (ev_f (by omega) (ev_f (by omega) (ev_f (by omega) (ev_t c ?_))))))))))))
      refine ev_mono (e_bM hT ⟨by omega, by omega⟩ ⟨by omega, by omega⟩ (by omega)) (fun y hy => ?_)
      rcases hy with ⟨y1, y2⟩ | ⟨y1, y2⟩
      · rw [y2]; exact ⟨rfl, Or.inr rfl, fun _ => iTown_R hT (by omega) C⟩
      · exact absurd C y1
    · refine ev_c2 (rb.trans (congrArg some (if_neg C))) (ev_g (by decide) (ev_some ?_))
      unfold g_M_isDone
      rw [e0, e1, e2]
      refine ev_g (by decide) (ev_n (ev_g (by decide) (ev_n (ev_i1 (ev_g (by omega) (ev_t c (ev_g (by decide) (ev_g (by omega) (ev_f (by omega) (ev_f (by omega) (ev_f (by omega) (ev_t c ?_))))))))))))
      refine ev_mono (e_bM hT ⟨by omega, by omega⟩ ⟨by omega, by omega⟩ (by omega)) (fun y hy => ?_)
      rcases hy with ⟨y1, y2⟩ | ⟨y1, y2⟩
      · exact absurd y1 C
      · rw [y2]; exact ⟨rfl, Or.inl rfl, fun x => absurd (show (0 : Int) = 1 from x) (by decide)⟩
