-- own text: lots
theorem e2_f113_43 {α1 α2 α4 α5 α6 α7 α8 α9 α10 α11 β1 β2 β4 ρ σ : Type} {P : ρ → σ → Prop} {b : α1 → α2 → Int → α4 → α5 → α6 → α7 → α8 → α9 → α10 → α11 → (α1 → α2 → Int → α4 → α5 → α6 → α7 → α8 → α9 → α10 → α11 → Option ρ) → Option ρ} {b2 : β1 → β2 → Int → β4 → (β1 → β2 → Int → β4 → Option σ) → Option σ} (N : Nat) (hN : N < 2147483648) (Q : Nat → α1 → α2 → α4 → α5 → α6 → α7 → α8 → α9 → α10 → α11 → β1 → β2 → β4 → Prop) (h : ∀ (i : Nat) (x1 : α1) (x2 : α2) (x4 : α4) (x5 : α5) (x6 : α6) (x7 : α7) (x8 : α8) (x9 : α9) (x10 : α10) (x11 : α11) (y1 : β1) (y2 : β2) (y4 : β4) (ag : α1 → α2 → Int → α4 → α5 → α6 → α7 → α8 → α9 → α10 → α11 → Option ρ) (ag2 : β1 → β2 → Int → β4 → Option σ), i ≤ N → Q i x1 x2 x4 x5 x6 x7 x8 x9 x10 x11 y1 y2 y4 → (∀ (z1 : α1) (z2 : α2) (z4 : α4) (z5 : α5) (z6 : α6) (z7 : α7) (z8 : α8) (z9 : α9) (z10 : α10) (z11 : α11) (w1 : β1) (w2 : β2) (w4 : β4), i < N → Q (i + 1) z1 z2 z4 z5 z6 z7 z8 z9 z10 z11 w1 w2 w4 → ev2 (ag z1 z2 ((i : Int) + 1) z4 z5 z6 z7 z8 z9 z10 z11) (ag2 w1 w2 ((i : Int) + 1) w4) P) → ev2 (b x1 x2 (i : Int) x4 x5 x6 x7 x8 x9 x10 x11 ag) (b2 y1 y2 (i : Int) y4 ag2) P) {x1 : α1} {x2 : α2} {x4 : α4} {x5 : α5} {x6 : α6} {x7 : α7} {x8 : α8} {x9 : α9} {x10 : α10} {x11 : α11} {y1 : β1} {y2 : β2} {y4 : β4} (h0 : Q 0 x1 x2 x4 x5 x6 x7 x8 x9 x10 x11 y1 y2 y4) : ev2 (zl11 b zF x1 x2 0 x4 x5 x6 x7 x8 x9 x10 x11) (zl4 b2 zF y1 y2 0 y4) P := by
  have key : ∀ (f i : Nat) (x1 : α1) (x2 : α2) (x4 : α4) (x5 : α5) (x6 : α6) (x7 : α7) (x8 : α8) (x9 : α9) (x10 : α10) (x11 : α11) (y1 : β1) (y2 : β2) (y4 : β4), i ≤ N → N < f + i → Q i x1 x2 x4 x5 x6 x7 x8 x9 x10 x11 y1 y2 y4 → ev2 (zl11 b f x1 x2 (i : Int) x4 x5 x6 x7 x8 x9 x10 x11) (zl4 b2 f y1 y2 (i : Int) y4) P := by
    intro f
    induction f with
    | zero => intro i x1 x2 x4 x5 x6 x7 x8 x9 x10 x11 y1 y2 y4 h1 h2; omega
    | succ f ih =>
      intro i x1 x2 x4 x5 x6 x7 x8 x9 x10 x11 y1 y2 y4 h1 h2 h3
      exact h i x1 x2 x4 x5 x6 x7 x8 x9 x10 x11 y1 y2 y4 (zl11 b f) (zl4 b2 f) h1 h3 (fun z1 z2 z4 z5 z6 z7 z8 z9 z10 z11 w1 w2 w4 hl hq => ih (i + 1) z1 z2 z4 z5 z6 z7 z8 z9 z10 z11 w1 w2 w4 hl (by omega) hq)
  exact key zF 0 x1 x2 x4 x5 x6 x7 x8 x9 x10 x11 y1 y2 y4 (Nat.zero_le _) (by have := zF_gt hN; omega) h0
theorem e2_f102_65 {α1 α3 α4 α5 α6 α7 α8 α9 α10 β1 β2 β3 β4 β6 ρ σ : Type} {P : ρ → σ → Prop} {b : α1 → Int → α3 → α4 → α5 → α6 → α7 → α8 → α9 → α10 → (α1 → Int → α3 → α4 → α5 → α6 → α7 → α8 → α9 → α10 → Option ρ) → Option ρ} {b2 : β1 → β2 → β3 → β4 → Int → β6 → (β1 → β2 → β3 → β4 → Int → β6 → Option σ) → Option σ} (N : Nat) (hN : N < 2147483648) (Q : Nat → α1 → α3 → α4 → α5 → α6 → α7 → α8 → α9 → α10 → β1 → β2 → β3 → β4 → β6 → Prop) (h : ∀ (i : Nat) (x1 : α1) (x3 : α3) (x4 : α4) (x5 : α5) (x6 : α6) (x7 : α7) (x8 : α8) (x9 : α9) (x10 : α10) (y1 : β1) (y2 : β2) (y3 : β3) (y4 : β4) (y6 : β6) (ag : α1 → Int → α3 → α4 → α5 → α6 → α7 → α8 → α9 → α10 → Option ρ) (ag2 : β1 → β2 → β3 → β4 → Int → β6 → Option σ), i ≤ N → Q i x1 x3 x4 x5 x6 x7 x8 x9 x10 y1 y2 y3 y4 y6 → (∀ (z1 : α1) (z3 : α3) (z4 : α4) (z5 : α5) (z6 : α6) (z7 : α7) (z8 : α8) (z9 : α9) (z10 : α10) (w1 : β1) (w2 : β2) (w3 : β3) (w4 : β4) (w6 : β6), i < N → Q (i + 1) z1 z3 z4 z5 z6 z7 z8 z9 z10 w1 w2 w3 w4 w6 → ev2 (ag z1 ((i : Int) + 1) z3 z4 z5 z6 z7 z8 z9 z10) (ag2 w1 w2 w3 w4 ((i : Int) + 1) w6) P) → ev2 (b x1 (i : Int) x3 x4 x5 x6 x7 x8 x9 x10 ag) (b2 y1 y2 y3 y4 (i : Int) y6 ag2) P) {x1 : α1} {x3 : α3} {x4 : α4} {x5 : α5} {x6 : α6} {x7 : α7} {x8 : α8} {x9 : α9} {x10 : α10} {y1 : β1} {y2 : β2} {y3 : β3} {y4 : β4} {y6 : β6} (h0 : Q 0 x1 x3 x4 x5 x6 x7 x8 x9 x10 y1 y2 y3 y4 y6) : ev2 (zl10 b zF x1 0 x3 x4 x5 x6 x7 x8 x9 x10) (zl6 b2 zF y1 y2 y3 y4 0 y6) P := by
  have key : ∀ (f i : Nat) (x1 : α1) (x3 : α3) (x4 : α4) (x5 : α5) (x6 : α6) (x7 : α7) (x8 : α8) (x9 : α9) (x10 : α10) (y1 : β1) (y2 : β2) (y3 : β3) (y4 : β4) (y6 : β6), i ≤ N → N < f + i → Q i x1 x3 x4 x5 x6 x7 x8 x9 x10 y1 y2 y3 y4 y6 → ev2 (zl10 b f x1 (i : Int) x3 x4 x5 x6 x7 x8 x9 x10) (zl6 b2 f y1 y2 y3 y4 (i : Int) y6) P := by
    intro f
    induction f with
    | zero => intro i x1 x3 x4 x5 x6 x7 x8 x9 x10 y1 y2 y3 y4 y6 h1 h2; omega
    | succ f ih =>
      intro i x1 x3 x4 x5 x6 x7 x8 x9 x10 y1 y2 y3 y4 y6 h1 h2 h3
      exact h i x1 x3 x4 x5 x6 x7 x8 x9 x10 y1 y2 y3 y4 y6 (zl10 b f) (zl6 b2 f) h1 h3 (fun z1 z3 z4 z5 z6 z7 z8 z9 z10 w1 w2 w3 w4 w6 hl hq => ih (i + 1) z1 z3 z4 z5 z6 z7 z8 z9 z10 w1 w2 w3 w4 w6 hl (by omega) hq)
  exact key zF 0 x1 x3 x4 x5 x6 x7 x8 x9 x10 y1 y2 y3 y4 y6 (Nat.zero_le _) (by have := zF_gt hN; omega) h0
theorem zand_rng (x : Int) : 0 ≤ zandI x 2147483647 ∧ zandI x 2147483647 < 2147483648 := by
  obtain ⟨j, hj, e⟩ := pk_andE (zo x) (m := zo 2147483647) 31 (by decide)
  have hj : j < 2147483648 := hj
  unfold zandI
  rw [e, nI_toInt (by omega)]
  omega
def zDr (sd : Int) : Int := sd * 1664525 + 1013904223
def zWy (sd : Int) : Nat := (zandI (zDr sd) 2147483647 / 256 % 4).toNat
theorem zWy_lt (sd : Int) : zWy sd < 4 := by unfold zWy; omega
theorem zWy_e (sd : Int) : zandI (zDr sd) 2147483647 / 256 % 4 = (zWy sd : Int) := by unfold zWy; omega
theorem e_drawn (sd : Int) : g_M_drawn sd 4 = some ((zWy sd : Int), zDr sd) := by
  have r := zand_rng (zDr sd)
  refine ev_is ?_
  unfold g_M_drawn
  refine ev_n (ev_g (by decide) (ev_g r (ev_g ⟨?_, ?_⟩ (ev_some ?_))))
  · show 0 ≤ zandI (zDr sd) 2147483647 / 256; omega
  · show zandI (zDr sd) 2147483647 / 256 < 2147483648; omega
  · show (zandI (zDr sd) 2147483647 / 256 % 4, zDr sd) = _
    rw [zWy_e]
theorem m_lots {K s ra rb : Nat → Int} {ho fi br p1 p2 p3 : Int} (a1 a2 a3 a4 a5 a6 a7 : Int) (sp0 : Nat → Int) (sd0 : Int) (hT : iTown K s ho fi br) (hr : iRef ra rb) (h1 : zr p1) (h3 : zr p3) : ev2 (g_X_lots ra a1 a2 a3 a4 a5 a6 a7 sp0 br fi ho K p1 p2 p3) (g_M_lots sd0 rb s p1 p2 p3) (fun x y => x.1 = y.1 ∧ iRef x.2.1 y.2.2) := by
  obtain ⟨hK, hs, h36, h37, h38, q1, q2, q3, q4, q5, q6, q7⟩ := hT
  have e36 : s (36 : Int).toNat = ho := h36
  unfold g_X_lots g_M_lots
  by_cases c1 : 1 ≤ p1 ∧ p1 ≤ 20
  case neg =>
    refine e2_ev ?_
    repeat' (first
    | with_reducible refine ev_g (by omega) ?_
    | with_reducible refine ev_n ?_
    | with_reducible refine ev_i1 ?_
    | with_reducible refine ev_i2 ?_
    | with_reducible refine ev_i3 ?_
    | with_reducible refine ev_i4 ?_
    | with_reducible refine ev_c2 (er_1 _) ?_
    | with_reducible refine ev_c2 (er_2 _) ?_
    | with_reducible refine ev_c2 (er_3 _) ?_
    | with_reducible refine ev_c2 (er_4 _) ?_
    | with_reducible refine ev_c2 (er_5 _) ?_
    | with_reducible refine ev_c2 (er_6 _) ?_
    | with_reducible refine ev_c2 (en_1 _) ?_
    | with_reducible refine ev_c2 (en_2 _) ?_
    | with_reducible refine ev_c2 (en_3 _) ?_
    | with_reducible refine ev_c2 (en_4 _) ?_
    | with_reducible refine ev_c2 (en_5 _) ?_
    | with_reducible refine ev_c2 (en_6 _) ?_
    | with_reducible refine ev_c1 (e_sqF (by omega) (by omega)) ?_
    | with_reducible refine ev_c1 (e_sqT (by omega) (by omega)) ?_
    | with_reducible refine ev_c1 (e_MsqF (by omega) (by omega)) ?_
    | with_reducible refine ev_c1 (e_MsqT (by omega) (by omega)) ?_
    | with_reducible refine ev_c1 (e_inT (by omega) (by omega) (by omega) (by omega)) ?_
    | with_reducible refine ev_c1 (e_inF (by omega) (by omega) (by omega) (by omega)) ?_
    | with_reducible refine ev_t (by omega) ?_
    | with_reducible refine ev_f (by omega) ?_
    | with_reducible refine ev_if (fun _ => ?_) (fun _ => ?_)
    | with_reducible refine ev_some ?_)
    all_goals exact ⟨rfl, iRef_up hr _ (by decide)⟩
  by_cases c2 : 0 ≤ p3 ∧ p3 ≤ 1
  case neg =>
    refine e2_ev ?_
    repeat' (first
    | with_reducible refine ev_g (by omega) ?_
    | with_reducible refine ev_n ?_
    | with_reducible refine ev_i1 ?_
    | with_reducible refine ev_i2 ?_
    | with_reducible refine ev_i3 ?_
    | with_reducible refine ev_i4 ?_
    | with_reducible refine ev_c2 (er_1 _) ?_
    | with_reducible refine ev_c2 (er_2 _) ?_
    | with_reducible refine ev_c2 (er_3 _) ?_
    | with_reducible refine ev_c2 (er_4 _) ?_
    | with_reducible refine ev_c2 (er_5 _) ?_
    | with_reducible refine ev_c2 (er_6 _) ?_
    | with_reducible refine ev_c2 (en_1 _) ?_
    | with_reducible refine ev_c2 (en_2 _) ?_
    | with_reducible refine ev_c2 (en_3 _) ?_
    | with_reducible refine ev_c2 (en_4 _) ?_
    | with_reducible refine ev_c2 (en_5 _) ?_
    | with_reducible refine ev_c2 (en_6 _) ?_
    | with_reducible refine ev_c1 (e_sqF (by omega) (by omega)) ?_
    | with_reducible refine ev_c1 (e_sqT (by omega) (by omega)) ?_
    | with_reducible refine ev_c1 (e_MsqF (by omega) (by omega)) ?_
    | with_reducible refine ev_c1 (e_MsqT (by omega) (by omega)) ?_
    | with_reducible refine ev_c1 (e_inT (by omega) (by omega) (by omega) (by omega)) ?_
    | with_reducible refine ev_c1 (e_inF (by omega) (by omega) (by omega) (by omega)) ?_
    | with_reducible refine ev_t (by omega) ?_
    | with_reducible refine ev_f (by omega) ?_
    | with_reducible refine ev_if (fun _ => ?_) (fun _ => ?_)
    | with_reducible refine ev_some ?_)
    all_goals exact ⟨rfl, iRef_up hr _ (by decide)⟩
  refine l_g h1 (l_t c1.1 (l_t c1.2 (l_i1 (l_g h3 (l_f (by omega) (l_t c2.2 ?_))))))
  refine r_g h1 (r_t c1.1 (r_t c1.2 (r_c1 (e_inT h3 (by omega) (by omega) c2) (r_g (by omega) (r_f (by decide) (r_i3 ?_))))))
  refine e2_f113_43 20 (by decide) (fun i sd al _ _ _ _ _ _ _ _ wd co sd2 => (i : Int) ≤ p1 ∧ sd = sd2 ∧ al = if p3 = 0 then wd else co) (fun i sd al b1 b2 b3 b4 b5 b6 b7 sp wd co sd2 ag ag2 hi hQ hag => ?_) ⟨by omega, rfl, by split <;> rfl⟩
  obtain ⟨i1, rfl, i3⟩ := hQ
  refine l_g (by omega) (r_g (by omega) ?_)
  by_cases h9 : p1 ≤ (i : Int)
  · refine l_t h9 (r_t h9 (r_g h3 ?_))
    by_cases h0 : p3 = 0
    · rw [if_pos h0] at i3
      exact r_t h0 (e2_some ⟨i3, hr⟩)
    · rw [if_neg h0] at i3
      exact r_f h0 (e2_some ⟨i3, hr⟩)
  refine l_f h9 (r_f h9 (l_b8 (e_begin b1 b2 b3 b4 b5 b6 b7 sp ho) (fun co1 cu1 wd1 c1 lr1 run1 q1' sp1 hb => l_i9 (r_g (by omega) (r_n (r_i4 ?_))))))
  rw [e36]
  have v0 : zVal (ho.toNat, 4, 0, 0, 0, 0, 0, fun _ => 0) co1 cu1 wd1 c1 lr1 run1 q1' sp1 := ⟨by have : q1' = ho := hb.2.2.2.2.2.2.1; show q1' = ((ho.toNat : Nat) : Int); omega, hb.2.2.2.1, hb.1, hb.2.1, hb.2.2.1, hb.2.2.2.2.1, hb.2.2.2.2.2.1, hb.2.2.2.2.2.2.2⟩
  have o0 : zOK K 0 (ho.toNat, 4, 0, 0, 0, 0, 0, fun _ => 0) := ⟨show ho.toNat < 36 by omega, q3, show 4 < 5 by decide, show (0 : Int) ≤ 0 by decide, show (0 : Int) ≤ _ by omega, show (0 : Int) ≤ 0 by decide, show (0 : Int) ≤ _ by omega⟩
  refine e2_f102_65 20 (by decide) (fun j sd co1 cu1 wd1 c1 lr1 run1 sq sp1 wd2 co2 sq2 cm2 sd2 => sd = sd2 ∧ ∃ x : ZS, zVal x co1 cu1 wd1 c1 lr1 run1 sq sp1 ∧ zOK K j x ∧ wd2 = wd + x.2.2.2.2.1 ∧ co2 = co + x.2.2.1 ∧ sq2 = (x.1 : Int) ∧ cm2 = (x.2.1 : Int)) (fun j sd co1 cu1 wd1 c1 lr1 run1 sq sp1 wd2 co2 sq2 cm2 sd2 ag3 ag4 hj hQ3 hag3 => ?_) ⟨rfl, _, v0, o0, by show wd = wd + 0; omega, by show co = co + 0; omega, by show ho = ((ho.toNat : Nat) : Int); omega, rfl⟩
  obtain ⟨rfl, x, xv, xo, x1, x2, x3, x4⟩ := hQ3
  refine l_g (by omega) (r_g (by omega) ?_)
  by_cases h8 : j = 20
  · subst h8
    refine l_t (by omega) (r_t (by omega) (l_b5 (e_endV hK xv xo (by decide) q6 q7) (fun y1 y2 y3 y4 y5 hy => l_i1 ?_)))
    obtain ⟨z1, z2, z3, z4, z5, z6⟩ := hy
    have z4 : y2 = x.2.2.2.2.1 + zwd (K x.1) := z4
    have z2 : co1 = x.2.2.1 := z2
    rw [x3]
    refine r_c1 (e_M_words hs hK xo.1) (r_n (r_n ?_))
    by_cases h0 : p3 = 0
    · refine l_t h0 (l_c1 (v1 := y2) ?_ (l_n (l_n (hag _ _ _ _ _ _ _ _ _ _ _ _ _ (by omega) ⟨by omega, rfl, ?_⟩))))
      · unfold g_Stroll_answer
        rw [zg_t (by decide), if_neg (by decide), if_pos (by decide)]
      · rw [if_pos h0] at i3 ⊢; omega
    · refine l_f h0 (l_c1 (v1 := co1) ?_ (l_n (l_n (hag _ _ _ _ _ _ _ _ _ _ _ _ _ (by omega) ⟨by omega, rfl, ?_⟩))))
      · unfold g_Stroll_answer
        rw [zg_t (by decide), if_neg (by decide), if_neg (by decide), if_pos (by decide)]
      · rw [if_neg h0] at i3 ⊢; omega
  have hj2 : j < 20 := by omega
  have zr2 := zand_rng (zDr sd)
  refine l_f (by omega) (r_f (by omega) (l_n (l_g zr2 (l_g ⟨?_, ?_⟩ ?_))))
  · show 0 ≤ zandI (zDr sd) 2147483647 / 256; omega
  · show zandI (zDr sd) 2147483647 / 256 < 2147483648; omega
  have lt := zWy_lt sd
  have go := e_goV hK xv xo (by omega) lt q6 q7
  rw [← zWy_e] at go
  refine l_b9 go (fun r c1 c2 c3 c4 c5 c6 c7 c8 hg => l_n ?_)
  obtain ⟨g1, g2⟩ := hg
  refine r_c2 (e_drawn sd) ?_
  rw [x3, x4]
  have no := zGo_ok (br := br) xo lt
  refine r_c1 (e_M_gone hs hK xo.1 lt) (r_i4 ?_)
  rcases g1 with ⟨g1, g3⟩ | ⟨g1, g3⟩
  · have same : zGo K br (zWy sd) x = x := by unfold zGo; rw [if_pos g3]
    rw [same] at g2 no
    rw [if_neg (fun y => by omega)]
    exact r_g (by omega) (r_f (by decide) (r_n (hag3 _ _ _ _ _ _ _ _ _ _ _ _ _ _ hj2 ⟨rfl, x, g2, no, x1, x2, rfl, rfl⟩)))
  · have rr := zN_rng (K := K) (w := zWy sd) xo.1
    rw [if_pos ⟨xo.2.1, g3⟩]
    have ps := zGo_pos (K := K) (br := br) (w := zWy sd) xo.1 g3
    refine r_g (by omega) (r_t g3 (r_c1 (e_M_said hs hK xo.1 xo.2.2.1 (by omega)) (r_n (r_c1 (e_M_corner hs hK xo.1 xo.2.2.1 (by omega)) (r_i1 ?_)))))
    by_cases cn : zCn K x.1 x.2.1 (zWy sd)
    · have eg : zGo K br (zWy sd) x = ((zN K x.1 (zWy sd)).toNat, zWy sd, x.2.2.1 + 1, x.2.2.2.1 + 1 + zCt br x.2.2.2.2.2.2.1, x.2.2.2.2.1, max x.2.2.2.2.2.1 x.2.2.2.2.2.2.1, 0, x.2.2.2.2.2.2.2) := by unfold zGo; rw [if_neg (by omega), if_pos cn]
      rw [if_pos cn, if_pos cn]
      refine r_g (by omega) (r_f (by decide) (r_n (r_n (hag3 _ _ _ _ _ _ _ _ _ _ _ _ _ _ hj2 ⟨rfl, _, g2, no, ?_, ?_, ps.symm, ?_⟩))))
      · rw [eg]; show wd2 + 0 = wd + x.2.2.2.2.1; omega
      · rw [eg]; show co2 + 1 = co + (x.2.2.1 + 1); omega
      · rw [eg]
    · have eg : zGo K br (zWy sd) x = ((zN K x.1 (zWy sd)).toNat, zWy sd, x.2.2.1, x.2.2.2.1, x.2.2.2.2.1 + zwd (K x.1), x.2.2.2.2.2.1, x.2.2.2.2.2.2.1 + zwd (K x.1), updI x.2.2.2.2.2.2.2 x.1 (x.2.2.2.2.2.2.2 x.1 + 1)) := by unfold zGo; rw [if_neg (by omega), if_neg cn]
      rw [if_neg cn, if_neg cn]
      refine r_g (by omega) (r_t rfl (r_n (r_n (hag3 _ _ _ _ _ _ _ _ _ _ _ _ _ _ hj2 ⟨rfl, _, g2, no, ?_, ?_, ps.symm, ?_⟩))))
      · rw [eg]; show wd2 + zwd (K x.1) = wd + (x.2.2.2.2.1 + zwd (K x.1)); omega
      · rw [eg]; show co2 + 0 = co + x.2.2.1; omega
      · rw [eg]
